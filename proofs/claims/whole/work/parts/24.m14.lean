theorem mw1068 : Cond.code ⟨"ZonedFabricModel", "eight", "(I)J"⟩ prog_14_method_60_code 5 (some FieldType.long) ∈ xTs := xTs_in (tk7 (List.mem_of_getElem? (i := 193) rfl)) rfl
theorem mw1069 : Cond.code ⟨"ZonedFabricModel", "ofCommand", "(III)V"⟩ prog_14_method_59_code 8 none ∈ xTs := xTs_in (tk7 (List.mem_of_getElem? (i := 213) rfl)) rfl
theorem mw1070 : Cond.methodLink "ZonedFabricModel" 390 ⟨"ZonedFabricModel", "eight", "(I)J"⟩ ∈ xTs := xTs_in (tk7 (List.mem_of_getElem? (i := 190) (by decide +kernel))) rfl
theorem mw1071 : Cond.instanceMethod ⟨"ZonedFabricModel", "eight", "(I)J"⟩ ∈ xTs := xTs_in (tk7 (List.mem_of_getElem? (i := 192) (by decide +kernel))) rfl
theorem mw1072 : Cond.selects "ZonedFabricModel" ⟨"ZonedFabricModel", "eight", "(I)J"⟩ ⟨"ZonedFabricModel", "eight", "(I)J"⟩ ∈ xTs := xTs_in (List.mem_append_left _ (List.mem_of_getElem? (i := 118) (by decide +kernel))) rfl
theorem mw1073 : Cond.code ⟨"ZonedFabricModel", "hostGets", "(II)V"⟩ prog_14_method_58_code 7 none ∈ xTs := xTs_in (tk7 (List.mem_of_getElem? (i := 201) rfl)) rfl
theorem mw1074 : Cond.methodLink "ZonedFabricModel" 309 ⟨"ZonedFabricModel", "nodeOf", "(I)I"⟩ ∈ xTs := xTs_in (tk7 (List.mem_of_getElem? (i := 64) (by decide +kernel))) rfl
theorem mw1075 : Cond.instanceMethod ⟨"ZonedFabricModel", "nodeOf", "(I)I"⟩ ∈ xTs := xTs_in (tk7 (List.mem_of_getElem? (i := 66) (by decide +kernel))) rfl
theorem mw1076 : Cond.selects "ZonedFabricModel" ⟨"ZonedFabricModel", "nodeOf", "(I)I"⟩ ⟨"ZonedFabricModel", "nodeOf", "(I)I"⟩ ∈ xTs := xTs_in (List.mem_append_left _ (List.mem_of_getElem? (i := 87) (by decide +kernel))) rfl
theorem mw1077 : Cond.methodLink "ZonedFabricModel" 387 ⟨"ZonedFabricModel", "ofCommand", "(III)V"⟩ ∈ xTs := xTs_in (tk7 (List.mem_of_getElem? (i := 210) (by decide +kernel))) rfl
theorem mw1078 : Cond.instanceMethod ⟨"ZonedFabricModel", "ofCommand", "(III)V"⟩ ∈ xTs := xTs_in (tk7 (List.mem_of_getElem? (i := 212) (by decide +kernel))) rfl
theorem mw1079 : Cond.selects "ZonedFabricModel" ⟨"ZonedFabricModel", "ofCommand", "(III)V"⟩ ⟨"ZonedFabricModel", "ofCommand", "(III)V"⟩ ∈ xTs := xTs_in (List.mem_append_left _ (List.mem_of_getElem? (i := 123) (by decide +kernel))) rfl
theorem mw1080 : Cond.code ⟨"ZonedFabricModel", "answers", "(IIIII)I"⟩ prog_14_method_61_code 6 (some FieldType.int) ∈ xTs := xTs_in (tk7 (List.mem_of_getElem? (i := 176) rfl)) rfl
theorem mw1081 : Cond.code ⟨"ZonedFabricModel", "done", "(IIII)V"⟩ prog_14_method_62_code 6 none ∈ xTs := xTs_in (tk7 (List.mem_of_getElem? (i := 184) rfl)) rfl
theorem mw1082 : Cond.methodLink "ZonedFabricModel" 394 ⟨"ZonedFabricModel", "answers", "(IIIII)I"⟩ ∈ xTs := xTs_in (tk7 (List.mem_of_getElem? (i := 173) (by decide +kernel))) rfl
theorem mw1083 : Cond.instanceMethod ⟨"ZonedFabricModel", "answers", "(IIIII)I"⟩ ∈ xTs := xTs_in (tk7 (List.mem_of_getElem? (i := 175) (by decide +kernel))) rfl
theorem mw1084 : Cond.selects "ZonedFabricModel" ⟨"ZonedFabricModel", "answers", "(IIIII)I"⟩ ⟨"ZonedFabricModel", "answers", "(IIIII)I"⟩ ∈ xTs := xTs_in (List.mem_append_left _ (List.mem_of_getElem? (i := 114) (by decide +kernel))) rfl
theorem mw1085 : Cond.code ⟨"ZonedFabricModel", "data", "(III)V"⟩ prog_14_method_68_code 8 none ∈ xTs := xTs_in (tk7 (List.mem_of_getElem? (i := 189) rfl)) rfl
theorem mw1086 : Cond.methodLink "ZonedFabricModel" 410 ⟨"ZonedFabricModel", "done", "(IIII)V"⟩ ∈ xTs := xTs_in (tk7 (List.mem_of_getElem? (i := 181) (by decide +kernel))) rfl
theorem mw1087 : Cond.instanceMethod ⟨"ZonedFabricModel", "done", "(IIII)V"⟩ ∈ xTs := xTs_in (tk7 (List.mem_of_getElem? (i := 183) (by decide +kernel))) rfl
theorem mw1088 : Cond.selects "ZonedFabricModel" ⟨"ZonedFabricModel", "done", "(IIII)V"⟩ ⟨"ZonedFabricModel", "done", "(IIII)V"⟩ ∈ xTs := xTs_in (List.mem_append_left _ (List.mem_of_getElem? (i := 116) (by decide +kernel))) rfl
theorem mw1089 : Cond.code ⟨"ZonedFabricModel", "isLogged", "(II)Z"⟩ prog_14_method_64_code 5 (some FieldType.boolean) ∈ xTs := xTs_in (tk7 (List.mem_of_getElem? (i := 172) rfl)) rfl
/-! ZFModel.eight(I)J -/
def ym209 : MethodName := ⟨"ZonedFabricModel", "eight", "(I)J"⟩
theorem cd209 : xCd ym209 prog_14_method_60_code 5 (some FieldType.long) 1 := ⟨mw1068, mw864, by decide, by decide, by decide +kernel⟩
def b209_0 (a0 : Nat) (v1 : Int32) (M : hM) : Option xRes :=
  some (.inr (5, [.inr (.inr (some a0)), .inl v1, .inr (.inl (0 : Int64)), .inl (0 : Int32)], M))
def b209_5 (a0 : Nat) (v1 : Int32) (w2 : Int64) (v4 : Int32) (M : hM) : Option xRes :=
  if (8 : Int32) ≤ v4 then
    (some (.inl (some (.inr (.inl w2)), M)))
  else
    (Option.bind (g_o M 12 (some a0)) fun b_3 =>
    Option.bind (c_I (f165 [.inr (.inr (some b_3)), .inl v1, .inl ((13 : Int32) + v4)] M)) fun q_1 =>
    some (.inr (5, [.inr (.inr (some a0)), .inl v1, .inr (.inl ((w2 <<< (Int32.toInt64 (8 : Int32) &&& 63)) ||| (Int32.toInt64 q_1.1))), .inl (v4 + (1 : Int32))], q_1.2)))
def k209 (h : Nat) (as : List aV) (M : hM) : Option xRes :=
  if h = 5 then (match as with | [.inr (.inr (some a0)), .inl v1, .inr (.inl w2), .inl v4] => b209_5 a0 v1 w2 v4 M | _ => none) else
  none
def f209 (as : List aV) (M : hM) : xO := match as with
  | [.inr (.inr (some a0)), .inl v1] => x_go k209 (b209_0 a0 v1 M)
  | _ => none
theorem lb209_0 (G : gX) (l : Launch) (a0 : Nat) (v1 : Int32) (M : hM) {res : xRes} (h : b209_0 a0 v1 M = some res) : h_sz M ≤ r_sz res ∧ h_sl M ≤ r_sl res := by
  unfold b209_0 at h
  obtain rfl := Option.some.inj h
  show h_sz M ≤ h_sz M ∧ h_sl M ≤ h_sl M
  omega
theorem lb209_5 (G : gX) (l : Launch) (a0 : Nat) (v1 : Int32) (w2 : Int64) (v4 : Int32) (M : hM) {res : xRes} (h : b209_5 a0 v1 w2 v4 M = some res) : h_sz M ≤ r_sz res ∧ h_sl M ≤ r_sl res := by
  unfold b209_5 at h
  by_cases q5 : (8 : Int32) ≤ v4
  · rw [if_pos q5] at h
    obtain rfl := Option.some.inj h
    show h_sz M ≤ h_sz M ∧ h_sl M ≤ h_sl M
    omega
  · rw [if_neg q5] at h
    obtain ⟨b_3, h4, h⟩ := bd h
    obtain ⟨q_1, h2, h⟩ := bd h
    have eh2 := (t165 G l (c_I_some h2)).1
    obtain rfl := Option.some.inj h
    show h_sz M ≤ h_sz q_1.2 ∧ h_sl M ≤ h_sl q_1.2
    omega
section
variable {p : Program} {l : Launch} {e : Env} {s : State} {m : MethodId} {args : Array Value} {below : List Frame} {meth : Method} {c : Code} {G : gX} {z0 y0 : Nat} {r : Option aV} {M' : hM}
def pg209 (p : Program) (l : Launch) (e : Env) (s : State) (m : MethodId) (args : Array Value) (below : List Frame) (meth : Method) (c : Code) (G : gX) (z0 y0 : Nat) (r : Option aV) (M' : hM) (h : Nat) (as : List aV) (M : hM) : Prop :=
  if h = 5 then (match as with | [.inr (.inr (some a0)), .inl v1, .inr (.inl w2), .inl v4] => xV G p l e (xRm 1 (h_sz M' - z0) (h_sl M' - y0)) s m args below meth c z0 y0 (h_sz M') (h_sl M') 5 (MQ below (xQc G r M') args s (h_sz M' - z0) (h_sl M' - y0) (xFr G)) 5 [(0, .inr (.inr (some a0))), (1, .inl v1), (2, .inr (.inl w2)), (4, .inl v4)] [] M | _ => False) else
  False
theorem sb209_0 (E : xE G p (xRm 1 (h_sz M' - z0) (h_sl M' - y0)) s m args c prog_14_method_60_code "ZonedFabricModel" z0 y0 (h_sz M') (h_sl M') 5) (B : xB ym209 (some FieldType.long) meth) (a0 : Nat) (v1 : Int32) (M : hM) {res : xRes} (h : b209_0 a0 v1 M = some res) (hN : xN (pg209 p l e s m args below meth c G z0 y0 r M') r M' res) : xV G p l e (xRm 1 (h_sz M' - z0) (h_sl M' - y0)) s m args below meth c z0 y0 (h_sz M') (h_sl M') 5 (MQ below (xQc G r M') args s (h_sz M' - z0) (h_sl M' - y0) (xFr G)) 0 [(0, .inr (.inr (some a0))), (1, .inl v1)] [] M := by
  unfold b209_0 at h
  refine xv_b E [.lconst 0, .lstore_n 2, .iconst 0, .istore 4] (pc' := 5) (lv' := [(4, .inl (0 : Int32)), (2, .inr (.inl (0 : Int64))), (0, .inr (.inr (some a0))), (1, .inl v1)]) (st' := []) (by decide +kernel) rfl rfl ?_
  obtain rfl := Option.some.inj h
  exact xv_w hN rfl
theorem sb209_5 (E : xE G p (xRm 1 (h_sz M' - z0) (h_sl M' - y0)) s m args c prog_14_method_60_code "ZonedFabricModel" z0 y0 (h_sz M') (h_sl M') 5) (B : xB ym209 (some FieldType.long) meth) (a0 : Nat) (v1 : Int32) (w2 : Int64) (v4 : Int32) (M : hM) {res : xRes} (h : b209_5 a0 v1 w2 v4 M = some res) (hN : xN (pg209 p l e s m args below meth c G z0 y0 r M') r M' res) : xV G p l e (xRm 1 (h_sz M' - z0) (h_sl M' - y0)) s m args below meth c z0 y0 (h_sz M') (h_sl M') 5 (MQ below (xQc G r M') args s (h_sz M' - z0) (h_sl M' - y0) (xFr G)) 5 [(0, .inr (.inr (some a0))), (1, .inl v1), (2, .inr (.inl w2)), (4, .inl v4)] [] M := by
  unfold b209_5 at h
  refine xv_b E [.iload 4, .bipush 8] (pc' := 9) (lv' := [(0, .inr (.inr (some a0))), (1, .inl v1), (2, .inr (.inl w2)), (4, .inl v4)]) (st' := [.inl (8 : Int32), .inl v4]) (by decide +kernel) rfl rfl ?_
  by_cases q5 : (8 : Int32) ≤ v4
  · rw [if_pos q5] at h
    refine xv_icmp_ge E 35 (show decode prog_14_method_60_code 9 = .ok (.if_icmp .ge (26), 3) by decide +kernel) rfl (fun _ => ?_) (fun z => absurd q5 z)
    refine xv_b E [.lload_n 2] (pc' := 36) (lv' := [(0, .inr (.inr (some a0))), (1, .inl v1), (2, .inr (.inl w2)), (4, .inl v4)]) (st' := [.inr (.inl w2)]) (by decide +kernel) rfl rfl ?_
    obtain rfl := Option.some.inj h
    obtain ⟨rfl, rfl⟩ := Prod.mk.inj (show ((some (.inr (.inl w2)) : Option aV), M) = (r, M') from hN)
    exact xv_rl E B.1 B.2.1 (show decode prog_14_method_60_code 36 = .ok (.lreturn, 1) by decide +kernel) rfl rfl
  · rw [if_neg q5] at h
    refine xv_icmp_ge E 35 (show decode prog_14_method_60_code 9 = .ok (.if_icmp .ge (26), 3) by decide +kernel) rfl (fun z => absurd z q5) (fun _ => ?_)
    refine xv_b E [.lload_n 2, .bipush 8, .lshl, .aload_n 0, .iload_n 1, .bipush 13, .iload 4, .iadd] (pc' := 23) (lv' := [(0, .inr (.inr (some a0))), (1, .inl v1), (2, .inr (.inl w2)), (4, .inl v4)]) (st' := [.inl ((13 : Int32) + v4), .inl v1, .inr (.inr (some a0)), .inr (.inl (w2 <<< (Int32.toInt64 (8 : Int32) &&& 63)))]) (by decide +kernel) rfl rfl ?_
    obtain ⟨b_3, h4, h⟩ := bd h
    obtain ⟨eh4, th4⟩ := g_o_some h4
    obtain ⟨q_1, h2, h⟩ := bd h
    refine xv_cvo E eh4 12 (as := [.inl v1, .inl ((13 : Int32) + v4)]) (t165 G l (c_I_some h2)) cd165 mw927 mw928 mw929 (show decode prog_14_method_60_code 23 = .ok (.invokevirtual 186, 3) by decide +kernel) th4 rfl rfl (Nat.le_of_ble_eq_true rfl) ⟨Nat.le_of_ble_eq_true rfl, Nat.le_of_ble_eq_true rfl⟩ ?_
    refine xv_b E [.i2l, .lor, .lstore_n 2, .iinc 4 1] (pc' := 32) (lv' := [(4, .inl (v4 + (1 : Int32))), (2, .inr (.inl ((w2 <<< (Int32.toInt64 (8 : Int32) &&& 63)) ||| (Int32.toInt64 q_1.1)))), (0, .inr (.inr (some a0))), (1, .inl v1)]) (st' := []) (by decide +kernel) rfl rfl ?_
    refine xv_goto E 5 (show decode prog_14_method_60_code 32 = .ok (.goto (-27), 3) by decide +kernel) rfl ?_
    obtain rfl := Option.some.inj h
    exact xv_w hN rfl
end
theorem t209 (G : gX) (l : Launch) {as : List aV} {M : hM} {r : Option aV} {M' : hM} (h : f209 as M = some (r, M')) : xM G l ym209 prog_14_method_60_code 5 (some FieldType.long) 1 as M r M' := by
  unfold f209 at h
  split at h
  · have hle : ∀ h as M res, k209 h as M = some res → h_sz M ≤ r_sz res ∧ h_sl M ≤ r_sl res := by
      intro h as M res hb
      unfold k209 at hb
      by_cases e0 : h = 5
      · rw [if_pos e0] at hb
        split at hb
        · exact lb209_5 G l _ _ _ _ M hb
        · cases hb
      · rw [if_neg e0] at hb
        cases hb
    obtain ⟨res, hx, hres⟩ := x_go_ok h
    refine xM_of (by decide) (Nat.le_of_ble_eq_true rfl) ?_ ?_
    · have e1 := lb209_0 G l _ _ M hx
      have e2 := x_go_le hle hres
      omega
    · intro p e s m args below meth c E B
      refine sb209_0 E B _ _ M hx (hres _ ?_)
      intro h as M res hb hN
      unfold k209 at hb
      unfold pg209
      by_cases e0 : h = 5
      · rw [if_pos e0] at hb ⊢
        split at hb
        · exact sb209_5 E B _ _ _ _ M hb hN
        · cases hb
      · rw [if_neg e0] at hb ⊢
        cases hb
  · cases h
/-! ZFModel.ofCommand(III)V -/
def ym210 : MethodName := ⟨"ZonedFabricModel", "ofCommand", "(III)V"⟩
theorem cd210 : xCd ym210 prog_14_method_59_code 8 none 3 := ⟨mw1069, mw864, by decide, by decide, by decide +kernel⟩
def b210_289  (M : hM) : Option xRes :=
  some (.inl (none, M))
def b210_273 (a0 : Nat) (v1 : Int32) (M : hM) : Option xRes :=
  Option.bind (g_o M 12 (some a0)) fun b_128 =>
  Option.bind (c_V (f205 [.inr (.inr (some b_128)), .inl v1, .inl (10 : Int32)] M)) fun q_126 =>
  b210_289  q_126
def b210_196 (a0 : Nat) (v1 : Int32) (v2 : Int32) (v3 : Int32) (M : hM) : Option xRes :=
  if v3 = (12 : Int32) then
    (Option.bind (g_o M 12 (some a0)) fun b_88 =>
    Option.bind (c_I (f165 [.inr (.inr (some b_88)), .inl v2, .inl (13 : Int32)] M)) fun q_86 =>
    if q_86.1 = (1 : Int32) then
      (Option.bind (g_r q_86.2 12 39 (some a0)) fun o_108 =>
      Option.bind (g_r q_86.2 12 48 (some a0)) fun o_110 =>
      Option.bind (al_i q_86.2 20 o_110 v1) fun v_112 =>
      Option.bind (g_r q_86.2 12 49 (some a0)) fun o_114 =>
      Option.bind (al_i q_86.2 20 o_114 v1) fun v_116 =>
      Option.bind (as_i q_86.2 20 o_108 (((8 : Int32) * v_112) + v_116) (0 : Int32)) fun M118 =>
      Option.bind (g_o M118 12 (some a0)) fun b_122 =>
      Option.bind (c_V (f205 [.inr (.inr (some b_122)), .inl v1, .inl (11 : Int32)] M118)) fun q_120 =>
      b210_289  q_120)
    else
      (Option.bind (g_r q_86.2 12 50 (some a0)) fun o_90 =>
      Option.bind (al_i q_86.2 22 o_90 v1) fun v_92 =>
      if v_92 = 0 then
        (Option.bind (g_r q_86.2 12 55 (some a0)) fun o_94 =>
        Option.bind (al_i q_86.2 20 o_94 v1) fun v_96 =>
        Option.bind (g_r q_86.2 12 53 (some a0)) fun o_98 =>
        Option.bind (al_i q_86.2 20 o_98 v1) fun v_100 =>
        if v_96 = (((1 : Int32) <<< (v_100 &&& 31)) - (1 : Int32)) then
          (b210_273 a0 v1 q_86.2)
        else
          (Option.bind (g_o q_86.2 12 (some a0)) fun b_104 =>
          Option.bind (c_V (f206 [.inr (.inr (some b_104)), .inl v1, .inl (3 : Int32)] q_86.2)) fun q_102 =>
          b210_289  q_102))
      else
        (b210_273 a0 v1 q_86.2)))
  else
    (b210_289  M)
def b210_138 (a0 : Nat) (v1 : Int32) (v2 : Int32) (v3 : Int32) (v4 : Int32) (M : hM) : Option xRes :=
  if v3 = (11 : Int32) then
    (Option.bind (g_r M 12 50 (some a0)) fun o_61 =>
    Option.bind (al_i M 22 o_61 v1) fun v_63 =>
    if v_63 = 0 then
      (Option.bind (g_r M 12 53 (some a0)) fun o_65 =>
      Option.bind (al_i M 20 o_65 v1) fun v_67 =>
      if v_67 ≤ v4 then
        (b210_196 a0 v1 v2 v3 M)
      else
        (Option.bind (g_r M 12 54 (some a0)) fun o_69 =>
        Option.bind (g_o M 12 (some a0)) fun b_73 =>
        Option.bind (c_L (f209 [.inr (.inr (some b_73)), .inl v2] M)) fun q_71 =>
        Option.bind (as_l q_71.2 23 o_69 (((4 : Int32) * v1) + v4) q_71.1) fun M75 =>
        Option.bind (g_r M75 12 55 (some a0)) fun o_77 =>
        Option.bind (al_i M75 20 o_77 v1) fun v_79 =>
        Option.bind (as_i M75 20 o_77 v1 (v_79 ||| ((1 : Int32) <<< (v4 &&& 31)))) fun M81 =>
        b210_289  M81))
    else
      (b210_196 a0 v1 v2 v3 M))
  else
    (b210_196 a0 v1 v2 v3 M)
def b210_0 (a0 : Nat) (v1 : Int32) (v2 : Int32) (v3 : Int32) (M : hM) : Option xRes :=
  Option.bind (g_o M 12 (some a0)) fun b_3 =>
  Option.bind (c_I (f165 [.inr (.inr (some b_3)), .inl v2, .inl (11 : Int32)] M)) fun q_1 =>
  Option.bind (g_r q_1.2 12 48 (some a0)) fun o_5 =>
  Option.bind (al_i q_1.2 20 o_5 v1) fun v_7 =>
  Option.bind (g_o q_1.2 12 (some a0)) fun b_11 =>
  Option.bind (c_I (f176 [.inr (.inr (some b_11)), .inl v_7] q_1.2)) fun q_9 =>
  if v3 = (14 : Int32) then
    (Option.bind (g_o q_9.2 12 (some a0)) fun b_21 =>
    Option.bind (c_V (f205 [.inr (.inr (some b_21)), .inl v1, .inl (12 : Int32)] q_9.2)) fun q_19 =>
    b210_289  q_19)
  else
    (if v3 = (10 : Int32) then
      (Option.bind (g_r q_9.2 12 50 (some a0)) fun o_13 =>
      Option.bind (al_i q_9.2 22 o_13 v1) fun v_15 =>
      if v_15 = 0 then
        (b210_138 a0 v1 v2 v3 q_1.1 q_9.2)
      else
        (some (.inr (55, [.inr (.inr (some a0)), .inl v1, .inl v2, .inl q_9.1, .inl (0 : Int32)], q_9.2))))
    else
      (b210_138 a0 v1 v2 v3 q_1.1 q_9.2))
def b210_55 (a0 : Nat) (v1 : Int32) (v2 : Int32) (v5 : Int32) (v6 : Int32) (M : hM) : Option xRes :=
  Option.bind (g_r M 12 53 (some a0)) fun o_24 =>
  Option.bind (al_i M 20 o_24 v1) fun v_26 =>
  if v_26 ≤ v6 then
    (b210_289  M)
  else
    (Option.bind (g_r M 12 60 (some a0)) fun o_28 =>
    Option.bind (al_i M 20 o_28 v1) fun v_30 =>
    Option.bind (g_r M 12 35 (some a0)) fun o_32 =>
    Option.bind (g_r M 12 48 (some a0)) fun o_34 =>
    Option.bind (al_i M 20 o_34 v1) fun v_36 =>
    Option.bind (al_i M 20 o_32 v_36) fun v_38 =>
    Option.bind (g_o M 12 (some a0)) fun b_42 =>
    Option.bind (c_I (f166 [.inr (.inr (some b_42)), .inl v2, .inl (9 : Int32), .inl (2 : Int32)] M)) fun q_40 =>
    Option.bind (g_o q_40.2 12 (some a0)) fun b_46 =>
    Option.bind (c_I (f168 [.inr (.inr (some b_46)), .inl (11 : Int32), .inl v_30, .inl v_38, .inl v1, .inl q_40.1, .inl v6] q_40.2)) fun q_44 =>
    Option.bind (g_r q_44.2 12 54 (some a0)) fun o_48 =>
    Option.bind (al_l q_44.2 23 o_48 (((4 : Int32) * v1) + v6)) fun w_50 =>
    Option.bind (g_o q_44.2 12 (some a0)) fun b_54 =>
    Option.bind (c_V (f167 [.inr (.inr (some b_54)), .inl q_44.1, .inr (.inl w_50), .inl (8 : Int32)] q_44.2)) fun q_52 =>
    Option.bind (g_o q_52 12 (some a0)) fun b_58 =>
    Option.bind (c_V (f183 [.inr (.inr (some b_58)), .inl v5, .inl q_44.1] q_52)) fun q_56 =>
    some (.inr (55, [.inr (.inr (some a0)), .inl v1, .inl v2, .inl v5, .inl (v6 + (1 : Int32))], q_56)))
def k210 (h : Nat) (as : List aV) (M : hM) : Option xRes :=
  if h = 55 then (match as with | [.inr (.inr (some a0)), .inl v1, .inl v2, .inl v5, .inl v6] => b210_55 a0 v1 v2 v5 v6 M | _ => none) else
  none
def f210 (as : List aV) (M : hM) : xO := match as with
  | [.inr (.inr (some a0)), .inl v1, .inl v2, .inl v3] => x_go k210 (b210_0 a0 v1 v2 v3 M)
  | _ => none
theorem lb210_289 (G : gX) (l : Launch)  (M : hM) {res : xRes} (h : b210_289  M = some res) : h_sz M ≤ r_sz res ∧ h_sl M ≤ r_sl res := by
  unfold b210_289 at h
  obtain rfl := Option.some.inj h
  show h_sz M ≤ h_sz M ∧ h_sl M ≤ h_sl M
  omega
theorem lb210_273 (G : gX) (l : Launch) (a0 : Nat) (v1 : Int32) (M : hM) {res : xRes} (h : b210_273 a0 v1 M = some res) : h_sz M ≤ r_sz res ∧ h_sl M ≤ r_sl res := by
  unfold b210_273 at h
  obtain ⟨b_128, h129, h⟩ := bd h
  obtain ⟨q_126, h127, h⟩ := bd h
  have eh127 := (t205 G l (c_V_some h127)).1
  have e := lb210_289 G l  q_126 h
  omega
theorem lb210_196 (G : gX) (l : Launch) (a0 : Nat) (v1 : Int32) (v2 : Int32) (v3 : Int32) (M : hM) {res : xRes} (h : b210_196 a0 v1 v2 v3 M = some res) : h_sz M ≤ r_sz res ∧ h_sl M ≤ r_sl res := by
  unfold b210_196 at h
  by_cases q125 : v3 = (12 : Int32)
  · rw [if_pos q125] at h
    obtain ⟨b_88, h89, h⟩ := bd h
    obtain ⟨q_86, h87, h⟩ := bd h
    have eh87 := (t165 G l (c_I_some h87)).1
    by_cases q124 : q_86.1 = (1 : Int32)
    · rw [if_pos q124] at h
      obtain ⟨o_108, h109, h⟩ := bd h
      obtain ⟨o_110, h111, h⟩ := bd h
      obtain ⟨v_112, h113, h⟩ := bd h
      obtain ⟨o_114, h115, h⟩ := bd h
      obtain ⟨v_116, h117, h⟩ := bd h
      obtain ⟨M118, h119, h⟩ := bd h
      have eh119 := as_i_sz h119
      obtain ⟨b_122, h123, h⟩ := bd h
      obtain ⟨q_120, h121, h⟩ := bd h
      have eh121 := (t205 G l (c_V_some h121)).1
      have e := lb210_289 G l  q_120 h
      omega
    · rw [if_neg q124] at h
      obtain ⟨o_90, h91, h⟩ := bd h
      obtain ⟨v_92, h93, h⟩ := bd h
      by_cases q107 : v_92 = 0
      · rw [if_pos q107] at h
        obtain ⟨o_94, h95, h⟩ := bd h
        obtain ⟨v_96, h97, h⟩ := bd h
        obtain ⟨o_98, h99, h⟩ := bd h
        obtain ⟨v_100, h101, h⟩ := bd h
        by_cases q106 : v_96 = (((1 : Int32) <<< (v_100 &&& 31)) - (1 : Int32))
        · rw [if_pos q106] at h
          have e := lb210_273 G l a0 v1 q_86.2 h
          omega
        · rw [if_neg q106] at h
          obtain ⟨b_104, h105, h⟩ := bd h
          obtain ⟨q_102, h103, h⟩ := bd h
          have eh103 := (t206 G l (c_V_some h103)).1
          have e := lb210_289 G l  q_102 h
          omega
      · rw [if_neg q107] at h
        have e := lb210_273 G l a0 v1 q_86.2 h
        omega
  · rw [if_neg q125] at h
    have e := lb210_289 G l  M h
    omega
theorem lb210_138 (G : gX) (l : Launch) (a0 : Nat) (v1 : Int32) (v2 : Int32) (v3 : Int32) (v4 : Int32) (M : hM) {res : xRes} (h : b210_138 a0 v1 v2 v3 v4 M = some res) : h_sz M ≤ r_sz res ∧ h_sl M ≤ r_sl res := by
  unfold b210_138 at h
  by_cases q85 : v3 = (11 : Int32)
  · rw [if_pos q85] at h
    obtain ⟨o_61, h62, h⟩ := bd h
    obtain ⟨v_63, h64, h⟩ := bd h
    by_cases q84 : v_63 = 0
    · rw [if_pos q84] at h
      obtain ⟨o_65, h66, h⟩ := bd h
      obtain ⟨v_67, h68, h⟩ := bd h
      by_cases q83 : v_67 ≤ v4
      · rw [if_pos q83] at h
        have e := lb210_196 G l a0 v1 v2 v3 M h
        omega
      · rw [if_neg q83] at h
        obtain ⟨o_69, h70, h⟩ := bd h
        obtain ⟨b_73, h74, h⟩ := bd h
        obtain ⟨q_71, h72, h⟩ := bd h
        have eh72 := (t209 G l (c_L_some h72)).1
        obtain ⟨M75, h76, h⟩ := bd h
        have eh76 := as_l_sz h76
        obtain ⟨o_77, h78, h⟩ := bd h
        obtain ⟨v_79, h80, h⟩ := bd h
        obtain ⟨M81, h82, h⟩ := bd h
        have eh82 := as_i_sz h82
        have e := lb210_289 G l  M81 h
        omega
    · rw [if_neg q84] at h
      have e := lb210_196 G l a0 v1 v2 v3 M h
      omega
  · rw [if_neg q85] at h
    have e := lb210_196 G l a0 v1 v2 v3 M h
    omega
theorem lb210_0 (G : gX) (l : Launch) (a0 : Nat) (v1 : Int32) (v2 : Int32) (v3 : Int32) (M : hM) {res : xRes} (h : b210_0 a0 v1 v2 v3 M = some res) : h_sz M ≤ r_sz res ∧ h_sl M ≤ r_sl res := by
  unfold b210_0 at h
  obtain ⟨b_3, h4, h⟩ := bd h
  obtain ⟨q_1, h2, h⟩ := bd h
  have eh2 := (t165 G l (c_I_some h2)).1
  obtain ⟨o_5, h6, h⟩ := bd h
  obtain ⟨v_7, h8, h⟩ := bd h
  obtain ⟨b_11, h12, h⟩ := bd h
  obtain ⟨q_9, h10, h⟩ := bd h
  have eh10 := (t176 G l (c_I_some h10)).1
  by_cases q23 : v3 = (14 : Int32)
  · rw [if_pos q23] at h
    obtain ⟨b_21, h22, h⟩ := bd h
    obtain ⟨q_19, h20, h⟩ := bd h
    have eh20 := (t205 G l (c_V_some h20)).1
    have e := lb210_289 G l  q_19 h
    omega
  · rw [if_neg q23] at h
    by_cases q18 : v3 = (10 : Int32)
    · rw [if_pos q18] at h
      obtain ⟨o_13, h14, h⟩ := bd h
      obtain ⟨v_15, h16, h⟩ := bd h
      by_cases q17 : v_15 = 0
      · rw [if_pos q17] at h
        have e := lb210_138 G l a0 v1 v2 v3 q_1.1 q_9.2 h
        omega
      · rw [if_neg q17] at h
        obtain rfl := Option.some.inj h
        show h_sz M ≤ h_sz q_9.2 ∧ h_sl M ≤ h_sl q_9.2
        omega
    · rw [if_neg q18] at h
      have e := lb210_138 G l a0 v1 v2 v3 q_1.1 q_9.2 h
      omega
theorem lb210_55 (G : gX) (l : Launch) (a0 : Nat) (v1 : Int32) (v2 : Int32) (v5 : Int32) (v6 : Int32) (M : hM) {res : xRes} (h : b210_55 a0 v1 v2 v5 v6 M = some res) : h_sz M ≤ r_sz res ∧ h_sl M ≤ r_sl res := by
  unfold b210_55 at h
  obtain ⟨o_24, h25, h⟩ := bd h
  obtain ⟨v_26, h27, h⟩ := bd h
  by_cases q60 : v_26 ≤ v6
  · rw [if_pos q60] at h
    have e := lb210_289 G l  M h
    omega
  · rw [if_neg q60] at h
    obtain ⟨o_28, h29, h⟩ := bd h
    obtain ⟨v_30, h31, h⟩ := bd h
    obtain ⟨o_32, h33, h⟩ := bd h
    obtain ⟨o_34, h35, h⟩ := bd h
    obtain ⟨v_36, h37, h⟩ := bd h
    obtain ⟨v_38, h39, h⟩ := bd h
    obtain ⟨b_42, h43, h⟩ := bd h
    obtain ⟨q_40, h41, h⟩ := bd h
    have eh41 := (t166 G l (c_I_some h41)).1
    obtain ⟨b_46, h47, h⟩ := bd h
    obtain ⟨q_44, h45, h⟩ := bd h
    have eh45 := (t168 G l (c_I_some h45)).1
    obtain ⟨o_48, h49, h⟩ := bd h
    obtain ⟨w_50, h51, h⟩ := bd h
    obtain ⟨b_54, h55, h⟩ := bd h
    obtain ⟨q_52, h53, h⟩ := bd h
    have eh53 := (t167 G l (c_V_some h53)).1
    obtain ⟨b_58, h59, h⟩ := bd h
    obtain ⟨q_56, h57, h⟩ := bd h
    have eh57 := (t183 G l (c_V_some h57)).1
    obtain rfl := Option.some.inj h
    show h_sz M ≤ h_sz q_56 ∧ h_sl M ≤ h_sl q_56
    omega
section
variable {p : Program} {l : Launch} {e : Env} {s : State} {m : MethodId} {args : Array Value} {below : List Frame} {meth : Method} {c : Code} {G : gX} {z0 y0 : Nat} {r : Option aV} {M' : hM}
def pg210 (p : Program) (l : Launch) (e : Env) (s : State) (m : MethodId) (args : Array Value) (below : List Frame) (meth : Method) (c : Code) (G : gX) (z0 y0 : Nat) (r : Option aV) (M' : hM) (h : Nat) (as : List aV) (M : hM) : Prop :=
  if h = 55 then (match as with | [.inr (.inr (some a0)), .inl v1, .inl v2, .inl v5, .inl v6] => xV G p l e (xRm 6 (h_sz M' - z0) (h_sl M' - y0)) s m args below meth c z0 y0 (h_sz M') (h_sl M') 8 (MQ below (xQc G r M') args s (h_sz M' - z0) (h_sl M' - y0) (xFr G)) 55 [(0, .inr (.inr (some a0))), (1, .inl v1), (2, .inl v2), (5, .inl v5), (6, .inl v6)] [] M | _ => False) else
  False
theorem sb210_289 (E : xE G p (xRm 6 (h_sz M' - z0) (h_sl M' - y0)) s m args c prog_14_method_59_code "ZonedFabricModel" z0 y0 (h_sz M') (h_sl M') 8) (B : xB ym210 none meth)  (M : hM) {res : xRes} (h : b210_289  M = some res) (hN : xN (pg210 p l e s m args below meth c G z0 y0 r M') r M' res) : xV G p l e (xRm 6 (h_sz M' - z0) (h_sl M' - y0)) s m args below meth c z0 y0 (h_sz M') (h_sl M') 8 (MQ below (xQc G r M') args s (h_sz M' - z0) (h_sl M' - y0) (xFr G)) 289 [] [] M := by
  unfold b210_289 at h
  obtain rfl := Option.some.inj h
  obtain ⟨rfl, rfl⟩ := Prod.mk.inj (show ((none : Option aV), M) = (r, M') from hN)
  exact xv_rv E B.1 B.2.1 (show decode prog_14_method_59_code 289 = .ok (.return_, 1) by decide +kernel) rfl rfl
theorem sb210_273 (E : xE G p (xRm 6 (h_sz M' - z0) (h_sl M' - y0)) s m args c prog_14_method_59_code "ZonedFabricModel" z0 y0 (h_sz M') (h_sl M') 8) (B : xB ym210 none meth) (a0 : Nat) (v1 : Int32) (M : hM) {res : xRes} (h : b210_273 a0 v1 M = some res) (hN : xN (pg210 p l e s m args below meth c G z0 y0 r M') r M' res) : xV G p l e (xRm 6 (h_sz M' - z0) (h_sl M' - y0)) s m args below meth c z0 y0 (h_sz M') (h_sl M') 8 (MQ below (xQc G r M') args s (h_sz M' - z0) (h_sl M' - y0) (xFr G)) 273 [(0, .inr (.inr (some a0))), (1, .inl v1)] [] M := by
  unfold b210_273 at h
  refine xv_b E [.aload_n 0, .iload_n 1, .bipush 10] (pc' := 277) (lv' := [(0, .inr (.inr (some a0))), (1, .inl v1)]) (st' := [.inl (10 : Int32), .inl v1, .inr (.inr (some a0))]) (by decide +kernel) rfl rfl ?_
  obtain ⟨b_128, h129, h⟩ := bd h
  obtain ⟨eh129, th129⟩ := g_o_some h129
  obtain ⟨q_126, h127, h⟩ := bd h
  refine xv_cvo E eh129 12 (as := [.inl v1, .inl (10 : Int32)]) (t205 G l (c_V_some h127)) cd205 mw1053 mw1054 mw1055 (show decode prog_14_method_59_code 277 = .ok (.invokevirtual 373, 3) by decide +kernel) th129 rfl rfl (Nat.le_of_ble_eq_true rfl) ⟨Nat.le_of_ble_eq_true rfl, Nat.le_of_ble_eq_true rfl⟩ ?_
  refine xv_goto E 289 (show decode prog_14_method_59_code 280 = .ok (.goto (9), 3) by decide +kernel) rfl ?_
  exact xv_w (sb210_289 E B  q_126 h hN) rfl
theorem sb210_196 (E : xE G p (xRm 6 (h_sz M' - z0) (h_sl M' - y0)) s m args c prog_14_method_59_code "ZonedFabricModel" z0 y0 (h_sz M') (h_sl M') 8) (B : xB ym210 none meth) (a0 : Nat) (v1 : Int32) (v2 : Int32) (v3 : Int32) (M : hM) {res : xRes} (h : b210_196 a0 v1 v2 v3 M = some res) (hN : xN (pg210 p l e s m args below meth c G z0 y0 r M') r M' res) : xV G p l e (xRm 6 (h_sz M' - z0) (h_sl M' - y0)) s m args below meth c z0 y0 (h_sz M') (h_sl M') 8 (MQ below (xQc G r M') args s (h_sz M' - z0) (h_sl M' - y0) (xFr G)) 196 [(0, .inr (.inr (some a0))), (1, .inl v1), (2, .inl v2), (3, .inl v3)] [] M := by
  unfold b210_196 at h
  refine xv_b E [.iload_n 3, .bipush 12] (pc' := 199) (lv' := [(0, .inr (.inr (some a0))), (1, .inl v1), (2, .inl v2), (3, .inl v3)]) (st' := [.inl (12 : Int32), .inl v3]) (by decide +kernel) rfl rfl ?_
  by_cases q125 : v3 = (12 : Int32)
  · rw [if_pos q125] at h
    refine xv_icmp_ne E 289 (show decode prog_14_method_59_code 199 = .ok (.if_icmp .ne (90), 3) by decide +kernel) rfl (fun z => absurd q125 z) (fun _ => ?_)
    refine xv_b E [.aload_n 0, .iload_n 2, .bipush 13] (pc' := 206) (lv' := [(0, .inr (.inr (some a0))), (1, .inl v1), (2, .inl v2), (3, .inl v3)]) (st' := [.inl (13 : Int32), .inl v2, .inr (.inr (some a0))]) (by decide +kernel) rfl rfl ?_
    obtain ⟨b_88, h89, h⟩ := bd h
    obtain ⟨eh89, th89⟩ := g_o_some h89
    obtain ⟨q_86, h87, h⟩ := bd h
    refine xv_cvo E eh89 12 (as := [.inl v2, .inl (13 : Int32)]) (t165 G l (c_I_some h87)) cd165 mw927 mw928 mw929 (show decode prog_14_method_59_code 206 = .ok (.invokevirtual 186, 3) by decide +kernel) th89 rfl rfl (Nat.le_of_ble_eq_true rfl) ⟨Nat.le_of_ble_eq_true rfl, Nat.le_of_ble_eq_true rfl⟩ ?_
    refine xv_b E [.iconst 1] (pc' := 210) (lv' := [(0, .inr (.inr (some a0))), (1, .inl v1), (2, .inl v2), (3, .inl v3)]) (st' := [.inl (1 : Int32), .inl q_86.1]) (by decide +kernel) rfl rfl ?_
    by_cases q124 : q_86.1 = (1 : Int32)
    · rw [if_pos q124] at h
      refine xv_icmp_ne E 245 (show decode prog_14_method_59_code 210 = .ok (.if_icmp .ne (35), 3) by decide +kernel) rfl (fun z => absurd q124 z) (fun _ => ?_)
      refine xv_b E [.aload_n 0] (pc' := 214) (lv' := [(0, .inr (.inr (some a0))), (1, .inl v1), (2, .inl v2), (3, .inl v3)]) (st' := [.inr (.inr (some a0))]) (by decide +kernel) rfl rfl ?_
      obtain ⟨o_108, h109, h⟩ := bd h
      refine xg_r E 12 39 h109 mw898 (show decode prog_14_method_59_code 214 = .ok (.getfield 109, 3) by decide +kernel) ?_
      refine xv_b E [.bipush 8, .aload_n 0] (pc' := 220) (lv' := [(0, .inr (.inr (some a0))), (1, .inl v1), (2, .inl v2), (3, .inl v3)]) (st' := [.inr (.inr (some a0)), .inl (8 : Int32), .inr (.inr o_108)]) (by decide +kernel) rfl rfl ?_
      obtain ⟨o_110, h111, h⟩ := bd h
      refine xg_r E 12 48 h111 mw906 (show decode prog_14_method_59_code 220 = .ok (.getfield 134, 3) by decide +kernel) ?_
      refine xv_b E [.iload_n 1] (pc' := 224) (lv' := [(0, .inr (.inr (some a0))), (1, .inl v1), (2, .inl v2), (3, .inl v3)]) (st' := [.inl v1, .inr (.inr o_110), .inl (8 : Int32), .inr (.inr o_108)]) (by decide +kernel) rfl rfl ?_
      obtain ⟨v_112, h113, h⟩ := bd h
      refine xa_i E h113 (show decode prog_14_method_59_code 224 = .ok (.iaload, 1) by decide +kernel) ?_
      refine xv_b E [.imul, .aload_n 0] (pc' := 227) (lv' := [(0, .inr (.inr (some a0))), (1, .inl v1), (2, .inl v2), (3, .inl v3)]) (st' := [.inr (.inr (some a0)), .inl ((8 : Int32) * v_112), .inr (.inr o_108)]) (by decide +kernel) rfl rfl ?_
      obtain ⟨o_114, h115, h⟩ := bd h
      refine xg_r E 12 49 h115 mw907 (show decode prog_14_method_59_code 227 = .ok (.getfield 137, 3) by decide +kernel) ?_
      refine xv_b E [.iload_n 1] (pc' := 231) (lv' := [(0, .inr (.inr (some a0))), (1, .inl v1), (2, .inl v2), (3, .inl v3)]) (st' := [.inl v1, .inr (.inr o_114), .inl ((8 : Int32) * v_112), .inr (.inr o_108)]) (by decide +kernel) rfl rfl ?_
      obtain ⟨v_116, h117, h⟩ := bd h
      refine xa_i E h117 (show decode prog_14_method_59_code 231 = .ok (.iaload, 1) by decide +kernel) ?_
      refine xv_b E [.iadd, .iconst 0] (pc' := 234) (lv' := [(0, .inr (.inr (some a0))), (1, .inl v1), (2, .inl v2), (3, .inl v3)]) (st' := [.inl (0 : Int32), .inl (((8 : Int32) * v_112) + v_116), .inr (.inr o_108)]) (by decide +kernel) rfl rfl ?_
      obtain ⟨M118, h119, h⟩ := bd h
      refine xs_i E h119 (show decode prog_14_method_59_code 234 = .ok (.iastore, 1) by decide +kernel) ?_
      refine xv_b E [.aload_n 0, .iload_n 1, .bipush 11] (pc' := 239) (lv' := [(0, .inr (.inr (some a0))), (1, .inl v1), (2, .inl v2), (3, .inl v3)]) (st' := [.inl (11 : Int32), .inl v1, .inr (.inr (some a0))]) (by decide +kernel) rfl rfl ?_
      obtain ⟨b_122, h123, h⟩ := bd h
      obtain ⟨eh123, th123⟩ := g_o_some h123
      obtain ⟨q_120, h121, h⟩ := bd h
      refine xv_cvo E eh123 12 (as := [.inl v1, .inl (11 : Int32)]) (t205 G l (c_V_some h121)) cd205 mw1053 mw1054 mw1055 (show decode prog_14_method_59_code 239 = .ok (.invokevirtual 373, 3) by decide +kernel) th123 rfl rfl (Nat.le_of_ble_eq_true rfl) ⟨Nat.le_of_ble_eq_true rfl, Nat.le_of_ble_eq_true rfl⟩ ?_
      refine xv_goto E 289 (show decode prog_14_method_59_code 242 = .ok (.goto (47), 3) by decide +kernel) rfl ?_
      exact xv_w (sb210_289 E B  q_120 h hN) rfl
    · rw [if_neg q124] at h
      refine xv_icmp_ne E 245 (show decode prog_14_method_59_code 210 = .ok (.if_icmp .ne (35), 3) by decide +kernel) rfl (fun _ => ?_) (fun z => absurd z q124)
      refine xv_b E [.aload_n 0] (pc' := 246) (lv' := [(0, .inr (.inr (some a0))), (1, .inl v1), (2, .inl v2), (3, .inl v3)]) (st' := [.inr (.inr (some a0))]) (by decide +kernel) rfl rfl ?_
      obtain ⟨o_90, h91, h⟩ := bd h
      refine xg_r E 12 50 h91 mw908 (show decode prog_14_method_59_code 246 = .ok (.getfield 140, 3) by decide +kernel) ?_
      refine xv_b E [.iload_n 1] (pc' := 250) (lv' := [(0, .inr (.inr (some a0))), (1, .inl v1), (2, .inl v2), (3, .inl v3)]) (st' := [.inl v1, .inr (.inr o_90)]) (by decide +kernel) rfl rfl ?_
      obtain ⟨v_92, h93, h⟩ := bd h
      refine xa_z E h93 (show decode prog_14_method_59_code 250 = .ok (.baload, 1) by decide +kernel) ?_
      by_cases q107 : v_92 = 0
      · rw [if_pos q107] at h
        refine xv_if_ne E 273 (show decode prog_14_method_59_code 251 = .ok (.ifCond .ne (22), 3) by decide +kernel) rfl (fun z => absurd q107 z) (fun _ => ?_)
        refine xv_b E [.aload_n 0] (pc' := 255) (lv' := [(0, .inr (.inr (some a0))), (1, .inl v1), (2, .inl v2), (3, .inl v3)]) (st' := [.inr (.inr (some a0))]) (by decide +kernel) rfl rfl ?_
        obtain ⟨o_94, h95, h⟩ := bd h
        refine xg_r E 12 55 h95 mw913 (show decode prog_14_method_59_code 255 = .ok (.getfield 155, 3) by decide +kernel) ?_
        refine xv_b E [.iload_n 1] (pc' := 259) (lv' := [(0, .inr (.inr (some a0))), (1, .inl v1), (2, .inl v2), (3, .inl v3)]) (st' := [.inl v1, .inr (.inr o_94)]) (by decide +kernel) rfl rfl ?_
        obtain ⟨v_96, h97, h⟩ := bd h
        refine xa_i E h97 (show decode prog_14_method_59_code 259 = .ok (.iaload, 1) by decide +kernel) ?_
        refine xv_b E [.iconst 1, .aload_n 0] (pc' := 262) (lv' := [(0, .inr (.inr (some a0))), (1, .inl v1), (2, .inl v2), (3, .inl v3)]) (st' := [.inr (.inr (some a0)), .inl (1 : Int32), .inl v_96]) (by decide +kernel) rfl rfl ?_
        obtain ⟨o_98, h99, h⟩ := bd h
        refine xg_r E 12 53 h99 mw911 (show decode prog_14_method_59_code 262 = .ok (.getfield 149, 3) by decide +kernel) ?_
        refine xv_b E [.iload_n 1] (pc' := 266) (lv' := [(0, .inr (.inr (some a0))), (1, .inl v1), (2, .inl v2), (3, .inl v3)]) (st' := [.inl v1, .inr (.inr o_98), .inl (1 : Int32), .inl v_96]) (by decide +kernel) rfl rfl ?_
        obtain ⟨v_100, h101, h⟩ := bd h
        refine xa_i E h101 (show decode prog_14_method_59_code 266 = .ok (.iaload, 1) by decide +kernel) ?_
        refine xv_b E [.ishl, .iconst 1, .isub] (pc' := 270) (lv' := [(0, .inr (.inr (some a0))), (1, .inl v1), (2, .inl v2), (3, .inl v3)]) (st' := [.inl (((1 : Int32) <<< (v_100 &&& 31)) - (1 : Int32)), .inl v_96]) (by decide +kernel) rfl rfl ?_
        by_cases q106 : v_96 = (((1 : Int32) <<< (v_100 &&& 31)) - (1 : Int32))
        · rw [if_pos q106] at h
          refine xv_icmp_ne E 283 (show decode prog_14_method_59_code 270 = .ok (.if_icmp .ne (13), 3) by decide +kernel) rfl (fun z => absurd q106 z) (fun _ => ?_)
          exact xv_w (sb210_273 E B a0 v1 q_86.2 h hN) rfl
        · rw [if_neg q106] at h
          refine xv_icmp_ne E 283 (show decode prog_14_method_59_code 270 = .ok (.if_icmp .ne (13), 3) by decide +kernel) rfl (fun _ => ?_) (fun z => absurd z q106)
          refine xv_b E [.aload_n 0, .iload_n 1, .iconst 3] (pc' := 286) (lv' := [(0, .inr (.inr (some a0))), (1, .inl v1), (2, .inl v2), (3, .inl v3)]) (st' := [.inl (3 : Int32), .inl v1, .inr (.inr (some a0))]) (by decide +kernel) rfl rfl ?_
          obtain ⟨b_104, h105, h⟩ := bd h
          obtain ⟨eh105, th105⟩ := g_o_some h105
          obtain ⟨q_102, h103, h⟩ := bd h
          refine xv_cvo E eh105 12 (as := [.inl v1, .inl (3 : Int32)]) (t206 G l (c_V_some h103)) cd206 mw1056 mw1057 mw1058 (show decode prog_14_method_59_code 286 = .ok (.invokevirtual 375, 3) by decide +kernel) th105 rfl rfl (Nat.le_of_ble_eq_true rfl) ⟨Nat.le_of_ble_eq_true rfl, Nat.le_of_ble_eq_true rfl⟩ ?_
          exact xv_w (sb210_289 E B  q_102 h hN) rfl
      · rw [if_neg q107] at h
        refine xv_if_ne E 273 (show decode prog_14_method_59_code 251 = .ok (.ifCond .ne (22), 3) by decide +kernel) rfl (fun _ => ?_) (fun z => absurd z q107)
        exact xv_w (sb210_273 E B a0 v1 q_86.2 h hN) rfl
  · rw [if_neg q125] at h
    refine xv_icmp_ne E 289 (show decode prog_14_method_59_code 199 = .ok (.if_icmp .ne (90), 3) by decide +kernel) rfl (fun _ => ?_) (fun z => absurd z q125)
    exact xv_w (sb210_289 E B  M h hN) rfl
theorem sb210_138 (E : xE G p (xRm 6 (h_sz M' - z0) (h_sl M' - y0)) s m args c prog_14_method_59_code "ZonedFabricModel" z0 y0 (h_sz M') (h_sl M') 8) (B : xB ym210 none meth) (a0 : Nat) (v1 : Int32) (v2 : Int32) (v3 : Int32) (v4 : Int32) (M : hM) {res : xRes} (h : b210_138 a0 v1 v2 v3 v4 M = some res) (hN : xN (pg210 p l e s m args below meth c G z0 y0 r M') r M' res) : xV G p l e (xRm 6 (h_sz M' - z0) (h_sl M' - y0)) s m args below meth c z0 y0 (h_sz M') (h_sl M') 8 (MQ below (xQc G r M') args s (h_sz M' - z0) (h_sl M' - y0) (xFr G)) 138 [(0, .inr (.inr (some a0))), (1, .inl v1), (2, .inl v2), (3, .inl v3), (4, .inl v4)] [] M := by
  unfold b210_138 at h
  refine xv_b E [.iload_n 3, .bipush 11] (pc' := 141) (lv' := [(0, .inr (.inr (some a0))), (1, .inl v1), (2, .inl v2), (3, .inl v3), (4, .inl v4)]) (st' := [.inl (11 : Int32), .inl v3]) (by decide +kernel) rfl rfl ?_
  by_cases q85 : v3 = (11 : Int32)
  · rw [if_pos q85] at h
    refine xv_icmp_ne E 196 (show decode prog_14_method_59_code 141 = .ok (.if_icmp .ne (55), 3) by decide +kernel) rfl (fun z => absurd q85 z) (fun _ => ?_)
    refine xv_b E [.aload_n 0] (pc' := 145) (lv' := [(0, .inr (.inr (some a0))), (1, .inl v1), (2, .inl v2), (3, .inl v3), (4, .inl v4)]) (st' := [.inr (.inr (some a0))]) (by decide +kernel) rfl rfl ?_
    obtain ⟨o_61, h62, h⟩ := bd h
    refine xg_r E 12 50 h62 mw908 (show decode prog_14_method_59_code 145 = .ok (.getfield 140, 3) by decide +kernel) ?_
    refine xv_b E [.iload_n 1] (pc' := 149) (lv' := [(0, .inr (.inr (some a0))), (1, .inl v1), (2, .inl v2), (3, .inl v3), (4, .inl v4)]) (st' := [.inl v1, .inr (.inr o_61)]) (by decide +kernel) rfl rfl ?_
    obtain ⟨v_63, h64, h⟩ := bd h
    refine xa_z E h64 (show decode prog_14_method_59_code 149 = .ok (.baload, 1) by decide +kernel) ?_
    by_cases q84 : v_63 = 0
    · rw [if_pos q84] at h
      refine xv_if_ne E 196 (show decode prog_14_method_59_code 150 = .ok (.ifCond .ne (46), 3) by decide +kernel) rfl (fun z => absurd q84 z) (fun _ => ?_)
      refine xv_b E [.iload 4, .aload_n 0] (pc' := 156) (lv' := [(0, .inr (.inr (some a0))), (1, .inl v1), (2, .inl v2), (3, .inl v3), (4, .inl v4)]) (st' := [.inr (.inr (some a0)), .inl v4]) (by decide +kernel) rfl rfl ?_
      obtain ⟨o_65, h66, h⟩ := bd h
      refine xg_r E 12 53 h66 mw911 (show decode prog_14_method_59_code 156 = .ok (.getfield 149, 3) by decide +kernel) ?_
      refine xv_b E [.iload_n 1] (pc' := 160) (lv' := [(0, .inr (.inr (some a0))), (1, .inl v1), (2, .inl v2), (3, .inl v3), (4, .inl v4)]) (st' := [.inl v1, .inr (.inr o_65), .inl v4]) (by decide +kernel) rfl rfl ?_
      obtain ⟨v_67, h68, h⟩ := bd h
      refine xa_i E h68 (show decode prog_14_method_59_code 160 = .ok (.iaload, 1) by decide +kernel) ?_
      by_cases q83 : v_67 ≤ v4
      · rw [if_pos q83] at h
        refine xv_icmp_ge E 196 (show decode prog_14_method_59_code 161 = .ok (.if_icmp .ge (35), 3) by decide +kernel) rfl (fun _ => ?_) (fun z => absurd q83 z)
        exact xv_w (sb210_196 E B a0 v1 v2 v3 M h hN) rfl
      · rw [if_neg q83] at h
        refine xv_icmp_ge E 196 (show decode prog_14_method_59_code 161 = .ok (.if_icmp .ge (35), 3) by decide +kernel) rfl (fun z => absurd z q83) (fun _ => ?_)
        refine xv_b E [.aload_n 0] (pc' := 165) (lv' := [(0, .inr (.inr (some a0))), (1, .inl v1), (2, .inl v2), (3, .inl v3), (4, .inl v4)]) (st' := [.inr (.inr (some a0))]) (by decide +kernel) rfl rfl ?_
        obtain ⟨o_69, h70, h⟩ := bd h
        refine xg_r E 12 54 h70 mw912 (show decode prog_14_method_59_code 165 = .ok (.getfield 152, 3) by decide +kernel) ?_
        refine xv_b E [.iconst 4, .iload_n 1, .imul, .iload 4, .iadd, .aload_n 0, .iload_n 2] (pc' := 176) (lv' := [(0, .inr (.inr (some a0))), (1, .inl v1), (2, .inl v2), (3, .inl v3), (4, .inl v4)]) (st' := [.inl v2, .inr (.inr (some a0)), .inl (((4 : Int32) * v1) + v4), .inr (.inr o_69)]) (by decide +kernel) rfl rfl ?_
        obtain ⟨b_73, h74, h⟩ := bd h
        obtain ⟨eh74, th74⟩ := g_o_some h74
        obtain ⟨q_71, h72, h⟩ := bd h
        refine xv_cvo E eh74 12 (as := [.inl v2]) (t209 G l (c_L_some h72)) cd209 mw1070 mw1071 mw1072 (show decode prog_14_method_59_code 176 = .ok (.invokevirtual 390, 3) by decide +kernel) th74 rfl rfl (Nat.le_of_ble_eq_true rfl) ⟨Nat.le_of_ble_eq_true rfl, Nat.le_of_ble_eq_true rfl⟩ ?_
        obtain ⟨M75, h76, h⟩ := bd h
        refine xs_l E h76 (show decode prog_14_method_59_code 179 = .ok (.lastore, 1) by decide +kernel) ?_
        refine xv_b E [.aload_n 0] (pc' := 181) (lv' := [(0, .inr (.inr (some a0))), (1, .inl v1), (2, .inl v2), (3, .inl v3), (4, .inl v4)]) (st' := [.inr (.inr (some a0))]) (by decide +kernel) rfl rfl ?_
        obtain ⟨o_77, h78, h⟩ := bd h
        refine xg_r E 12 55 h78 mw913 (show decode prog_14_method_59_code 181 = .ok (.getfield 155, 3) by decide +kernel) ?_
        refine xv_b E [.iload_n 1, .dup2] (pc' := 186) (lv' := [(0, .inr (.inr (some a0))), (1, .inl v1), (2, .inl v2), (3, .inl v3), (4, .inl v4)]) (st' := [.inl v1, .inr (.inr o_77), .inl v1, .inr (.inr o_77)]) (by decide +kernel) rfl rfl ?_
        obtain ⟨v_79, h80, h⟩ := bd h
        refine xa_i E h80 (show decode prog_14_method_59_code 186 = .ok (.iaload, 1) by decide +kernel) ?_
        refine xv_b E [.iconst 1, .iload 4, .ishl, .ior] (pc' := 192) (lv' := [(0, .inr (.inr (some a0))), (1, .inl v1), (2, .inl v2), (3, .inl v3), (4, .inl v4)]) (st' := [.inl (v_79 ||| ((1 : Int32) <<< (v4 &&& 31))), .inl v1, .inr (.inr o_77)]) (by decide +kernel) rfl rfl ?_
        obtain ⟨M81, h82, h⟩ := bd h
        refine xs_i E h82 (show decode prog_14_method_59_code 192 = .ok (.iastore, 1) by decide +kernel) ?_
        refine xv_goto E 289 (show decode prog_14_method_59_code 193 = .ok (.goto (96), 3) by decide +kernel) rfl ?_
        exact xv_w (sb210_289 E B  M81 h hN) rfl
    · rw [if_neg q84] at h
      refine xv_if_ne E 196 (show decode prog_14_method_59_code 150 = .ok (.ifCond .ne (46), 3) by decide +kernel) rfl (fun _ => ?_) (fun z => absurd z q84)
      exact xv_w (sb210_196 E B a0 v1 v2 v3 M h hN) rfl
  · rw [if_neg q85] at h
    refine xv_icmp_ne E 196 (show decode prog_14_method_59_code 141 = .ok (.if_icmp .ne (55), 3) by decide +kernel) rfl (fun _ => ?_) (fun z => absurd z q85)
    exact xv_w (sb210_196 E B a0 v1 v2 v3 M h hN) rfl
theorem sb210_0 (E : xE G p (xRm 6 (h_sz M' - z0) (h_sl M' - y0)) s m args c prog_14_method_59_code "ZonedFabricModel" z0 y0 (h_sz M') (h_sl M') 8) (B : xB ym210 none meth) (a0 : Nat) (v1 : Int32) (v2 : Int32) (v3 : Int32) (M : hM) {res : xRes} (h : b210_0 a0 v1 v2 v3 M = some res) (hN : xN (pg210 p l e s m args below meth c G z0 y0 r M') r M' res) : xV G p l e (xRm 6 (h_sz M' - z0) (h_sl M' - y0)) s m args below meth c z0 y0 (h_sz M') (h_sl M') 8 (MQ below (xQc G r M') args s (h_sz M' - z0) (h_sl M' - y0) (xFr G)) 0 [(0, .inr (.inr (some a0))), (1, .inl v1), (2, .inl v2), (3, .inl v3)] [] M := by
  unfold b210_0 at h
  refine xv_b E [.aload_n 0, .iload_n 2, .bipush 11] (pc' := 4) (lv' := [(0, .inr (.inr (some a0))), (1, .inl v1), (2, .inl v2), (3, .inl v3)]) (st' := [.inl (11 : Int32), .inl v2, .inr (.inr (some a0))]) (by decide +kernel) rfl rfl ?_
  obtain ⟨b_3, h4, h⟩ := bd h
  obtain ⟨eh4, th4⟩ := g_o_some h4
  obtain ⟨q_1, h2, h⟩ := bd h
  refine xv_cvo E eh4 12 (as := [.inl v2, .inl (11 : Int32)]) (t165 G l (c_I_some h2)) cd165 mw927 mw928 mw929 (show decode prog_14_method_59_code 4 = .ok (.invokevirtual 186, 3) by decide +kernel) th4 rfl rfl (Nat.le_of_ble_eq_true rfl) ⟨Nat.le_of_ble_eq_true rfl, Nat.le_of_ble_eq_true rfl⟩ ?_
  refine xv_b E [.istore 4, .aload_n 0, .aload_n 0] (pc' := 11) (lv' := [(4, .inl q_1.1), (0, .inr (.inr (some a0))), (1, .inl v1), (2, .inl v2), (3, .inl v3)]) (st' := [.inr (.inr (some a0)), .inr (.inr (some a0))]) (by decide +kernel) rfl rfl ?_
  obtain ⟨o_5, h6, h⟩ := bd h
  refine xg_r E 12 48 h6 mw906 (show decode prog_14_method_59_code 11 = .ok (.getfield 134, 3) by decide +kernel) ?_
  refine xv_b E [.iload_n 1] (pc' := 15) (lv' := [(4, .inl q_1.1), (0, .inr (.inr (some a0))), (1, .inl v1), (2, .inl v2), (3, .inl v3)]) (st' := [.inl v1, .inr (.inr o_5), .inr (.inr (some a0))]) (by decide +kernel) rfl rfl ?_
  obtain ⟨v_7, h8, h⟩ := bd h
  refine xa_i E h8 (show decode prog_14_method_59_code 15 = .ok (.iaload, 1) by decide +kernel) ?_
  obtain ⟨b_11, h12, h⟩ := bd h
  obtain ⟨eh12, th12⟩ := g_o_some h12
  obtain ⟨q_9, h10, h⟩ := bd h
  refine xv_cvo E eh12 12 (as := [.inl v_7]) (t176 G l (c_I_some h10)) cd176 mw1040 mw1041 mw1042 (show decode prog_14_method_59_code 16 = .ok (.invokevirtual 352, 3) by decide +kernel) th12 rfl rfl (Nat.le_of_ble_eq_true rfl) ⟨Nat.le_of_ble_eq_true rfl, Nat.le_of_ble_eq_true rfl⟩ ?_
  refine xv_b E [.istore 5, .iload_n 3, .bipush 14] (pc' := 24) (lv' := [(5, .inl q_9.1), (4, .inl q_1.1), (0, .inr (.inr (some a0))), (1, .inl v1), (2, .inl v2), (3, .inl v3)]) (st' := [.inl (14 : Int32), .inl v3]) (by decide +kernel) rfl rfl ?_
  by_cases q23 : v3 = (14 : Int32)
  · rw [if_pos q23] at h
    refine xv_icmp_ne E 37 (show decode prog_14_method_59_code 24 = .ok (.if_icmp .ne (13), 3) by decide +kernel) rfl (fun z => absurd q23 z) (fun _ => ?_)
    refine xv_b E [.aload_n 0, .iload_n 1, .bipush 12] (pc' := 31) (lv' := [(5, .inl q_9.1), (4, .inl q_1.1), (0, .inr (.inr (some a0))), (1, .inl v1), (2, .inl v2), (3, .inl v3)]) (st' := [.inl (12 : Int32), .inl v1, .inr (.inr (some a0))]) (by decide +kernel) rfl rfl ?_
    obtain ⟨b_21, h22, h⟩ := bd h
    obtain ⟨eh22, th22⟩ := g_o_some h22
    obtain ⟨q_19, h20, h⟩ := bd h
    refine xv_cvo E eh22 12 (as := [.inl v1, .inl (12 : Int32)]) (t205 G l (c_V_some h20)) cd205 mw1053 mw1054 mw1055 (show decode prog_14_method_59_code 31 = .ok (.invokevirtual 373, 3) by decide +kernel) th22 rfl rfl (Nat.le_of_ble_eq_true rfl) ⟨Nat.le_of_ble_eq_true rfl, Nat.le_of_ble_eq_true rfl⟩ ?_
    refine xv_goto E 289 (show decode prog_14_method_59_code 34 = .ok (.goto (255), 3) by decide +kernel) rfl ?_
    exact xv_w (sb210_289 E B  q_19 h hN) rfl
  · rw [if_neg q23] at h
    refine xv_icmp_ne E 37 (show decode prog_14_method_59_code 24 = .ok (.if_icmp .ne (13), 3) by decide +kernel) rfl (fun _ => ?_) (fun z => absurd z q23)
    refine xv_b E [.iload_n 3, .bipush 10] (pc' := 40) (lv' := [(5, .inl q_9.1), (4, .inl q_1.1), (0, .inr (.inr (some a0))), (1, .inl v1), (2, .inl v2), (3, .inl v3)]) (st' := [.inl (10 : Int32), .inl v3]) (by decide +kernel) rfl rfl ?_
    by_cases q18 : v3 = (10 : Int32)
    · rw [if_pos q18] at h
      refine xv_icmp_ne E 138 (show decode prog_14_method_59_code 40 = .ok (.if_icmp .ne (98), 3) by decide +kernel) rfl (fun z => absurd q18 z) (fun _ => ?_)
      refine xv_b E [.aload_n 0] (pc' := 44) (lv' := [(5, .inl q_9.1), (4, .inl q_1.1), (0, .inr (.inr (some a0))), (1, .inl v1), (2, .inl v2), (3, .inl v3)]) (st' := [.inr (.inr (some a0))]) (by decide +kernel) rfl rfl ?_
      obtain ⟨o_13, h14, h⟩ := bd h
      refine xg_r E 12 50 h14 mw908 (show decode prog_14_method_59_code 44 = .ok (.getfield 140, 3) by decide +kernel) ?_
      refine xv_b E [.iload_n 1] (pc' := 48) (lv' := [(5, .inl q_9.1), (4, .inl q_1.1), (0, .inr (.inr (some a0))), (1, .inl v1), (2, .inl v2), (3, .inl v3)]) (st' := [.inl v1, .inr (.inr o_13)]) (by decide +kernel) rfl rfl ?_
      obtain ⟨v_15, h16, h⟩ := bd h
      refine xa_z E h16 (show decode prog_14_method_59_code 48 = .ok (.baload, 1) by decide +kernel) ?_
      by_cases q17 : v_15 = 0
      · rw [if_pos q17] at h
        refine xv_if_eq E 138 (show decode prog_14_method_59_code 49 = .ok (.ifCond .eq (89), 3) by decide +kernel) rfl (fun _ => ?_) (fun z => absurd q17 z)
        exact xv_w (sb210_138 E B a0 v1 v2 v3 q_1.1 q_9.2 h hN) rfl
      · rw [if_neg q17] at h
        refine xv_if_eq E 138 (show decode prog_14_method_59_code 49 = .ok (.ifCond .eq (89), 3) by decide +kernel) rfl (fun z => absurd z q17) (fun _ => ?_)
        refine xv_b E [.iconst 0, .istore 6] (pc' := 55) (lv' := [(6, .inl (0 : Int32)), (5, .inl q_9.1), (4, .inl q_1.1), (0, .inr (.inr (some a0))), (1, .inl v1), (2, .inl v2), (3, .inl v3)]) (st' := []) (by decide +kernel) rfl rfl ?_
        obtain rfl := Option.some.inj h
        exact xv_w hN rfl
    · rw [if_neg q18] at h
      refine xv_icmp_ne E 138 (show decode prog_14_method_59_code 40 = .ok (.if_icmp .ne (98), 3) by decide +kernel) rfl (fun _ => ?_) (fun z => absurd z q18)
      exact xv_w (sb210_138 E B a0 v1 v2 v3 q_1.1 q_9.2 h hN) rfl
theorem sb210_55 (E : xE G p (xRm 6 (h_sz M' - z0) (h_sl M' - y0)) s m args c prog_14_method_59_code "ZonedFabricModel" z0 y0 (h_sz M') (h_sl M') 8) (B : xB ym210 none meth) (a0 : Nat) (v1 : Int32) (v2 : Int32) (v5 : Int32) (v6 : Int32) (M : hM) {res : xRes} (h : b210_55 a0 v1 v2 v5 v6 M = some res) (hN : xN (pg210 p l e s m args below meth c G z0 y0 r M') r M' res) : xV G p l e (xRm 6 (h_sz M' - z0) (h_sl M' - y0)) s m args below meth c z0 y0 (h_sz M') (h_sl M') 8 (MQ below (xQc G r M') args s (h_sz M' - z0) (h_sl M' - y0) (xFr G)) 55 [(0, .inr (.inr (some a0))), (1, .inl v1), (2, .inl v2), (5, .inl v5), (6, .inl v6)] [] M := by
  unfold b210_55 at h
  refine xv_b E [.iload 6, .aload_n 0] (pc' := 58) (lv' := [(0, .inr (.inr (some a0))), (1, .inl v1), (2, .inl v2), (5, .inl v5), (6, .inl v6)]) (st' := [.inr (.inr (some a0)), .inl v6]) (by decide +kernel) rfl rfl ?_
  obtain ⟨o_24, h25, h⟩ := bd h
  refine xg_r E 12 53 h25 mw911 (show decode prog_14_method_59_code 58 = .ok (.getfield 149, 3) by decide +kernel) ?_
  refine xv_b E [.iload_n 1] (pc' := 62) (lv' := [(0, .inr (.inr (some a0))), (1, .inl v1), (2, .inl v2), (5, .inl v5), (6, .inl v6)]) (st' := [.inl v1, .inr (.inr o_24), .inl v6]) (by decide +kernel) rfl rfl ?_
  obtain ⟨v_26, h27, h⟩ := bd h
  refine xa_i E h27 (show decode prog_14_method_59_code 62 = .ok (.iaload, 1) by decide +kernel) ?_
  by_cases q60 : v_26 ≤ v6
  · rw [if_pos q60] at h
    refine xv_icmp_ge E 135 (show decode prog_14_method_59_code 63 = .ok (.if_icmp .ge (72), 3) by decide +kernel) rfl (fun _ => ?_) (fun z => absurd q60 z)
    refine xv_goto E 289 (show decode prog_14_method_59_code 135 = .ok (.goto (154), 3) by decide +kernel) rfl ?_
    exact xv_w (sb210_289 E B  M h hN) rfl
  · rw [if_neg q60] at h
    refine xv_icmp_ge E 135 (show decode prog_14_method_59_code 63 = .ok (.if_icmp .ge (72), 3) by decide +kernel) rfl (fun z => absurd z q60) (fun _ => ?_)
    refine xv_b E [.aload_n 0, .bipush 11, .aload_n 0] (pc' := 70) (lv' := [(0, .inr (.inr (some a0))), (1, .inl v1), (2, .inl v2), (5, .inl v5), (6, .inl v6)]) (st' := [.inr (.inr (some a0)), .inl (11 : Int32), .inr (.inr (some a0))]) (by decide +kernel) rfl rfl ?_
    obtain ⟨o_28, h29, h⟩ := bd h
    refine xg_r E 12 60 h29 mw918 (show decode prog_14_method_59_code 70 = .ok (.getfield 170, 3) by decide +kernel) ?_
    refine xv_b E [.iload_n 1] (pc' := 74) (lv' := [(0, .inr (.inr (some a0))), (1, .inl v1), (2, .inl v2), (5, .inl v5), (6, .inl v6)]) (st' := [.inl v1, .inr (.inr o_28), .inl (11 : Int32), .inr (.inr (some a0))]) (by decide +kernel) rfl rfl ?_
    obtain ⟨v_30, h31, h⟩ := bd h
    refine xa_i E h31 (show decode prog_14_method_59_code 74 = .ok (.iaload, 1) by decide +kernel) ?_
    refine xv_b E [.aload_n 0] (pc' := 76) (lv' := [(0, .inr (.inr (some a0))), (1, .inl v1), (2, .inl v2), (5, .inl v5), (6, .inl v6)]) (st' := [.inr (.inr (some a0)), .inl v_30, .inl (11 : Int32), .inr (.inr (some a0))]) (by decide +kernel) rfl rfl ?_
    obtain ⟨o_32, h33, h⟩ := bd h
    refine xg_r E 12 35 h33 mw895 (show decode prog_14_method_59_code 76 = .ok (.getfield 100, 3) by decide +kernel) ?_
    refine xv_b E [.aload_n 0] (pc' := 80) (lv' := [(0, .inr (.inr (some a0))), (1, .inl v1), (2, .inl v2), (5, .inl v5), (6, .inl v6)]) (st' := [.inr (.inr (some a0)), .inr (.inr o_32), .inl v_30, .inl (11 : Int32), .inr (.inr (some a0))]) (by decide +kernel) rfl rfl ?_
    obtain ⟨o_34, h35, h⟩ := bd h
    refine xg_r E 12 48 h35 mw906 (show decode prog_14_method_59_code 80 = .ok (.getfield 134, 3) by decide +kernel) ?_
    refine xv_b E [.iload_n 1] (pc' := 84) (lv' := [(0, .inr (.inr (some a0))), (1, .inl v1), (2, .inl v2), (5, .inl v5), (6, .inl v6)]) (st' := [.inl v1, .inr (.inr o_34), .inr (.inr o_32), .inl v_30, .inl (11 : Int32), .inr (.inr (some a0))]) (by decide +kernel) rfl rfl ?_
    obtain ⟨v_36, h37, h⟩ := bd h
    refine xa_i E h37 (show decode prog_14_method_59_code 84 = .ok (.iaload, 1) by decide +kernel) ?_
    obtain ⟨v_38, h39, h⟩ := bd h
    refine xa_i E h39 (show decode prog_14_method_59_code 85 = .ok (.iaload, 1) by decide +kernel) ?_
    refine xv_b E [.iload_n 1, .aload_n 0, .iload_n 2, .bipush 9, .iconst 2] (pc' := 92) (lv' := [(0, .inr (.inr (some a0))), (1, .inl v1), (2, .inl v2), (5, .inl v5), (6, .inl v6)]) (st' := [.inl (2 : Int32), .inl (9 : Int32), .inl v2, .inr (.inr (some a0)), .inl v1, .inl v_38, .inl v_30, .inl (11 : Int32), .inr (.inr (some a0))]) (by decide +kernel) rfl rfl ?_
    obtain ⟨b_42, h43, h⟩ := bd h
    obtain ⟨eh43, th43⟩ := g_o_some h43
    obtain ⟨q_40, h41, h⟩ := bd h
    refine xv_cvo E eh43 12 (as := [.inl v2, .inl (9 : Int32), .inl (2 : Int32)]) (t166 G l (c_I_some h41)) cd166 mw947 mw948 mw949 (show decode prog_14_method_59_code 92 = .ok (.invokevirtual 198, 3) by decide +kernel) th43 rfl rfl (Nat.le_of_ble_eq_true rfl) ⟨Nat.le_of_ble_eq_true rfl, Nat.le_of_ble_eq_true rfl⟩ ?_
    refine xv_b E [.iload 6] (pc' := 97) (lv' := [(0, .inr (.inr (some a0))), (1, .inl v1), (2, .inl v2), (5, .inl v5), (6, .inl v6)]) (st' := [.inl v6, .inl q_40.1, .inl v1, .inl v_38, .inl v_30, .inl (11 : Int32), .inr (.inr (some a0))]) (by decide +kernel) rfl rfl ?_
    obtain ⟨b_46, h47, h⟩ := bd h
    obtain ⟨eh47, th47⟩ := g_o_some h47
    obtain ⟨q_44, h45, h⟩ := bd h
    refine xv_cvo E eh47 12 (as := [.inl (11 : Int32), .inl v_30, .inl v_38, .inl v1, .inl q_40.1, .inl v6]) (t168 G l (c_I_some h45)) cd168 mw1033 mw1034 mw1035 (show decode prog_14_method_59_code 97 = .ok (.invokevirtual 272, 3) by decide +kernel) th47 rfl rfl (Nat.le_of_ble_eq_true rfl) ⟨Nat.le_of_ble_eq_true rfl, Nat.le_of_ble_eq_true rfl⟩ ?_
    refine xv_b E [.istore 7, .aload_n 0, .iload 7, .aload_n 0] (pc' := 106) (lv' := [(7, .inl q_44.1), (0, .inr (.inr (some a0))), (1, .inl v1), (2, .inl v2), (5, .inl v5), (6, .inl v6)]) (st' := [.inr (.inr (some a0)), .inl q_44.1, .inr (.inr (some a0))]) (by decide +kernel) rfl rfl ?_
    obtain ⟨o_48, h49, h⟩ := bd h
    refine xg_r E 12 54 h49 mw912 (show decode prog_14_method_59_code 106 = .ok (.getfield 152, 3) by decide +kernel) ?_
    refine xv_b E [.iconst 4, .iload_n 1, .imul, .iload 6, .iadd] (pc' := 115) (lv' := [(7, .inl q_44.1), (0, .inr (.inr (some a0))), (1, .inl v1), (2, .inl v2), (5, .inl v5), (6, .inl v6)]) (st' := [.inl (((4 : Int32) * v1) + v6), .inr (.inr o_48), .inl q_44.1, .inr (.inr (some a0))]) (by decide +kernel) rfl rfl ?_
    obtain ⟨w_50, h51, h⟩ := bd h
    refine xa_l E h51 (show decode prog_14_method_59_code 115 = .ok (.laload, 1) by decide +kernel) ?_
    refine xv_b E [.bipush 8] (pc' := 118) (lv' := [(7, .inl q_44.1), (0, .inr (.inr (some a0))), (1, .inl v1), (2, .inl v2), (5, .inl v5), (6, .inl v6)]) (st' := [.inl (8 : Int32), .inr (.inl w_50), .inl q_44.1, .inr (.inr (some a0))]) (by decide +kernel) rfl rfl ?_
    obtain ⟨b_54, h55, h⟩ := bd h
    obtain ⟨eh55, th55⟩ := g_o_some h55
    obtain ⟨q_52, h53, h⟩ := bd h
    refine xv_cvo E eh55 12 (as := [.inl q_44.1, .inr (.inl w_50), .inl (8 : Int32)]) (t167 G l (c_V_some h53)) cd167 mw932 mw933 mw934 (show decode prog_14_method_59_code 118 = .ok (.invokevirtual 190, 3) by decide +kernel) th55 rfl rfl (Nat.le_of_ble_eq_true rfl) ⟨Nat.le_of_ble_eq_true rfl, Nat.le_of_ble_eq_true rfl⟩ ?_
    refine xv_b E [.aload_n 0, .iload 5, .iload 7] (pc' := 126) (lv' := [(7, .inl q_44.1), (0, .inr (.inr (some a0))), (1, .inl v1), (2, .inl v2), (5, .inl v5), (6, .inl v6)]) (st' := [.inl q_44.1, .inl v5, .inr (.inr (some a0))]) (by decide +kernel) rfl rfl ?_
    obtain ⟨b_58, h59, h⟩ := bd h
    obtain ⟨eh59, th59⟩ := g_o_some h59
    obtain ⟨q_56, h57, h⟩ := bd h
    refine xv_cvo E eh59 12 (as := [.inl v5, .inl q_44.1]) (t183 G l (c_V_some h57)) cd183 mw1043 mw1044 mw1045 (show decode prog_14_method_59_code 126 = .ok (.invokevirtual 301, 3) by decide +kernel) th59 rfl rfl (Nat.le_of_ble_eq_true rfl) ⟨Nat.le_of_ble_eq_true rfl, Nat.le_of_ble_eq_true rfl⟩ ?_
    refine xv_b E [.iinc 6 1] (pc' := 132) (lv' := [(6, .inl (v6 + (1 : Int32))), (7, .inl q_44.1), (0, .inr (.inr (some a0))), (1, .inl v1), (2, .inl v2), (5, .inl v5)]) (st' := []) (by decide +kernel) rfl rfl ?_
    refine xv_goto E 55 (show decode prog_14_method_59_code 132 = .ok (.goto (-77), 3) by decide +kernel) rfl ?_
    obtain rfl := Option.some.inj h
    exact xv_w hN rfl
end
theorem t210 (G : gX) (l : Launch) {as : List aV} {M : hM} {r : Option aV} {M' : hM} (h : f210 as M = some (r, M')) : xM G l ym210 prog_14_method_59_code 8 none 6 as M r M' := by
  unfold f210 at h
  split at h
  · have hle : ∀ h as M res, k210 h as M = some res → h_sz M ≤ r_sz res ∧ h_sl M ≤ r_sl res := by
      intro h as M res hb
      unfold k210 at hb
      by_cases e0 : h = 55
      · rw [if_pos e0] at hb
        split at hb
        · exact lb210_55 G l _ _ _ _ _ M hb
        · cases hb
      · rw [if_neg e0] at hb
        cases hb
    obtain ⟨res, hx, hres⟩ := x_go_ok h
    refine xM_of (by decide) (Nat.le_of_ble_eq_true rfl) ?_ ?_
    · have e1 := lb210_0 G l _ _ _ _ M hx
      have e2 := x_go_le hle hres
      omega
    · intro p e s m args below meth c E B
      refine sb210_0 E B _ _ _ _ M hx (hres _ ?_)
      intro h as M res hb hN
      unfold k210 at hb
      unfold pg210
      by_cases e0 : h = 55
      · rw [if_pos e0] at hb ⊢
        split at hb
        · exact sb210_55 E B _ _ _ _ _ M hb hN
        · cases hb
      · rw [if_neg e0] at hb ⊢
        cases hb
  · cases h
/-! ZFModel.hostGets(II)V -/
def ym211 : MethodName := ⟨"ZonedFabricModel", "hostGets", "(II)V"⟩
theorem cd211 : xCd ym211 prog_14_method_58_code 7 none 2 := ⟨mw1073, mw864, by decide, by decide, by decide +kernel⟩
def b211_45  (M : hM) : Option xRes :=
  some (.inl (none, M))
def b211_178  (M : hM) : Option xRes :=
  some (.inl (none, M))
def b211_344  (M : hM) : Option xRes :=
  some (.inl (none, M))
def b211_333 (a0 : Nat) (v2 : Int32) (v3 : Int32) (v5 : Int32) (si0 : Int32) (si1 : Int32) (M : hM) : Option xRes :=
  if si1 = si0 then
    (Option.bind (g_o M 12 (some a0)) fun b_117 =>
    Option.bind (c_V (f210 [.inr (.inr (some b_117)), .inl v5, .inl v2, .inl v3] M)) fun q_115 =>
    b211_344  q_115)
  else
    (b211_344  M)
def b211_273 (a0 : Nat) (v1 : Int32) (v2 : Int32) (v3 : Int32) (v4 : Int32) (M : hM) : Option xRes :=
  Option.bind (g_o M 12 (some a0)) fun b_95 =>
  Option.bind (c_I (f166 [.inr (.inr (some b_95)), .inl v2, .inl (7 : Int32), .inl (2 : Int32)] M)) fun q_93 =>
  Option.bind (g_i q_93.2 12 47 (some a0)) fun v_97 =>
  if v_97 ≤ q_93.1 then
    (b211_344  q_93.2)
  else
    (Option.bind (g_r q_93.2 12 48 (some a0)) fun o_99 =>
    Option.bind (al_i q_93.2 20 o_99 q_93.1) fun v_101 =>
    if v_101 = v1 then
      (Option.bind (g_r q_93.2 12 60 (some a0)) fun o_103 =>
      Option.bind (al_i q_93.2 20 o_103 q_93.1) fun v_105 =>
      if v_105 = v4 then
        (Option.bind (g_r q_93.2 12 56 (some a0)) fun o_107 =>
        Option.bind (al_i q_93.2 20 o_107 q_93.1) fun v_109 =>
        if v3 = (14 : Int32) then
          (b211_333 a0 v2 v3 q_93.1 (3 : Int32) v_109 q_93.2)
        else
          (b211_333 a0 v2 v3 q_93.1 (2 : Int32) v_109 q_93.2))
      else
        (b211_344  q_93.2))
    else
      (b211_344  q_93.2))
def b211_267 (a0 : Nat) (v1 : Int32) (v2 : Int32) (v3 : Int32) (v4 : Int32) (M : hM) : Option xRes :=
  if v3 = (14 : Int32) then
    (b211_273 a0 v1 v2 v3 v4 M)
  else
    (b211_344  M)
def b211_0 (a0 : Nat) (v1 : Int32) (v2 : Int32) (M : hM) : Option xRes :=
  Option.bind (g_o M 12 (some a0)) fun b_3 =>
  Option.bind (c_I (f165 [.inr (.inr (some b_3)), .inl v2, .inl (0 : Int32)] M)) fun q_1 =>
  Option.bind (g_o q_1.2 12 (some a0)) fun b_7 =>
  Option.bind (c_I (f166 [.inr (.inr (some b_7)), .inl v2, .inl (4 : Int32), .inl (3 : Int32)] q_1.2)) fun q_5 =>
  if q_1.1 = (6 : Int32) then
    (Option.bind (g_o q_5.2 12 (some a0)) fun b_26 =>
    Option.bind (c_I (f166 [.inr (.inr (some b_26)), .inl v2, .inl (14 : Int32), .inl (3 : Int32)] q_5.2)) fun q_24 =>
    if q_5.1 = (16777212 : Int32) then
      (if q_24.1 = 0 then
        (b211_45  q_24.2)
      else
        (some (.inr (49, [.inr (.inr (some a0)), .inl v1, .inl v2, .inl q_24.1, .inl (0 : Int32)], q_24.2))))
    else
      (b211_45  q_24.2))
  else
    (if q_1.1 = (8 : Int32) then
      (Option.bind (g_o q_5.2 12 (some a0)) fun b_13 =>
      Option.bind (c_I (f189 [.inr (.inr (some b_13)), .inl q_5.1] q_5.2)) fun q_11 =>
      if q_11.1 < 0 then
        (b211_178  q_11.2)
      else
        (Option.bind (g_i q_11.2 12 1 (some a0)) fun v_15 =>
        if q_11.1 < v_15 then
          (Option.bind (g_r q_11.2 12 39 (some a0)) fun o_17 =>
          Option.bind (as_i q_11.2 20 o_17 (((8 : Int32) * v1) + q_11.1) q_5.1) fun M19 =>
          some (.inr (196, [.inr (.inr (some a0)), .inl v1, .inl q_5.1, .inl (0 : Int32)], M19)))
        else
          (b211_178  q_11.2)))
    else
      (if q_1.1 < (10 : Int32) then
        (b211_267 a0 v1 v2 q_1.1 q_5.1 q_5.2)
      else
        (if q_1.1 ≤ (12 : Int32) then
          (b211_273 a0 v1 v2 q_1.1 q_5.1 q_5.2)
        else
          (b211_267 a0 v1 v2 q_1.1 q_5.1 q_5.2))))
def b211_141 (a0 : Nat) (v1 : Int32) (v2 : Int32) (v5 : Int32) (v6 : Int32) (M : hM) : Option xRes :=
  some (.inr (49, [.inr (.inr (some a0)), .inl v1, .inl v2, .inl v5, .inl (v6 + (1 : Int32))], M))
def b211_138 (a0 : Nat) (v1 : Int32) (v2 : Int32) (v5 : Int32) (v6 : Int32) (si0 : Int32) (si1 : Int32) (sr2 : Option Nat) (M : hM) : Option xRes :=
  Option.bind (g_o M 12 sr2) fun b_68 =>
  Option.bind (c_V (f206 [.inr (.inr (some b_68)), .inl si1, .inl si0] M)) fun q_66 =>
  b211_141 a0 v1 v2 v5 v6 q_66
def b211_49 (a0 : Nat) (v1 : Int32) (v2 : Int32) (v5 : Int32) (v6 : Int32) (M : hM) : Option xRes :=
  Option.bind (g_i M 12 47 (some a0)) fun v_31 =>
  if v_31 ≤ v6 then
    (b211_344  M)
  else
    (Option.bind (g_r M 12 48 (some a0)) fun o_33 =>
    Option.bind (al_i M 20 o_33 v6) fun v_35 =>
    if v_35 = v1 then
      (Option.bind (g_r M 12 56 (some a0)) fun o_37 =>
      Option.bind (al_i M 20 o_37 v6) fun v_39 =>
      if v_39 = 0 then
        (Option.bind (g_r M 12 49 (some a0)) fun o_41 =>
        Option.bind (al_i M 20 o_41 v6) fun v_43 =>
        Option.bind (g_o M 12 (some a0)) fun b_47 =>
        Option.bind (c_I (f165 [.inr (.inr (some b_47)), .inl v2, .inl (13 : Int32)] M)) fun q_45 =>
        if v_43 = q_45.1 then
          (Option.bind (g_r q_45.2 12 60 (some a0)) fun o_49 =>
          Option.bind (as_i q_45.2 20 o_49 v6 v5) fun M51 =>
          Option.bind (g_r M51 12 39 (some a0)) fun o_53 =>
          Option.bind (g_r M51 12 49 (some a0)) fun o_55 =>
          Option.bind (al_i M51 20 o_55 v6) fun v_57 =>
          Option.bind (al_i M51 20 o_53 (((8 : Int32) * v1) + v_57)) fun v_59 =>
          if v_59 = v5 then
            (b211_138 a0 v1 v2 v5 v6 (2 : Int32) v6 (some a0) M51)
          else
            (b211_138 a0 v1 v2 v5 v6 (1 : Int32) v6 (some a0) M51))
        else
          (b211_141 a0 v1 v2 v5 v6 q_45.2))
      else
        (b211_141 a0 v1 v2 v5 v6 M))
    else
      (b211_141 a0 v1 v2 v5 v6 M))
def b211_246 (a0 : Nat) (v1 : Int32) (v4 : Int32) (v6 : Int32) (M : hM) : Option xRes :=
  some (.inr (196, [.inr (.inr (some a0)), .inl v1, .inl v4, .inl (v6 + (1 : Int32))], M))
def b211_196 (a0 : Nat) (v1 : Int32) (v4 : Int32) (v6 : Int32) (M : hM) : Option xRes :=
  Option.bind (g_i M 12 47 (some a0)) fun v_70 =>
  if v_70 ≤ v6 then
    (b211_344  M)
  else
    (Option.bind (g_r M 12 48 (some a0)) fun o_72 =>
    Option.bind (al_i M 20 o_72 v6) fun v_74 =>
    if v_74 = v1 then
      (Option.bind (g_r M 12 56 (some a0)) fun o_76 =>
      Option.bind (al_i M 20 o_76 v6) fun v_78 =>
      if v_78 = (1 : Int32) then
        (Option.bind (g_r M 12 60 (some a0)) fun o_80 =>
        Option.bind (al_i M 20 o_80 v6) fun v_82 =>
        if v_82 = v4 then
          (Option.bind (g_o M 12 (some a0)) fun b_86 =>
          Option.bind (c_V (f206 [.inr (.inr (some b_86)), .inl v6, .inl (2 : Int32)] M)) fun q_84 =>
          b211_246 a0 v1 v4 v6 q_84)
        else
          (b211_246 a0 v1 v4 v6 M))
      else
        (b211_246 a0 v1 v4 v6 M))
    else
      (b211_246 a0 v1 v4 v6 M))
def k211 (h : Nat) (as : List aV) (M : hM) : Option xRes :=
  if h = 49 then (match as with | [.inr (.inr (some a0)), .inl v1, .inl v2, .inl v5, .inl v6] => b211_49 a0 v1 v2 v5 v6 M | _ => none) else
  if h = 196 then (match as with | [.inr (.inr (some a0)), .inl v1, .inl v4, .inl v6] => b211_196 a0 v1 v4 v6 M | _ => none) else
  none
def f211 (as : List aV) (M : hM) : xO := match as with
  | [.inr (.inr (some a0)), .inl v1, .inl v2] => x_go k211 (b211_0 a0 v1 v2 M)
  | _ => none
theorem lb211_45 (G : gX) (l : Launch)  (M : hM) {res : xRes} (h : b211_45  M = some res) : h_sz M ≤ r_sz res ∧ h_sl M ≤ r_sl res := by
  unfold b211_45 at h
  obtain rfl := Option.some.inj h
  show h_sz M ≤ h_sz M ∧ h_sl M ≤ h_sl M
  omega
theorem lb211_178 (G : gX) (l : Launch)  (M : hM) {res : xRes} (h : b211_178  M = some res) : h_sz M ≤ r_sz res ∧ h_sl M ≤ r_sl res := by
  unfold b211_178 at h
  obtain rfl := Option.some.inj h
  show h_sz M ≤ h_sz M ∧ h_sl M ≤ h_sl M
  omega
theorem lb211_344 (G : gX) (l : Launch)  (M : hM) {res : xRes} (h : b211_344  M = some res) : h_sz M ≤ r_sz res ∧ h_sl M ≤ r_sl res := by
  unfold b211_344 at h
  obtain rfl := Option.some.inj h
  show h_sz M ≤ h_sz M ∧ h_sl M ≤ h_sl M
  omega
theorem lb211_333 (G : gX) (l : Launch) (a0 : Nat) (v2 : Int32) (v3 : Int32) (v5 : Int32) (si0 : Int32) (si1 : Int32) (M : hM) {res : xRes} (h : b211_333 a0 v2 v3 v5 si0 si1 M = some res) : h_sz M ≤ r_sz res ∧ h_sl M ≤ r_sl res := by
  unfold b211_333 at h
  by_cases q119 : si1 = si0
  · rw [if_pos q119] at h
    obtain ⟨b_117, h118, h⟩ := bd h
    obtain ⟨q_115, h116, h⟩ := bd h
    have eh116 := (t210 G l (c_V_some h116)).1
    have e := lb211_344 G l  q_115 h
    omega
  · rw [if_neg q119] at h
    have e := lb211_344 G l  M h
    omega
theorem lb211_273 (G : gX) (l : Launch) (a0 : Nat) (v1 : Int32) (v2 : Int32) (v3 : Int32) (v4 : Int32) (M : hM) {res : xRes} (h : b211_273 a0 v1 v2 v3 v4 M = some res) : h_sz M ≤ r_sz res ∧ h_sl M ≤ r_sl res := by
  unfold b211_273 at h
  obtain ⟨b_95, h96, h⟩ := bd h
  obtain ⟨q_93, h94, h⟩ := bd h
  have eh94 := (t166 G l (c_I_some h94)).1
  obtain ⟨v_97, h98, h⟩ := bd h
  by_cases q114 : v_97 ≤ q_93.1
  · rw [if_pos q114] at h
    have e := lb211_344 G l  q_93.2 h
    omega
  · rw [if_neg q114] at h
    obtain ⟨o_99, h100, h⟩ := bd h
    obtain ⟨v_101, h102, h⟩ := bd h
    by_cases q113 : v_101 = v1
    · rw [if_pos q113] at h
      obtain ⟨o_103, h104, h⟩ := bd h
      obtain ⟨v_105, h106, h⟩ := bd h
      by_cases q112 : v_105 = v4
      · rw [if_pos q112] at h
        obtain ⟨o_107, h108, h⟩ := bd h
        obtain ⟨v_109, h110, h⟩ := bd h
        by_cases q111 : v3 = (14 : Int32)
        · rw [if_pos q111] at h
          have e := lb211_333 G l a0 v2 v3 q_93.1 (3 : Int32) v_109 q_93.2 h
          omega
        · rw [if_neg q111] at h
          have e := lb211_333 G l a0 v2 v3 q_93.1 (2 : Int32) v_109 q_93.2 h
          omega
      · rw [if_neg q112] at h
        have e := lb211_344 G l  q_93.2 h
        omega
    · rw [if_neg q113] at h
      have e := lb211_344 G l  q_93.2 h
      omega
theorem lb211_267 (G : gX) (l : Launch) (a0 : Nat) (v1 : Int32) (v2 : Int32) (v3 : Int32) (v4 : Int32) (M : hM) {res : xRes} (h : b211_267 a0 v1 v2 v3 v4 M = some res) : h_sz M ≤ r_sz res ∧ h_sl M ≤ r_sl res := by
  unfold b211_267 at h
  by_cases q92 : v3 = (14 : Int32)
  · rw [if_pos q92] at h
    have e := lb211_273 G l a0 v1 v2 v3 v4 M h
    omega
  · rw [if_neg q92] at h
    have e := lb211_344 G l  M h
    omega
theorem lb211_0 (G : gX) (l : Launch) (a0 : Nat) (v1 : Int32) (v2 : Int32) (M : hM) {res : xRes} (h : b211_0 a0 v1 v2 M = some res) : h_sz M ≤ r_sz res ∧ h_sl M ≤ r_sl res := by
  unfold b211_0 at h
  obtain ⟨b_3, h4, h⟩ := bd h
  obtain ⟨q_1, h2, h⟩ := bd h
  have eh2 := (t165 G l (c_I_some h2)).1
  obtain ⟨b_7, h8, h⟩ := bd h
  obtain ⟨q_5, h6, h⟩ := bd h
  have eh6 := (t166 G l (c_I_some h6)).1
  by_cases q30 : q_1.1 = (6 : Int32)
  · rw [if_pos q30] at h
    obtain ⟨b_26, h27, h⟩ := bd h
    obtain ⟨q_24, h25, h⟩ := bd h
    have eh25 := (t166 G l (c_I_some h25)).1
    by_cases q29 : q_5.1 = (16777212 : Int32)
    · rw [if_pos q29] at h
      by_cases q28 : q_24.1 = 0
      · rw [if_pos q28] at h
        have e := lb211_45 G l  q_24.2 h
        omega
      · rw [if_neg q28] at h
        obtain rfl := Option.some.inj h
        show h_sz M ≤ h_sz q_24.2 ∧ h_sl M ≤ h_sl q_24.2
        omega
    · rw [if_neg q29] at h
      have e := lb211_45 G l  q_24.2 h
      omega
  · rw [if_neg q30] at h
    by_cases q23 : q_1.1 = (8 : Int32)
    · rw [if_pos q23] at h
      obtain ⟨b_13, h14, h⟩ := bd h
      obtain ⟨q_11, h12, h⟩ := bd h
      have eh12 := (t189 G l (c_I_some h12)).1
      by_cases q22 : q_11.1 < 0
      · rw [if_pos q22] at h
        have e := lb211_178 G l  q_11.2 h
        omega
      · rw [if_neg q22] at h
        obtain ⟨v_15, h16, h⟩ := bd h
        by_cases q21 : q_11.1 < v_15
        · rw [if_pos q21] at h
          obtain ⟨o_17, h18, h⟩ := bd h
          obtain ⟨M19, h20, h⟩ := bd h
          have eh20 := as_i_sz h20
          obtain rfl := Option.some.inj h
          show h_sz M ≤ h_sz M19 ∧ h_sl M ≤ h_sl M19
          omega
        · rw [if_neg q21] at h
          have e := lb211_178 G l  q_11.2 h
          omega
    · rw [if_neg q23] at h
      by_cases q10 : q_1.1 < (10 : Int32)
      · rw [if_pos q10] at h
        have e := lb211_267 G l a0 v1 v2 q_1.1 q_5.1 q_5.2 h
        omega
      · rw [if_neg q10] at h
        by_cases q9 : q_1.1 ≤ (12 : Int32)
        · rw [if_pos q9] at h
          have e := lb211_273 G l a0 v1 v2 q_1.1 q_5.1 q_5.2 h
          omega
        · rw [if_neg q9] at h
          have e := lb211_267 G l a0 v1 v2 q_1.1 q_5.1 q_5.2 h
          omega
theorem lb211_141 (G : gX) (l : Launch) (a0 : Nat) (v1 : Int32) (v2 : Int32) (v5 : Int32) (v6 : Int32) (M : hM) {res : xRes} (h : b211_141 a0 v1 v2 v5 v6 M = some res) : h_sz M ≤ r_sz res ∧ h_sl M ≤ r_sl res := by
  unfold b211_141 at h
  obtain rfl := Option.some.inj h
  show h_sz M ≤ h_sz M ∧ h_sl M ≤ h_sl M
  omega
theorem lb211_138 (G : gX) (l : Launch) (a0 : Nat) (v1 : Int32) (v2 : Int32) (v5 : Int32) (v6 : Int32) (si0 : Int32) (si1 : Int32) (sr2 : Option Nat) (M : hM) {res : xRes} (h : b211_138 a0 v1 v2 v5 v6 si0 si1 sr2 M = some res) : h_sz M ≤ r_sz res ∧ h_sl M ≤ r_sl res := by
  unfold b211_138 at h
  obtain ⟨b_68, h69, h⟩ := bd h
  obtain ⟨q_66, h67, h⟩ := bd h
  have eh67 := (t206 G l (c_V_some h67)).1
  have e := lb211_141 G l a0 v1 v2 v5 v6 q_66 h
  omega
theorem lb211_49 (G : gX) (l : Launch) (a0 : Nat) (v1 : Int32) (v2 : Int32) (v5 : Int32) (v6 : Int32) (M : hM) {res : xRes} (h : b211_49 a0 v1 v2 v5 v6 M = some res) : h_sz M ≤ r_sz res ∧ h_sl M ≤ r_sl res := by
  unfold b211_49 at h
  obtain ⟨v_31, h32, h⟩ := bd h
  by_cases q65 : v_31 ≤ v6
  · rw [if_pos q65] at h
    have e := lb211_344 G l  M h
    omega
  · rw [if_neg q65] at h
    obtain ⟨o_33, h34, h⟩ := bd h
    obtain ⟨v_35, h36, h⟩ := bd h
    by_cases q64 : v_35 = v1
    · rw [if_pos q64] at h
      obtain ⟨o_37, h38, h⟩ := bd h
      obtain ⟨v_39, h40, h⟩ := bd h
      by_cases q63 : v_39 = 0
      · rw [if_pos q63] at h
        obtain ⟨o_41, h42, h⟩ := bd h
        obtain ⟨v_43, h44, h⟩ := bd h
        obtain ⟨b_47, h48, h⟩ := bd h
        obtain ⟨q_45, h46, h⟩ := bd h
        have eh46 := (t165 G l (c_I_some h46)).1
        by_cases q62 : v_43 = q_45.1
        · rw [if_pos q62] at h
          obtain ⟨o_49, h50, h⟩ := bd h
          obtain ⟨M51, h52, h⟩ := bd h
          have eh52 := as_i_sz h52
          obtain ⟨o_53, h54, h⟩ := bd h
          obtain ⟨o_55, h56, h⟩ := bd h
          obtain ⟨v_57, h58, h⟩ := bd h
          obtain ⟨v_59, h60, h⟩ := bd h
          by_cases q61 : v_59 = v5
          · rw [if_pos q61] at h
            have e := lb211_138 G l a0 v1 v2 v5 v6 (2 : Int32) v6 (some a0) M51 h
            omega
          · rw [if_neg q61] at h
            have e := lb211_138 G l a0 v1 v2 v5 v6 (1 : Int32) v6 (some a0) M51 h
            omega
        · rw [if_neg q62] at h
          have e := lb211_141 G l a0 v1 v2 v5 v6 q_45.2 h
          omega
      · rw [if_neg q63] at h
        have e := lb211_141 G l a0 v1 v2 v5 v6 M h
        omega
    · rw [if_neg q64] at h
      have e := lb211_141 G l a0 v1 v2 v5 v6 M h
      omega
theorem lb211_246 (G : gX) (l : Launch) (a0 : Nat) (v1 : Int32) (v4 : Int32) (v6 : Int32) (M : hM) {res : xRes} (h : b211_246 a0 v1 v4 v6 M = some res) : h_sz M ≤ r_sz res ∧ h_sl M ≤ r_sl res := by
  unfold b211_246 at h
  obtain rfl := Option.some.inj h
  show h_sz M ≤ h_sz M ∧ h_sl M ≤ h_sl M
  omega
theorem lb211_196 (G : gX) (l : Launch) (a0 : Nat) (v1 : Int32) (v4 : Int32) (v6 : Int32) (M : hM) {res : xRes} (h : b211_196 a0 v1 v4 v6 M = some res) : h_sz M ≤ r_sz res ∧ h_sl M ≤ r_sl res := by
  unfold b211_196 at h
  obtain ⟨v_70, h71, h⟩ := bd h
  by_cases q91 : v_70 ≤ v6
  · rw [if_pos q91] at h
    have e := lb211_344 G l  M h
    omega
  · rw [if_neg q91] at h
    obtain ⟨o_72, h73, h⟩ := bd h
    obtain ⟨v_74, h75, h⟩ := bd h
    by_cases q90 : v_74 = v1
    · rw [if_pos q90] at h
      obtain ⟨o_76, h77, h⟩ := bd h
      obtain ⟨v_78, h79, h⟩ := bd h
      by_cases q89 : v_78 = (1 : Int32)
      · rw [if_pos q89] at h
        obtain ⟨o_80, h81, h⟩ := bd h
        obtain ⟨v_82, h83, h⟩ := bd h
        by_cases q88 : v_82 = v4
        · rw [if_pos q88] at h
          obtain ⟨b_86, h87, h⟩ := bd h
          obtain ⟨q_84, h85, h⟩ := bd h
          have eh85 := (t206 G l (c_V_some h85)).1
          have e := lb211_246 G l a0 v1 v4 v6 q_84 h
          omega
        · rw [if_neg q88] at h
          have e := lb211_246 G l a0 v1 v4 v6 M h
          omega
      · rw [if_neg q89] at h
        have e := lb211_246 G l a0 v1 v4 v6 M h
        omega
    · rw [if_neg q90] at h
      have e := lb211_246 G l a0 v1 v4 v6 M h
      omega
section
variable {p : Program} {l : Launch} {e : Env} {s : State} {m : MethodId} {args : Array Value} {below : List Frame} {meth : Method} {c : Code} {G : gX} {z0 y0 : Nat} {r : Option aV} {M' : hM}
def pg211 (p : Program) (l : Launch) (e : Env) (s : State) (m : MethodId) (args : Array Value) (below : List Frame) (meth : Method) (c : Code) (G : gX) (z0 y0 : Nat) (r : Option aV) (M' : hM) (h : Nat) (as : List aV) (M : hM) : Prop :=
  if h = 49 then (match as with | [.inr (.inr (some a0)), .inl v1, .inl v2, .inl v5, .inl v6] => xV G p l e (xRm 7 (h_sz M' - z0) (h_sl M' - y0)) s m args below meth c z0 y0 (h_sz M') (h_sl M') 7 (MQ below (xQc G r M') args s (h_sz M' - z0) (h_sl M' - y0) (xFr G)) 49 [(0, .inr (.inr (some a0))), (1, .inl v1), (2, .inl v2), (5, .inl v5), (6, .inl v6)] [] M | _ => False) else
  if h = 196 then (match as with | [.inr (.inr (some a0)), .inl v1, .inl v4, .inl v6] => xV G p l e (xRm 7 (h_sz M' - z0) (h_sl M' - y0)) s m args below meth c z0 y0 (h_sz M') (h_sl M') 7 (MQ below (xQc G r M') args s (h_sz M' - z0) (h_sl M' - y0) (xFr G)) 196 [(0, .inr (.inr (some a0))), (1, .inl v1), (4, .inl v4), (6, .inl v6)] [] M | _ => False) else
  False
theorem sb211_45 (E : xE G p (xRm 7 (h_sz M' - z0) (h_sl M' - y0)) s m args c prog_14_method_58_code "ZonedFabricModel" z0 y0 (h_sz M') (h_sl M') 7) (B : xB ym211 none meth)  (M : hM) {res : xRes} (h : b211_45  M = some res) (hN : xN (pg211 p l e s m args below meth c G z0 y0 r M') r M' res) : xV G p l e (xRm 7 (h_sz M' - z0) (h_sl M' - y0)) s m args below meth c z0 y0 (h_sz M') (h_sl M') 7 (MQ below (xQc G r M') args s (h_sz M' - z0) (h_sl M' - y0) (xFr G)) 45 [] [] M := by
  unfold b211_45 at h
  obtain rfl := Option.some.inj h
  obtain ⟨rfl, rfl⟩ := Prod.mk.inj (show ((none : Option aV), M) = (r, M') from hN)
  exact xv_rv E B.1 B.2.1 (show decode prog_14_method_58_code 45 = .ok (.return_, 1) by decide +kernel) rfl rfl
theorem sb211_178 (E : xE G p (xRm 7 (h_sz M' - z0) (h_sl M' - y0)) s m args c prog_14_method_58_code "ZonedFabricModel" z0 y0 (h_sz M') (h_sl M') 7) (B : xB ym211 none meth)  (M : hM) {res : xRes} (h : b211_178  M = some res) (hN : xN (pg211 p l e s m args below meth c G z0 y0 r M') r M' res) : xV G p l e (xRm 7 (h_sz M' - z0) (h_sl M' - y0)) s m args below meth c z0 y0 (h_sz M') (h_sl M') 7 (MQ below (xQc G r M') args s (h_sz M' - z0) (h_sl M' - y0) (xFr G)) 178 [] [] M := by
  unfold b211_178 at h
  obtain rfl := Option.some.inj h
  obtain ⟨rfl, rfl⟩ := Prod.mk.inj (show ((none : Option aV), M) = (r, M') from hN)
  exact xv_rv E B.1 B.2.1 (show decode prog_14_method_58_code 178 = .ok (.return_, 1) by decide +kernel) rfl rfl
theorem sb211_344 (E : xE G p (xRm 7 (h_sz M' - z0) (h_sl M' - y0)) s m args c prog_14_method_58_code "ZonedFabricModel" z0 y0 (h_sz M') (h_sl M') 7) (B : xB ym211 none meth)  (M : hM) {res : xRes} (h : b211_344  M = some res) (hN : xN (pg211 p l e s m args below meth c G z0 y0 r M') r M' res) : xV G p l e (xRm 7 (h_sz M' - z0) (h_sl M' - y0)) s m args below meth c z0 y0 (h_sz M') (h_sl M') 7 (MQ below (xQc G r M') args s (h_sz M' - z0) (h_sl M' - y0) (xFr G)) 344 [] [] M := by
  unfold b211_344 at h
  obtain rfl := Option.some.inj h
  obtain ⟨rfl, rfl⟩ := Prod.mk.inj (show ((none : Option aV), M) = (r, M') from hN)
  exact xv_rv E B.1 B.2.1 (show decode prog_14_method_58_code 344 = .ok (.return_, 1) by decide +kernel) rfl rfl
theorem sb211_333 (E : xE G p (xRm 7 (h_sz M' - z0) (h_sl M' - y0)) s m args c prog_14_method_58_code "ZonedFabricModel" z0 y0 (h_sz M') (h_sl M') 7) (B : xB ym211 none meth) (a0 : Nat) (v2 : Int32) (v3 : Int32) (v5 : Int32) (si0 : Int32) (si1 : Int32) (M : hM) {res : xRes} (h : b211_333 a0 v2 v3 v5 si0 si1 M = some res) (hN : xN (pg211 p l e s m args below meth c G z0 y0 r M') r M' res) : xV G p l e (xRm 7 (h_sz M' - z0) (h_sl M' - y0)) s m args below meth c z0 y0 (h_sz M') (h_sl M') 7 (MQ below (xQc G r M') args s (h_sz M' - z0) (h_sl M' - y0) (xFr G)) 333 [(0, .inr (.inr (some a0))), (2, .inl v2), (3, .inl v3), (5, .inl v5)] [.inl si0, .inl si1] M := by
  unfold b211_333 at h
  by_cases q119 : si1 = si0
  · rw [if_pos q119] at h
    refine xv_icmp_ne E 344 (show decode prog_14_method_58_code 333 = .ok (.if_icmp .ne (11), 3) by decide +kernel) rfl (fun z => absurd q119 z) (fun _ => ?_)
    refine xv_b E [.aload_n 0, .iload 5, .iload_n 2, .iload_n 3] (pc' := 341) (lv' := [(0, .inr (.inr (some a0))), (2, .inl v2), (3, .inl v3), (5, .inl v5)]) (st' := [.inl v3, .inl v2, .inl v5, .inr (.inr (some a0))]) (by decide +kernel) rfl rfl ?_
    obtain ⟨b_117, h118, h⟩ := bd h
    obtain ⟨eh118, th118⟩ := g_o_some h118
    obtain ⟨q_115, h116, h⟩ := bd h
    refine xv_cvo E eh118 12 (as := [.inl v5, .inl v2, .inl v3]) (t210 G l (c_V_some h116)) cd210 mw1077 mw1078 mw1079 (show decode prog_14_method_58_code 341 = .ok (.invokevirtual 387, 3) by decide +kernel) th118 rfl rfl (Nat.le_of_ble_eq_true rfl) ⟨Nat.le_of_ble_eq_true rfl, Nat.le_of_ble_eq_true rfl⟩ ?_
    exact xv_w (sb211_344 E B  q_115 h hN) rfl
  · rw [if_neg q119] at h
    refine xv_icmp_ne E 344 (show decode prog_14_method_58_code 333 = .ok (.if_icmp .ne (11), 3) by decide +kernel) rfl (fun _ => ?_) (fun z => absurd z q119)
    exact xv_w (sb211_344 E B  M h hN) rfl
theorem sb211_273 (E : xE G p (xRm 7 (h_sz M' - z0) (h_sl M' - y0)) s m args c prog_14_method_58_code "ZonedFabricModel" z0 y0 (h_sz M') (h_sl M') 7) (B : xB ym211 none meth) (a0 : Nat) (v1 : Int32) (v2 : Int32) (v3 : Int32) (v4 : Int32) (M : hM) {res : xRes} (h : b211_273 a0 v1 v2 v3 v4 M = some res) (hN : xN (pg211 p l e s m args below meth c G z0 y0 r M') r M' res) : xV G p l e (xRm 7 (h_sz M' - z0) (h_sl M' - y0)) s m args below meth c z0 y0 (h_sz M') (h_sl M') 7 (MQ below (xQc G r M') args s (h_sz M' - z0) (h_sl M' - y0) (xFr G)) 273 [(0, .inr (.inr (some a0))), (1, .inl v1), (2, .inl v2), (3, .inl v3), (4, .inl v4)] [] M := by
  unfold b211_273 at h
  refine xv_b E [.aload_n 0, .iload_n 2, .bipush 7, .iconst 2] (pc' := 278) (lv' := [(0, .inr (.inr (some a0))), (1, .inl v1), (2, .inl v2), (3, .inl v3), (4, .inl v4)]) (st' := [.inl (2 : Int32), .inl (7 : Int32), .inl v2, .inr (.inr (some a0))]) (by decide +kernel) rfl rfl ?_
  obtain ⟨b_95, h96, h⟩ := bd h
  obtain ⟨eh96, th96⟩ := g_o_some h96
  obtain ⟨q_93, h94, h⟩ := bd h
  refine xv_cvo E eh96 12 (as := [.inl v2, .inl (7 : Int32), .inl (2 : Int32)]) (t166 G l (c_I_some h94)) cd166 mw947 mw948 mw949 (show decode prog_14_method_58_code 278 = .ok (.invokevirtual 198, 3) by decide +kernel) th96 rfl rfl (Nat.le_of_ble_eq_true rfl) ⟨Nat.le_of_ble_eq_true rfl, Nat.le_of_ble_eq_true rfl⟩ ?_
  refine xv_b E [.istore 5, .iload 5, .aload_n 0] (pc' := 286) (lv' := [(5, .inl q_93.1), (0, .inr (.inr (some a0))), (1, .inl v1), (2, .inl v2), (3, .inl v3), (4, .inl v4)]) (st' := [.inr (.inr (some a0)), .inl q_93.1]) (by decide +kernel) rfl rfl ?_
  obtain ⟨v_97, h98, h⟩ := bd h
  refine xg_i E 12 47 h98 mw1061 (show decode prog_14_method_58_code 286 = .ok (.getfield 364, 3) by decide +kernel) ?_
  by_cases q114 : v_97 ≤ q_93.1
  · rw [if_pos q114] at h
    refine xv_icmp_ge E 344 (show decode prog_14_method_58_code 289 = .ok (.if_icmp .ge (55), 3) by decide +kernel) rfl (fun _ => ?_) (fun z => absurd q114 z)
    exact xv_w (sb211_344 E B  q_93.2 h hN) rfl
  · rw [if_neg q114] at h
    refine xv_icmp_ge E 344 (show decode prog_14_method_58_code 289 = .ok (.if_icmp .ge (55), 3) by decide +kernel) rfl (fun z => absurd z q114) (fun _ => ?_)
    refine xv_b E [.aload_n 0] (pc' := 293) (lv' := [(5, .inl q_93.1), (0, .inr (.inr (some a0))), (1, .inl v1), (2, .inl v2), (3, .inl v3), (4, .inl v4)]) (st' := [.inr (.inr (some a0))]) (by decide +kernel) rfl rfl ?_
    obtain ⟨o_99, h100, h⟩ := bd h
    refine xg_r E 12 48 h100 mw906 (show decode prog_14_method_58_code 293 = .ok (.getfield 134, 3) by decide +kernel) ?_
    refine xv_b E [.iload 5] (pc' := 298) (lv' := [(5, .inl q_93.1), (0, .inr (.inr (some a0))), (1, .inl v1), (2, .inl v2), (3, .inl v3), (4, .inl v4)]) (st' := [.inl q_93.1, .inr (.inr o_99)]) (by decide +kernel) rfl rfl ?_
    obtain ⟨v_101, h102, h⟩ := bd h
    refine xa_i E h102 (show decode prog_14_method_58_code 298 = .ok (.iaload, 1) by decide +kernel) ?_
    refine xv_b E [.iload_n 1] (pc' := 300) (lv' := [(5, .inl q_93.1), (0, .inr (.inr (some a0))), (1, .inl v1), (2, .inl v2), (3, .inl v3), (4, .inl v4)]) (st' := [.inl v1, .inl v_101]) (by decide +kernel) rfl rfl ?_
    by_cases q113 : v_101 = v1
    · rw [if_pos q113] at h
      refine xv_icmp_ne E 344 (show decode prog_14_method_58_code 300 = .ok (.if_icmp .ne (44), 3) by decide +kernel) rfl (fun z => absurd q113 z) (fun _ => ?_)
      refine xv_b E [.aload_n 0] (pc' := 304) (lv' := [(5, .inl q_93.1), (0, .inr (.inr (some a0))), (1, .inl v1), (2, .inl v2), (3, .inl v3), (4, .inl v4)]) (st' := [.inr (.inr (some a0))]) (by decide +kernel) rfl rfl ?_
      obtain ⟨o_103, h104, h⟩ := bd h
      refine xg_r E 12 60 h104 mw918 (show decode prog_14_method_58_code 304 = .ok (.getfield 170, 3) by decide +kernel) ?_
      refine xv_b E [.iload 5] (pc' := 309) (lv' := [(5, .inl q_93.1), (0, .inr (.inr (some a0))), (1, .inl v1), (2, .inl v2), (3, .inl v3), (4, .inl v4)]) (st' := [.inl q_93.1, .inr (.inr o_103)]) (by decide +kernel) rfl rfl ?_
      obtain ⟨v_105, h106, h⟩ := bd h
      refine xa_i E h106 (show decode prog_14_method_58_code 309 = .ok (.iaload, 1) by decide +kernel) ?_
      refine xv_b E [.iload 4] (pc' := 312) (lv' := [(5, .inl q_93.1), (0, .inr (.inr (some a0))), (1, .inl v1), (2, .inl v2), (3, .inl v3), (4, .inl v4)]) (st' := [.inl v4, .inl v_105]) (by decide +kernel) rfl rfl ?_
      by_cases q112 : v_105 = v4
      · rw [if_pos q112] at h
        refine xv_icmp_ne E 344 (show decode prog_14_method_58_code 312 = .ok (.if_icmp .ne (32), 3) by decide +kernel) rfl (fun z => absurd q112 z) (fun _ => ?_)
        refine xv_b E [.aload_n 0] (pc' := 316) (lv' := [(5, .inl q_93.1), (0, .inr (.inr (some a0))), (1, .inl v1), (2, .inl v2), (3, .inl v3), (4, .inl v4)]) (st' := [.inr (.inr (some a0))]) (by decide +kernel) rfl rfl ?_
        obtain ⟨o_107, h108, h⟩ := bd h
        refine xg_r E 12 56 h108 mw914 (show decode prog_14_method_58_code 316 = .ok (.getfield 158, 3) by decide +kernel) ?_
        refine xv_b E [.iload 5] (pc' := 321) (lv' := [(5, .inl q_93.1), (0, .inr (.inr (some a0))), (1, .inl v1), (2, .inl v2), (3, .inl v3), (4, .inl v4)]) (st' := [.inl q_93.1, .inr (.inr o_107)]) (by decide +kernel) rfl rfl ?_
        obtain ⟨v_109, h110, h⟩ := bd h
        refine xa_i E h110 (show decode prog_14_method_58_code 321 = .ok (.iaload, 1) by decide +kernel) ?_
        refine xv_b E [.iload_n 3, .bipush 14] (pc' := 325) (lv' := [(5, .inl q_93.1), (0, .inr (.inr (some a0))), (1, .inl v1), (2, .inl v2), (3, .inl v3), (4, .inl v4)]) (st' := [.inl (14 : Int32), .inl v3, .inl v_109]) (by decide +kernel) rfl rfl ?_
        by_cases q111 : v3 = (14 : Int32)
        · rw [if_pos q111] at h
          refine xv_icmp_ne E 332 (show decode prog_14_method_58_code 325 = .ok (.if_icmp .ne (7), 3) by decide +kernel) rfl (fun z => absurd q111 z) (fun _ => ?_)
          refine xv_b E [.iconst 3] (pc' := 329) (lv' := [(5, .inl q_93.1), (0, .inr (.inr (some a0))), (1, .inl v1), (2, .inl v2), (3, .inl v3), (4, .inl v4)]) (st' := [.inl (3 : Int32), .inl v_109]) (by decide +kernel) rfl rfl ?_
          refine xv_goto E 333 (show decode prog_14_method_58_code 329 = .ok (.goto (4), 3) by decide +kernel) rfl ?_
          exact xv_w (sb211_333 E B a0 v2 v3 q_93.1 (3 : Int32) v_109 q_93.2 h hN) rfl
        · rw [if_neg q111] at h
          refine xv_icmp_ne E 332 (show decode prog_14_method_58_code 325 = .ok (.if_icmp .ne (7), 3) by decide +kernel) rfl (fun _ => ?_) (fun z => absurd z q111)
          refine xv_b E [.iconst 2] (pc' := 333) (lv' := [(5, .inl q_93.1), (0, .inr (.inr (some a0))), (1, .inl v1), (2, .inl v2), (3, .inl v3), (4, .inl v4)]) (st' := [.inl (2 : Int32), .inl v_109]) (by decide +kernel) rfl rfl ?_
          exact xv_w (sb211_333 E B a0 v2 v3 q_93.1 (2 : Int32) v_109 q_93.2 h hN) rfl
      · rw [if_neg q112] at h
        refine xv_icmp_ne E 344 (show decode prog_14_method_58_code 312 = .ok (.if_icmp .ne (32), 3) by decide +kernel) rfl (fun _ => ?_) (fun z => absurd z q112)
        exact xv_w (sb211_344 E B  q_93.2 h hN) rfl
    · rw [if_neg q113] at h
      refine xv_icmp_ne E 344 (show decode prog_14_method_58_code 300 = .ok (.if_icmp .ne (44), 3) by decide +kernel) rfl (fun _ => ?_) (fun z => absurd z q113)
      exact xv_w (sb211_344 E B  q_93.2 h hN) rfl
theorem sb211_267 (E : xE G p (xRm 7 (h_sz M' - z0) (h_sl M' - y0)) s m args c prog_14_method_58_code "ZonedFabricModel" z0 y0 (h_sz M') (h_sl M') 7) (B : xB ym211 none meth) (a0 : Nat) (v1 : Int32) (v2 : Int32) (v3 : Int32) (v4 : Int32) (M : hM) {res : xRes} (h : b211_267 a0 v1 v2 v3 v4 M = some res) (hN : xN (pg211 p l e s m args below meth c G z0 y0 r M') r M' res) : xV G p l e (xRm 7 (h_sz M' - z0) (h_sl M' - y0)) s m args below meth c z0 y0 (h_sz M') (h_sl M') 7 (MQ below (xQc G r M') args s (h_sz M' - z0) (h_sl M' - y0) (xFr G)) 267 [(0, .inr (.inr (some a0))), (1, .inl v1), (2, .inl v2), (3, .inl v3), (4, .inl v4)] [] M := by
  unfold b211_267 at h
  refine xv_b E [.iload_n 3, .bipush 14] (pc' := 270) (lv' := [(0, .inr (.inr (some a0))), (1, .inl v1), (2, .inl v2), (3, .inl v3), (4, .inl v4)]) (st' := [.inl (14 : Int32), .inl v3]) (by decide +kernel) rfl rfl ?_
  by_cases q92 : v3 = (14 : Int32)
  · rw [if_pos q92] at h
    refine xv_icmp_ne E 344 (show decode prog_14_method_58_code 270 = .ok (.if_icmp .ne (74), 3) by decide +kernel) rfl (fun z => absurd q92 z) (fun _ => ?_)
    exact xv_w (sb211_273 E B a0 v1 v2 v3 v4 M h hN) rfl
  · rw [if_neg q92] at h
    refine xv_icmp_ne E 344 (show decode prog_14_method_58_code 270 = .ok (.if_icmp .ne (74), 3) by decide +kernel) rfl (fun _ => ?_) (fun z => absurd z q92)
    exact xv_w (sb211_344 E B  M h hN) rfl
theorem sb211_0 (E : xE G p (xRm 7 (h_sz M' - z0) (h_sl M' - y0)) s m args c prog_14_method_58_code "ZonedFabricModel" z0 y0 (h_sz M') (h_sl M') 7) (B : xB ym211 none meth) (a0 : Nat) (v1 : Int32) (v2 : Int32) (M : hM) {res : xRes} (h : b211_0 a0 v1 v2 M = some res) (hN : xN (pg211 p l e s m args below meth c G z0 y0 r M') r M' res) : xV G p l e (xRm 7 (h_sz M' - z0) (h_sl M' - y0)) s m args below meth c z0 y0 (h_sz M') (h_sl M') 7 (MQ below (xQc G r M') args s (h_sz M' - z0) (h_sl M' - y0) (xFr G)) 0 [(0, .inr (.inr (some a0))), (1, .inl v1), (2, .inl v2)] [] M := by
  unfold b211_0 at h
  refine xv_b E [.aload_n 0, .iload_n 2, .iconst 0] (pc' := 3) (lv' := [(0, .inr (.inr (some a0))), (1, .inl v1), (2, .inl v2)]) (st' := [.inl (0 : Int32), .inl v2, .inr (.inr (some a0))]) (by decide +kernel) rfl rfl ?_
  obtain ⟨b_3, h4, h⟩ := bd h
  obtain ⟨eh4, th4⟩ := g_o_some h4
  obtain ⟨q_1, h2, h⟩ := bd h
  refine xv_cvo E eh4 12 (as := [.inl v2, .inl (0 : Int32)]) (t165 G l (c_I_some h2)) cd165 mw927 mw928 mw929 (show decode prog_14_method_58_code 3 = .ok (.invokevirtual 186, 3) by decide +kernel) th4 rfl rfl (Nat.le_of_ble_eq_true rfl) ⟨Nat.le_of_ble_eq_true rfl, Nat.le_of_ble_eq_true rfl⟩ ?_
  refine xv_b E [.istore_n 3, .aload_n 0, .iload_n 2, .iconst 4, .iconst 3] (pc' := 11) (lv' := [(3, .inl q_1.1), (0, .inr (.inr (some a0))), (1, .inl v1), (2, .inl v2)]) (st' := [.inl (3 : Int32), .inl (4 : Int32), .inl v2, .inr (.inr (some a0))]) (by decide +kernel) rfl rfl ?_
  obtain ⟨b_7, h8, h⟩ := bd h
  obtain ⟨eh8, th8⟩ := g_o_some h8
  obtain ⟨q_5, h6, h⟩ := bd h
  refine xv_cvo E eh8 12 (as := [.inl v2, .inl (4 : Int32), .inl (3 : Int32)]) (t166 G l (c_I_some h6)) cd166 mw947 mw948 mw949 (show decode prog_14_method_58_code 11 = .ok (.invokevirtual 198, 3) by decide +kernel) th8 rfl rfl (Nat.le_of_ble_eq_true rfl) ⟨Nat.le_of_ble_eq_true rfl, Nat.le_of_ble_eq_true rfl⟩ ?_
  refine xv_b E [.istore 4, .iload_n 3, .bipush 6] (pc' := 19) (lv' := [(4, .inl q_5.1), (3, .inl q_1.1), (0, .inr (.inr (some a0))), (1, .inl v1), (2, .inl v2)]) (st' := [.inl (6 : Int32), .inl q_1.1]) (by decide +kernel) rfl rfl ?_
  by_cases q30 : q_1.1 = (6 : Int32)
  · rw [if_pos q30] at h
    refine xv_icmp_ne E 150 (show decode prog_14_method_58_code 19 = .ok (.if_icmp .ne (131), 3) by decide +kernel) rfl (fun z => absurd q30 z) (fun _ => ?_)
    refine xv_b E [.aload_n 0, .iload_n 2, .bipush 14, .iconst 3] (pc' := 27) (lv' := [(4, .inl q_5.1), (3, .inl q_1.1), (0, .inr (.inr (some a0))), (1, .inl v1), (2, .inl v2)]) (st' := [.inl (3 : Int32), .inl (14 : Int32), .inl v2, .inr (.inr (some a0))]) (by decide +kernel) rfl rfl ?_
    obtain ⟨b_26, h27, h⟩ := bd h
    obtain ⟨eh27, th27⟩ := g_o_some h27
    obtain ⟨q_24, h25, h⟩ := bd h
    refine xv_cvo E eh27 12 (as := [.inl v2, .inl (14 : Int32), .inl (3 : Int32)]) (t166 G l (c_I_some h25)) cd166 mw947 mw948 mw949 (show decode prog_14_method_58_code 27 = .ok (.invokevirtual 198, 3) by decide +kernel) th27 rfl rfl (Nat.le_of_ble_eq_true rfl) ⟨Nat.le_of_ble_eq_true rfl, Nat.le_of_ble_eq_true rfl⟩ ?_
    refine xv_b E [.istore 5, .iload 4] (pc' := 34) (lv' := [(5, .inl q_24.1), (4, .inl q_5.1), (3, .inl q_1.1), (0, .inr (.inr (some a0))), (1, .inl v1), (2, .inl v2)]) (st' := [.inl q_5.1]) (by decide +kernel) rfl rfl ?_
    refine xv_ldcw E (16777212 : Int32) mw1039 (show decode prog_14_method_58_code 34 = .ok (.ldc_w 328, 3) by decide +kernel) ?_
    by_cases q29 : q_5.1 = (16777212 : Int32)
    · rw [if_pos q29] at h
      refine xv_icmp_ne E 45 (show decode prog_14_method_58_code 37 = .ok (.if_icmp .ne (8), 3) by decide +kernel) rfl (fun z => absurd q29 z) (fun _ => ?_)
      refine xv_b E [.iload 5] (pc' := 42) (lv' := [(5, .inl q_24.1), (4, .inl q_5.1), (3, .inl q_1.1), (0, .inr (.inr (some a0))), (1, .inl v1), (2, .inl v2)]) (st' := [.inl q_24.1]) (by decide +kernel) rfl rfl ?_
      by_cases q28 : q_24.1 = 0
      · rw [if_pos q28] at h
        refine xv_if_ne E 46 (show decode prog_14_method_58_code 42 = .ok (.ifCond .ne (4), 3) by decide +kernel) rfl (fun z => absurd q28 z) (fun _ => ?_)
        exact xv_w (sb211_45 E B  q_24.2 h hN) rfl
      · rw [if_neg q28] at h
        refine xv_if_ne E 46 (show decode prog_14_method_58_code 42 = .ok (.ifCond .ne (4), 3) by decide +kernel) rfl (fun _ => ?_) (fun z => absurd z q28)
        refine xv_b E [.iconst 0, .istore 6] (pc' := 49) (lv' := [(6, .inl (0 : Int32)), (5, .inl q_24.1), (4, .inl q_5.1), (3, .inl q_1.1), (0, .inr (.inr (some a0))), (1, .inl v1), (2, .inl v2)]) (st' := []) (by decide +kernel) rfl rfl ?_
        obtain rfl := Option.some.inj h
        exact xv_w hN rfl
    · rw [if_neg q29] at h
      refine xv_icmp_ne E 45 (show decode prog_14_method_58_code 37 = .ok (.if_icmp .ne (8), 3) by decide +kernel) rfl (fun _ => ?_) (fun z => absurd z q29)
      exact xv_w (sb211_45 E B  q_24.2 h hN) rfl
  · rw [if_neg q30] at h
    refine xv_icmp_ne E 150 (show decode prog_14_method_58_code 19 = .ok (.if_icmp .ne (131), 3) by decide +kernel) rfl (fun _ => ?_) (fun z => absurd z q30)
    refine xv_b E [.iload_n 3, .bipush 8] (pc' := 153) (lv' := [(4, .inl q_5.1), (3, .inl q_1.1), (0, .inr (.inr (some a0))), (1, .inl v1), (2, .inl v2)]) (st' := [.inl (8 : Int32), .inl q_1.1]) (by decide +kernel) rfl rfl ?_
    by_cases q23 : q_1.1 = (8 : Int32)
    · rw [if_pos q23] at h
      refine xv_icmp_ne E 255 (show decode prog_14_method_58_code 153 = .ok (.if_icmp .ne (102), 3) by decide +kernel) rfl (fun z => absurd q23 z) (fun _ => ?_)
      refine xv_b E [.aload_n 0, .iload 4] (pc' := 159) (lv' := [(4, .inl q_5.1), (3, .inl q_1.1), (0, .inr (.inr (some a0))), (1, .inl v1), (2, .inl v2)]) (st' := [.inl q_5.1, .inr (.inr (some a0))]) (by decide +kernel) rfl rfl ?_
      obtain ⟨b_13, h14, h⟩ := bd h
      obtain ⟨eh14, th14⟩ := g_o_some h14
      obtain ⟨q_11, h12, h⟩ := bd h
      refine xv_cvo E eh14 12 (as := [.inl q_5.1]) (t189 G l (c_I_some h12)) cd189 mw1074 mw1075 mw1076 (show decode prog_14_method_58_code 159 = .ok (.invokevirtual 309, 3) by decide +kernel) th14 rfl rfl (Nat.le_of_ble_eq_true rfl) ⟨Nat.le_of_ble_eq_true rfl, Nat.le_of_ble_eq_true rfl⟩ ?_
      refine xv_b E [.istore 5, .iload 5] (pc' := 166) (lv' := [(5, .inl q_11.1), (4, .inl q_5.1), (3, .inl q_1.1), (0, .inr (.inr (some a0))), (1, .inl v1), (2, .inl v2)]) (st' := [.inl q_11.1]) (by decide +kernel) rfl rfl ?_
      by_cases q22 : q_11.1 < 0
      · rw [if_pos q22] at h
        refine xv_if_lt E 178 (show decode prog_14_method_58_code 166 = .ok (.ifCond .lt (12), 3) by decide +kernel) rfl (fun _ => ?_) (fun z => absurd q22 z)
        exact xv_w (sb211_178 E B  q_11.2 h hN) rfl
      · rw [if_neg q22] at h
        refine xv_if_lt E 178 (show decode prog_14_method_58_code 166 = .ok (.ifCond .lt (12), 3) by decide +kernel) rfl (fun z => absurd z q22) (fun _ => ?_)
        refine xv_b E [.iload 5, .aload_n 0] (pc' := 172) (lv' := [(5, .inl q_11.1), (4, .inl q_5.1), (3, .inl q_1.1), (0, .inr (.inr (some a0))), (1, .inl v1), (2, .inl v2)]) (st' := [.inr (.inr (some a0)), .inl q_11.1]) (by decide +kernel) rfl rfl ?_
        obtain ⟨v_15, h16, h⟩ := bd h
        refine xg_i E 12 1 h16 mw922 (show decode prog_14_method_58_code 172 = .ok (.getfield 177, 3) by decide +kernel) ?_
        by_cases q21 : q_11.1 < v_15
        · rw [if_pos q21] at h
          refine xv_icmp_lt E 179 (show decode prog_14_method_58_code 175 = .ok (.if_icmp .lt (4), 3) by decide +kernel) rfl (fun _ => ?_) (fun z => absurd q21 z)
          refine xv_b E [.aload_n 0] (pc' := 180) (lv' := [(5, .inl q_11.1), (4, .inl q_5.1), (3, .inl q_1.1), (0, .inr (.inr (some a0))), (1, .inl v1), (2, .inl v2)]) (st' := [.inr (.inr (some a0))]) (by decide +kernel) rfl rfl ?_
          obtain ⟨o_17, h18, h⟩ := bd h
          refine xg_r E 12 39 h18 mw898 (show decode prog_14_method_58_code 180 = .ok (.getfield 109, 3) by decide +kernel) ?_
          refine xv_b E [.bipush 8, .iload_n 1, .imul, .iload 5, .iadd, .iload 4] (pc' := 192) (lv' := [(5, .inl q_11.1), (4, .inl q_5.1), (3, .inl q_1.1), (0, .inr (.inr (some a0))), (1, .inl v1), (2, .inl v2)]) (st' := [.inl q_5.1, .inl (((8 : Int32) * v1) + q_11.1), .inr (.inr o_17)]) (by decide +kernel) rfl rfl ?_
          obtain ⟨M19, h20, h⟩ := bd h
          refine xs_i E h20 (show decode prog_14_method_58_code 192 = .ok (.iastore, 1) by decide +kernel) ?_
          refine xv_b E [.iconst 0, .istore 6] (pc' := 196) (lv' := [(6, .inl (0 : Int32)), (5, .inl q_11.1), (4, .inl q_5.1), (3, .inl q_1.1), (0, .inr (.inr (some a0))), (1, .inl v1), (2, .inl v2)]) (st' := []) (by decide +kernel) rfl rfl ?_
          obtain rfl := Option.some.inj h
          exact xv_w hN rfl
        · rw [if_neg q21] at h
          refine xv_icmp_lt E 179 (show decode prog_14_method_58_code 175 = .ok (.if_icmp .lt (4), 3) by decide +kernel) rfl (fun z => absurd z q21) (fun _ => ?_)
          exact xv_w (sb211_178 E B  q_11.2 h hN) rfl
    · rw [if_neg q23] at h
      refine xv_icmp_ne E 255 (show decode prog_14_method_58_code 153 = .ok (.if_icmp .ne (102), 3) by decide +kernel) rfl (fun _ => ?_) (fun z => absurd z q23)
      refine xv_b E [.iload_n 3, .bipush 10] (pc' := 258) (lv' := [(4, .inl q_5.1), (3, .inl q_1.1), (0, .inr (.inr (some a0))), (1, .inl v1), (2, .inl v2)]) (st' := [.inl (10 : Int32), .inl q_1.1]) (by decide +kernel) rfl rfl ?_
      by_cases q10 : q_1.1 < (10 : Int32)
      · rw [if_pos q10] at h
        refine xv_icmp_lt E 267 (show decode prog_14_method_58_code 258 = .ok (.if_icmp .lt (9), 3) by decide +kernel) rfl (fun _ => ?_) (fun z => absurd q10 z)
        exact xv_w (sb211_267 E B a0 v1 v2 q_1.1 q_5.1 q_5.2 h hN) rfl
      · rw [if_neg q10] at h
        refine xv_icmp_lt E 267 (show decode prog_14_method_58_code 258 = .ok (.if_icmp .lt (9), 3) by decide +kernel) rfl (fun z => absurd z q10) (fun _ => ?_)
        refine xv_b E [.iload_n 3, .bipush 12] (pc' := 264) (lv' := [(4, .inl q_5.1), (3, .inl q_1.1), (0, .inr (.inr (some a0))), (1, .inl v1), (2, .inl v2)]) (st' := [.inl (12 : Int32), .inl q_1.1]) (by decide +kernel) rfl rfl ?_
        by_cases q9 : q_1.1 ≤ (12 : Int32)
        · rw [if_pos q9] at h
          refine xv_icmp_le E 273 (show decode prog_14_method_58_code 264 = .ok (.if_icmp .le (9), 3) by decide +kernel) rfl (fun _ => ?_) (fun z => absurd q9 z)
          exact xv_w (sb211_273 E B a0 v1 v2 q_1.1 q_5.1 q_5.2 h hN) rfl
        · rw [if_neg q9] at h
          refine xv_icmp_le E 273 (show decode prog_14_method_58_code 264 = .ok (.if_icmp .le (9), 3) by decide +kernel) rfl (fun z => absurd z q9) (fun _ => ?_)
          exact xv_w (sb211_267 E B a0 v1 v2 q_1.1 q_5.1 q_5.2 h hN) rfl
theorem sb211_141 (E : xE G p (xRm 7 (h_sz M' - z0) (h_sl M' - y0)) s m args c prog_14_method_58_code "ZonedFabricModel" z0 y0 (h_sz M') (h_sl M') 7) (B : xB ym211 none meth) (a0 : Nat) (v1 : Int32) (v2 : Int32) (v5 : Int32) (v6 : Int32) (M : hM) {res : xRes} (h : b211_141 a0 v1 v2 v5 v6 M = some res) (hN : xN (pg211 p l e s m args below meth c G z0 y0 r M') r M' res) : xV G p l e (xRm 7 (h_sz M' - z0) (h_sl M' - y0)) s m args below meth c z0 y0 (h_sz M') (h_sl M') 7 (MQ below (xQc G r M') args s (h_sz M' - z0) (h_sl M' - y0) (xFr G)) 141 [(0, .inr (.inr (some a0))), (1, .inl v1), (2, .inl v2), (5, .inl v5), (6, .inl v6)] [] M := by
  unfold b211_141 at h
  refine xv_b E [.iinc 6 1] (pc' := 144) (lv' := [(6, .inl (v6 + (1 : Int32))), (0, .inr (.inr (some a0))), (1, .inl v1), (2, .inl v2), (5, .inl v5)]) (st' := []) (by decide +kernel) rfl rfl ?_
  refine xv_goto E 49 (show decode prog_14_method_58_code 144 = .ok (.goto (-95), 3) by decide +kernel) rfl ?_
  obtain rfl := Option.some.inj h
  exact xv_w hN rfl
theorem sb211_138 (E : xE G p (xRm 7 (h_sz M' - z0) (h_sl M' - y0)) s m args c prog_14_method_58_code "ZonedFabricModel" z0 y0 (h_sz M') (h_sl M') 7) (B : xB ym211 none meth) (a0 : Nat) (v1 : Int32) (v2 : Int32) (v5 : Int32) (v6 : Int32) (si0 : Int32) (si1 : Int32) (sr2 : Option Nat) (M : hM) {res : xRes} (h : b211_138 a0 v1 v2 v5 v6 si0 si1 sr2 M = some res) (hN : xN (pg211 p l e s m args below meth c G z0 y0 r M') r M' res) : xV G p l e (xRm 7 (h_sz M' - z0) (h_sl M' - y0)) s m args below meth c z0 y0 (h_sz M') (h_sl M') 7 (MQ below (xQc G r M') args s (h_sz M' - z0) (h_sl M' - y0) (xFr G)) 138 [(0, .inr (.inr (some a0))), (1, .inl v1), (2, .inl v2), (5, .inl v5), (6, .inl v6)] [.inl si0, .inl si1, .inr (.inr sr2)] M := by
  unfold b211_138 at h
  obtain ⟨b_68, h69, h⟩ := bd h
  obtain ⟨eh69, th69⟩ := g_o_some h69
  obtain ⟨q_66, h67, h⟩ := bd h
  refine xv_cvo E eh69 12 (as := [.inl si1, .inl si0]) (t206 G l (c_V_some h67)) cd206 mw1056 mw1057 mw1058 (show decode prog_14_method_58_code 138 = .ok (.invokevirtual 375, 3) by decide +kernel) th69 rfl rfl (Nat.le_of_ble_eq_true rfl) ⟨Nat.le_of_ble_eq_true rfl, Nat.le_of_ble_eq_true rfl⟩ ?_
  exact xv_w (sb211_141 E B a0 v1 v2 v5 v6 q_66 h hN) rfl
theorem sb211_49 (E : xE G p (xRm 7 (h_sz M' - z0) (h_sl M' - y0)) s m args c prog_14_method_58_code "ZonedFabricModel" z0 y0 (h_sz M') (h_sl M') 7) (B : xB ym211 none meth) (a0 : Nat) (v1 : Int32) (v2 : Int32) (v5 : Int32) (v6 : Int32) (M : hM) {res : xRes} (h : b211_49 a0 v1 v2 v5 v6 M = some res) (hN : xN (pg211 p l e s m args below meth c G z0 y0 r M') r M' res) : xV G p l e (xRm 7 (h_sz M' - z0) (h_sl M' - y0)) s m args below meth c z0 y0 (h_sz M') (h_sl M') 7 (MQ below (xQc G r M') args s (h_sz M' - z0) (h_sl M' - y0) (xFr G)) 49 [(0, .inr (.inr (some a0))), (1, .inl v1), (2, .inl v2), (5, .inl v5), (6, .inl v6)] [] M := by
  unfold b211_49 at h
  refine xv_b E [.iload 6, .aload_n 0] (pc' := 52) (lv' := [(0, .inr (.inr (some a0))), (1, .inl v1), (2, .inl v2), (5, .inl v5), (6, .inl v6)]) (st' := [.inr (.inr (some a0)), .inl v6]) (by decide +kernel) rfl rfl ?_
  obtain ⟨v_31, h32, h⟩ := bd h
  refine xg_i E 12 47 h32 mw1061 (show decode prog_14_method_58_code 52 = .ok (.getfield 364, 3) by decide +kernel) ?_
  by_cases q65 : v_31 ≤ v6
  · rw [if_pos q65] at h
    refine xv_icmp_ge E 147 (show decode prog_14_method_58_code 55 = .ok (.if_icmp .ge (92), 3) by decide +kernel) rfl (fun _ => ?_) (fun z => absurd q65 z)
    refine xv_goto E 344 (show decode prog_14_method_58_code 147 = .ok (.goto (197), 3) by decide +kernel) rfl ?_
    exact xv_w (sb211_344 E B  M h hN) rfl
  · rw [if_neg q65] at h
    refine xv_icmp_ge E 147 (show decode prog_14_method_58_code 55 = .ok (.if_icmp .ge (92), 3) by decide +kernel) rfl (fun z => absurd z q65) (fun _ => ?_)
    refine xv_b E [.aload_n 0] (pc' := 59) (lv' := [(0, .inr (.inr (some a0))), (1, .inl v1), (2, .inl v2), (5, .inl v5), (6, .inl v6)]) (st' := [.inr (.inr (some a0))]) (by decide +kernel) rfl rfl ?_
    obtain ⟨o_33, h34, h⟩ := bd h
    refine xg_r E 12 48 h34 mw906 (show decode prog_14_method_58_code 59 = .ok (.getfield 134, 3) by decide +kernel) ?_
    refine xv_b E [.iload 6] (pc' := 64) (lv' := [(0, .inr (.inr (some a0))), (1, .inl v1), (2, .inl v2), (5, .inl v5), (6, .inl v6)]) (st' := [.inl v6, .inr (.inr o_33)]) (by decide +kernel) rfl rfl ?_
    obtain ⟨v_35, h36, h⟩ := bd h
    refine xa_i E h36 (show decode prog_14_method_58_code 64 = .ok (.iaload, 1) by decide +kernel) ?_
    refine xv_b E [.iload_n 1] (pc' := 66) (lv' := [(0, .inr (.inr (some a0))), (1, .inl v1), (2, .inl v2), (5, .inl v5), (6, .inl v6)]) (st' := [.inl v1, .inl v_35]) (by decide +kernel) rfl rfl ?_
    by_cases q64 : v_35 = v1
    · rw [if_pos q64] at h
      refine xv_icmp_ne E 141 (show decode prog_14_method_58_code 66 = .ok (.if_icmp .ne (75), 3) by decide +kernel) rfl (fun z => absurd q64 z) (fun _ => ?_)
      refine xv_b E [.aload_n 0] (pc' := 70) (lv' := [(0, .inr (.inr (some a0))), (1, .inl v1), (2, .inl v2), (5, .inl v5), (6, .inl v6)]) (st' := [.inr (.inr (some a0))]) (by decide +kernel) rfl rfl ?_
      obtain ⟨o_37, h38, h⟩ := bd h
      refine xg_r E 12 56 h38 mw914 (show decode prog_14_method_58_code 70 = .ok (.getfield 158, 3) by decide +kernel) ?_
      refine xv_b E [.iload 6] (pc' := 75) (lv' := [(0, .inr (.inr (some a0))), (1, .inl v1), (2, .inl v2), (5, .inl v5), (6, .inl v6)]) (st' := [.inl v6, .inr (.inr o_37)]) (by decide +kernel) rfl rfl ?_
      obtain ⟨v_39, h40, h⟩ := bd h
      refine xa_i E h40 (show decode prog_14_method_58_code 75 = .ok (.iaload, 1) by decide +kernel) ?_
      by_cases q63 : v_39 = 0
      · rw [if_pos q63] at h
        refine xv_if_ne E 141 (show decode prog_14_method_58_code 76 = .ok (.ifCond .ne (65), 3) by decide +kernel) rfl (fun z => absurd q63 z) (fun _ => ?_)
        refine xv_b E [.aload_n 0] (pc' := 80) (lv' := [(0, .inr (.inr (some a0))), (1, .inl v1), (2, .inl v2), (5, .inl v5), (6, .inl v6)]) (st' := [.inr (.inr (some a0))]) (by decide +kernel) rfl rfl ?_
        obtain ⟨o_41, h42, h⟩ := bd h
        refine xg_r E 12 49 h42 mw907 (show decode prog_14_method_58_code 80 = .ok (.getfield 137, 3) by decide +kernel) ?_
        refine xv_b E [.iload 6] (pc' := 85) (lv' := [(0, .inr (.inr (some a0))), (1, .inl v1), (2, .inl v2), (5, .inl v5), (6, .inl v6)]) (st' := [.inl v6, .inr (.inr o_41)]) (by decide +kernel) rfl rfl ?_
        obtain ⟨v_43, h44, h⟩ := bd h
        refine xa_i E h44 (show decode prog_14_method_58_code 85 = .ok (.iaload, 1) by decide +kernel) ?_
        refine xv_b E [.aload_n 0, .iload_n 2, .bipush 13] (pc' := 90) (lv' := [(0, .inr (.inr (some a0))), (1, .inl v1), (2, .inl v2), (5, .inl v5), (6, .inl v6)]) (st' := [.inl (13 : Int32), .inl v2, .inr (.inr (some a0)), .inl v_43]) (by decide +kernel) rfl rfl ?_
        obtain ⟨b_47, h48, h⟩ := bd h
        obtain ⟨eh48, th48⟩ := g_o_some h48
        obtain ⟨q_45, h46, h⟩ := bd h
        refine xv_cvo E eh48 12 (as := [.inl v2, .inl (13 : Int32)]) (t165 G l (c_I_some h46)) cd165 mw927 mw928 mw929 (show decode prog_14_method_58_code 90 = .ok (.invokevirtual 186, 3) by decide +kernel) th48 rfl rfl (Nat.le_of_ble_eq_true rfl) ⟨Nat.le_of_ble_eq_true rfl, Nat.le_of_ble_eq_true rfl⟩ ?_
        by_cases q62 : v_43 = q_45.1
        · rw [if_pos q62] at h
          refine xv_icmp_eq E 99 (show decode prog_14_method_58_code 93 = .ok (.if_icmp .eq (6), 3) by decide +kernel) rfl (fun _ => ?_) (fun z => absurd q62 z)
          refine xv_b E [.aload_n 0] (pc' := 100) (lv' := [(0, .inr (.inr (some a0))), (1, .inl v1), (2, .inl v2), (5, .inl v5), (6, .inl v6)]) (st' := [.inr (.inr (some a0))]) (by decide +kernel) rfl rfl ?_
          obtain ⟨o_49, h50, h⟩ := bd h
          refine xg_r E 12 60 h50 mw918 (show decode prog_14_method_58_code 100 = .ok (.getfield 170, 3) by decide +kernel) ?_
          refine xv_b E [.iload 6, .iload 5] (pc' := 107) (lv' := [(0, .inr (.inr (some a0))), (1, .inl v1), (2, .inl v2), (5, .inl v5), (6, .inl v6)]) (st' := [.inl v5, .inl v6, .inr (.inr o_49)]) (by decide +kernel) rfl rfl ?_
          obtain ⟨M51, h52, h⟩ := bd h
          refine xs_i E h52 (show decode prog_14_method_58_code 107 = .ok (.iastore, 1) by decide +kernel) ?_
          refine xv_b E [.aload_n 0, .iload 6, .aload_n 0] (pc' := 112) (lv' := [(0, .inr (.inr (some a0))), (1, .inl v1), (2, .inl v2), (5, .inl v5), (6, .inl v6)]) (st' := [.inr (.inr (some a0)), .inl v6, .inr (.inr (some a0))]) (by decide +kernel) rfl rfl ?_
          obtain ⟨o_53, h54, h⟩ := bd h
          refine xg_r E 12 39 h54 mw898 (show decode prog_14_method_58_code 112 = .ok (.getfield 109, 3) by decide +kernel) ?_
          refine xv_b E [.bipush 8, .iload_n 1, .imul, .aload_n 0] (pc' := 120) (lv' := [(0, .inr (.inr (some a0))), (1, .inl v1), (2, .inl v2), (5, .inl v5), (6, .inl v6)]) (st' := [.inr (.inr (some a0)), .inl ((8 : Int32) * v1), .inr (.inr o_53), .inl v6, .inr (.inr (some a0))]) (by decide +kernel) rfl rfl ?_
          obtain ⟨o_55, h56, h⟩ := bd h
          refine xg_r E 12 49 h56 mw907 (show decode prog_14_method_58_code 120 = .ok (.getfield 137, 3) by decide +kernel) ?_
          refine xv_b E [.iload 6] (pc' := 125) (lv' := [(0, .inr (.inr (some a0))), (1, .inl v1), (2, .inl v2), (5, .inl v5), (6, .inl v6)]) (st' := [.inl v6, .inr (.inr o_55), .inl ((8 : Int32) * v1), .inr (.inr o_53), .inl v6, .inr (.inr (some a0))]) (by decide +kernel) rfl rfl ?_
          obtain ⟨v_57, h58, h⟩ := bd h
          refine xa_i E h58 (show decode prog_14_method_58_code 125 = .ok (.iaload, 1) by decide +kernel) ?_
          refine xv_b E [.iadd] (pc' := 127) (lv' := [(0, .inr (.inr (some a0))), (1, .inl v1), (2, .inl v2), (5, .inl v5), (6, .inl v6)]) (st' := [.inl (((8 : Int32) * v1) + v_57), .inr (.inr o_53), .inl v6, .inr (.inr (some a0))]) (by decide +kernel) rfl rfl ?_
          obtain ⟨v_59, h60, h⟩ := bd h
          refine xa_i E h60 (show decode prog_14_method_58_code 127 = .ok (.iaload, 1) by decide +kernel) ?_
          refine xv_b E [.iload 5] (pc' := 130) (lv' := [(0, .inr (.inr (some a0))), (1, .inl v1), (2, .inl v2), (5, .inl v5), (6, .inl v6)]) (st' := [.inl v5, .inl v_59, .inl v6, .inr (.inr (some a0))]) (by decide +kernel) rfl rfl ?_
          by_cases q61 : v_59 = v5
          · rw [if_pos q61] at h
            refine xv_icmp_ne E 137 (show decode prog_14_method_58_code 130 = .ok (.if_icmp .ne (7), 3) by decide +kernel) rfl (fun z => absurd q61 z) (fun _ => ?_)
            refine xv_b E [.iconst 2] (pc' := 134) (lv' := [(0, .inr (.inr (some a0))), (1, .inl v1), (2, .inl v2), (5, .inl v5), (6, .inl v6)]) (st' := [.inl (2 : Int32), .inl v6, .inr (.inr (some a0))]) (by decide +kernel) rfl rfl ?_
            refine xv_goto E 138 (show decode prog_14_method_58_code 134 = .ok (.goto (4), 3) by decide +kernel) rfl ?_
            exact xv_w (sb211_138 E B a0 v1 v2 v5 v6 (2 : Int32) v6 (some a0) M51 h hN) rfl
          · rw [if_neg q61] at h
            refine xv_icmp_ne E 137 (show decode prog_14_method_58_code 130 = .ok (.if_icmp .ne (7), 3) by decide +kernel) rfl (fun _ => ?_) (fun z => absurd z q61)
            refine xv_b E [.iconst 1] (pc' := 138) (lv' := [(0, .inr (.inr (some a0))), (1, .inl v1), (2, .inl v2), (5, .inl v5), (6, .inl v6)]) (st' := [.inl (1 : Int32), .inl v6, .inr (.inr (some a0))]) (by decide +kernel) rfl rfl ?_
            exact xv_w (sb211_138 E B a0 v1 v2 v5 v6 (1 : Int32) v6 (some a0) M51 h hN) rfl
        · rw [if_neg q62] at h
          refine xv_icmp_eq E 99 (show decode prog_14_method_58_code 93 = .ok (.if_icmp .eq (6), 3) by decide +kernel) rfl (fun z => absurd z q62) (fun _ => ?_)
          refine xv_goto E 141 (show decode prog_14_method_58_code 96 = .ok (.goto (45), 3) by decide +kernel) rfl ?_
          exact xv_w (sb211_141 E B a0 v1 v2 v5 v6 q_45.2 h hN) rfl
      · rw [if_neg q63] at h
        refine xv_if_ne E 141 (show decode prog_14_method_58_code 76 = .ok (.ifCond .ne (65), 3) by decide +kernel) rfl (fun _ => ?_) (fun z => absurd z q63)
        exact xv_w (sb211_141 E B a0 v1 v2 v5 v6 M h hN) rfl
    · rw [if_neg q64] at h
      refine xv_icmp_ne E 141 (show decode prog_14_method_58_code 66 = .ok (.if_icmp .ne (75), 3) by decide +kernel) rfl (fun _ => ?_) (fun z => absurd z q64)
      exact xv_w (sb211_141 E B a0 v1 v2 v5 v6 M h hN) rfl
theorem sb211_246 (E : xE G p (xRm 7 (h_sz M' - z0) (h_sl M' - y0)) s m args c prog_14_method_58_code "ZonedFabricModel" z0 y0 (h_sz M') (h_sl M') 7) (B : xB ym211 none meth) (a0 : Nat) (v1 : Int32) (v4 : Int32) (v6 : Int32) (M : hM) {res : xRes} (h : b211_246 a0 v1 v4 v6 M = some res) (hN : xN (pg211 p l e s m args below meth c G z0 y0 r M') r M' res) : xV G p l e (xRm 7 (h_sz M' - z0) (h_sl M' - y0)) s m args below meth c z0 y0 (h_sz M') (h_sl M') 7 (MQ below (xQc G r M') args s (h_sz M' - z0) (h_sl M' - y0) (xFr G)) 246 [(0, .inr (.inr (some a0))), (1, .inl v1), (4, .inl v4), (6, .inl v6)] [] M := by
  unfold b211_246 at h
  refine xv_b E [.iinc 6 1] (pc' := 249) (lv' := [(6, .inl (v6 + (1 : Int32))), (0, .inr (.inr (some a0))), (1, .inl v1), (4, .inl v4)]) (st' := []) (by decide +kernel) rfl rfl ?_
  refine xv_goto E 196 (show decode prog_14_method_58_code 249 = .ok (.goto (-53), 3) by decide +kernel) rfl ?_
  obtain rfl := Option.some.inj h
  exact xv_w hN rfl
theorem sb211_196 (E : xE G p (xRm 7 (h_sz M' - z0) (h_sl M' - y0)) s m args c prog_14_method_58_code "ZonedFabricModel" z0 y0 (h_sz M') (h_sl M') 7) (B : xB ym211 none meth) (a0 : Nat) (v1 : Int32) (v4 : Int32) (v6 : Int32) (M : hM) {res : xRes} (h : b211_196 a0 v1 v4 v6 M = some res) (hN : xN (pg211 p l e s m args below meth c G z0 y0 r M') r M' res) : xV G p l e (xRm 7 (h_sz M' - z0) (h_sl M' - y0)) s m args below meth c z0 y0 (h_sz M') (h_sl M') 7 (MQ below (xQc G r M') args s (h_sz M' - z0) (h_sl M' - y0) (xFr G)) 196 [(0, .inr (.inr (some a0))), (1, .inl v1), (4, .inl v4), (6, .inl v6)] [] M := by
  unfold b211_196 at h
  refine xv_b E [.iload 6, .aload_n 0] (pc' := 199) (lv' := [(0, .inr (.inr (some a0))), (1, .inl v1), (4, .inl v4), (6, .inl v6)]) (st' := [.inr (.inr (some a0)), .inl v6]) (by decide +kernel) rfl rfl ?_
  obtain ⟨v_70, h71, h⟩ := bd h
  refine xg_i E 12 47 h71 mw1061 (show decode prog_14_method_58_code 199 = .ok (.getfield 364, 3) by decide +kernel) ?_
  by_cases q91 : v_70 ≤ v6
  · rw [if_pos q91] at h
    refine xv_icmp_ge E 252 (show decode prog_14_method_58_code 202 = .ok (.if_icmp .ge (50), 3) by decide +kernel) rfl (fun _ => ?_) (fun z => absurd q91 z)
    refine xv_goto E 344 (show decode prog_14_method_58_code 252 = .ok (.goto (92), 3) by decide +kernel) rfl ?_
    exact xv_w (sb211_344 E B  M h hN) rfl
  · rw [if_neg q91] at h
    refine xv_icmp_ge E 252 (show decode prog_14_method_58_code 202 = .ok (.if_icmp .ge (50), 3) by decide +kernel) rfl (fun z => absurd z q91) (fun _ => ?_)
    refine xv_b E [.aload_n 0] (pc' := 206) (lv' := [(0, .inr (.inr (some a0))), (1, .inl v1), (4, .inl v4), (6, .inl v6)]) (st' := [.inr (.inr (some a0))]) (by decide +kernel) rfl rfl ?_
    obtain ⟨o_72, h73, h⟩ := bd h
    refine xg_r E 12 48 h73 mw906 (show decode prog_14_method_58_code 206 = .ok (.getfield 134, 3) by decide +kernel) ?_
    refine xv_b E [.iload 6] (pc' := 211) (lv' := [(0, .inr (.inr (some a0))), (1, .inl v1), (4, .inl v4), (6, .inl v6)]) (st' := [.inl v6, .inr (.inr o_72)]) (by decide +kernel) rfl rfl ?_
    obtain ⟨v_74, h75, h⟩ := bd h
    refine xa_i E h75 (show decode prog_14_method_58_code 211 = .ok (.iaload, 1) by decide +kernel) ?_
    refine xv_b E [.iload_n 1] (pc' := 213) (lv' := [(0, .inr (.inr (some a0))), (1, .inl v1), (4, .inl v4), (6, .inl v6)]) (st' := [.inl v1, .inl v_74]) (by decide +kernel) rfl rfl ?_
    by_cases q90 : v_74 = v1
    · rw [if_pos q90] at h
      refine xv_icmp_ne E 246 (show decode prog_14_method_58_code 213 = .ok (.if_icmp .ne (33), 3) by decide +kernel) rfl (fun z => absurd q90 z) (fun _ => ?_)
      refine xv_b E [.aload_n 0] (pc' := 217) (lv' := [(0, .inr (.inr (some a0))), (1, .inl v1), (4, .inl v4), (6, .inl v6)]) (st' := [.inr (.inr (some a0))]) (by decide +kernel) rfl rfl ?_
      obtain ⟨o_76, h77, h⟩ := bd h
      refine xg_r E 12 56 h77 mw914 (show decode prog_14_method_58_code 217 = .ok (.getfield 158, 3) by decide +kernel) ?_
      refine xv_b E [.iload 6] (pc' := 222) (lv' := [(0, .inr (.inr (some a0))), (1, .inl v1), (4, .inl v4), (6, .inl v6)]) (st' := [.inl v6, .inr (.inr o_76)]) (by decide +kernel) rfl rfl ?_
      obtain ⟨v_78, h79, h⟩ := bd h
      refine xa_i E h79 (show decode prog_14_method_58_code 222 = .ok (.iaload, 1) by decide +kernel) ?_
      refine xv_b E [.iconst 1] (pc' := 224) (lv' := [(0, .inr (.inr (some a0))), (1, .inl v1), (4, .inl v4), (6, .inl v6)]) (st' := [.inl (1 : Int32), .inl v_78]) (by decide +kernel) rfl rfl ?_
      by_cases q89 : v_78 = (1 : Int32)
      · rw [if_pos q89] at h
        refine xv_icmp_ne E 246 (show decode prog_14_method_58_code 224 = .ok (.if_icmp .ne (22), 3) by decide +kernel) rfl (fun z => absurd q89 z) (fun _ => ?_)
        refine xv_b E [.aload_n 0] (pc' := 228) (lv' := [(0, .inr (.inr (some a0))), (1, .inl v1), (4, .inl v4), (6, .inl v6)]) (st' := [.inr (.inr (some a0))]) (by decide +kernel) rfl rfl ?_
        obtain ⟨o_80, h81, h⟩ := bd h
        refine xg_r E 12 60 h81 mw918 (show decode prog_14_method_58_code 228 = .ok (.getfield 170, 3) by decide +kernel) ?_
        refine xv_b E [.iload 6] (pc' := 233) (lv' := [(0, .inr (.inr (some a0))), (1, .inl v1), (4, .inl v4), (6, .inl v6)]) (st' := [.inl v6, .inr (.inr o_80)]) (by decide +kernel) rfl rfl ?_
        obtain ⟨v_82, h83, h⟩ := bd h
        refine xa_i E h83 (show decode prog_14_method_58_code 233 = .ok (.iaload, 1) by decide +kernel) ?_
        refine xv_b E [.iload 4] (pc' := 236) (lv' := [(0, .inr (.inr (some a0))), (1, .inl v1), (4, .inl v4), (6, .inl v6)]) (st' := [.inl v4, .inl v_82]) (by decide +kernel) rfl rfl ?_
        by_cases q88 : v_82 = v4
        · rw [if_pos q88] at h
          refine xv_icmp_ne E 246 (show decode prog_14_method_58_code 236 = .ok (.if_icmp .ne (10), 3) by decide +kernel) rfl (fun z => absurd q88 z) (fun _ => ?_)
          refine xv_b E [.aload_n 0, .iload 6, .iconst 2] (pc' := 243) (lv' := [(0, .inr (.inr (some a0))), (1, .inl v1), (4, .inl v4), (6, .inl v6)]) (st' := [.inl (2 : Int32), .inl v6, .inr (.inr (some a0))]) (by decide +kernel) rfl rfl ?_
          obtain ⟨b_86, h87, h⟩ := bd h
          obtain ⟨eh87, th87⟩ := g_o_some h87
          obtain ⟨q_84, h85, h⟩ := bd h
          refine xv_cvo E eh87 12 (as := [.inl v6, .inl (2 : Int32)]) (t206 G l (c_V_some h85)) cd206 mw1056 mw1057 mw1058 (show decode prog_14_method_58_code 243 = .ok (.invokevirtual 375, 3) by decide +kernel) th87 rfl rfl (Nat.le_of_ble_eq_true rfl) ⟨Nat.le_of_ble_eq_true rfl, Nat.le_of_ble_eq_true rfl⟩ ?_
          exact xv_w (sb211_246 E B a0 v1 v4 v6 q_84 h hN) rfl
        · rw [if_neg q88] at h
          refine xv_icmp_ne E 246 (show decode prog_14_method_58_code 236 = .ok (.if_icmp .ne (10), 3) by decide +kernel) rfl (fun _ => ?_) (fun z => absurd z q88)
          exact xv_w (sb211_246 E B a0 v1 v4 v6 M h hN) rfl
      · rw [if_neg q89] at h
        refine xv_icmp_ne E 246 (show decode prog_14_method_58_code 224 = .ok (.if_icmp .ne (22), 3) by decide +kernel) rfl (fun _ => ?_) (fun z => absurd z q89)
        exact xv_w (sb211_246 E B a0 v1 v4 v6 M h hN) rfl
    · rw [if_neg q90] at h
      refine xv_icmp_ne E 246 (show decode prog_14_method_58_code 213 = .ok (.if_icmp .ne (33), 3) by decide +kernel) rfl (fun _ => ?_) (fun z => absurd z q90)
      exact xv_w (sb211_246 E B a0 v1 v4 v6 M h hN) rfl
end
theorem t211 (G : gX) (l : Launch) {as : List aV} {M : hM} {r : Option aV} {M' : hM} (h : f211 as M = some (r, M')) : xM G l ym211 prog_14_method_58_code 7 none 7 as M r M' := by
  unfold f211 at h
  split at h
  · have hle : ∀ h as M res, k211 h as M = some res → h_sz M ≤ r_sz res ∧ h_sl M ≤ r_sl res := by
      intro h as M res hb
      unfold k211 at hb
      by_cases e0 : h = 49
      · rw [if_pos e0] at hb
        split at hb
        · exact lb211_49 G l _ _ _ _ _ M hb
        · cases hb
      · rw [if_neg e0] at hb
        by_cases e1 : h = 196
        · rw [if_pos e1] at hb
          split at hb
          · exact lb211_196 G l _ _ _ _ M hb
          · cases hb
        · rw [if_neg e1] at hb
          cases hb
    obtain ⟨res, hx, hres⟩ := x_go_ok h
    refine xM_of (by decide) (Nat.le_of_ble_eq_true rfl) ?_ ?_
    · have e1 := lb211_0 G l _ _ _ M hx
      have e2 := x_go_le hle hres
      omega
    · intro p e s m args below meth c E B
      refine sb211_0 E B _ _ _ M hx (hres _ ?_)
      intro h as M res hb hN
      unfold k211 at hb
      unfold pg211
      by_cases e0 : h = 49
      · rw [if_pos e0] at hb ⊢
        split at hb
        · exact sb211_49 E B _ _ _ _ _ M hb hN
        · cases hb
      · rw [if_neg e0] at hb ⊢
        by_cases e1 : h = 196
        · rw [if_pos e1] at hb ⊢
          split at hb
          · exact sb211_196 E B _ _ _ _ M hb hN
          · cases hb
        · rw [if_neg e1] at hb ⊢
          cases hb
  · cases h
/-! ZFModel.answers(IIIII)I -/
def ym212 : MethodName := ⟨"ZonedFabricModel", "answers", "(IIIII)I"⟩
theorem cd212 : xCd ym212 prog_14_method_61_code 6 (some FieldType.int) 5 := ⟨mw1080, mw864, by decide, by decide, by decide +kernel⟩
def b212_0 (a0 : Nat) (v1 : Int32) (v2 : Int32) (v3 : Int32) (v4 : Int32) (v5 : Int32) (M : hM) : Option xRes :=
  Option.bind (g_o M 12 (some a0)) fun b_3 =>
  Option.bind (c_I (f166 [.inr (.inr (some b_3)), .inl v2, .inl (4 : Int32), .inl (3 : Int32)] M)) fun q_1 =>
  Option.bind (g_r q_1.2 12 35 (some a0)) fun o_5 =>
  Option.bind (al_i q_1.2 20 o_5 v1) fun v_7 =>
  Option.bind (g_o q_1.2 12 (some a0)) fun b_11 =>
  Option.bind (c_I (f166 [.inr (.inr (some b_11)), .inl v2, .inl (7 : Int32), .inl (2 : Int32)] q_1.2)) fun q_9 =>
  Option.bind (g_o q_9.2 12 (some a0)) fun b_15 =>
  Option.bind (c_I (f168 [.inr (.inr (some b_15)), .inl v3, .inl q_1.1, .inl v_7, .inl q_9.1, .inl v4, .inl v5] q_9.2)) fun q_13 =>
  some (.inl (some (.inl q_13.1), q_13.2))
def f212 (as : List aV) (M : hM) : xO := match as with
  | [.inr (.inr (some a0)), .inl v1, .inl v2, .inl v3, .inl v4, .inl v5] => x_out (b212_0 a0 v1 v2 v3 v4 v5 M)
  | _ => none
theorem lb212_0 (G : gX) (l : Launch) (a0 : Nat) (v1 : Int32) (v2 : Int32) (v3 : Int32) (v4 : Int32) (v5 : Int32) (M : hM) {res : xRes} (h : b212_0 a0 v1 v2 v3 v4 v5 M = some res) : h_sz M ≤ r_sz res ∧ h_sl M ≤ r_sl res := by
  unfold b212_0 at h
  obtain ⟨b_3, h4, h⟩ := bd h
  obtain ⟨q_1, h2, h⟩ := bd h
  have eh2 := (t166 G l (c_I_some h2)).1
  obtain ⟨o_5, h6, h⟩ := bd h
  obtain ⟨v_7, h8, h⟩ := bd h
  obtain ⟨b_11, h12, h⟩ := bd h
  obtain ⟨q_9, h10, h⟩ := bd h
  have eh10 := (t166 G l (c_I_some h10)).1
  obtain ⟨b_15, h16, h⟩ := bd h
  obtain ⟨q_13, h14, h⟩ := bd h
  have eh14 := (t168 G l (c_I_some h14)).1
  obtain rfl := Option.some.inj h
  show h_sz M ≤ h_sz q_13.2 ∧ h_sl M ≤ h_sl q_13.2
  omega
section
variable {p : Program} {l : Launch} {e : Env} {s : State} {m : MethodId} {args : Array Value} {below : List Frame} {meth : Method} {c : Code} {G : gX} {z0 y0 : Nat} {r : Option aV} {M' : hM}
theorem sb212_0 (E : xE G p (xRm 2 (h_sz M' - z0) (h_sl M' - y0)) s m args c prog_14_method_61_code "ZonedFabricModel" z0 y0 (h_sz M') (h_sl M') 6) (B : xB ym212 (some FieldType.int) meth) (a0 : Nat) (v1 : Int32) (v2 : Int32) (v3 : Int32) (v4 : Int32) (v5 : Int32) (M : hM) {res : xRes} (h : b212_0 a0 v1 v2 v3 v4 v5 M = some res) (hN : xN (fun _ _ _ => False) r M' res) : xV G p l e (xRm 2 (h_sz M' - z0) (h_sl M' - y0)) s m args below meth c z0 y0 (h_sz M') (h_sl M') 6 (MQ below (xQc G r M') args s (h_sz M' - z0) (h_sl M' - y0) (xFr G)) 0 [(0, .inr (.inr (some a0))), (1, .inl v1), (2, .inl v2), (3, .inl v3), (4, .inl v4), (5, .inl v5)] [] M := by
  unfold b212_0 at h
  refine xv_b E [.aload_n 0, .iload_n 3, .aload_n 0, .iload_n 2, .iconst 4, .iconst 3] (pc' := 6) (lv' := [(0, .inr (.inr (some a0))), (1, .inl v1), (2, .inl v2), (3, .inl v3), (4, .inl v4), (5, .inl v5)]) (st' := [.inl (3 : Int32), .inl (4 : Int32), .inl v2, .inr (.inr (some a0)), .inl v3, .inr (.inr (some a0))]) (by decide +kernel) rfl rfl ?_
  obtain ⟨b_3, h4, h⟩ := bd h
  obtain ⟨eh4, th4⟩ := g_o_some h4
  obtain ⟨q_1, h2, h⟩ := bd h
  refine xv_cvo E eh4 12 (as := [.inl v2, .inl (4 : Int32), .inl (3 : Int32)]) (t166 G l (c_I_some h2)) cd166 mw947 mw948 mw949 (show decode prog_14_method_61_code 6 = .ok (.invokevirtual 198, 3) by decide +kernel) th4 rfl rfl (Nat.le_of_ble_eq_true rfl) ⟨Nat.le_of_ble_eq_true rfl, Nat.le_of_ble_eq_true rfl⟩ ?_
  refine xv_b E [.aload_n 0] (pc' := 10) (lv' := [(0, .inr (.inr (some a0))), (1, .inl v1), (2, .inl v2), (3, .inl v3), (4, .inl v4), (5, .inl v5)]) (st' := [.inr (.inr (some a0)), .inl q_1.1, .inl v3, .inr (.inr (some a0))]) (by decide +kernel) rfl rfl ?_
  obtain ⟨o_5, h6, h⟩ := bd h
  refine xg_r E 12 35 h6 mw895 (show decode prog_14_method_61_code 10 = .ok (.getfield 100, 3) by decide +kernel) ?_
  refine xv_b E [.iload_n 1] (pc' := 14) (lv' := [(0, .inr (.inr (some a0))), (1, .inl v1), (2, .inl v2), (3, .inl v3), (4, .inl v4), (5, .inl v5)]) (st' := [.inl v1, .inr (.inr o_5), .inl q_1.1, .inl v3, .inr (.inr (some a0))]) (by decide +kernel) rfl rfl ?_
  obtain ⟨v_7, h8, h⟩ := bd h
  refine xa_i E h8 (show decode prog_14_method_61_code 14 = .ok (.iaload, 1) by decide +kernel) ?_
  refine xv_b E [.aload_n 0, .iload_n 2, .bipush 7, .iconst 2] (pc' := 20) (lv' := [(0, .inr (.inr (some a0))), (1, .inl v1), (2, .inl v2), (3, .inl v3), (4, .inl v4), (5, .inl v5)]) (st' := [.inl (2 : Int32), .inl (7 : Int32), .inl v2, .inr (.inr (some a0)), .inl v_7, .inl q_1.1, .inl v3, .inr (.inr (some a0))]) (by decide +kernel) rfl rfl ?_
  obtain ⟨b_11, h12, h⟩ := bd h
  obtain ⟨eh12, th12⟩ := g_o_some h12
  obtain ⟨q_9, h10, h⟩ := bd h
  refine xv_cvo E eh12 12 (as := [.inl v2, .inl (7 : Int32), .inl (2 : Int32)]) (t166 G l (c_I_some h10)) cd166 mw947 mw948 mw949 (show decode prog_14_method_61_code 20 = .ok (.invokevirtual 198, 3) by decide +kernel) th12 rfl rfl (Nat.le_of_ble_eq_true rfl) ⟨Nat.le_of_ble_eq_true rfl, Nat.le_of_ble_eq_true rfl⟩ ?_
  refine xv_b E [.iload 4, .iload 5] (pc' := 27) (lv' := [(0, .inr (.inr (some a0))), (1, .inl v1), (2, .inl v2), (3, .inl v3), (4, .inl v4), (5, .inl v5)]) (st' := [.inl v5, .inl v4, .inl q_9.1, .inl v_7, .inl q_1.1, .inl v3, .inr (.inr (some a0))]) (by decide +kernel) rfl rfl ?_
  obtain ⟨b_15, h16, h⟩ := bd h
  obtain ⟨eh16, th16⟩ := g_o_some h16
  obtain ⟨q_13, h14, h⟩ := bd h
  refine xv_cvo E eh16 12 (as := [.inl v3, .inl q_1.1, .inl v_7, .inl q_9.1, .inl v4, .inl v5]) (t168 G l (c_I_some h14)) cd168 mw1033 mw1034 mw1035 (show decode prog_14_method_61_code 27 = .ok (.invokevirtual 272, 3) by decide +kernel) th16 rfl rfl (Nat.le_of_ble_eq_true rfl) ⟨Nat.le_of_ble_eq_true rfl, Nat.le_of_ble_eq_true rfl⟩ ?_
  obtain rfl := Option.some.inj h
  obtain ⟨rfl, rfl⟩ := Prod.mk.inj (show ((some (.inl q_13.1) : Option aV), q_13.2) = (r, M') from hN)
  exact xv_ri E B.1 rfl B.2.1 (show decode prog_14_method_61_code 30 = .ok (.ireturn, 1) by decide +kernel) rfl rfl
end
theorem t212 (G : gX) (l : Launch) {as : List aV} {M : hM} {r : Option aV} {M' : hM} (h : f212 as M = some (r, M')) : xM G l ym212 prog_14_method_61_code 6 (some FieldType.int) 2 as M r M' := by
  unfold f212 at h
  split at h
  · have h := x_out_ok h
    refine xM_of (by decide) (Nat.le_of_ble_eq_true rfl) (lb212_0 G l _ _ _ _ _ _ M h) ?_
    intro p e s m args below meth c E B
    exact sb212_0 E B _ _ _ _ _ _ M h rfl
  · cases h
/-! ZFModel.done(IIII)V -/
def ym213 : MethodName := ⟨"ZonedFabricModel", "done", "(IIII)V"⟩
theorem cd213 : xCd ym213 prog_14_method_62_code 6 none 4 := ⟨mw1081, mw864, by decide, by decide, by decide +kernel⟩
def b213_0 (a0 : Nat) (v1 : Int32) (v2 : Int32) (v3 : Int32) (v4 : Int32) (M : hM) : Option xRes :=
  Option.bind (g_o M 12 (some a0)) fun b_3 =>
  Option.bind (c_I (f212 [.inr (.inr (some b_3)), .inl v1, .inl v2, .inl (12 : Int32), .inl v3, .inl (0 : Int32)] M)) fun q_1 =>
  Option.bind (g_o q_1.2 12 (some a0)) fun b_7 =>
  Option.bind (c_V (f167 [.inr (.inr (some b_7)), .inl q_1.1, .inr (.inl (Int32.toInt64 v4)), .inl (1 : Int32)] q_1.2)) fun q_5 =>
  Option.bind (g_o q_5 12 (some a0)) fun b_11 =>
  Option.bind (c_I (f176 [.inr (.inr (some b_11)), .inl v1] q_5)) fun q_9 =>
  Option.bind (g_o q_9.2 12 (some a0)) fun b_15 =>
  Option.bind (c_V (f183 [.inr (.inr (some b_15)), .inl q_9.1, .inl q_1.1] q_9.2)) fun q_13 =>
  some (.inl (none, q_13))
def f213 (as : List aV) (M : hM) : xO := match as with
  | [.inr (.inr (some a0)), .inl v1, .inl v2, .inl v3, .inl v4] => x_out (b213_0 a0 v1 v2 v3 v4 M)
  | _ => none
theorem lb213_0 (G : gX) (l : Launch) (a0 : Nat) (v1 : Int32) (v2 : Int32) (v3 : Int32) (v4 : Int32) (M : hM) {res : xRes} (h : b213_0 a0 v1 v2 v3 v4 M = some res) : h_sz M ≤ r_sz res ∧ h_sl M ≤ r_sl res := by
  unfold b213_0 at h
  obtain ⟨b_3, h4, h⟩ := bd h
  obtain ⟨q_1, h2, h⟩ := bd h
  have eh2 := (t212 G l (c_I_some h2)).1
  obtain ⟨b_7, h8, h⟩ := bd h
  obtain ⟨q_5, h6, h⟩ := bd h
  have eh6 := (t167 G l (c_V_some h6)).1
  obtain ⟨b_11, h12, h⟩ := bd h
  obtain ⟨q_9, h10, h⟩ := bd h
  have eh10 := (t176 G l (c_I_some h10)).1
  obtain ⟨b_15, h16, h⟩ := bd h
  obtain ⟨q_13, h14, h⟩ := bd h
  have eh14 := (t183 G l (c_V_some h14)).1
  obtain rfl := Option.some.inj h
  show h_sz M ≤ h_sz q_13 ∧ h_sl M ≤ h_sl q_13
  omega
section
variable {p : Program} {l : Launch} {e : Env} {s : State} {m : MethodId} {args : Array Value} {below : List Frame} {meth : Method} {c : Code} {G : gX} {z0 y0 : Nat} {r : Option aV} {M' : hM}
theorem sb213_0 (E : xE G p (xRm 4 (h_sz M' - z0) (h_sl M' - y0)) s m args c prog_14_method_62_code "ZonedFabricModel" z0 y0 (h_sz M') (h_sl M') 6) (B : xB ym213 none meth) (a0 : Nat) (v1 : Int32) (v2 : Int32) (v3 : Int32) (v4 : Int32) (M : hM) {res : xRes} (h : b213_0 a0 v1 v2 v3 v4 M = some res) (hN : xN (fun _ _ _ => False) r M' res) : xV G p l e (xRm 4 (h_sz M' - z0) (h_sl M' - y0)) s m args below meth c z0 y0 (h_sz M') (h_sl M') 6 (MQ below (xQc G r M') args s (h_sz M' - z0) (h_sl M' - y0) (xFr G)) 0 [(0, .inr (.inr (some a0))), (1, .inl v1), (2, .inl v2), (3, .inl v3), (4, .inl v4)] [] M := by
  unfold b213_0 at h
  refine xv_b E [.aload_n 0, .iload_n 1, .iload_n 2, .bipush 12, .iload_n 3, .iconst 0] (pc' := 7) (lv' := [(0, .inr (.inr (some a0))), (1, .inl v1), (2, .inl v2), (3, .inl v3), (4, .inl v4)]) (st' := [.inl (0 : Int32), .inl v3, .inl (12 : Int32), .inl v2, .inl v1, .inr (.inr (some a0))]) (by decide +kernel) rfl rfl ?_
  obtain ⟨b_3, h4, h⟩ := bd h
  obtain ⟨eh4, th4⟩ := g_o_some h4
  obtain ⟨q_1, h2, h⟩ := bd h
  refine xv_cvo E eh4 12 (as := [.inl v1, .inl v2, .inl (12 : Int32), .inl v3, .inl (0 : Int32)]) (t212 G l (c_I_some h2)) cd212 mw1082 mw1083 mw1084 (show decode prog_14_method_62_code 7 = .ok (.invokevirtual 394, 3) by decide +kernel) th4 rfl rfl (Nat.le_of_ble_eq_true rfl) ⟨Nat.le_of_ble_eq_true rfl, Nat.le_of_ble_eq_true rfl⟩ ?_
  refine xv_b E [.istore 5, .aload_n 0, .iload 5, .iload 4, .i2l, .iconst 1] (pc' := 19) (lv' := [(5, .inl q_1.1), (0, .inr (.inr (some a0))), (1, .inl v1), (2, .inl v2), (3, .inl v3), (4, .inl v4)]) (st' := [.inl (1 : Int32), .inr (.inl (Int32.toInt64 v4)), .inl q_1.1, .inr (.inr (some a0))]) (by decide +kernel) rfl rfl ?_
  obtain ⟨b_7, h8, h⟩ := bd h
  obtain ⟨eh8, th8⟩ := g_o_some h8
  obtain ⟨q_5, h6, h⟩ := bd h
  refine xv_cvo E eh8 12 (as := [.inl q_1.1, .inr (.inl (Int32.toInt64 v4)), .inl (1 : Int32)]) (t167 G l (c_V_some h6)) cd167 mw932 mw933 mw934 (show decode prog_14_method_62_code 19 = .ok (.invokevirtual 190, 3) by decide +kernel) th8 rfl rfl (Nat.le_of_ble_eq_true rfl) ⟨Nat.le_of_ble_eq_true rfl, Nat.le_of_ble_eq_true rfl⟩ ?_
  refine xv_b E [.aload_n 0, .aload_n 0, .iload_n 1] (pc' := 25) (lv' := [(5, .inl q_1.1), (0, .inr (.inr (some a0))), (1, .inl v1), (2, .inl v2), (3, .inl v3), (4, .inl v4)]) (st' := [.inl v1, .inr (.inr (some a0)), .inr (.inr (some a0))]) (by decide +kernel) rfl rfl ?_
  obtain ⟨b_11, h12, h⟩ := bd h
  obtain ⟨eh12, th12⟩ := g_o_some h12
  obtain ⟨q_9, h10, h⟩ := bd h
  refine xv_cvo E eh12 12 (as := [.inl v1]) (t176 G l (c_I_some h10)) cd176 mw1040 mw1041 mw1042 (show decode prog_14_method_62_code 25 = .ok (.invokevirtual 352, 3) by decide +kernel) th12 rfl rfl (Nat.le_of_ble_eq_true rfl) ⟨Nat.le_of_ble_eq_true rfl, Nat.le_of_ble_eq_true rfl⟩ ?_
  refine xv_b E [.iload 5] (pc' := 30) (lv' := [(5, .inl q_1.1), (0, .inr (.inr (some a0))), (1, .inl v1), (2, .inl v2), (3, .inl v3), (4, .inl v4)]) (st' := [.inl q_1.1, .inl q_9.1, .inr (.inr (some a0))]) (by decide +kernel) rfl rfl ?_
  obtain ⟨b_15, h16, h⟩ := bd h
  obtain ⟨eh16, th16⟩ := g_o_some h16
  obtain ⟨q_13, h14, h⟩ := bd h
  refine xv_cvo E eh16 12 (as := [.inl q_9.1, .inl q_1.1]) (t183 G l (c_V_some h14)) cd183 mw1043 mw1044 mw1045 (show decode prog_14_method_62_code 30 = .ok (.invokevirtual 301, 3) by decide +kernel) th16 rfl rfl (Nat.le_of_ble_eq_true rfl) ⟨Nat.le_of_ble_eq_true rfl, Nat.le_of_ble_eq_true rfl⟩ ?_
  obtain rfl := Option.some.inj h
  obtain ⟨rfl, rfl⟩ := Prod.mk.inj (show ((none : Option aV), q_13) = (r, M') from hN)
  exact xv_rv E B.1 B.2.1 (show decode prog_14_method_62_code 33 = .ok (.return_, 1) by decide +kernel) rfl rfl
end
theorem t213 (G : gX) (l : Launch) {as : List aV} {M : hM} {r : Option aV} {M' : hM} (h : f213 as M = some (r, M')) : xM G l ym213 prog_14_method_62_code 6 none 4 as M r M' := by
  unfold f213 at h
  split at h
  · have h := x_out_ok h
    refine xM_of (by decide) (Nat.le_of_ble_eq_true rfl) (lb213_0 G l _ _ _ _ _ M h) ?_
    intro p e s m args below meth c E B
    exact sb213_0 E B _ _ _ _ _ M h rfl
  · cases h
/-! ZFModel.data(III)V -/
def ym214 : MethodName := ⟨"ZonedFabricModel", "data", "(III)V"⟩
theorem cd214 : xCd ym214 prog_14_method_68_code 8 none 3 := ⟨mw1085, mw864, by decide, by decide, by decide +kernel⟩
def b214_0 (a0 : Nat) (v1 : Int32) (v2 : Int32) (v3 : Int32) (M : hM) : Option xRes :=
  Option.bind (g_o M 12 (some a0)) fun b_3 =>
  Option.bind (c_I (f165 [.inr (.inr (some b_3)), .inl v2, .inl (11 : Int32)] M)) fun q_1 =>
  some (.inr (12, [.inr (.inr (some a0)), .inl v1, .inl v2, .inl v3, .inl q_1.1, .inl (0 : Int32)], q_1.2))
def b214_269 (a0 : Nat) (v1 : Int32) (v2 : Int32) (v3 : Int32) (v4 : Int32) (v5 : Int32) (M : hM) : Option xRes :=
  some (.inr (12, [.inr (.inr (some a0)), .inl v1, .inl v2, .inl v3, .inl v4, .inl (v5 + (1 : Int32))], M))
def b214_12 (a0 : Nat) (v1 : Int32) (v2 : Int32) (v3 : Int32) (v4 : Int32) (v5 : Int32) (M : hM) : Option xRes :=
  Option.bind (g_r M 12 46 (some a0)) fun o_5 =>
  Option.bind (al_i M 20 o_5 v1) fun v_7 =>
  if v_7 ≤ v5 then
    (some (.inl (none, M)))
  else
    (Option.bind (g_r M 12 44 (some a0)) fun o_9 =>
    Option.bind (al_i M 20 o_9 (((48 : Int32) * v1) + ((8 : Int32) * v5))) fun v_11 =>
    if v_11 = v3 then
      (Option.bind (g_r M 12 44 (some a0)) fun o_13 =>
      Option.bind (al_i M 20 o_13 ((((48 : Int32) * v1) + ((8 : Int32) * v5)) + (1 : Int32))) fun v_15 =>
      Option.bind (g_o M 12 (some a0)) fun b_19 =>
      Option.bind (c_I (f166 [.inr (.inr (some b_19)), .inl v2, .inl (7 : Int32), .inl (2 : Int32)] M)) fun q_17 =>
      if v_15 = q_17.1 then
        (Option.bind (g_r q_17.2 12 44 (some a0)) fun o_21 =>
        Option.bind (al_i q_17.2 20 o_21 ((((48 : Int32) * v1) + ((8 : Int32) * v5)) + (2 : Int32))) fun v_23 =>
        Option.bind (g_o q_17.2 12 (some a0)) fun b_27 =>
        Option.bind (c_I (f166 [.inr (.inr (some b_27)), .inl v2, .inl (9 : Int32), .inl (2 : Int32)] q_17.2)) fun q_25 =>
        if v_23 = q_25.1 then
          (Option.bind (g_r q_25.2 12 44 (some a0)) fun o_29 =>
          Option.bind (al_i q_25.2 20 o_29 ((((48 : Int32) * v1) + ((8 : Int32) * v5)) + (5 : Int32))) fun v_31 =>
          if v4 < v_31 then
            (Option.bind (g_r q_25.2 12 45 (some a0)) fun o_33 =>
            Option.bind (g_o q_25.2 12 (some a0)) fun b_37 =>
            Option.bind (c_L (f209 [.inr (.inr (some b_37)), .inl v2] q_25.2)) fun q_35 =>
            Option.bind (as_l q_35.2 23 o_33 ((((24 : Int32) * v1) + ((4 : Int32) * v5)) + v4) q_35.1) fun M39 =>
            Option.bind (g_r M39 12 44 (some a0)) fun o_41 =>
            Option.bind (al_i M39 20 o_41 ((((48 : Int32) * v1) + ((8 : Int32) * v5)) + (6 : Int32))) fun v_43 =>
            Option.bind (as_i M39 20 o_41 ((((48 : Int32) * v1) + ((8 : Int32) * v5)) + (6 : Int32)) (v_43 ||| ((1 : Int32) <<< (v4 &&& 31)))) fun M45 =>
            Option.bind (g_r M45 12 44 (some a0)) fun o_47 =>
            Option.bind (al_i M45 20 o_47 ((((48 : Int32) * v1) + ((8 : Int32) * v5)) + (6 : Int32))) fun v_49 =>
            Option.bind (g_r M45 12 44 (some a0)) fun o_51 =>
            Option.bind (al_i M45 20 o_51 ((((48 : Int32) * v1) + ((8 : Int32) * v5)) + (5 : Int32))) fun v_53 =>
            if v_49 = (((1 : Int32) <<< (v_53 &&& 31)) - (1 : Int32)) then
              (some (.inr (173, [.inr (.inr (some a0)), .inl v1, .inl v2, .inl v5, .inl (((48 : Int32) * v1) + ((8 : Int32) * v5)), .inl (0 : Int32)], M45)))
            else
              (some (.inl (none, M45))))
          else
            (some (.inl (none, q_25.2))))
        else
          (b214_269 a0 v1 v2 v3 v4 v5 q_25.2))
      else
        (b214_269 a0 v1 v2 v3 v4 v5 q_17.2))
    else
      (b214_269 a0 v1 v2 v3 v4 v5 M))
def b214_173 (a0 : Nat) (v1 : Int32) (v2 : Int32) (v5 : Int32) (v6 : Int32) (v7 : Int32) (M : hM) : Option xRes :=
  Option.bind (g_r M 12 44 (some a0)) fun o_61 =>
  Option.bind (al_i M 20 o_61 (v6 + (5 : Int32))) fun v_63 =>
  if v_63 ≤ v7 then
    (Option.bind (g_r M 12 44 (some a0)) fun o_65 =>
    Option.bind (al_i M 20 o_65 (v6 + (2 : Int32))) fun v_67 =>
    Option.bind (g_o M 12 (some a0)) fun b_71 =>
    Option.bind (c_V (f213 [.inr (.inr (some b_71)), .inl v1, .inl v2, .inl v_67, .inl (0 : Int32)] M)) fun q_69 =>
    Option.bind (g_o q_69 12 (some a0)) fun b_75 =>
    Option.bind (c_V (f203 [.inr (.inr (some b_75)), .inl v1, .inl v5] q_69)) fun q_73 =>
    some (.inl (none, q_73)))
  else
    (Option.bind (g_r M 12 42 (some a0)) fun o_77 =>
    Option.bind (g_r M 12 44 (some a0)) fun o_79 =>
    Option.bind (al_i M 20 o_79 (v6 + (3 : Int32))) fun v_81 =>
    Option.bind (g_r M 12 44 (some a0)) fun o_83 =>
    Option.bind (al_i M 20 o_83 (v6 + (4 : Int32))) fun v_85 =>
    Option.bind (g_r M 12 45 (some a0)) fun o_87 =>
    Option.bind (al_l M 23 o_87 ((((24 : Int32) * v1) + ((4 : Int32) * v5)) + v7)) fun w_89 =>
    Option.bind (as_l M 23 o_77 (((((32 : Int32) * v1) + ((16 : Int32) * v_81)) + v_85) + v7) w_89) fun M91 =>
    some (.inr (173, [.inr (.inr (some a0)), .inl v1, .inl v2, .inl v5, .inl v6, .inl (v7 + (1 : Int32))], M91)))
def k214 (h : Nat) (as : List aV) (M : hM) : Option xRes :=
  if h = 12 then (match as with | [.inr (.inr (some a0)), .inl v1, .inl v2, .inl v3, .inl v4, .inl v5] => b214_12 a0 v1 v2 v3 v4 v5 M | _ => none) else
  if h = 173 then (match as with | [.inr (.inr (some a0)), .inl v1, .inl v2, .inl v5, .inl v6, .inl v7] => b214_173 a0 v1 v2 v5 v6 v7 M | _ => none) else
  none
def f214 (as : List aV) (M : hM) : xO := match as with
  | [.inr (.inr (some a0)), .inl v1, .inl v2, .inl v3] => x_go k214 (b214_0 a0 v1 v2 v3 M)
  | _ => none
theorem lb214_0 (G : gX) (l : Launch) (a0 : Nat) (v1 : Int32) (v2 : Int32) (v3 : Int32) (M : hM) {res : xRes} (h : b214_0 a0 v1 v2 v3 M = some res) : h_sz M ≤ r_sz res ∧ h_sl M ≤ r_sl res := by
  unfold b214_0 at h
  obtain ⟨b_3, h4, h⟩ := bd h
  obtain ⟨q_1, h2, h⟩ := bd h
  have eh2 := (t165 G l (c_I_some h2)).1
  obtain rfl := Option.some.inj h
  show h_sz M ≤ h_sz q_1.2 ∧ h_sl M ≤ h_sl q_1.2
  omega
theorem lb214_269 (G : gX) (l : Launch) (a0 : Nat) (v1 : Int32) (v2 : Int32) (v3 : Int32) (v4 : Int32) (v5 : Int32) (M : hM) {res : xRes} (h : b214_269 a0 v1 v2 v3 v4 v5 M = some res) : h_sz M ≤ r_sz res ∧ h_sl M ≤ r_sl res := by
  unfold b214_269 at h
  obtain rfl := Option.some.inj h
  show h_sz M ≤ h_sz M ∧ h_sl M ≤ h_sl M
  omega
theorem lb214_12 (G : gX) (l : Launch) (a0 : Nat) (v1 : Int32) (v2 : Int32) (v3 : Int32) (v4 : Int32) (v5 : Int32) (M : hM) {res : xRes} (h : b214_12 a0 v1 v2 v3 v4 v5 M = some res) : h_sz M ≤ r_sz res ∧ h_sl M ≤ r_sl res := by
  unfold b214_12 at h
  obtain ⟨o_5, h6, h⟩ := bd h
  obtain ⟨v_7, h8, h⟩ := bd h
  by_cases q60 : v_7 ≤ v5
  · rw [if_pos q60] at h
    obtain rfl := Option.some.inj h
    show h_sz M ≤ h_sz M ∧ h_sl M ≤ h_sl M
    omega
  · rw [if_neg q60] at h
    obtain ⟨o_9, h10, h⟩ := bd h
    obtain ⟨v_11, h12, h⟩ := bd h
    by_cases q59 : v_11 = v3
    · rw [if_pos q59] at h
      obtain ⟨o_13, h14, h⟩ := bd h
      obtain ⟨v_15, h16, h⟩ := bd h
      obtain ⟨b_19, h20, h⟩ := bd h
      obtain ⟨q_17, h18, h⟩ := bd h
      have eh18 := (t166 G l (c_I_some h18)).1
      by_cases q58 : v_15 = q_17.1
      · rw [if_pos q58] at h
        obtain ⟨o_21, h22, h⟩ := bd h
        obtain ⟨v_23, h24, h⟩ := bd h
        obtain ⟨b_27, h28, h⟩ := bd h
        obtain ⟨q_25, h26, h⟩ := bd h
        have eh26 := (t166 G l (c_I_some h26)).1
        by_cases q57 : v_23 = q_25.1
        · rw [if_pos q57] at h
          obtain ⟨o_29, h30, h⟩ := bd h
          obtain ⟨v_31, h32, h⟩ := bd h
          by_cases q56 : v4 < v_31
          · rw [if_pos q56] at h
            obtain ⟨o_33, h34, h⟩ := bd h
            obtain ⟨b_37, h38, h⟩ := bd h
            obtain ⟨q_35, h36, h⟩ := bd h
            have eh36 := (t209 G l (c_L_some h36)).1
            obtain ⟨M39, h40, h⟩ := bd h
            have eh40 := as_l_sz h40
            obtain ⟨o_41, h42, h⟩ := bd h
            obtain ⟨v_43, h44, h⟩ := bd h
            obtain ⟨M45, h46, h⟩ := bd h
            have eh46 := as_i_sz h46
            obtain ⟨o_47, h48, h⟩ := bd h
            obtain ⟨v_49, h50, h⟩ := bd h
            obtain ⟨o_51, h52, h⟩ := bd h
            obtain ⟨v_53, h54, h⟩ := bd h
            by_cases q55 : v_49 = (((1 : Int32) <<< (v_53 &&& 31)) - (1 : Int32))
            · rw [if_pos q55] at h
              obtain rfl := Option.some.inj h
              show h_sz M ≤ h_sz M45 ∧ h_sl M ≤ h_sl M45
              omega
            · rw [if_neg q55] at h
              obtain rfl := Option.some.inj h
              show h_sz M ≤ h_sz M45 ∧ h_sl M ≤ h_sl M45
              omega
          · rw [if_neg q56] at h
            obtain rfl := Option.some.inj h
            show h_sz M ≤ h_sz q_25.2 ∧ h_sl M ≤ h_sl q_25.2
            omega
        · rw [if_neg q57] at h
          have e := lb214_269 G l a0 v1 v2 v3 v4 v5 q_25.2 h
          omega
      · rw [if_neg q58] at h
        have e := lb214_269 G l a0 v1 v2 v3 v4 v5 q_17.2 h
        omega
    · rw [if_neg q59] at h
      have e := lb214_269 G l a0 v1 v2 v3 v4 v5 M h
      omega
theorem lb214_173 (G : gX) (l : Launch) (a0 : Nat) (v1 : Int32) (v2 : Int32) (v5 : Int32) (v6 : Int32) (v7 : Int32) (M : hM) {res : xRes} (h : b214_173 a0 v1 v2 v5 v6 v7 M = some res) : h_sz M ≤ r_sz res ∧ h_sl M ≤ r_sl res := by
  unfold b214_173 at h
  obtain ⟨o_61, h62, h⟩ := bd h
  obtain ⟨v_63, h64, h⟩ := bd h
  by_cases q93 : v_63 ≤ v7
  · rw [if_pos q93] at h
    obtain ⟨o_65, h66, h⟩ := bd h
    obtain ⟨v_67, h68, h⟩ := bd h
    obtain ⟨b_71, h72, h⟩ := bd h
    obtain ⟨q_69, h70, h⟩ := bd h
    have eh70 := (t213 G l (c_V_some h70)).1
    obtain ⟨b_75, h76, h⟩ := bd h
    obtain ⟨q_73, h74, h⟩ := bd h
    have eh74 := (t203 G l (c_V_some h74)).1
    obtain rfl := Option.some.inj h
    show h_sz M ≤ h_sz q_73 ∧ h_sl M ≤ h_sl q_73
    omega
  · rw [if_neg q93] at h
    obtain ⟨o_77, h78, h⟩ := bd h
    obtain ⟨o_79, h80, h⟩ := bd h
    obtain ⟨v_81, h82, h⟩ := bd h
    obtain ⟨o_83, h84, h⟩ := bd h
    obtain ⟨v_85, h86, h⟩ := bd h
    obtain ⟨o_87, h88, h⟩ := bd h
    obtain ⟨w_89, h90, h⟩ := bd h
    obtain ⟨M91, h92, h⟩ := bd h
    have eh92 := as_l_sz h92
    obtain rfl := Option.some.inj h
    show h_sz M ≤ h_sz M91 ∧ h_sl M ≤ h_sl M91
    omega
section
variable {p : Program} {l : Launch} {e : Env} {s : State} {m : MethodId} {args : Array Value} {below : List Frame} {meth : Method} {c : Code} {G : gX} {z0 y0 : Nat} {r : Option aV} {M' : hM}
def pg214 (p : Program) (l : Launch) (e : Env) (s : State) (m : MethodId) (args : Array Value) (below : List Frame) (meth : Method) (c : Code) (G : gX) (z0 y0 : Nat) (r : Option aV) (M' : hM) (h : Nat) (as : List aV) (M : hM) : Prop :=
  if h = 12 then (match as with | [.inr (.inr (some a0)), .inl v1, .inl v2, .inl v3, .inl v4, .inl v5] => xV G p l e (xRm 5 (h_sz M' - z0) (h_sl M' - y0)) s m args below meth c z0 y0 (h_sz M') (h_sl M') 8 (MQ below (xQc G r M') args s (h_sz M' - z0) (h_sl M' - y0) (xFr G)) 12 [(0, .inr (.inr (some a0))), (1, .inl v1), (2, .inl v2), (3, .inl v3), (4, .inl v4), (5, .inl v5)] [] M | _ => False) else
  if h = 173 then (match as with | [.inr (.inr (some a0)), .inl v1, .inl v2, .inl v5, .inl v6, .inl v7] => xV G p l e (xRm 5 (h_sz M' - z0) (h_sl M' - y0)) s m args below meth c z0 y0 (h_sz M') (h_sl M') 8 (MQ below (xQc G r M') args s (h_sz M' - z0) (h_sl M' - y0) (xFr G)) 173 [(0, .inr (.inr (some a0))), (1, .inl v1), (2, .inl v2), (5, .inl v5), (6, .inl v6), (7, .inl v7)] [] M | _ => False) else
  False
theorem sb214_0 (E : xE G p (xRm 5 (h_sz M' - z0) (h_sl M' - y0)) s m args c prog_14_method_68_code "ZonedFabricModel" z0 y0 (h_sz M') (h_sl M') 8) (B : xB ym214 none meth) (a0 : Nat) (v1 : Int32) (v2 : Int32) (v3 : Int32) (M : hM) {res : xRes} (h : b214_0 a0 v1 v2 v3 M = some res) (hN : xN (pg214 p l e s m args below meth c G z0 y0 r M') r M' res) : xV G p l e (xRm 5 (h_sz M' - z0) (h_sl M' - y0)) s m args below meth c z0 y0 (h_sz M') (h_sl M') 8 (MQ below (xQc G r M') args s (h_sz M' - z0) (h_sl M' - y0) (xFr G)) 0 [(0, .inr (.inr (some a0))), (1, .inl v1), (2, .inl v2), (3, .inl v3)] [] M := by
  unfold b214_0 at h
  refine xv_b E [.aload_n 0, .iload_n 2, .bipush 11] (pc' := 4) (lv' := [(0, .inr (.inr (some a0))), (1, .inl v1), (2, .inl v2), (3, .inl v3)]) (st' := [.inl (11 : Int32), .inl v2, .inr (.inr (some a0))]) (by decide +kernel) rfl rfl ?_
  obtain ⟨b_3, h4, h⟩ := bd h
  obtain ⟨eh4, th4⟩ := g_o_some h4
  obtain ⟨q_1, h2, h⟩ := bd h
  refine xv_cvo E eh4 12 (as := [.inl v2, .inl (11 : Int32)]) (t165 G l (c_I_some h2)) cd165 mw927 mw928 mw929 (show decode prog_14_method_68_code 4 = .ok (.invokevirtual 186, 3) by decide +kernel) th4 rfl rfl (Nat.le_of_ble_eq_true rfl) ⟨Nat.le_of_ble_eq_true rfl, Nat.le_of_ble_eq_true rfl⟩ ?_
  refine xv_b E [.istore 4, .iconst 0, .istore 5] (pc' := 12) (lv' := [(5, .inl (0 : Int32)), (4, .inl q_1.1), (0, .inr (.inr (some a0))), (1, .inl v1), (2, .inl v2), (3, .inl v3)]) (st' := []) (by decide +kernel) rfl rfl ?_
  obtain rfl := Option.some.inj h
  exact xv_w hN rfl
theorem sb214_269 (E : xE G p (xRm 5 (h_sz M' - z0) (h_sl M' - y0)) s m args c prog_14_method_68_code "ZonedFabricModel" z0 y0 (h_sz M') (h_sl M') 8) (B : xB ym214 none meth) (a0 : Nat) (v1 : Int32) (v2 : Int32) (v3 : Int32) (v4 : Int32) (v5 : Int32) (M : hM) {res : xRes} (h : b214_269 a0 v1 v2 v3 v4 v5 M = some res) (hN : xN (pg214 p l e s m args below meth c G z0 y0 r M') r M' res) : xV G p l e (xRm 5 (h_sz M' - z0) (h_sl M' - y0)) s m args below meth c z0 y0 (h_sz M') (h_sl M') 8 (MQ below (xQc G r M') args s (h_sz M' - z0) (h_sl M' - y0) (xFr G)) 269 [(0, .inr (.inr (some a0))), (1, .inl v1), (2, .inl v2), (3, .inl v3), (4, .inl v4), (5, .inl v5)] [] M := by
  unfold b214_269 at h
  refine xv_b E [.iinc 5 1] (pc' := 272) (lv' := [(5, .inl (v5 + (1 : Int32))), (0, .inr (.inr (some a0))), (1, .inl v1), (2, .inl v2), (3, .inl v3), (4, .inl v4)]) (st' := []) (by decide +kernel) rfl rfl ?_
  refine xv_goto E 12 (show decode prog_14_method_68_code 272 = .ok (.goto (-260), 3) by decide +kernel) rfl ?_
  obtain rfl := Option.some.inj h
  exact xv_w hN rfl
theorem sb214_12 (E : xE G p (xRm 5 (h_sz M' - z0) (h_sl M' - y0)) s m args c prog_14_method_68_code "ZonedFabricModel" z0 y0 (h_sz M') (h_sl M') 8) (B : xB ym214 none meth) (a0 : Nat) (v1 : Int32) (v2 : Int32) (v3 : Int32) (v4 : Int32) (v5 : Int32) (M : hM) {res : xRes} (h : b214_12 a0 v1 v2 v3 v4 v5 M = some res) (hN : xN (pg214 p l e s m args below meth c G z0 y0 r M') r M' res) : xV G p l e (xRm 5 (h_sz M' - z0) (h_sl M' - y0)) s m args below meth c z0 y0 (h_sz M') (h_sl M') 8 (MQ below (xQc G r M') args s (h_sz M' - z0) (h_sl M' - y0) (xFr G)) 12 [(0, .inr (.inr (some a0))), (1, .inl v1), (2, .inl v2), (3, .inl v3), (4, .inl v4), (5, .inl v5)] [] M := by
  unfold b214_12 at h
  refine xv_b E [.iload 5, .aload_n 0] (pc' := 15) (lv' := [(0, .inr (.inr (some a0))), (1, .inl v1), (2, .inl v2), (3, .inl v3), (4, .inl v4), (5, .inl v5)]) (st' := [.inr (.inr (some a0)), .inl v5]) (by decide +kernel) rfl rfl ?_
  obtain ⟨o_5, h6, h⟩ := bd h
  refine xg_r E 12 46 h6 mw905 (show decode prog_14_method_68_code 15 = .ok (.getfield 131, 3) by decide +kernel) ?_
  refine xv_b E [.iload_n 1] (pc' := 19) (lv' := [(0, .inr (.inr (some a0))), (1, .inl v1), (2, .inl v2), (3, .inl v3), (4, .inl v4), (5, .inl v5)]) (st' := [.inl v1, .inr (.inr o_5), .inl v5]) (by decide +kernel) rfl rfl ?_
  obtain ⟨v_7, h8, h⟩ := bd h
  refine xa_i E h8 (show decode prog_14_method_68_code 19 = .ok (.iaload, 1) by decide +kernel) ?_
  by_cases q60 : v_7 ≤ v5
  · rw [if_pos q60] at h
    refine xv_icmp_ge E 275 (show decode prog_14_method_68_code 20 = .ok (.if_icmp .ge (255), 3) by decide +kernel) rfl (fun _ => ?_) (fun z => absurd q60 z)
    obtain rfl := Option.some.inj h
    obtain ⟨rfl, rfl⟩ := Prod.mk.inj (show ((none : Option aV), M) = (r, M') from hN)
    exact xv_rv E B.1 B.2.1 (show decode prog_14_method_68_code 275 = .ok (.return_, 1) by decide +kernel) rfl rfl
  · rw [if_neg q60] at h
    refine xv_icmp_ge E 275 (show decode prog_14_method_68_code 20 = .ok (.if_icmp .ge (255), 3) by decide +kernel) rfl (fun z => absurd z q60) (fun _ => ?_)
    refine xv_b E [.bipush 48, .iload_n 1, .imul, .bipush 8, .iload 5, .imul, .iadd, .istore 6, .aload_n 0] (pc' := 36) (lv' := [(6, .inl (((48 : Int32) * v1) + ((8 : Int32) * v5))), (0, .inr (.inr (some a0))), (1, .inl v1), (2, .inl v2), (3, .inl v3), (4, .inl v4), (5, .inl v5)]) (st' := [.inr (.inr (some a0))]) (by decide +kernel) rfl rfl ?_
    obtain ⟨o_9, h10, h⟩ := bd h
    refine xg_r E 12 44 h10 mw903 (show decode prog_14_method_68_code 36 = .ok (.getfield 125, 3) by decide +kernel) ?_
    refine xv_b E [.iload 6] (pc' := 41) (lv' := [(6, .inl (((48 : Int32) * v1) + ((8 : Int32) * v5))), (0, .inr (.inr (some a0))), (1, .inl v1), (2, .inl v2), (3, .inl v3), (4, .inl v4), (5, .inl v5)]) (st' := [.inl (((48 : Int32) * v1) + ((8 : Int32) * v5)), .inr (.inr o_9)]) (by decide +kernel) rfl rfl ?_
    obtain ⟨v_11, h12, h⟩ := bd h
    refine xa_i E h12 (show decode prog_14_method_68_code 41 = .ok (.iaload, 1) by decide +kernel) ?_
    refine xv_b E [.iload_n 3] (pc' := 43) (lv' := [(6, .inl (((48 : Int32) * v1) + ((8 : Int32) * v5))), (0, .inr (.inr (some a0))), (1, .inl v1), (2, .inl v2), (3, .inl v3), (4, .inl v4), (5, .inl v5)]) (st' := [.inl v3, .inl v_11]) (by decide +kernel) rfl rfl ?_
    by_cases q59 : v_11 = v3
    · rw [if_pos q59] at h
      refine xv_icmp_ne E 269 (show decode prog_14_method_68_code 43 = .ok (.if_icmp .ne (226), 3) by decide +kernel) rfl (fun z => absurd q59 z) (fun _ => ?_)
      refine xv_b E [.aload_n 0] (pc' := 47) (lv' := [(6, .inl (((48 : Int32) * v1) + ((8 : Int32) * v5))), (0, .inr (.inr (some a0))), (1, .inl v1), (2, .inl v2), (3, .inl v3), (4, .inl v4), (5, .inl v5)]) (st' := [.inr (.inr (some a0))]) (by decide +kernel) rfl rfl ?_
      obtain ⟨o_13, h14, h⟩ := bd h
      refine xg_r E 12 44 h14 mw903 (show decode prog_14_method_68_code 47 = .ok (.getfield 125, 3) by decide +kernel) ?_
      refine xv_b E [.iload 6, .iconst 1, .iadd] (pc' := 54) (lv' := [(6, .inl (((48 : Int32) * v1) + ((8 : Int32) * v5))), (0, .inr (.inr (some a0))), (1, .inl v1), (2, .inl v2), (3, .inl v3), (4, .inl v4), (5, .inl v5)]) (st' := [.inl ((((48 : Int32) * v1) + ((8 : Int32) * v5)) + (1 : Int32)), .inr (.inr o_13)]) (by decide +kernel) rfl rfl ?_
      obtain ⟨v_15, h16, h⟩ := bd h
      refine xa_i E h16 (show decode prog_14_method_68_code 54 = .ok (.iaload, 1) by decide +kernel) ?_
      refine xv_b E [.aload_n 0, .iload_n 2, .bipush 7, .iconst 2] (pc' := 60) (lv' := [(6, .inl (((48 : Int32) * v1) + ((8 : Int32) * v5))), (0, .inr (.inr (some a0))), (1, .inl v1), (2, .inl v2), (3, .inl v3), (4, .inl v4), (5, .inl v5)]) (st' := [.inl (2 : Int32), .inl (7 : Int32), .inl v2, .inr (.inr (some a0)), .inl v_15]) (by decide +kernel) rfl rfl ?_
      obtain ⟨b_19, h20, h⟩ := bd h
      obtain ⟨eh20, th20⟩ := g_o_some h20
      obtain ⟨q_17, h18, h⟩ := bd h
      refine xv_cvo E eh20 12 (as := [.inl v2, .inl (7 : Int32), .inl (2 : Int32)]) (t166 G l (c_I_some h18)) cd166 mw947 mw948 mw949 (show decode prog_14_method_68_code 60 = .ok (.invokevirtual 198, 3) by decide +kernel) th20 rfl rfl (Nat.le_of_ble_eq_true rfl) ⟨Nat.le_of_ble_eq_true rfl, Nat.le_of_ble_eq_true rfl⟩ ?_
      by_cases q58 : v_15 = q_17.1
      · rw [if_pos q58] at h
        refine xv_icmp_ne E 269 (show decode prog_14_method_68_code 63 = .ok (.if_icmp .ne (206), 3) by decide +kernel) rfl (fun z => absurd q58 z) (fun _ => ?_)
        refine xv_b E [.aload_n 0] (pc' := 67) (lv' := [(6, .inl (((48 : Int32) * v1) + ((8 : Int32) * v5))), (0, .inr (.inr (some a0))), (1, .inl v1), (2, .inl v2), (3, .inl v3), (4, .inl v4), (5, .inl v5)]) (st' := [.inr (.inr (some a0))]) (by decide +kernel) rfl rfl ?_
        obtain ⟨o_21, h22, h⟩ := bd h
        refine xg_r E 12 44 h22 mw903 (show decode prog_14_method_68_code 67 = .ok (.getfield 125, 3) by decide +kernel) ?_
        refine xv_b E [.iload 6, .iconst 2, .iadd] (pc' := 74) (lv' := [(6, .inl (((48 : Int32) * v1) + ((8 : Int32) * v5))), (0, .inr (.inr (some a0))), (1, .inl v1), (2, .inl v2), (3, .inl v3), (4, .inl v4), (5, .inl v5)]) (st' := [.inl ((((48 : Int32) * v1) + ((8 : Int32) * v5)) + (2 : Int32)), .inr (.inr o_21)]) (by decide +kernel) rfl rfl ?_
        obtain ⟨v_23, h24, h⟩ := bd h
        refine xa_i E h24 (show decode prog_14_method_68_code 74 = .ok (.iaload, 1) by decide +kernel) ?_
        refine xv_b E [.aload_n 0, .iload_n 2, .bipush 9, .iconst 2] (pc' := 80) (lv' := [(6, .inl (((48 : Int32) * v1) + ((8 : Int32) * v5))), (0, .inr (.inr (some a0))), (1, .inl v1), (2, .inl v2), (3, .inl v3), (4, .inl v4), (5, .inl v5)]) (st' := [.inl (2 : Int32), .inl (9 : Int32), .inl v2, .inr (.inr (some a0)), .inl v_23]) (by decide +kernel) rfl rfl ?_
        obtain ⟨b_27, h28, h⟩ := bd h
        obtain ⟨eh28, th28⟩ := g_o_some h28
        obtain ⟨q_25, h26, h⟩ := bd h
        refine xv_cvo E eh28 12 (as := [.inl v2, .inl (9 : Int32), .inl (2 : Int32)]) (t166 G l (c_I_some h26)) cd166 mw947 mw948 mw949 (show decode prog_14_method_68_code 80 = .ok (.invokevirtual 198, 3) by decide +kernel) th28 rfl rfl (Nat.le_of_ble_eq_true rfl) ⟨Nat.le_of_ble_eq_true rfl, Nat.le_of_ble_eq_true rfl⟩ ?_
        by_cases q57 : v_23 = q_25.1
        · rw [if_pos q57] at h
          refine xv_icmp_eq E 89 (show decode prog_14_method_68_code 83 = .ok (.if_icmp .eq (6), 3) by decide +kernel) rfl (fun _ => ?_) (fun z => absurd q57 z)
          refine xv_b E [.iload 4, .aload_n 0] (pc' := 92) (lv' := [(6, .inl (((48 : Int32) * v1) + ((8 : Int32) * v5))), (0, .inr (.inr (some a0))), (1, .inl v1), (2, .inl v2), (3, .inl v3), (4, .inl v4), (5, .inl v5)]) (st' := [.inr (.inr (some a0)), .inl v4]) (by decide +kernel) rfl rfl ?_
          obtain ⟨o_29, h30, h⟩ := bd h
          refine xg_r E 12 44 h30 mw903 (show decode prog_14_method_68_code 92 = .ok (.getfield 125, 3) by decide +kernel) ?_
          refine xv_b E [.iload 6, .iconst 5, .iadd] (pc' := 99) (lv' := [(6, .inl (((48 : Int32) * v1) + ((8 : Int32) * v5))), (0, .inr (.inr (some a0))), (1, .inl v1), (2, .inl v2), (3, .inl v3), (4, .inl v4), (5, .inl v5)]) (st' := [.inl ((((48 : Int32) * v1) + ((8 : Int32) * v5)) + (5 : Int32)), .inr (.inr o_29), .inl v4]) (by decide +kernel) rfl rfl ?_
          obtain ⟨v_31, h32, h⟩ := bd h
          refine xa_i E h32 (show decode prog_14_method_68_code 99 = .ok (.iaload, 1) by decide +kernel) ?_
          by_cases q56 : v4 < v_31
          · rw [if_pos q56] at h
            refine xv_icmp_lt E 104 (show decode prog_14_method_68_code 100 = .ok (.if_icmp .lt (4), 3) by decide +kernel) rfl (fun _ => ?_) (fun z => absurd q56 z)
            refine xv_b E [.aload_n 0] (pc' := 105) (lv' := [(6, .inl (((48 : Int32) * v1) + ((8 : Int32) * v5))), (0, .inr (.inr (some a0))), (1, .inl v1), (2, .inl v2), (3, .inl v3), (4, .inl v4), (5, .inl v5)]) (st' := [.inr (.inr (some a0))]) (by decide +kernel) rfl rfl ?_
            obtain ⟨o_33, h34, h⟩ := bd h
            refine xg_r E 12 45 h34 mw904 (show decode prog_14_method_68_code 105 = .ok (.getfield 128, 3) by decide +kernel) ?_
            refine xv_b E [.bipush 24, .iload_n 1, .imul, .iconst 4, .iload 5, .imul, .iadd, .iload 4, .iadd, .aload_n 0, .iload_n 2] (pc' := 122) (lv' := [(6, .inl (((48 : Int32) * v1) + ((8 : Int32) * v5))), (0, .inr (.inr (some a0))), (1, .inl v1), (2, .inl v2), (3, .inl v3), (4, .inl v4), (5, .inl v5)]) (st' := [.inl v2, .inr (.inr (some a0)), .inl ((((24 : Int32) * v1) + ((4 : Int32) * v5)) + v4), .inr (.inr o_33)]) (by decide +kernel) rfl rfl ?_
            obtain ⟨b_37, h38, h⟩ := bd h
            obtain ⟨eh38, th38⟩ := g_o_some h38
            obtain ⟨q_35, h36, h⟩ := bd h
            refine xv_cvo E eh38 12 (as := [.inl v2]) (t209 G l (c_L_some h36)) cd209 mw1070 mw1071 mw1072 (show decode prog_14_method_68_code 122 = .ok (.invokevirtual 390, 3) by decide +kernel) th38 rfl rfl (Nat.le_of_ble_eq_true rfl) ⟨Nat.le_of_ble_eq_true rfl, Nat.le_of_ble_eq_true rfl⟩ ?_
            obtain ⟨M39, h40, h⟩ := bd h
            refine xs_l E h40 (show decode prog_14_method_68_code 125 = .ok (.lastore, 1) by decide +kernel) ?_
            refine xv_b E [.aload_n 0] (pc' := 127) (lv' := [(6, .inl (((48 : Int32) * v1) + ((8 : Int32) * v5))), (0, .inr (.inr (some a0))), (1, .inl v1), (2, .inl v2), (3, .inl v3), (4, .inl v4), (5, .inl v5)]) (st' := [.inr (.inr (some a0))]) (by decide +kernel) rfl rfl ?_
            obtain ⟨o_41, h42, h⟩ := bd h
            refine xg_r E 12 44 h42 mw903 (show decode prog_14_method_68_code 127 = .ok (.getfield 125, 3) by decide +kernel) ?_
            refine xv_b E [.iload 6, .bipush 6, .iadd, .dup2] (pc' := 136) (lv' := [(6, .inl (((48 : Int32) * v1) + ((8 : Int32) * v5))), (0, .inr (.inr (some a0))), (1, .inl v1), (2, .inl v2), (3, .inl v3), (4, .inl v4), (5, .inl v5)]) (st' := [.inl ((((48 : Int32) * v1) + ((8 : Int32) * v5)) + (6 : Int32)), .inr (.inr o_41), .inl ((((48 : Int32) * v1) + ((8 : Int32) * v5)) + (6 : Int32)), .inr (.inr o_41)]) (by decide +kernel) rfl rfl ?_
            obtain ⟨v_43, h44, h⟩ := bd h
            refine xa_i E h44 (show decode prog_14_method_68_code 136 = .ok (.iaload, 1) by decide +kernel) ?_
            refine xv_b E [.iconst 1, .iload 4, .ishl, .ior] (pc' := 142) (lv' := [(6, .inl (((48 : Int32) * v1) + ((8 : Int32) * v5))), (0, .inr (.inr (some a0))), (1, .inl v1), (2, .inl v2), (3, .inl v3), (4, .inl v4), (5, .inl v5)]) (st' := [.inl (v_43 ||| ((1 : Int32) <<< (v4 &&& 31))), .inl ((((48 : Int32) * v1) + ((8 : Int32) * v5)) + (6 : Int32)), .inr (.inr o_41)]) (by decide +kernel) rfl rfl ?_
            obtain ⟨M45, h46, h⟩ := bd h
            refine xs_i E h46 (show decode prog_14_method_68_code 142 = .ok (.iastore, 1) by decide +kernel) ?_
            refine xv_b E [.aload_n 0] (pc' := 144) (lv' := [(6, .inl (((48 : Int32) * v1) + ((8 : Int32) * v5))), (0, .inr (.inr (some a0))), (1, .inl v1), (2, .inl v2), (3, .inl v3), (4, .inl v4), (5, .inl v5)]) (st' := [.inr (.inr (some a0))]) (by decide +kernel) rfl rfl ?_
            obtain ⟨o_47, h48, h⟩ := bd h
            refine xg_r E 12 44 h48 mw903 (show decode prog_14_method_68_code 144 = .ok (.getfield 125, 3) by decide +kernel) ?_
            refine xv_b E [.iload 6, .bipush 6, .iadd] (pc' := 152) (lv' := [(6, .inl (((48 : Int32) * v1) + ((8 : Int32) * v5))), (0, .inr (.inr (some a0))), (1, .inl v1), (2, .inl v2), (3, .inl v3), (4, .inl v4), (5, .inl v5)]) (st' := [.inl ((((48 : Int32) * v1) + ((8 : Int32) * v5)) + (6 : Int32)), .inr (.inr o_47)]) (by decide +kernel) rfl rfl ?_
            obtain ⟨v_49, h50, h⟩ := bd h
            refine xa_i E h50 (show decode prog_14_method_68_code 152 = .ok (.iaload, 1) by decide +kernel) ?_
            refine xv_b E [.iconst 1, .aload_n 0] (pc' := 155) (lv' := [(6, .inl (((48 : Int32) * v1) + ((8 : Int32) * v5))), (0, .inr (.inr (some a0))), (1, .inl v1), (2, .inl v2), (3, .inl v3), (4, .inl v4), (5, .inl v5)]) (st' := [.inr (.inr (some a0)), .inl (1 : Int32), .inl v_49]) (by decide +kernel) rfl rfl ?_
            obtain ⟨o_51, h52, h⟩ := bd h
            refine xg_r E 12 44 h52 mw903 (show decode prog_14_method_68_code 155 = .ok (.getfield 125, 3) by decide +kernel) ?_
            refine xv_b E [.iload 6, .iconst 5, .iadd] (pc' := 162) (lv' := [(6, .inl (((48 : Int32) * v1) + ((8 : Int32) * v5))), (0, .inr (.inr (some a0))), (1, .inl v1), (2, .inl v2), (3, .inl v3), (4, .inl v4), (5, .inl v5)]) (st' := [.inl ((((48 : Int32) * v1) + ((8 : Int32) * v5)) + (5 : Int32)), .inr (.inr o_51), .inl (1 : Int32), .inl v_49]) (by decide +kernel) rfl rfl ?_
            obtain ⟨v_53, h54, h⟩ := bd h
            refine xa_i E h54 (show decode prog_14_method_68_code 162 = .ok (.iaload, 1) by decide +kernel) ?_
            refine xv_b E [.ishl, .iconst 1, .isub] (pc' := 166) (lv' := [(6, .inl (((48 : Int32) * v1) + ((8 : Int32) * v5))), (0, .inr (.inr (some a0))), (1, .inl v1), (2, .inl v2), (3, .inl v3), (4, .inl v4), (5, .inl v5)]) (st' := [.inl (((1 : Int32) <<< (v_53 &&& 31)) - (1 : Int32)), .inl v_49]) (by decide +kernel) rfl rfl ?_
            by_cases q55 : v_49 = (((1 : Int32) <<< (v_53 &&& 31)) - (1 : Int32))
            · rw [if_pos q55] at h
              refine xv_icmp_eq E 170 (show decode prog_14_method_68_code 166 = .ok (.if_icmp .eq (4), 3) by decide +kernel) rfl (fun _ => ?_) (fun z => absurd q55 z)
              refine xv_b E [.iconst 0, .istore 7] (pc' := 173) (lv' := [(7, .inl (0 : Int32)), (6, .inl (((48 : Int32) * v1) + ((8 : Int32) * v5))), (0, .inr (.inr (some a0))), (1, .inl v1), (2, .inl v2), (3, .inl v3), (4, .inl v4), (5, .inl v5)]) (st' := []) (by decide +kernel) rfl rfl ?_
              obtain rfl := Option.some.inj h
              exact xv_w hN rfl
            · rw [if_neg q55] at h
              refine xv_icmp_eq E 170 (show decode prog_14_method_68_code 166 = .ok (.if_icmp .eq (4), 3) by decide +kernel) rfl (fun z => absurd z q55) (fun _ => ?_)
              obtain rfl := Option.some.inj h
              obtain ⟨rfl, rfl⟩ := Prod.mk.inj (show ((none : Option aV), M45) = (r, M') from hN)
              exact xv_rv E B.1 B.2.1 (show decode prog_14_method_68_code 169 = .ok (.return_, 1) by decide +kernel) rfl rfl
          · rw [if_neg q56] at h
            refine xv_icmp_lt E 104 (show decode prog_14_method_68_code 100 = .ok (.if_icmp .lt (4), 3) by decide +kernel) rfl (fun z => absurd z q56) (fun _ => ?_)
            obtain rfl := Option.some.inj h
            obtain ⟨rfl, rfl⟩ := Prod.mk.inj (show ((none : Option aV), q_25.2) = (r, M') from hN)
            exact xv_rv E B.1 B.2.1 (show decode prog_14_method_68_code 103 = .ok (.return_, 1) by decide +kernel) rfl rfl
        · rw [if_neg q57] at h
          refine xv_icmp_eq E 89 (show decode prog_14_method_68_code 83 = .ok (.if_icmp .eq (6), 3) by decide +kernel) rfl (fun z => absurd z q57) (fun _ => ?_)
          refine xv_goto E 269 (show decode prog_14_method_68_code 86 = .ok (.goto (183), 3) by decide +kernel) rfl ?_
          exact xv_w (sb214_269 E B a0 v1 v2 v3 v4 v5 q_25.2 h hN) rfl
      · rw [if_neg q58] at h
        refine xv_icmp_ne E 269 (show decode prog_14_method_68_code 63 = .ok (.if_icmp .ne (206), 3) by decide +kernel) rfl (fun _ => ?_) (fun z => absurd z q58)
        exact xv_w (sb214_269 E B a0 v1 v2 v3 v4 v5 q_17.2 h hN) rfl
    · rw [if_neg q59] at h
      refine xv_icmp_ne E 269 (show decode prog_14_method_68_code 43 = .ok (.if_icmp .ne (226), 3) by decide +kernel) rfl (fun _ => ?_) (fun z => absurd z q59)
      exact xv_w (sb214_269 E B a0 v1 v2 v3 v4 v5 M h hN) rfl
theorem sb214_173 (E : xE G p (xRm 5 (h_sz M' - z0) (h_sl M' - y0)) s m args c prog_14_method_68_code "ZonedFabricModel" z0 y0 (h_sz M') (h_sl M') 8) (B : xB ym214 none meth) (a0 : Nat) (v1 : Int32) (v2 : Int32) (v5 : Int32) (v6 : Int32) (v7 : Int32) (M : hM) {res : xRes} (h : b214_173 a0 v1 v2 v5 v6 v7 M = some res) (hN : xN (pg214 p l e s m args below meth c G z0 y0 r M') r M' res) : xV G p l e (xRm 5 (h_sz M' - z0) (h_sl M' - y0)) s m args below meth c z0 y0 (h_sz M') (h_sl M') 8 (MQ below (xQc G r M') args s (h_sz M' - z0) (h_sl M' - y0) (xFr G)) 173 [(0, .inr (.inr (some a0))), (1, .inl v1), (2, .inl v2), (5, .inl v5), (6, .inl v6), (7, .inl v7)] [] M := by
  unfold b214_173 at h
  refine xv_b E [.iload 7, .aload_n 0] (pc' := 176) (lv' := [(0, .inr (.inr (some a0))), (1, .inl v1), (2, .inl v2), (5, .inl v5), (6, .inl v6), (7, .inl v7)]) (st' := [.inr (.inr (some a0)), .inl v7]) (by decide +kernel) rfl rfl ?_
  obtain ⟨o_61, h62, h⟩ := bd h
  refine xg_r E 12 44 h62 mw903 (show decode prog_14_method_68_code 176 = .ok (.getfield 125, 3) by decide +kernel) ?_
  refine xv_b E [.iload 6, .iconst 5, .iadd] (pc' := 183) (lv' := [(0, .inr (.inr (some a0))), (1, .inl v1), (2, .inl v2), (5, .inl v5), (6, .inl v6), (7, .inl v7)]) (st' := [.inl (v6 + (5 : Int32)), .inr (.inr o_61), .inl v7]) (by decide +kernel) rfl rfl ?_
  obtain ⟨v_63, h64, h⟩ := bd h
  refine xa_i E h64 (show decode prog_14_method_68_code 183 = .ok (.iaload, 1) by decide +kernel) ?_
  by_cases q93 : v_63 ≤ v7
  · rw [if_pos q93] at h
    refine xv_icmp_ge E 245 (show decode prog_14_method_68_code 184 = .ok (.if_icmp .ge (61), 3) by decide +kernel) rfl (fun _ => ?_) (fun z => absurd q93 z)
    refine xv_b E [.aload_n 0, .iload_n 1, .iload_n 2, .aload_n 0] (pc' := 249) (lv' := [(0, .inr (.inr (some a0))), (1, .inl v1), (2, .inl v2), (5, .inl v5), (6, .inl v6), (7, .inl v7)]) (st' := [.inr (.inr (some a0)), .inl v2, .inl v1, .inr (.inr (some a0))]) (by decide +kernel) rfl rfl ?_
    obtain ⟨o_65, h66, h⟩ := bd h
    refine xg_r E 12 44 h66 mw903 (show decode prog_14_method_68_code 249 = .ok (.getfield 125, 3) by decide +kernel) ?_
    refine xv_b E [.iload 6, .iconst 2, .iadd] (pc' := 256) (lv' := [(0, .inr (.inr (some a0))), (1, .inl v1), (2, .inl v2), (5, .inl v5), (6, .inl v6), (7, .inl v7)]) (st' := [.inl (v6 + (2 : Int32)), .inr (.inr o_65), .inl v2, .inl v1, .inr (.inr (some a0))]) (by decide +kernel) rfl rfl ?_
    obtain ⟨v_67, h68, h⟩ := bd h
    refine xa_i E h68 (show decode prog_14_method_68_code 256 = .ok (.iaload, 1) by decide +kernel) ?_
    refine xv_b E [.iconst 0] (pc' := 258) (lv' := [(0, .inr (.inr (some a0))), (1, .inl v1), (2, .inl v2), (5, .inl v5), (6, .inl v6), (7, .inl v7)]) (st' := [.inl (0 : Int32), .inl v_67, .inl v2, .inl v1, .inr (.inr (some a0))]) (by decide +kernel) rfl rfl ?_
    obtain ⟨b_71, h72, h⟩ := bd h
    obtain ⟨eh72, th72⟩ := g_o_some h72
    obtain ⟨q_69, h70, h⟩ := bd h
    refine xv_cvo E eh72 12 (as := [.inl v1, .inl v2, .inl v_67, .inl (0 : Int32)]) (t213 G l (c_V_some h70)) cd213 mw1086 mw1087 mw1088 (show decode prog_14_method_68_code 258 = .ok (.invokevirtual 410, 3) by decide +kernel) th72 rfl rfl (Nat.le_of_ble_eq_true rfl) ⟨Nat.le_of_ble_eq_true rfl, Nat.le_of_ble_eq_true rfl⟩ ?_
    refine xv_b E [.aload_n 0, .iload_n 1, .iload 5] (pc' := 265) (lv' := [(0, .inr (.inr (some a0))), (1, .inl v1), (2, .inl v2), (5, .inl v5), (6, .inl v6), (7, .inl v7)]) (st' := [.inl v5, .inl v1, .inr (.inr (some a0))]) (by decide +kernel) rfl rfl ?_
    obtain ⟨b_75, h76, h⟩ := bd h
    obtain ⟨eh76, th76⟩ := g_o_some h76
    obtain ⟨q_73, h74, h⟩ := bd h
    refine xv_cvo E eh76 12 (as := [.inl v1, .inl v5]) (t203 G l (c_V_some h74)) cd203 mw1065 mw1066 mw1067 (show decode prog_14_method_68_code 265 = .ok (.invokevirtual 370, 3) by decide +kernel) th76 rfl rfl (Nat.le_of_ble_eq_true rfl) ⟨Nat.le_of_ble_eq_true rfl, Nat.le_of_ble_eq_true rfl⟩ ?_
    obtain rfl := Option.some.inj h
    obtain ⟨rfl, rfl⟩ := Prod.mk.inj (show ((none : Option aV), q_73) = (r, M') from hN)
    exact xv_rv E B.1 B.2.1 (show decode prog_14_method_68_code 268 = .ok (.return_, 1) by decide +kernel) rfl rfl
  · rw [if_neg q93] at h
    refine xv_icmp_ge E 245 (show decode prog_14_method_68_code 184 = .ok (.if_icmp .ge (61), 3) by decide +kernel) rfl (fun z => absurd z q93) (fun _ => ?_)
    refine xv_b E [.aload_n 0] (pc' := 188) (lv' := [(0, .inr (.inr (some a0))), (1, .inl v1), (2, .inl v2), (5, .inl v5), (6, .inl v6), (7, .inl v7)]) (st' := [.inr (.inr (some a0))]) (by decide +kernel) rfl rfl ?_
    obtain ⟨o_77, h78, h⟩ := bd h
    refine xg_r E 12 42 h78 mw901 (show decode prog_14_method_68_code 188 = .ok (.getfield 118, 3) by decide +kernel) ?_
    refine xv_b E [.bipush 32, .iload_n 1, .imul, .bipush 16, .aload_n 0] (pc' := 198) (lv' := [(0, .inr (.inr (some a0))), (1, .inl v1), (2, .inl v2), (5, .inl v5), (6, .inl v6), (7, .inl v7)]) (st' := [.inr (.inr (some a0)), .inl (16 : Int32), .inl ((32 : Int32) * v1), .inr (.inr o_77)]) (by decide +kernel) rfl rfl ?_
    obtain ⟨o_79, h80, h⟩ := bd h
    refine xg_r E 12 44 h80 mw903 (show decode prog_14_method_68_code 198 = .ok (.getfield 125, 3) by decide +kernel) ?_
    refine xv_b E [.iload 6, .iconst 3, .iadd] (pc' := 205) (lv' := [(0, .inr (.inr (some a0))), (1, .inl v1), (2, .inl v2), (5, .inl v5), (6, .inl v6), (7, .inl v7)]) (st' := [.inl (v6 + (3 : Int32)), .inr (.inr o_79), .inl (16 : Int32), .inl ((32 : Int32) * v1), .inr (.inr o_77)]) (by decide +kernel) rfl rfl ?_
    obtain ⟨v_81, h82, h⟩ := bd h
    refine xa_i E h82 (show decode prog_14_method_68_code 205 = .ok (.iaload, 1) by decide +kernel) ?_
    refine xv_b E [.imul, .iadd, .aload_n 0] (pc' := 209) (lv' := [(0, .inr (.inr (some a0))), (1, .inl v1), (2, .inl v2), (5, .inl v5), (6, .inl v6), (7, .inl v7)]) (st' := [.inr (.inr (some a0)), .inl (((32 : Int32) * v1) + ((16 : Int32) * v_81)), .inr (.inr o_77)]) (by decide +kernel) rfl rfl ?_
    obtain ⟨o_83, h84, h⟩ := bd h
    refine xg_r E 12 44 h84 mw903 (show decode prog_14_method_68_code 209 = .ok (.getfield 125, 3) by decide +kernel) ?_
    refine xv_b E [.iload 6, .iconst 4, .iadd] (pc' := 216) (lv' := [(0, .inr (.inr (some a0))), (1, .inl v1), (2, .inl v2), (5, .inl v5), (6, .inl v6), (7, .inl v7)]) (st' := [.inl (v6 + (4 : Int32)), .inr (.inr o_83), .inl (((32 : Int32) * v1) + ((16 : Int32) * v_81)), .inr (.inr o_77)]) (by decide +kernel) rfl rfl ?_
    obtain ⟨v_85, h86, h⟩ := bd h
    refine xa_i E h86 (show decode prog_14_method_68_code 216 = .ok (.iaload, 1) by decide +kernel) ?_
    refine xv_b E [.iadd, .iload 7, .iadd, .aload_n 0] (pc' := 222) (lv' := [(0, .inr (.inr (some a0))), (1, .inl v1), (2, .inl v2), (5, .inl v5), (6, .inl v6), (7, .inl v7)]) (st' := [.inr (.inr (some a0)), .inl (((((32 : Int32) * v1) + ((16 : Int32) * v_81)) + v_85) + v7), .inr (.inr o_77)]) (by decide +kernel) rfl rfl ?_
    obtain ⟨o_87, h88, h⟩ := bd h
    refine xg_r E 12 45 h88 mw904 (show decode prog_14_method_68_code 222 = .ok (.getfield 128, 3) by decide +kernel) ?_
    refine xv_b E [.bipush 24, .iload_n 1, .imul, .iconst 4, .iload 5, .imul, .iadd, .iload 7, .iadd] (pc' := 237) (lv' := [(0, .inr (.inr (some a0))), (1, .inl v1), (2, .inl v2), (5, .inl v5), (6, .inl v6), (7, .inl v7)]) (st' := [.inl ((((24 : Int32) * v1) + ((4 : Int32) * v5)) + v7), .inr (.inr o_87), .inl (((((32 : Int32) * v1) + ((16 : Int32) * v_81)) + v_85) + v7), .inr (.inr o_77)]) (by decide +kernel) rfl rfl ?_
    obtain ⟨w_89, h90, h⟩ := bd h
    refine xa_l E h90 (show decode prog_14_method_68_code 237 = .ok (.laload, 1) by decide +kernel) ?_
    obtain ⟨M91, h92, h⟩ := bd h
    refine xs_l E h92 (show decode prog_14_method_68_code 238 = .ok (.lastore, 1) by decide +kernel) ?_
    refine xv_b E [.iinc 7 1] (pc' := 242) (lv' := [(7, .inl (v7 + (1 : Int32))), (0, .inr (.inr (some a0))), (1, .inl v1), (2, .inl v2), (5, .inl v5), (6, .inl v6)]) (st' := []) (by decide +kernel) rfl rfl ?_
    refine xv_goto E 173 (show decode prog_14_method_68_code 242 = .ok (.goto (-69), 3) by decide +kernel) rfl ?_
    obtain rfl := Option.some.inj h
    exact xv_w hN rfl
end
theorem t214 (G : gX) (l : Launch) {as : List aV} {M : hM} {r : Option aV} {M' : hM} (h : f214 as M = some (r, M')) : xM G l ym214 prog_14_method_68_code 8 none 5 as M r M' := by
  unfold f214 at h
  split at h
  · have hle : ∀ h as M res, k214 h as M = some res → h_sz M ≤ r_sz res ∧ h_sl M ≤ r_sl res := by
      intro h as M res hb
      unfold k214 at hb
      by_cases e0 : h = 12
      · rw [if_pos e0] at hb
        split at hb
        · exact lb214_12 G l _ _ _ _ _ _ M hb
        · cases hb
      · rw [if_neg e0] at hb
        by_cases e1 : h = 173
        · rw [if_pos e1] at hb
          split at hb
          · exact lb214_173 G l _ _ _ _ _ _ M hb
          · cases hb
        · rw [if_neg e1] at hb
          cases hb
    obtain ⟨res, hx, hres⟩ := x_go_ok h
    refine xM_of (by decide) (Nat.le_of_ble_eq_true rfl) ?_ ?_
    · have e1 := lb214_0 G l _ _ _ _ M hx
      have e2 := x_go_le hle hres
      omega
    · intro p e s m args below meth c E B
      refine sb214_0 E B _ _ _ _ M hx (hres _ ?_)
      intro h as M res hb hN
      unfold k214 at hb
      unfold pg214
      by_cases e0 : h = 12
      · rw [if_pos e0] at hb ⊢
        split at hb
        · exact sb214_12 E B _ _ _ _ _ _ M hb hN
        · cases hb
      · rw [if_neg e0] at hb ⊢
        by_cases e1 : h = 173
        · rw [if_pos e1] at hb ⊢
          split at hb
          · exact sb214_173 E B _ _ _ _ _ _ M hb hN
          · cases hb
        · rw [if_neg e1] at hb ⊢
          cases hb
  · cases h
/-! ZFModel.isLogged(II)Z -/
def ym215 : MethodName := ⟨"ZonedFabricModel", "isLogged", "(II)Z"⟩
theorem cd215 : xCd ym215 prog_14_method_64_code 5 (some FieldType.boolean) 2 := ⟨mw1089, mw864, by decide, by decide, by decide +kernel⟩
def b215_0 (a0 : Nat) (v1 : Int32) (v2 : Int32) (M : hM) : Option xRes :=
  some (.inr (5, [.inr (.inr (some a0)), .inl v1, .inl v2, .inl (0 : Int32), .inl (0 : Int32)], M))
def b215_41 (a0 : Nat) (v1 : Int32) (v2 : Int32) (v4 : Int32) (si0 : Int32) (M : hM) : Option xRes :=
  some (.inr (5, [.inr (.inr (some a0)), .inl v1, .inl v2, .inl si0, .inl (v4 + (1 : Int32))], M))
def b215_36 (a0 : Nat) (v1 : Int32) (v2 : Int32) (v4 : Int32) (M : hM) : Option xRes :=
  b215_41 a0 v1 v2 v4 (1 : Int32) M
def b215_5 (a0 : Nat) (v1 : Int32) (v2 : Int32) (v3 : Int32) (v4 : Int32) (M : hM) : Option xRes :=
  Option.bind (g_r M 12 41 (some a0)) fun o_1 =>
  Option.bind (al_i M 20 o_1 v1) fun v_3 =>
  if v_3 ≤ v4 then
    (if v3 = 0 ∨ v3 = 1 then
      (some (.inl (some (.inl v3), M)))
    else
      none)
  else
    (if v3 = 0 then
      (Option.bind (g_r M 12 40 (some a0)) fun o_6 =>
      Option.bind (al_i M 20 o_6 (((8 : Int32) * v1) + v4)) fun v_8 =>
      if v_8 = v2 then
        (b215_36 a0 v1 v2 v4 M)
      else
        (b215_41 a0 v1 v2 v4 (0 : Int32) M))
    else
      (b215_36 a0 v1 v2 v4 M))
def k215 (h : Nat) (as : List aV) (M : hM) : Option xRes :=
  if h = 5 then (match as with | [.inr (.inr (some a0)), .inl v1, .inl v2, .inl v3, .inl v4] => b215_5 a0 v1 v2 v3 v4 M | _ => none) else
  none
def f215 (as : List aV) (M : hM) : xO := match as with
  | [.inr (.inr (some a0)), .inl v1, .inl v2] => x_go k215 (b215_0 a0 v1 v2 M)
  | _ => none
theorem lb215_0 (G : gX) (l : Launch) (a0 : Nat) (v1 : Int32) (v2 : Int32) (M : hM) {res : xRes} (h : b215_0 a0 v1 v2 M = some res) : h_sz M ≤ r_sz res ∧ h_sl M ≤ r_sl res := by
  unfold b215_0 at h
  obtain rfl := Option.some.inj h
  show h_sz M ≤ h_sz M ∧ h_sl M ≤ h_sl M
  omega
theorem lb215_41 (G : gX) (l : Launch) (a0 : Nat) (v1 : Int32) (v2 : Int32) (v4 : Int32) (si0 : Int32) (M : hM) {res : xRes} (h : b215_41 a0 v1 v2 v4 si0 M = some res) : h_sz M ≤ r_sz res ∧ h_sl M ≤ r_sl res := by
  unfold b215_41 at h
  obtain rfl := Option.some.inj h
  show h_sz M ≤ h_sz M ∧ h_sl M ≤ h_sl M
  omega
theorem lb215_36 (G : gX) (l : Launch) (a0 : Nat) (v1 : Int32) (v2 : Int32) (v4 : Int32) (M : hM) {res : xRes} (h : b215_36 a0 v1 v2 v4 M = some res) : h_sz M ≤ r_sz res ∧ h_sl M ≤ r_sl res := by
  unfold b215_36 at h
  have e := lb215_41 G l a0 v1 v2 v4 (1 : Int32) M h
  omega
theorem lb215_5 (G : gX) (l : Launch) (a0 : Nat) (v1 : Int32) (v2 : Int32) (v3 : Int32) (v4 : Int32) (M : hM) {res : xRes} (h : b215_5 a0 v1 v2 v3 v4 M = some res) : h_sz M ≤ r_sz res ∧ h_sl M ≤ r_sl res := by
  unfold b215_5 at h
  obtain ⟨o_1, h2, h⟩ := bd h
  obtain ⟨v_3, h4, h⟩ := bd h
  by_cases q12 : v_3 ≤ v4
  · rw [if_pos q12] at h
    by_cases q5 : v3 = 0 ∨ v3 = 1
    · rw [if_pos q5] at h
      obtain rfl := Option.some.inj h
      show h_sz M ≤ h_sz M ∧ h_sl M ≤ h_sl M
      omega
    · rw [if_neg q5] at h
      cases h
  · rw [if_neg q12] at h
    by_cases q11 : v3 = 0
    · rw [if_pos q11] at h
      obtain ⟨o_6, h7, h⟩ := bd h
      obtain ⟨v_8, h9, h⟩ := bd h
      by_cases q10 : v_8 = v2
      · rw [if_pos q10] at h
        have e := lb215_36 G l a0 v1 v2 v4 M h
        omega
      · rw [if_neg q10] at h
        have e := lb215_41 G l a0 v1 v2 v4 (0 : Int32) M h
        omega
    · rw [if_neg q11] at h
      have e := lb215_36 G l a0 v1 v2 v4 M h
      omega
section
variable {p : Program} {l : Launch} {e : Env} {s : State} {m : MethodId} {args : Array Value} {below : List Frame} {meth : Method} {c : Code} {G : gX} {z0 y0 : Nat} {r : Option aV} {M' : hM}
def pg215 (p : Program) (l : Launch) (e : Env) (s : State) (m : MethodId) (args : Array Value) (below : List Frame) (meth : Method) (c : Code) (G : gX) (z0 y0 : Nat) (r : Option aV) (M' : hM) (h : Nat) (as : List aV) (M : hM) : Prop :=
  if h = 5 then (match as with | [.inr (.inr (some a0)), .inl v1, .inl v2, .inl v3, .inl v4] => xV G p l e (xRm 0 (h_sz M' - z0) (h_sl M' - y0)) s m args below meth c z0 y0 (h_sz M') (h_sl M') 5 (MQ below (xQc G r M') args s (h_sz M' - z0) (h_sl M' - y0) (xFr G)) 5 [(0, .inr (.inr (some a0))), (1, .inl v1), (2, .inl v2), (3, .inl v3), (4, .inl v4)] [] M | _ => False) else
  False
theorem sb215_0 (E : xE G p (xRm 0 (h_sz M' - z0) (h_sl M' - y0)) s m args c prog_14_method_64_code "ZonedFabricModel" z0 y0 (h_sz M') (h_sl M') 5) (B : xB ym215 (some FieldType.boolean) meth) (a0 : Nat) (v1 : Int32) (v2 : Int32) (M : hM) {res : xRes} (h : b215_0 a0 v1 v2 M = some res) (hN : xN (pg215 p l e s m args below meth c G z0 y0 r M') r M' res) : xV G p l e (xRm 0 (h_sz M' - z0) (h_sl M' - y0)) s m args below meth c z0 y0 (h_sz M') (h_sl M') 5 (MQ below (xQc G r M') args s (h_sz M' - z0) (h_sl M' - y0) (xFr G)) 0 [(0, .inr (.inr (some a0))), (1, .inl v1), (2, .inl v2)] [] M := by
  unfold b215_0 at h
  refine xv_b E [.iconst 0, .istore_n 3, .iconst 0, .istore 4] (pc' := 5) (lv' := [(4, .inl (0 : Int32)), (3, .inl (0 : Int32)), (0, .inr (.inr (some a0))), (1, .inl v1), (2, .inl v2)]) (st' := []) (by decide +kernel) rfl rfl ?_
  obtain rfl := Option.some.inj h
  exact xv_w hN rfl
theorem sb215_41 (E : xE G p (xRm 0 (h_sz M' - z0) (h_sl M' - y0)) s m args c prog_14_method_64_code "ZonedFabricModel" z0 y0 (h_sz M') (h_sl M') 5) (B : xB ym215 (some FieldType.boolean) meth) (a0 : Nat) (v1 : Int32) (v2 : Int32) (v4 : Int32) (si0 : Int32) (M : hM) {res : xRes} (h : b215_41 a0 v1 v2 v4 si0 M = some res) (hN : xN (pg215 p l e s m args below meth c G z0 y0 r M') r M' res) : xV G p l e (xRm 0 (h_sz M' - z0) (h_sl M' - y0)) s m args below meth c z0 y0 (h_sz M') (h_sl M') 5 (MQ below (xQc G r M') args s (h_sz M' - z0) (h_sl M' - y0) (xFr G)) 41 [(0, .inr (.inr (some a0))), (1, .inl v1), (2, .inl v2), (4, .inl v4)] [.inl si0] M := by
  unfold b215_41 at h
  refine xv_b E [.istore_n 3, .iinc 4 1] (pc' := 45) (lv' := [(4, .inl (v4 + (1 : Int32))), (3, .inl si0), (0, .inr (.inr (some a0))), (1, .inl v1), (2, .inl v2)]) (st' := []) (by decide +kernel) rfl rfl ?_
  refine xv_goto E 5 (show decode prog_14_method_64_code 45 = .ok (.goto (-40), 3) by decide +kernel) rfl ?_
  obtain rfl := Option.some.inj h
  exact xv_w hN rfl
theorem sb215_36 (E : xE G p (xRm 0 (h_sz M' - z0) (h_sl M' - y0)) s m args c prog_14_method_64_code "ZonedFabricModel" z0 y0 (h_sz M') (h_sl M') 5) (B : xB ym215 (some FieldType.boolean) meth) (a0 : Nat) (v1 : Int32) (v2 : Int32) (v4 : Int32) (M : hM) {res : xRes} (h : b215_36 a0 v1 v2 v4 M = some res) (hN : xN (pg215 p l e s m args below meth c G z0 y0 r M') r M' res) : xV G p l e (xRm 0 (h_sz M' - z0) (h_sl M' - y0)) s m args below meth c z0 y0 (h_sz M') (h_sl M') 5 (MQ below (xQc G r M') args s (h_sz M' - z0) (h_sl M' - y0) (xFr G)) 36 [(0, .inr (.inr (some a0))), (1, .inl v1), (2, .inl v2), (4, .inl v4)] [] M := by
  unfold b215_36 at h
  refine xv_b E [.iconst 1] (pc' := 37) (lv' := [(0, .inr (.inr (some a0))), (1, .inl v1), (2, .inl v2), (4, .inl v4)]) (st' := [.inl (1 : Int32)]) (by decide +kernel) rfl rfl ?_
  refine xv_goto E 41 (show decode prog_14_method_64_code 37 = .ok (.goto (4), 3) by decide +kernel) rfl ?_
  exact xv_w (sb215_41 E B a0 v1 v2 v4 (1 : Int32) M h hN) rfl
theorem sb215_5 (E : xE G p (xRm 0 (h_sz M' - z0) (h_sl M' - y0)) s m args c prog_14_method_64_code "ZonedFabricModel" z0 y0 (h_sz M') (h_sl M') 5) (B : xB ym215 (some FieldType.boolean) meth) (a0 : Nat) (v1 : Int32) (v2 : Int32) (v3 : Int32) (v4 : Int32) (M : hM) {res : xRes} (h : b215_5 a0 v1 v2 v3 v4 M = some res) (hN : xN (pg215 p l e s m args below meth c G z0 y0 r M') r M' res) : xV G p l e (xRm 0 (h_sz M' - z0) (h_sl M' - y0)) s m args below meth c z0 y0 (h_sz M') (h_sl M') 5 (MQ below (xQc G r M') args s (h_sz M' - z0) (h_sl M' - y0) (xFr G)) 5 [(0, .inr (.inr (some a0))), (1, .inl v1), (2, .inl v2), (3, .inl v3), (4, .inl v4)] [] M := by
  unfold b215_5 at h
  refine xv_b E [.iload 4, .aload_n 0] (pc' := 8) (lv' := [(0, .inr (.inr (some a0))), (1, .inl v1), (2, .inl v2), (3, .inl v3), (4, .inl v4)]) (st' := [.inr (.inr (some a0)), .inl v4]) (by decide +kernel) rfl rfl ?_
  obtain ⟨o_1, h2, h⟩ := bd h
  refine xg_r E 12 41 h2 mw900 (show decode prog_14_method_64_code 8 = .ok (.getfield 115, 3) by decide +kernel) ?_
  refine xv_b E [.iload_n 1] (pc' := 12) (lv' := [(0, .inr (.inr (some a0))), (1, .inl v1), (2, .inl v2), (3, .inl v3), (4, .inl v4)]) (st' := [.inl v1, .inr (.inr o_1), .inl v4]) (by decide +kernel) rfl rfl ?_
  obtain ⟨v_3, h4, h⟩ := bd h
  refine xa_i E h4 (show decode prog_14_method_64_code 12 = .ok (.iaload, 1) by decide +kernel) ?_
  by_cases q12 : v_3 ≤ v4
  · rw [if_pos q12] at h
    refine xv_icmp_ge E 48 (show decode prog_14_method_64_code 13 = .ok (.if_icmp .ge (35), 3) by decide +kernel) rfl (fun _ => ?_) (fun z => absurd q12 z)
    refine xv_b E [.iload_n 3] (pc' := 49) (lv' := [(0, .inr (.inr (some a0))), (1, .inl v1), (2, .inl v2), (3, .inl v3), (4, .inl v4)]) (st' := [.inl v3]) (by decide +kernel) rfl rfl ?_
    by_cases q5 : v3 = 0 ∨ v3 = 1
    · rw [if_pos q5] at h
      obtain rfl := Option.some.inj h
      obtain ⟨rfl, rfl⟩ := Prod.mk.inj (show ((some (.inl v3) : Option aV), M) = (r, M') from hN)
      exact xv_ri E B.1 (by rcases q5 with z | z <;> rw [z] <;> rfl) B.2.1 (show decode prog_14_method_64_code 49 = .ok (.ireturn, 1) by decide +kernel) rfl rfl
    · rw [if_neg q5] at h
      cases h
  · rw [if_neg q12] at h
    refine xv_icmp_ge E 48 (show decode prog_14_method_64_code 13 = .ok (.if_icmp .ge (35), 3) by decide +kernel) rfl (fun z => absurd z q12) (fun _ => ?_)
    refine xv_b E [.iload_n 3] (pc' := 17) (lv' := [(0, .inr (.inr (some a0))), (1, .inl v1), (2, .inl v2), (3, .inl v3), (4, .inl v4)]) (st' := [.inl v3]) (by decide +kernel) rfl rfl ?_
    by_cases q11 : v3 = 0
    · rw [if_pos q11] at h
      refine xv_if_ne E 36 (show decode prog_14_method_64_code 17 = .ok (.ifCond .ne (19), 3) by decide +kernel) rfl (fun z => absurd q11 z) (fun _ => ?_)
      refine xv_b E [.aload_n 0] (pc' := 21) (lv' := [(0, .inr (.inr (some a0))), (1, .inl v1), (2, .inl v2), (3, .inl v3), (4, .inl v4)]) (st' := [.inr (.inr (some a0))]) (by decide +kernel) rfl rfl ?_
      obtain ⟨o_6, h7, h⟩ := bd h
      refine xg_r E 12 40 h7 mw899 (show decode prog_14_method_64_code 21 = .ok (.getfield 112, 3) by decide +kernel) ?_
      refine xv_b E [.bipush 8, .iload_n 1, .imul, .iload 4, .iadd] (pc' := 31) (lv' := [(0, .inr (.inr (some a0))), (1, .inl v1), (2, .inl v2), (3, .inl v3), (4, .inl v4)]) (st' := [.inl (((8 : Int32) * v1) + v4), .inr (.inr o_6)]) (by decide +kernel) rfl rfl ?_
      obtain ⟨v_8, h9, h⟩ := bd h
      refine xa_i E h9 (show decode prog_14_method_64_code 31 = .ok (.iaload, 1) by decide +kernel) ?_
      refine xv_b E [.iload_n 2] (pc' := 33) (lv' := [(0, .inr (.inr (some a0))), (1, .inl v1), (2, .inl v2), (3, .inl v3), (4, .inl v4)]) (st' := [.inl v2, .inl v_8]) (by decide +kernel) rfl rfl ?_
      by_cases q10 : v_8 = v2
      · rw [if_pos q10] at h
        refine xv_icmp_ne E 40 (show decode prog_14_method_64_code 33 = .ok (.if_icmp .ne (7), 3) by decide +kernel) rfl (fun z => absurd q10 z) (fun _ => ?_)
        exact xv_w (sb215_36 E B a0 v1 v2 v4 M h hN) rfl
      · rw [if_neg q10] at h
        refine xv_icmp_ne E 40 (show decode prog_14_method_64_code 33 = .ok (.if_icmp .ne (7), 3) by decide +kernel) rfl (fun _ => ?_) (fun z => absurd z q10)
        refine xv_b E [.iconst 0] (pc' := 41) (lv' := [(0, .inr (.inr (some a0))), (1, .inl v1), (2, .inl v2), (3, .inl v3), (4, .inl v4)]) (st' := [.inl (0 : Int32)]) (by decide +kernel) rfl rfl ?_
        exact xv_w (sb215_41 E B a0 v1 v2 v4 (0 : Int32) M h hN) rfl
    · rw [if_neg q11] at h
      refine xv_if_ne E 36 (show decode prog_14_method_64_code 17 = .ok (.ifCond .ne (19), 3) by decide +kernel) rfl (fun _ => ?_) (fun z => absurd z q11)
      exact xv_w (sb215_36 E B a0 v1 v2 v4 M h hN) rfl
end
theorem t215 (G : gX) (l : Launch) {as : List aV} {M : hM} {r : Option aV} {M' : hM} (h : f215 as M = some (r, M')) : xM G l ym215 prog_14_method_64_code 5 (some FieldType.boolean) 0 as M r M' := by
  unfold f215 at h
  split at h
  · have hle : ∀ h as M res, k215 h as M = some res → h_sz M ≤ r_sz res ∧ h_sl M ≤ r_sl res := by
      intro h as M res hb
      unfold k215 at hb
      by_cases e0 : h = 5
      · rw [if_pos e0] at hb
        split at hb
        · exact lb215_5 G l _ _ _ _ _ M hb
        · cases hb
      · rw [if_neg e0] at hb
        cases hb
    obtain ⟨res, hx, hres⟩ := x_go_ok h
    refine xM_of (by decide) (Nat.le_of_ble_eq_true rfl) ?_ ?_
    · have e1 := lb215_0 G l _ _ _ M hx
      have e2 := x_go_le hle hres
      omega
    · intro p e s m args below meth c E B
      refine sb215_0 E B _ _ _ M hx (hres _ ?_)
      intro h as M res hb hN
      unfold k215 at hb
      unfold pg215
      by_cases e0 : h = 5
      · rw [if_pos e0] at hb ⊢
        split at hb
        · exact sb215_5 E B _ _ _ _ _ M hb hN
        · cases hb
      · rw [if_neg e0] at hb ⊢
        cases hb
  · cases h
