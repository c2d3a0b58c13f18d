theorem mw925 : Cond.code ⟨"ZonedFabricModel", "at", "(II)I"⟩ prog_14_method_2_code 3 (some FieldType.int) ∈ xTs := xTs_in (tk7 (List.mem_of_getElem? (i := 49) rfl)) rfl
theorem mw926 : Cond.code ⟨"ZonedFabricModel", "number", "(III)I"⟩ prog_14_method_3_code 6 (some FieldType.int) ∈ xTs := xTs_in (tk7 (List.mem_of_getElem? (i := 103) rfl)) rfl
theorem mw927 : Cond.methodLink "ZonedFabricModel" 186 ⟨"ZonedFabricModel", "at", "(II)I"⟩ ∈ xTs := xTs_in (tk7 (List.mem_of_getElem? (i := 46) (by decide +kernel))) rfl
theorem mw928 : Cond.instanceMethod ⟨"ZonedFabricModel", "at", "(II)I"⟩ ∈ xTs := xTs_in (tk7 (List.mem_of_getElem? (i := 48) (by decide +kernel))) rfl
theorem mw929 : Cond.selects "ZonedFabricModel" ⟨"ZonedFabricModel", "at", "(II)I"⟩ ⟨"ZonedFabricModel", "at", "(II)I"⟩ ∈ xTs := xTs_in (List.mem_append_left _ (List.mem_of_getElem? (i := 83) (by decide +kernel))) rfl
theorem mw930 : Cond.code ⟨"ZonedFabricModel", "add", "(IJI)V"⟩ prog_14_method_4_code 6 none ∈ xTs := xTs_in (tk7 (List.mem_of_getElem? (i := 33) rfl)) rfl
theorem mw931 : Cond.code ⟨"ZonedFabricModel", "begins", "(IIIIII)I"⟩ prog_14_method_5_code 8 (some FieldType.int) ∈ xTs := xTs_in (tk7 (List.mem_of_getElem? (i := 29) rfl)) rfl
theorem mw932 : Cond.methodLink "ZonedFabricModel" 190 ⟨"ZonedFabricModel", "add", "(IJI)V"⟩ ∈ xTs := xTs_in (tk7 (List.mem_of_getElem? (i := 30) (by decide +kernel))) rfl
theorem mw933 : Cond.instanceMethod ⟨"ZonedFabricModel", "add", "(IJI)V"⟩ ∈ xTs := xTs_in (tk7 (List.mem_of_getElem? (i := 32) (by decide +kernel))) rfl
theorem mw934 : Cond.selects "ZonedFabricModel" ⟨"ZonedFabricModel", "add", "(IJI)V"⟩ ⟨"ZonedFabricModel", "add", "(IJI)V"⟩ ∈ xTs := xTs_in (List.mem_append_left _ (List.mem_of_getElem? (i := 79) (by decide +kernel))) rfl
theorem mw935 : Cond.code ⟨"ZonedFabricModel", "check", "(II)I"⟩ prog_14_method_8_code 7 (some FieldType.int) ∈ xTs := xTs_in (tk7 (List.mem_of_getElem? (i := 45) rfl)) rfl
theorem mw936 : Cond.constant "ZonedFabricModel" 197 (-306674912) ∈ xTs := xTs_in (tk7 (List.mem_of_getElem? (i := 50) (by decide +kernel))) rfl
theorem mw937 : Cond.code ⟨"ZonedFabricModel", "closes", "(I)V"⟩ prog_14_method_6_code 2 none ∈ xTs := xTs_in (tk7 (List.mem_of_getElem? (i := 41) rfl)) rfl
theorem mw938 : Cond.methodLink "ZonedFabricModel" 194 ⟨"ZonedFabricModel", "check", "(II)I"⟩ ∈ xTs := xTs_in (tk7 (List.mem_of_getElem? (i := 42) (by decide +kernel))) rfl
theorem mw939 : Cond.instanceMethod ⟨"ZonedFabricModel", "check", "(II)I"⟩ ∈ xTs := xTs_in (tk7 (List.mem_of_getElem? (i := 44) (by decide +kernel))) rfl
theorem mw940 : Cond.selects "ZonedFabricModel" ⟨"ZonedFabricModel", "check", "(II)I"⟩ ⟨"ZonedFabricModel", "check", "(II)I"⟩ ∈ xTs := xTs_in (List.mem_append_left _ (List.mem_of_getElem? (i := 82) (by decide +kernel))) rfl
theorem mw941 : Cond.code ⟨"ZonedFabricModel", "drops", "(I)V"⟩ prog_14_method_7_code 2 none ∈ xTs := xTs_in (tk6 (List.mem_of_getElem? (i := 170) rfl)) rfl
theorem mw942 : Cond.code ⟨"ZonedFabricModel", "isRecord", "(II)Z"⟩ prog_14_method_11_code 11 (some FieldType.boolean) ∈ xTs := xTs_in (tk7 (List.mem_of_getElem? (i := 115) rfl)) rfl
theorem mw943 : Cond.code ⟨"ZonedFabricModel", "hasForm", "(II)Z"⟩ prog_14_method_10_code 4 (some FieldType.boolean) ∈ xTs := xTs_in (tk7 (List.mem_of_getElem? (i := 111) rfl)) rfl
theorem mw944 : Cond.methodLink "ZonedFabricModel" 206 ⟨"ZonedFabricModel", "isRecord", "(II)Z"⟩ ∈ xTs := xTs_in (tk7 (List.mem_of_getElem? (i := 112) (by decide +kernel))) rfl
theorem mw945 : Cond.instanceMethod ⟨"ZonedFabricModel", "isRecord", "(II)Z"⟩ ∈ xTs := xTs_in (tk7 (List.mem_of_getElem? (i := 114) (by decide +kernel))) rfl
theorem mw946 : Cond.selects "ZonedFabricModel" ⟨"ZonedFabricModel", "isRecord", "(II)Z"⟩ ⟨"ZonedFabricModel", "isRecord", "(II)Z"⟩ ∈ xTs := xTs_in (List.mem_append_left _ (List.mem_of_getElem? (i := 99) (by decide +kernel))) rfl
theorem mw947 : Cond.methodLink "ZonedFabricModel" 198 ⟨"ZonedFabricModel", "number", "(III)I"⟩ ∈ xTs := xTs_in (tk7 (List.mem_of_getElem? (i := 100) (by decide +kernel))) rfl
theorem mw948 : Cond.instanceMethod ⟨"ZonedFabricModel", "number", "(III)I"⟩ ∈ xTs := xTs_in (tk7 (List.mem_of_getElem? (i := 102) (by decide +kernel))) rfl
theorem mw949 : Cond.selects "ZonedFabricModel" ⟨"ZonedFabricModel", "number", "(III)I"⟩ ⟨"ZonedFabricModel", "number", "(III)I"⟩ ∈ xTs := xTs_in (List.mem_append_left _ (List.mem_of_getElem? (i := 96) (by decide +kernel))) rfl
theorem mw950 : Cond.code ⟨"ZonedFabricModel", "isTrue", "(I)Z"⟩ prog_14_method_9_code 3 (some FieldType.boolean) ∈ xTs := xTs_in (tk7 (List.mem_of_getElem? (i := 107) rfl)) rfl
theorem mw951 : Cond.methodLink "ZonedFabricModel" 202 ⟨"ZonedFabricModel", "hasForm", "(II)Z"⟩ ∈ xTs := xTs_in (tk7 (List.mem_of_getElem? (i := 108) (by decide +kernel))) rfl
theorem mw952 : Cond.instanceMethod ⟨"ZonedFabricModel", "hasForm", "(II)Z"⟩ ∈ xTs := xTs_in (tk7 (List.mem_of_getElem? (i := 110) (by decide +kernel))) rfl
theorem mw953 : Cond.selects "ZonedFabricModel" ⟨"ZonedFabricModel", "hasForm", "(II)Z"⟩ ⟨"ZonedFabricModel", "hasForm", "(II)Z"⟩ ∈ xTs := xTs_in (List.mem_append_left _ (List.mem_of_getElem? (i := 98) (by decide +kernel))) rfl
theorem mw954 : Cond.code ⟨"ZonedFabricModel", "side", "(II)I"⟩ prog_14_method_12_code 3 (some FieldType.int) ∈ xTs := xTs_in (tk6 (List.mem_of_getElem? (i := 162) rfl)) rfl
theorem mw955 : Cond.code ⟨"ZonedFabricModel", "nodeSide", "(I)I"⟩ prog_14_method_13_code 2 (some FieldType.int) ∈ xTs := xTs_in (tk6 (List.mem_of_getElem? (i := 154) rfl)) rfl
theorem mw956 : Cond.code ⟨"ZonedFabricModel", "isUp", "(I)Z"⟩ prog_14_method_14_code 2 (some FieldType.boolean) ∈ xTs := xTs_in (tk7 (List.mem_of_getElem? (i := 54) rfl)) rfl
theorem mw957 : Cond.code ⟨"ZonedFabricModel", "other", "(I)I"⟩ prog_14_method_15_code 3 (some FieldType.int) ∈ xTs := xTs_in (tk6 (List.mem_of_getElem? (i := 218) rfl)) rfl
/-! ZFModel.at(II)I -/
def ym165 : MethodName := ⟨"ZonedFabricModel", "at", "(II)I"⟩
theorem cd165 : xCd ym165 prog_14_method_2_code 3 (some FieldType.int) 2 := ⟨mw925, mw864, by decide, by decide, by decide +kernel⟩
def b165_0 (a0 : Nat) (v1 : Int32) (v2 : Int32) (M : hM) : Option xRes :=
  Option.bind (g_r M 12 6 (some a0)) fun o_1 =>
  Option.bind (al_i M 21 o_1 ((v1 * (80 : Int32)) + v2)) fun v_3 =>
  some (.inl (some (.inl (v_3 &&& (255 : Int32))), M))
def f165 (as : List aV) (M : hM) : xO := match as with
  | [.inr (.inr (some a0)), .inl v1, .inl v2] => x_out (b165_0 a0 v1 v2 M)
  | _ => none
theorem lb165_0 (G : gX) (l : Launch) (a0 : Nat) (v1 : Int32) (v2 : Int32) (M : hM) {res : xRes} (h : b165_0 a0 v1 v2 M = some res) : h_sz M ≤ r_sz res ∧ h_sl M ≤ r_sl res := by
  unfold b165_0 at h
  obtain ⟨o_1, h2, h⟩ := bd h
  obtain ⟨v_3, h4, h⟩ := bd h
  obtain rfl := Option.some.inj h
  show h_sz M ≤ h_sz M ∧ h_sl M ≤ h_sl M
  omega
section
variable {p : Program} {l : Launch} {e : Env} {s : State} {m : MethodId} {args : Array Value} {below : List Frame} {meth : Method} {c : Code} {G : gX} {z0 y0 : Nat} {r : Option aV} {M' : hM}
theorem sb165_0 (E : xE G p (xRm 0 (h_sz M' - z0) (h_sl M' - y0)) s m args c prog_14_method_2_code "ZonedFabricModel" z0 y0 (h_sz M') (h_sl M') 3) (B : xB ym165 (some FieldType.int) meth) (a0 : Nat) (v1 : Int32) (v2 : Int32) (M : hM) {res : xRes} (h : b165_0 a0 v1 v2 M = some res) (hN : xN (fun _ _ _ => False) r M' res) : xV G p l e (xRm 0 (h_sz M' - z0) (h_sl M' - y0)) s m args below meth c z0 y0 (h_sz M') (h_sl M') 3 (MQ below (xQc G r M') args s (h_sz M' - z0) (h_sl M' - y0) (xFr G)) 0 [(0, .inr (.inr (some a0))), (1, .inl v1), (2, .inl v2)] [] M := by
  unfold b165_0 at h
  refine xv_b E [.aload_n 0] (pc' := 1) (lv' := [(0, .inr (.inr (some a0))), (1, .inl v1), (2, .inl v2)]) (st' := [.inr (.inr (some a0))]) (by decide +kernel) rfl rfl ?_
  obtain ⟨o_1, h2, h⟩ := bd h
  refine xg_r E 12 6 h2 mw867 (show decode prog_14_method_2_code 1 = .ok (.getfield 17, 3) by decide +kernel) ?_
  refine xv_b E [.iload_n 1, .bipush 80, .imul, .iload_n 2, .iadd] (pc' := 10) (lv' := [(0, .inr (.inr (some a0))), (1, .inl v1), (2, .inl v2)]) (st' := [.inl ((v1 * (80 : Int32)) + v2), .inr (.inr o_1)]) (by decide +kernel) rfl rfl ?_
  obtain ⟨v_3, h4, h⟩ := bd h
  refine xa_b E h4 (show decode prog_14_method_2_code 10 = .ok (.baload, 1) by decide +kernel) ?_
  refine xv_b E [.sipush 255, .iand] (pc' := 15) (lv' := [(0, .inr (.inr (some a0))), (1, .inl v1), (2, .inl v2)]) (st' := [.inl (v_3 &&& (255 : Int32))]) (by decide +kernel) rfl rfl ?_
  obtain rfl := Option.some.inj h
  obtain ⟨rfl, rfl⟩ := Prod.mk.inj (show ((some (.inl (v_3 &&& (255 : Int32))) : Option aV), M) = (r, M') from hN)
  exact xv_ri E B.1 rfl B.2.1 (show decode prog_14_method_2_code 15 = .ok (.ireturn, 1) by decide +kernel) rfl rfl
end
theorem t165 (G : gX) (l : Launch) {as : List aV} {M : hM} {r : Option aV} {M' : hM} (h : f165 as M = some (r, M')) : xM G l ym165 prog_14_method_2_code 3 (some FieldType.int) 0 as M r M' := by
  unfold f165 at h
  split at h
  · have h := x_out_ok h
    refine xM_of (by decide) (Nat.le_of_ble_eq_true rfl) (lb165_0 G l _ _ _ M h) ?_
    intro p e s m args below meth c E B
    exact sb165_0 E B _ _ _ M h rfl
  · cases h
/-! ZFModel.number(III)I -/
def ym166 : MethodName := ⟨"ZonedFabricModel", "number", "(III)I"⟩
theorem cd166 : xCd ym166 prog_14_method_3_code 6 (some FieldType.int) 3 := ⟨mw926, mw864, by decide, by decide, by decide +kernel⟩
def b166_0 (a0 : Nat) (v1 : Int32) (v2 : Int32) (v3 : Int32) (M : hM) : Option xRes :=
  some (.inr (6, [.inr (.inr (some a0)), .inl v1, .inl v2, .inl v3, .inl (0 : Int32), .inl (0 : Int32)], M))
def b166_6 (a0 : Nat) (v1 : Int32) (v2 : Int32) (v3 : Int32) (v4 : Int32) (v5 : Int32) (M : hM) : Option xRes :=
  if v3 ≤ v5 then
    (some (.inl (some (.inl v4), M)))
  else
    (Option.bind (g_o M 12 (some a0)) fun b_3 =>
    Option.bind (c_I (f165 [.inr (.inr (some b_3)), .inl v1, .inl (v2 + v5)] M)) fun q_1 =>
    some (.inr (6, [.inr (.inr (some a0)), .inl v1, .inl v2, .inl v3, .inl ((v4 <<< ((8 : Int32) &&& 31)) ||| q_1.1), .inl (v5 + (1 : Int32))], q_1.2)))
def k166 (h : Nat) (as : List aV) (M : hM) : Option xRes :=
  if h = 6 then (match as with | [.inr (.inr (some a0)), .inl v1, .inl v2, .inl v3, .inl v4, .inl v5] => b166_6 a0 v1 v2 v3 v4 v5 M | _ => none) else
  none
def f166 (as : List aV) (M : hM) : xO := match as with
  | [.inr (.inr (some a0)), .inl v1, .inl v2, .inl v3] => x_go k166 (b166_0 a0 v1 v2 v3 M)
  | _ => none
theorem lb166_0 (G : gX) (l : Launch) (a0 : Nat) (v1 : Int32) (v2 : Int32) (v3 : Int32) (M : hM) {res : xRes} (h : b166_0 a0 v1 v2 v3 M = some res) : h_sz M ≤ r_sz res ∧ h_sl M ≤ r_sl res := by
  unfold b166_0 at h
  obtain rfl := Option.some.inj h
  show h_sz M ≤ h_sz M ∧ h_sl M ≤ h_sl M
  omega
theorem lb166_6 (G : gX) (l : Launch) (a0 : Nat) (v1 : Int32) (v2 : Int32) (v3 : Int32) (v4 : Int32) (v5 : Int32) (M : hM) {res : xRes} (h : b166_6 a0 v1 v2 v3 v4 v5 M = some res) : h_sz M ≤ r_sz res ∧ h_sl M ≤ r_sl res := by
  unfold b166_6 at h
  by_cases q5 : v3 ≤ v5
  · rw [if_pos q5] at h
    obtain rfl := Option.some.inj h
    show h_sz M ≤ h_sz M ∧ h_sl M ≤ h_sl M
    omega
  · rw [if_neg q5] at h
    obtain ⟨b_3, h4, h⟩ := bd h
    obtain ⟨q_1, h2, h⟩ := bd h
    have eh2 := (t165 G l (c_I_some h2)).1
    obtain rfl := Option.some.inj h
    show h_sz M ≤ h_sz q_1.2 ∧ h_sl M ≤ h_sl q_1.2
    omega
section
variable {p : Program} {l : Launch} {e : Env} {s : State} {m : MethodId} {args : Array Value} {below : List Frame} {meth : Method} {c : Code} {G : gX} {z0 y0 : Nat} {r : Option aV} {M' : hM}
def pg166 (p : Program) (l : Launch) (e : Env) (s : State) (m : MethodId) (args : Array Value) (below : List Frame) (meth : Method) (c : Code) (G : gX) (z0 y0 : Nat) (r : Option aV) (M' : hM) (h : Nat) (as : List aV) (M : hM) : Prop :=
  if h = 6 then (match as with | [.inr (.inr (some a0)), .inl v1, .inl v2, .inl v3, .inl v4, .inl v5] => xV G p l e (xRm 1 (h_sz M' - z0) (h_sl M' - y0)) s m args below meth c z0 y0 (h_sz M') (h_sl M') 6 (MQ below (xQc G r M') args s (h_sz M' - z0) (h_sl M' - y0) (xFr G)) 6 [(0, .inr (.inr (some a0))), (1, .inl v1), (2, .inl v2), (3, .inl v3), (4, .inl v4), (5, .inl v5)] [] M | _ => False) else
  False
theorem sb166_0 (E : xE G p (xRm 1 (h_sz M' - z0) (h_sl M' - y0)) s m args c prog_14_method_3_code "ZonedFabricModel" z0 y0 (h_sz M') (h_sl M') 6) (B : xB ym166 (some FieldType.int) meth) (a0 : Nat) (v1 : Int32) (v2 : Int32) (v3 : Int32) (M : hM) {res : xRes} (h : b166_0 a0 v1 v2 v3 M = some res) (hN : xN (pg166 p l e s m args below meth c G z0 y0 r M') r M' res) : xV G p l e (xRm 1 (h_sz M' - z0) (h_sl M' - y0)) s m args below meth c z0 y0 (h_sz M') (h_sl M') 6 (MQ below (xQc G r M') args s (h_sz M' - z0) (h_sl M' - y0) (xFr G)) 0 [(0, .inr (.inr (some a0))), (1, .inl v1), (2, .inl v2), (3, .inl v3)] [] M := by
  unfold b166_0 at h
  refine xv_b E [.iconst 0, .istore 4, .iconst 0, .istore 5] (pc' := 6) (lv' := [(5, .inl (0 : Int32)), (4, .inl (0 : Int32)), (0, .inr (.inr (some a0))), (1, .inl v1), (2, .inl v2), (3, .inl v3)]) (st' := []) (by decide +kernel) rfl rfl ?_
  obtain rfl := Option.some.inj h
  exact xv_w hN rfl
theorem sb166_6 (E : xE G p (xRm 1 (h_sz M' - z0) (h_sl M' - y0)) s m args c prog_14_method_3_code "ZonedFabricModel" z0 y0 (h_sz M') (h_sl M') 6) (B : xB ym166 (some FieldType.int) meth) (a0 : Nat) (v1 : Int32) (v2 : Int32) (v3 : Int32) (v4 : Int32) (v5 : Int32) (M : hM) {res : xRes} (h : b166_6 a0 v1 v2 v3 v4 v5 M = some res) (hN : xN (pg166 p l e s m args below meth c G z0 y0 r M') r M' res) : xV G p l e (xRm 1 (h_sz M' - z0) (h_sl M' - y0)) s m args below meth c z0 y0 (h_sz M') (h_sl M') 6 (MQ below (xQc G r M') args s (h_sz M' - z0) (h_sl M' - y0) (xFr G)) 6 [(0, .inr (.inr (some a0))), (1, .inl v1), (2, .inl v2), (3, .inl v3), (4, .inl v4), (5, .inl v5)] [] M := by
  unfold b166_6 at h
  refine xv_b E [.iload 5, .iload_n 3] (pc' := 9) (lv' := [(0, .inr (.inr (some a0))), (1, .inl v1), (2, .inl v2), (3, .inl v3), (4, .inl v4), (5, .inl v5)]) (st' := [.inl v3, .inl v5]) (by decide +kernel) rfl rfl ?_
  by_cases q5 : v3 ≤ v5
  · rw [if_pos q5] at h
    refine xv_icmp_ge E 35 (show decode prog_14_method_3_code 9 = .ok (.if_icmp .ge (26), 3) by decide +kernel) rfl (fun _ => ?_) (fun z => absurd q5 z)
    refine xv_b E [.iload 4] (pc' := 37) (lv' := [(0, .inr (.inr (some a0))), (1, .inl v1), (2, .inl v2), (3, .inl v3), (4, .inl v4), (5, .inl v5)]) (st' := [.inl v4]) (by decide +kernel) rfl rfl ?_
    obtain rfl := Option.some.inj h
    obtain ⟨rfl, rfl⟩ := Prod.mk.inj (show ((some (.inl v4) : Option aV), M) = (r, M') from hN)
    exact xv_ri E B.1 rfl B.2.1 (show decode prog_14_method_3_code 37 = .ok (.ireturn, 1) by decide +kernel) rfl rfl
  · rw [if_neg q5] at h
    refine xv_icmp_ge E 35 (show decode prog_14_method_3_code 9 = .ok (.if_icmp .ge (26), 3) by decide +kernel) rfl (fun z => absurd z q5) (fun _ => ?_)
    refine xv_b E [.iload 4, .bipush 8, .ishl, .aload_n 0, .iload_n 1, .iload_n 2, .iload 5, .iadd] (pc' := 23) (lv' := [(0, .inr (.inr (some a0))), (1, .inl v1), (2, .inl v2), (3, .inl v3), (4, .inl v4), (5, .inl v5)]) (st' := [.inl (v2 + v5), .inl v1, .inr (.inr (some a0)), .inl (v4 <<< ((8 : Int32) &&& 31))]) (by decide +kernel) rfl rfl ?_
    obtain ⟨b_3, h4, h⟩ := bd h
    obtain ⟨eh4, th4⟩ := g_o_some h4
    obtain ⟨q_1, h2, h⟩ := bd h
    refine xv_cvo E eh4 12 (as := [.inl v1, .inl (v2 + v5)]) (t165 G l (c_I_some h2)) cd165 mw927 mw928 mw929 (show decode prog_14_method_3_code 23 = .ok (.invokevirtual 186, 3) by decide +kernel) th4 rfl rfl (Nat.le_of_ble_eq_true rfl) ⟨Nat.le_of_ble_eq_true rfl, Nat.le_of_ble_eq_true rfl⟩ ?_
    refine xv_b E [.ior, .istore 4, .iinc 5 1] (pc' := 32) (lv' := [(5, .inl (v5 + (1 : Int32))), (4, .inl ((v4 <<< ((8 : Int32) &&& 31)) ||| q_1.1)), (0, .inr (.inr (some a0))), (1, .inl v1), (2, .inl v2), (3, .inl v3)]) (st' := []) (by decide +kernel) rfl rfl ?_
    refine xv_goto E 6 (show decode prog_14_method_3_code 32 = .ok (.goto (-26), 3) by decide +kernel) rfl ?_
    obtain rfl := Option.some.inj h
    exact xv_w hN rfl
end
theorem t166 (G : gX) (l : Launch) {as : List aV} {M : hM} {r : Option aV} {M' : hM} (h : f166 as M = some (r, M')) : xM G l ym166 prog_14_method_3_code 6 (some FieldType.int) 1 as M r M' := by
  unfold f166 at h
  split at h
  · have hle : ∀ h as M res, k166 h as M = some res → h_sz M ≤ r_sz res ∧ h_sl M ≤ r_sl res := by
      intro h as M res hb
      unfold k166 at hb
      by_cases e0 : h = 6
      · rw [if_pos e0] at hb
        split at hb
        · exact lb166_6 G l _ _ _ _ _ _ M hb
        · cases hb
      · rw [if_neg e0] at hb
        cases hb
    obtain ⟨res, hx, hres⟩ := x_go_ok h
    refine xM_of (by decide) (Nat.le_of_ble_eq_true rfl) ?_ ?_
    · have e1 := lb166_0 G l _ _ _ _ M hx
      have e2 := x_go_le hle hres
      omega
    · intro p e s m args below meth c E B
      refine sb166_0 E B _ _ _ _ M hx (hres _ ?_)
      intro h as M res hb hN
      unfold k166 at hb
      unfold pg166
      by_cases e0 : h = 6
      · rw [if_pos e0] at hb ⊢
        split at hb
        · exact sb166_6 E B _ _ _ _ _ _ M hb hN
        · cases hb
      · rw [if_neg e0] at hb ⊢
        cases hb
  · cases h
/-! ZFModel.add(IJI)V -/
def ym167 : MethodName := ⟨"ZonedFabricModel", "add", "(IJI)V"⟩
theorem cd167 : xCd ym167 prog_14_method_4_code 6 none 3 := ⟨mw930, mw864, by decide, by decide, by decide +kernel⟩
def b167_0 (a0 : Nat) (v1 : Int32) (w2 : Int64) (v4 : Int32) (M : hM) : Option xRes :=
  some (.inr (6, [.inr (.inr (some a0)), .inl v1, .inr (.inl w2), .inl (v4 - (1 : Int32))], M))
def b167_6 (a0 : Nat) (v1 : Int32) (w2 : Int64) (v5 : Int32) (M : hM) : Option xRes :=
  if v5 < 0 then
    (some (.inl (none, M)))
  else
    (Option.bind (g_r M 12 6 (some a0)) fun o_1 =>
    Option.bind (g_r M 12 7 (some a0)) fun o_3 =>
    Option.bind (al_i M 20 o_3 v1) fun v_5 =>
    Option.bind (as_b M 21 o_1 ((v1 * (80 : Int32)) + v_5) (Int32.toInt8 (Int64.toInt32 (w2 >>> (Int32.toInt64 ((8 : Int32) * v5) &&& 63)))).toInt32) fun M7 =>
    Option.bind (g_r M7 12 7 (some a0)) fun o_9 =>
    Option.bind (al_i M7 20 o_9 v1) fun v_11 =>
    Option.bind (as_i M7 20 o_9 v1 (v_11 + (1 : Int32))) fun M13 =>
    some (.inr (6, [.inr (.inr (some a0)), .inl v1, .inr (.inl w2), .inl (v5 + (-1 : Int32))], M13)))
def k167 (h : Nat) (as : List aV) (M : hM) : Option xRes :=
  if h = 6 then (match as with | [.inr (.inr (some a0)), .inl v1, .inr (.inl w2), .inl v5] => b167_6 a0 v1 w2 v5 M | _ => none) else
  none
def f167 (as : List aV) (M : hM) : xO := match as with
  | [.inr (.inr (some a0)), .inl v1, .inr (.inl w2), .inl v4] => x_go k167 (b167_0 a0 v1 w2 v4 M)
  | _ => none
theorem lb167_0 (G : gX) (l : Launch) (a0 : Nat) (v1 : Int32) (w2 : Int64) (v4 : Int32) (M : hM) {res : xRes} (h : b167_0 a0 v1 w2 v4 M = some res) : h_sz M ≤ r_sz res ∧ h_sl M ≤ r_sl res := by
  unfold b167_0 at h
  obtain rfl := Option.some.inj h
  show h_sz M ≤ h_sz M ∧ h_sl M ≤ h_sl M
  omega
theorem lb167_6 (G : gX) (l : Launch) (a0 : Nat) (v1 : Int32) (w2 : Int64) (v5 : Int32) (M : hM) {res : xRes} (h : b167_6 a0 v1 w2 v5 M = some res) : h_sz M ≤ r_sz res ∧ h_sl M ≤ r_sl res := by
  unfold b167_6 at h
  by_cases q15 : v5 < 0
  · rw [if_pos q15] at h
    obtain rfl := Option.some.inj h
    show h_sz M ≤ h_sz M ∧ h_sl M ≤ h_sl M
    omega
  · rw [if_neg q15] at h
    obtain ⟨o_1, h2, h⟩ := bd h
    obtain ⟨o_3, h4, h⟩ := bd h
    obtain ⟨v_5, h6, h⟩ := bd h
    obtain ⟨M7, h8, h⟩ := bd h
    have eh8 := as_b_sz h8
    obtain ⟨o_9, h10, h⟩ := bd h
    obtain ⟨v_11, h12, h⟩ := bd h
    obtain ⟨M13, h14, h⟩ := bd h
    have eh14 := as_i_sz h14
    obtain rfl := Option.some.inj h
    show h_sz M ≤ h_sz M13 ∧ h_sl M ≤ h_sl M13
    omega
section
variable {p : Program} {l : Launch} {e : Env} {s : State} {m : MethodId} {args : Array Value} {below : List Frame} {meth : Method} {c : Code} {G : gX} {z0 y0 : Nat} {r : Option aV} {M' : hM}
def pg167 (p : Program) (l : Launch) (e : Env) (s : State) (m : MethodId) (args : Array Value) (below : List Frame) (meth : Method) (c : Code) (G : gX) (z0 y0 : Nat) (r : Option aV) (M' : hM) (h : Nat) (as : List aV) (M : hM) : Prop :=
  if h = 6 then (match as with | [.inr (.inr (some a0)), .inl v1, .inr (.inl w2), .inl v5] => xV G p l e (xRm 0 (h_sz M' - z0) (h_sl M' - y0)) s m args below meth c z0 y0 (h_sz M') (h_sl M') 6 (MQ below (xQc G r M') args s (h_sz M' - z0) (h_sl M' - y0) (xFr G)) 6 [(0, .inr (.inr (some a0))), (1, .inl v1), (2, .inr (.inl w2)), (5, .inl v5)] [] M | _ => False) else
  False
theorem sb167_0 (E : xE G p (xRm 0 (h_sz M' - z0) (h_sl M' - y0)) s m args c prog_14_method_4_code "ZonedFabricModel" z0 y0 (h_sz M') (h_sl M') 6) (B : xB ym167 none meth) (a0 : Nat) (v1 : Int32) (w2 : Int64) (v4 : Int32) (M : hM) {res : xRes} (h : b167_0 a0 v1 w2 v4 M = some res) (hN : xN (pg167 p l e s m args below meth c G z0 y0 r M') r M' res) : xV G p l e (xRm 0 (h_sz M' - z0) (h_sl M' - y0)) s m args below meth c z0 y0 (h_sz M') (h_sl M') 6 (MQ below (xQc G r M') args s (h_sz M' - z0) (h_sl M' - y0) (xFr G)) 0 [(0, .inr (.inr (some a0))), (1, .inl v1), (2, .inr (.inl w2)), (4, .inl v4)] [] M := by
  unfold b167_0 at h
  refine xv_b E [.iload 4, .iconst 1, .isub, .istore 5] (pc' := 6) (lv' := [(5, .inl (v4 - (1 : Int32))), (0, .inr (.inr (some a0))), (1, .inl v1), (2, .inr (.inl w2)), (4, .inl v4)]) (st' := []) (by decide +kernel) rfl rfl ?_
  obtain rfl := Option.some.inj h
  exact xv_w hN rfl
theorem sb167_6 (E : xE G p (xRm 0 (h_sz M' - z0) (h_sl M' - y0)) s m args c prog_14_method_4_code "ZonedFabricModel" z0 y0 (h_sz M') (h_sl M') 6) (B : xB ym167 none meth) (a0 : Nat) (v1 : Int32) (w2 : Int64) (v5 : Int32) (M : hM) {res : xRes} (h : b167_6 a0 v1 w2 v5 M = some res) (hN : xN (pg167 p l e s m args below meth c G z0 y0 r M') r M' res) : xV G p l e (xRm 0 (h_sz M' - z0) (h_sl M' - y0)) s m args below meth c z0 y0 (h_sz M') (h_sl M') 6 (MQ below (xQc G r M') args s (h_sz M' - z0) (h_sl M' - y0) (xFr G)) 6 [(0, .inr (.inr (some a0))), (1, .inl v1), (2, .inr (.inl w2)), (5, .inl v5)] [] M := by
  unfold b167_6 at h
  refine xv_b E [.iload 5] (pc' := 8) (lv' := [(0, .inr (.inr (some a0))), (1, .inl v1), (2, .inr (.inl w2)), (5, .inl v5)]) (st' := [.inl v5]) (by decide +kernel) rfl rfl ?_
  by_cases q15 : v5 < 0
  · rw [if_pos q15] at h
    refine xv_if_lt E 52 (show decode prog_14_method_4_code 8 = .ok (.ifCond .lt (44), 3) by decide +kernel) rfl (fun _ => ?_) (fun z => absurd q15 z)
    obtain rfl := Option.some.inj h
    obtain ⟨rfl, rfl⟩ := Prod.mk.inj (show ((none : Option aV), M) = (r, M') from hN)
    exact xv_rv E B.1 B.2.1 (show decode prog_14_method_4_code 52 = .ok (.return_, 1) by decide +kernel) rfl rfl
  · rw [if_neg q15] at h
    refine xv_if_lt E 52 (show decode prog_14_method_4_code 8 = .ok (.ifCond .lt (44), 3) by decide +kernel) rfl (fun z => absurd z q15) (fun _ => ?_)
    refine xv_b E [.aload_n 0] (pc' := 12) (lv' := [(0, .inr (.inr (some a0))), (1, .inl v1), (2, .inr (.inl w2)), (5, .inl v5)]) (st' := [.inr (.inr (some a0))]) (by decide +kernel) rfl rfl ?_
    obtain ⟨o_1, h2, h⟩ := bd h
    refine xg_r E 12 6 h2 mw867 (show decode prog_14_method_4_code 12 = .ok (.getfield 17, 3) by decide +kernel) ?_
    refine xv_b E [.iload_n 1, .bipush 80, .imul, .aload_n 0] (pc' := 20) (lv' := [(0, .inr (.inr (some a0))), (1, .inl v1), (2, .inr (.inl w2)), (5, .inl v5)]) (st' := [.inr (.inr (some a0)), .inl (v1 * (80 : Int32)), .inr (.inr o_1)]) (by decide +kernel) rfl rfl ?_
    obtain ⟨o_3, h4, h⟩ := bd h
    refine xg_r E 12 7 h4 mw868 (show decode prog_14_method_4_code 20 = .ok (.getfield 21, 3) by decide +kernel) ?_
    refine xv_b E [.iload_n 1] (pc' := 24) (lv' := [(0, .inr (.inr (some a0))), (1, .inl v1), (2, .inr (.inl w2)), (5, .inl v5)]) (st' := [.inl v1, .inr (.inr o_3), .inl (v1 * (80 : Int32)), .inr (.inr o_1)]) (by decide +kernel) rfl rfl ?_
    obtain ⟨v_5, h6, h⟩ := bd h
    refine xa_i E h6 (show decode prog_14_method_4_code 24 = .ok (.iaload, 1) by decide +kernel) ?_
    refine xv_b E [.iadd, .lload_n 2, .bipush 8, .iload 5, .imul, .lshr, .l2i, .i2b] (pc' := 35) (lv' := [(0, .inr (.inr (some a0))), (1, .inl v1), (2, .inr (.inl w2)), (5, .inl v5)]) (st' := [.inl (Int32.toInt8 (Int64.toInt32 (w2 >>> (Int32.toInt64 ((8 : Int32) * v5) &&& 63)))).toInt32, .inl ((v1 * (80 : Int32)) + v_5), .inr (.inr o_1)]) (by decide +kernel) rfl rfl ?_
    obtain ⟨M7, h8, h⟩ := bd h
    refine xs_b E h8 (show decode prog_14_method_4_code 35 = .ok (.bastore, 1) by decide +kernel) ?_
    refine xv_b E [.aload_n 0] (pc' := 37) (lv' := [(0, .inr (.inr (some a0))), (1, .inl v1), (2, .inr (.inl w2)), (5, .inl v5)]) (st' := [.inr (.inr (some a0))]) (by decide +kernel) rfl rfl ?_
    obtain ⟨o_9, h10, h⟩ := bd h
    refine xg_r E 12 7 h10 mw868 (show decode prog_14_method_4_code 37 = .ok (.getfield 21, 3) by decide +kernel) ?_
    refine xv_b E [.iload_n 1, .dup2] (pc' := 42) (lv' := [(0, .inr (.inr (some a0))), (1, .inl v1), (2, .inr (.inl w2)), (5, .inl v5)]) (st' := [.inl v1, .inr (.inr o_9), .inl v1, .inr (.inr o_9)]) (by decide +kernel) rfl rfl ?_
    obtain ⟨v_11, h12, h⟩ := bd h
    refine xa_i E h12 (show decode prog_14_method_4_code 42 = .ok (.iaload, 1) by decide +kernel) ?_
    refine xv_b E [.iconst 1, .iadd] (pc' := 45) (lv' := [(0, .inr (.inr (some a0))), (1, .inl v1), (2, .inr (.inl w2)), (5, .inl v5)]) (st' := [.inl (v_11 + (1 : Int32)), .inl v1, .inr (.inr o_9)]) (by decide +kernel) rfl rfl ?_
    obtain ⟨M13, h14, h⟩ := bd h
    refine xs_i E h14 (show decode prog_14_method_4_code 45 = .ok (.iastore, 1) by decide +kernel) ?_
    refine xv_b E [.iinc 5 (-1)] (pc' := 49) (lv' := [(5, .inl (v5 + (-1 : Int32))), (0, .inr (.inr (some a0))), (1, .inl v1), (2, .inr (.inl w2))]) (st' := []) (by decide +kernel) rfl rfl ?_
    refine xv_goto E 6 (show decode prog_14_method_4_code 49 = .ok (.goto (-43), 3) by decide +kernel) rfl ?_
    obtain rfl := Option.some.inj h
    exact xv_w hN rfl
end
theorem t167 (G : gX) (l : Launch) {as : List aV} {M : hM} {r : Option aV} {M' : hM} (h : f167 as M = some (r, M')) : xM G l ym167 prog_14_method_4_code 6 none 0 as M r M' := by
  unfold f167 at h
  split at h
  · have hle : ∀ h as M res, k167 h as M = some res → h_sz M ≤ r_sz res ∧ h_sl M ≤ r_sl res := by
      intro h as M res hb
      unfold k167 at hb
      by_cases e0 : h = 6
      · rw [if_pos e0] at hb
        split at hb
        · exact lb167_6 G l _ _ _ _ M hb
        · cases hb
      · rw [if_neg e0] at hb
        cases hb
    obtain ⟨res, hx, hres⟩ := x_go_ok h
    refine xM_of (by decide) (Nat.le_of_ble_eq_true rfl) ?_ ?_
    · have e1 := lb167_0 G l _ _ _ _ M hx
      have e2 := x_go_le hle hres
      omega
    · intro p e s m args below meth c E B
      refine sb167_0 E B _ _ _ _ M hx (hres _ ?_)
      intro h as M res hb hN
      unfold k167 at hb
      unfold pg167
      by_cases e0 : h = 6
      · rw [if_pos e0] at hb ⊢
        split at hb
        · exact sb167_6 E B _ _ _ _ M hb hN
        · cases hb
      · rw [if_neg e0] at hb ⊢
        cases hb
  · cases h
/-! ZFModel.begins(IIIIII)I -/
def ym168 : MethodName := ⟨"ZonedFabricModel", "begins", "(IIIIII)I"⟩
theorem cd168 : xCd ym168 prog_14_method_5_code 8 (some FieldType.int) 6 := ⟨mw931, mw864, by decide, by decide, by decide +kernel⟩
def b168_0 (a0 : Nat) (v1 : Int32) (v2 : Int32) (v3 : Int32) (v4 : Int32) (v5 : Int32) (v6 : Int32) (M : hM) : Option xRes :=
  Option.bind (g_i M 12 9 (some a0)) fun v_1 =>
  Option.bind (p_i M 12 9 (some a0) (v_1 - (1 : Int32))) fun M3 =>
  Option.bind (g_r M3 12 8 (some a0)) fun o_5 =>
  Option.bind (g_i M3 12 9 (some a0)) fun v_7 =>
  Option.bind (al_i M3 20 o_5 v_7) fun v_9 =>
  Option.bind (g_r M3 12 7 (some a0)) fun o_11 =>
  Option.bind (as_i M3 20 o_11 v_9 (0 : Int32)) fun M13 =>
  Option.bind (g_o M13 12 (some a0)) fun b_17 =>
  Option.bind (c_V (f167 [.inr (.inr (some b_17)), .inl v_9, .inr (.inl (Int32.toInt64 v1)), .inl (1 : Int32)] M13)) fun q_15 =>
  Option.bind (g_o q_15 12 (some a0)) fun b_21 =>
  Option.bind (c_V (f167 [.inr (.inr (some b_21)), .inl v_9, .inr (.inl (Int32.toInt64 v2)), .inl (3 : Int32)] q_15)) fun q_19 =>
  Option.bind (g_o q_19 12 (some a0)) fun b_25 =>
  Option.bind (c_V (f167 [.inr (.inr (some b_25)), .inl v_9, .inr (.inl (Int32.toInt64 v3)), .inl (3 : Int32)] q_19)) fun q_23 =>
  Option.bind (g_o q_23 12 (some a0)) fun b_29 =>
  Option.bind (c_V (f167 [.inr (.inr (some b_29)), .inl v_9, .inr (.inl (Int32.toInt64 v4)), .inl (2 : Int32)] q_23)) fun q_27 =>
  Option.bind (g_o q_27 12 (some a0)) fun b_33 =>
  Option.bind (c_V (f167 [.inr (.inr (some b_33)), .inl v_9, .inr (.inl (Int32.toInt64 v5)), .inl (2 : Int32)] q_27)) fun q_31 =>
  Option.bind (g_o q_31 12 (some a0)) fun b_37 =>
  Option.bind (c_V (f167 [.inr (.inr (some b_37)), .inl v_9, .inr (.inl (Int32.toInt64 v6)), .inl (1 : Int32)] q_31)) fun q_35 =>
  Option.bind (g_o q_35 12 (some a0)) fun b_41 =>
  Option.bind (c_V (f167 [.inr (.inr (some b_41)), .inl v_9, .inr (.inl (0 : Int64)), .inl (1 : Int32)] q_35)) fun q_39 =>
  some (.inl (some (.inl v_9), q_39))
def f168 (as : List aV) (M : hM) : xO := match as with
  | [.inr (.inr (some a0)), .inl v1, .inl v2, .inl v3, .inl v4, .inl v5, .inl v6] => x_out (b168_0 a0 v1 v2 v3 v4 v5 v6 M)
  | _ => none
theorem lb168_0 (G : gX) (l : Launch) (a0 : Nat) (v1 : Int32) (v2 : Int32) (v3 : Int32) (v4 : Int32) (v5 : Int32) (v6 : Int32) (M : hM) {res : xRes} (h : b168_0 a0 v1 v2 v3 v4 v5 v6 M = some res) : h_sz M ≤ r_sz res ∧ h_sl M ≤ r_sl res := by
  unfold b168_0 at h
  obtain ⟨v_1, h2, h⟩ := bd h
  obtain ⟨M3, h4, h⟩ := bd h
  have eh4 := p_i_sz h4
  obtain ⟨o_5, h6, h⟩ := bd h
  obtain ⟨v_7, h8, h⟩ := bd h
  obtain ⟨v_9, h10, h⟩ := bd h
  obtain ⟨o_11, h12, h⟩ := bd h
  obtain ⟨M13, h14, h⟩ := bd h
  have eh14 := as_i_sz h14
  obtain ⟨b_17, h18, h⟩ := bd h
  obtain ⟨q_15, h16, h⟩ := bd h
  have eh16 := (t167 G l (c_V_some h16)).1
  obtain ⟨b_21, h22, h⟩ := bd h
  obtain ⟨q_19, h20, h⟩ := bd h
  have eh20 := (t167 G l (c_V_some h20)).1
  obtain ⟨b_25, h26, h⟩ := bd h
  obtain ⟨q_23, h24, h⟩ := bd h
  have eh24 := (t167 G l (c_V_some h24)).1
  obtain ⟨b_29, h30, h⟩ := bd h
  obtain ⟨q_27, h28, h⟩ := bd h
  have eh28 := (t167 G l (c_V_some h28)).1
  obtain ⟨b_33, h34, h⟩ := bd h
  obtain ⟨q_31, h32, h⟩ := bd h
  have eh32 := (t167 G l (c_V_some h32)).1
  obtain ⟨b_37, h38, h⟩ := bd h
  obtain ⟨q_35, h36, h⟩ := bd h
  have eh36 := (t167 G l (c_V_some h36)).1
  obtain ⟨b_41, h42, h⟩ := bd h
  obtain ⟨q_39, h40, h⟩ := bd h
  have eh40 := (t167 G l (c_V_some h40)).1
  obtain rfl := Option.some.inj h
  show h_sz M ≤ h_sz q_39 ∧ h_sl M ≤ h_sl q_39
  omega
section
variable {p : Program} {l : Launch} {e : Env} {s : State} {m : MethodId} {args : Array Value} {below : List Frame} {meth : Method} {c : Code} {G : gX} {z0 y0 : Nat} {r : Option aV} {M' : hM}
theorem sb168_0 (E : xE G p (xRm 1 (h_sz M' - z0) (h_sl M' - y0)) s m args c prog_14_method_5_code "ZonedFabricModel" z0 y0 (h_sz M') (h_sl M') 8) (B : xB ym168 (some FieldType.int) meth) (a0 : Nat) (v1 : Int32) (v2 : Int32) (v3 : Int32) (v4 : Int32) (v5 : Int32) (v6 : Int32) (M : hM) {res : xRes} (h : b168_0 a0 v1 v2 v3 v4 v5 v6 M = some res) (hN : xN (fun _ _ _ => False) r M' res) : xV G p l e (xRm 1 (h_sz M' - z0) (h_sl M' - y0)) s m args below meth c z0 y0 (h_sz M') (h_sl M') 8 (MQ below (xQc G r M') args s (h_sz M' - z0) (h_sl M' - y0) (xFr G)) 0 [(0, .inr (.inr (some a0))), (1, .inl v1), (2, .inl v2), (3, .inl v3), (4, .inl v4), (5, .inl v5), (6, .inl v6)] [] M := by
  unfold b168_0 at h
  refine xv_b E [.aload_n 0, .dup] (pc' := 2) (lv' := [(0, .inr (.inr (some a0))), (1, .inl v1), (2, .inl v2), (3, .inl v3), (4, .inl v4), (5, .inl v5), (6, .inl v6)]) (st' := [.inr (.inr (some a0)), .inr (.inr (some a0))]) (by decide +kernel) rfl rfl ?_
  obtain ⟨v_1, h2, h⟩ := bd h
  refine xg_i E 12 9 h2 mw924 (show decode prog_14_method_5_code 2 = .ok (.getfield 183, 3) by decide +kernel) ?_
  refine xv_b E [.iconst 1, .isub] (pc' := 7) (lv' := [(0, .inr (.inr (some a0))), (1, .inl v1), (2, .inl v2), (3, .inl v3), (4, .inl v4), (5, .inl v5), (6, .inl v6)]) (st' := [.inl (v_1 - (1 : Int32)), .inr (.inr (some a0))]) (by decide +kernel) rfl rfl ?_
  obtain ⟨M3, h4, h⟩ := bd h
  refine xp_i E 12 9 h4 mw924 (show decode prog_14_method_5_code 7 = .ok (.putfield 183, 3) by decide +kernel) (Or.inl rfl) ?_
  refine xv_b E [.aload_n 0] (pc' := 11) (lv' := [(0, .inr (.inr (some a0))), (1, .inl v1), (2, .inl v2), (3, .inl v3), (4, .inl v4), (5, .inl v5), (6, .inl v6)]) (st' := [.inr (.inr (some a0))]) (by decide +kernel) rfl rfl ?_
  obtain ⟨o_5, h6, h⟩ := bd h
  refine xg_r E 12 8 h6 mw869 (show decode prog_14_method_5_code 11 = .ok (.getfield 24, 3) by decide +kernel) ?_
  refine xv_b E [.aload_n 0] (pc' := 15) (lv' := [(0, .inr (.inr (some a0))), (1, .inl v1), (2, .inl v2), (3, .inl v3), (4, .inl v4), (5, .inl v5), (6, .inl v6)]) (st' := [.inr (.inr (some a0)), .inr (.inr o_5)]) (by decide +kernel) rfl rfl ?_
  obtain ⟨v_7, h8, h⟩ := bd h
  refine xg_i E 12 9 h8 mw924 (show decode prog_14_method_5_code 15 = .ok (.getfield 183, 3) by decide +kernel) ?_
  obtain ⟨v_9, h10, h⟩ := bd h
  refine xa_i E h10 (show decode prog_14_method_5_code 18 = .ok (.iaload, 1) by decide +kernel) ?_
  refine xv_b E [.istore 7, .aload_n 0] (pc' := 22) (lv' := [(7, .inl v_9), (0, .inr (.inr (some a0))), (1, .inl v1), (2, .inl v2), (3, .inl v3), (4, .inl v4), (5, .inl v5), (6, .inl v6)]) (st' := [.inr (.inr (some a0))]) (by decide +kernel) rfl rfl ?_
  obtain ⟨o_11, h12, h⟩ := bd h
  refine xg_r E 12 7 h12 mw868 (show decode prog_14_method_5_code 22 = .ok (.getfield 21, 3) by decide +kernel) ?_
  refine xv_b E [.iload 7, .iconst 0] (pc' := 28) (lv' := [(7, .inl v_9), (0, .inr (.inr (some a0))), (1, .inl v1), (2, .inl v2), (3, .inl v3), (4, .inl v4), (5, .inl v5), (6, .inl v6)]) (st' := [.inl (0 : Int32), .inl v_9, .inr (.inr o_11)]) (by decide +kernel) rfl rfl ?_
  obtain ⟨M13, h14, h⟩ := bd h
  refine xs_i E h14 (show decode prog_14_method_5_code 28 = .ok (.iastore, 1) by decide +kernel) ?_
  refine xv_b E [.aload_n 0, .iload 7, .iload_n 1, .i2l, .iconst 1] (pc' := 35) (lv' := [(7, .inl v_9), (0, .inr (.inr (some a0))), (1, .inl v1), (2, .inl v2), (3, .inl v3), (4, .inl v4), (5, .inl v5), (6, .inl v6)]) (st' := [.inl (1 : Int32), .inr (.inl (Int32.toInt64 v1)), .inl v_9, .inr (.inr (some a0))]) (by decide +kernel) rfl rfl ?_
  obtain ⟨b_17, h18, h⟩ := bd h
  obtain ⟨eh18, th18⟩ := g_o_some h18
  obtain ⟨q_15, h16, h⟩ := bd h
  refine xv_cvo E eh18 12 (as := [.inl v_9, .inr (.inl (Int32.toInt64 v1)), .inl (1 : Int32)]) (t167 G l (c_V_some h16)) cd167 mw932 mw933 mw934 (show decode prog_14_method_5_code 35 = .ok (.invokevirtual 190, 3) by decide +kernel) th18 rfl rfl (Nat.le_of_ble_eq_true rfl) ⟨Nat.le_of_ble_eq_true rfl, Nat.le_of_ble_eq_true rfl⟩ ?_
  refine xv_b E [.aload_n 0, .iload 7, .iload_n 2, .i2l, .iconst 3] (pc' := 44) (lv' := [(7, .inl v_9), (0, .inr (.inr (some a0))), (1, .inl v1), (2, .inl v2), (3, .inl v3), (4, .inl v4), (5, .inl v5), (6, .inl v6)]) (st' := [.inl (3 : Int32), .inr (.inl (Int32.toInt64 v2)), .inl v_9, .inr (.inr (some a0))]) (by decide +kernel) rfl rfl ?_
  obtain ⟨b_21, h22, h⟩ := bd h
  obtain ⟨eh22, th22⟩ := g_o_some h22
  obtain ⟨q_19, h20, h⟩ := bd h
  refine xv_cvo E eh22 12 (as := [.inl v_9, .inr (.inl (Int32.toInt64 v2)), .inl (3 : Int32)]) (t167 G l (c_V_some h20)) cd167 mw932 mw933 mw934 (show decode prog_14_method_5_code 44 = .ok (.invokevirtual 190, 3) by decide +kernel) th22 rfl rfl (Nat.le_of_ble_eq_true rfl) ⟨Nat.le_of_ble_eq_true rfl, Nat.le_of_ble_eq_true rfl⟩ ?_
  refine xv_b E [.aload_n 0, .iload 7, .iload_n 3, .i2l, .iconst 3] (pc' := 53) (lv' := [(7, .inl v_9), (0, .inr (.inr (some a0))), (1, .inl v1), (2, .inl v2), (3, .inl v3), (4, .inl v4), (5, .inl v5), (6, .inl v6)]) (st' := [.inl (3 : Int32), .inr (.inl (Int32.toInt64 v3)), .inl v_9, .inr (.inr (some a0))]) (by decide +kernel) rfl rfl ?_
  obtain ⟨b_25, h26, h⟩ := bd h
  obtain ⟨eh26, th26⟩ := g_o_some h26
  obtain ⟨q_23, h24, h⟩ := bd h
  refine xv_cvo E eh26 12 (as := [.inl v_9, .inr (.inl (Int32.toInt64 v3)), .inl (3 : Int32)]) (t167 G l (c_V_some h24)) cd167 mw932 mw933 mw934 (show decode prog_14_method_5_code 53 = .ok (.invokevirtual 190, 3) by decide +kernel) th26 rfl rfl (Nat.le_of_ble_eq_true rfl) ⟨Nat.le_of_ble_eq_true rfl, Nat.le_of_ble_eq_true rfl⟩ ?_
  refine xv_b E [.aload_n 0, .iload 7, .iload 4, .i2l, .iconst 2] (pc' := 63) (lv' := [(7, .inl v_9), (0, .inr (.inr (some a0))), (1, .inl v1), (2, .inl v2), (3, .inl v3), (4, .inl v4), (5, .inl v5), (6, .inl v6)]) (st' := [.inl (2 : Int32), .inr (.inl (Int32.toInt64 v4)), .inl v_9, .inr (.inr (some a0))]) (by decide +kernel) rfl rfl ?_
  obtain ⟨b_29, h30, h⟩ := bd h
  obtain ⟨eh30, th30⟩ := g_o_some h30
  obtain ⟨q_27, h28, h⟩ := bd h
  refine xv_cvo E eh30 12 (as := [.inl v_9, .inr (.inl (Int32.toInt64 v4)), .inl (2 : Int32)]) (t167 G l (c_V_some h28)) cd167 mw932 mw933 mw934 (show decode prog_14_method_5_code 63 = .ok (.invokevirtual 190, 3) by decide +kernel) th30 rfl rfl (Nat.le_of_ble_eq_true rfl) ⟨Nat.le_of_ble_eq_true rfl, Nat.le_of_ble_eq_true rfl⟩ ?_
  refine xv_b E [.aload_n 0, .iload 7, .iload 5, .i2l, .iconst 2] (pc' := 73) (lv' := [(7, .inl v_9), (0, .inr (.inr (some a0))), (1, .inl v1), (2, .inl v2), (3, .inl v3), (4, .inl v4), (5, .inl v5), (6, .inl v6)]) (st' := [.inl (2 : Int32), .inr (.inl (Int32.toInt64 v5)), .inl v_9, .inr (.inr (some a0))]) (by decide +kernel) rfl rfl ?_
  obtain ⟨b_33, h34, h⟩ := bd h
  obtain ⟨eh34, th34⟩ := g_o_some h34
  obtain ⟨q_31, h32, h⟩ := bd h
  refine xv_cvo E eh34 12 (as := [.inl v_9, .inr (.inl (Int32.toInt64 v5)), .inl (2 : Int32)]) (t167 G l (c_V_some h32)) cd167 mw932 mw933 mw934 (show decode prog_14_method_5_code 73 = .ok (.invokevirtual 190, 3) by decide +kernel) th34 rfl rfl (Nat.le_of_ble_eq_true rfl) ⟨Nat.le_of_ble_eq_true rfl, Nat.le_of_ble_eq_true rfl⟩ ?_
  refine xv_b E [.aload_n 0, .iload 7, .iload 6, .i2l, .iconst 1] (pc' := 83) (lv' := [(7, .inl v_9), (0, .inr (.inr (some a0))), (1, .inl v1), (2, .inl v2), (3, .inl v3), (4, .inl v4), (5, .inl v5), (6, .inl v6)]) (st' := [.inl (1 : Int32), .inr (.inl (Int32.toInt64 v6)), .inl v_9, .inr (.inr (some a0))]) (by decide +kernel) rfl rfl ?_
  obtain ⟨b_37, h38, h⟩ := bd h
  obtain ⟨eh38, th38⟩ := g_o_some h38
  obtain ⟨q_35, h36, h⟩ := bd h
  refine xv_cvo E eh38 12 (as := [.inl v_9, .inr (.inl (Int32.toInt64 v6)), .inl (1 : Int32)]) (t167 G l (c_V_some h36)) cd167 mw932 mw933 mw934 (show decode prog_14_method_5_code 83 = .ok (.invokevirtual 190, 3) by decide +kernel) th38 rfl rfl (Nat.le_of_ble_eq_true rfl) ⟨Nat.le_of_ble_eq_true rfl, Nat.le_of_ble_eq_true rfl⟩ ?_
  refine xv_b E [.aload_n 0, .iload 7, .lconst 0, .iconst 1] (pc' := 91) (lv' := [(7, .inl v_9), (0, .inr (.inr (some a0))), (1, .inl v1), (2, .inl v2), (3, .inl v3), (4, .inl v4), (5, .inl v5), (6, .inl v6)]) (st' := [.inl (1 : Int32), .inr (.inl (0 : Int64)), .inl v_9, .inr (.inr (some a0))]) (by decide +kernel) rfl rfl ?_
  obtain ⟨b_41, h42, h⟩ := bd h
  obtain ⟨eh42, th42⟩ := g_o_some h42
  obtain ⟨q_39, h40, h⟩ := bd h
  refine xv_cvo E eh42 12 (as := [.inl v_9, .inr (.inl (0 : Int64)), .inl (1 : Int32)]) (t167 G l (c_V_some h40)) cd167 mw932 mw933 mw934 (show decode prog_14_method_5_code 91 = .ok (.invokevirtual 190, 3) by decide +kernel) th42 rfl rfl (Nat.le_of_ble_eq_true rfl) ⟨Nat.le_of_ble_eq_true rfl, Nat.le_of_ble_eq_true rfl⟩ ?_
  refine xv_b E [.iload 7] (pc' := 96) (lv' := [(7, .inl v_9), (0, .inr (.inr (some a0))), (1, .inl v1), (2, .inl v2), (3, .inl v3), (4, .inl v4), (5, .inl v5), (6, .inl v6)]) (st' := [.inl v_9]) (by decide +kernel) rfl rfl ?_
  obtain rfl := Option.some.inj h
  obtain ⟨rfl, rfl⟩ := Prod.mk.inj (show ((some (.inl v_9) : Option aV), q_39) = (r, M') from hN)
  exact xv_ri E B.1 rfl B.2.1 (show decode prog_14_method_5_code 96 = .ok (.ireturn, 1) by decide +kernel) rfl rfl
end
theorem t168 (G : gX) (l : Launch) {as : List aV} {M : hM} {r : Option aV} {M' : hM} (h : f168 as M = some (r, M')) : xM G l ym168 prog_14_method_5_code 8 (some FieldType.int) 1 as M r M' := by
  unfold f168 at h
  split at h
  · have h := x_out_ok h
    refine xM_of (by decide) (Nat.le_of_ble_eq_true rfl) (lb168_0 G l _ _ _ _ _ _ _ M h) ?_
    intro p e s m args below meth c E B
    exact sb168_0 E B _ _ _ _ _ _ _ M h rfl
  · cases h
/-! ZFModel.check(II)I -/
def ym169 : MethodName := ⟨"ZonedFabricModel", "check", "(II)I"⟩
theorem cd169 : xCd ym169 prog_14_method_8_code 7 (some FieldType.int) 2 := ⟨mw935, mw864, by decide, by decide, by decide +kernel⟩
def b169_0 (a0 : Nat) (v1 : Int32) (v2 : Int32) (M : hM) : Option xRes :=
  some (.inr (5, [.inr (.inr (some a0)), .inl v1, .inl v2, .inl (-1 : Int32), .inl (0 : Int32)], M))
def b169_5 (a0 : Nat) (v1 : Int32) (v2 : Int32) (v3 : Int32) (v4 : Int32) (M : hM) : Option xRes :=
  if v2 ≤ v4 then
    (some (.inl (some (.inl (v3 ^^^ (-1 : Int32))), M)))
  else
    (Option.bind (g_o M 12 (some a0)) fun b_3 =>
    Option.bind (c_I (f165 [.inr (.inr (some b_3)), .inl v1, .inl v4] M)) fun q_1 =>
    some (.inr (24, [.inr (.inr (some a0)), .inl v1, .inl v2, .inl (v3 ^^^ q_1.1), .inl v4, .inl (0 : Int32)], q_1.2)))
def b169_51 (a0 : Nat) (v1 : Int32) (v2 : Int32) (v3 : Int32) (v4 : Int32) (v5 : Int32) (M : hM) : Option xRes :=
  some (.inr (24, [.inr (.inr (some a0)), .inl v1, .inl v2, .inl v3, .inl v4, .inl (v5 + (1 : Int32))], M))
def b169_24 (a0 : Nat) (v1 : Int32) (v2 : Int32) (v3 : Int32) (v4 : Int32) (v5 : Int32) (M : hM) : Option xRes :=
  if (8 : Int32) ≤ v5 then
    (some (.inr (5, [.inr (.inr (some a0)), .inl v1, .inl v2, .inl v3, .inl (v4 + (1 : Int32))], M)))
  else
    (if (v3 &&& (1 : Int32)) = (1 : Int32) then
      (b169_51 a0 v1 v2 ((Int32.toUInt32 v3 >>> (Int32.toUInt32 (1 : Int32) &&& Int32.toUInt32 31)).toInt32 ^^^ (-306674912 : Int32)) v4 v5 M)
    else
      (b169_51 a0 v1 v2 (Int32.toUInt32 v3 >>> (Int32.toUInt32 (1 : Int32) &&& Int32.toUInt32 31)).toInt32 v4 v5 M))
def k169 (h : Nat) (as : List aV) (M : hM) : Option xRes :=
  if h = 5 then (match as with | [.inr (.inr (some a0)), .inl v1, .inl v2, .inl v3, .inl v4] => b169_5 a0 v1 v2 v3 v4 M | _ => none) else
  if h = 24 then (match as with | [.inr (.inr (some a0)), .inl v1, .inl v2, .inl v3, .inl v4, .inl v5] => b169_24 a0 v1 v2 v3 v4 v5 M | _ => none) else
  none
def f169 (as : List aV) (M : hM) : xO := match as with
  | [.inr (.inr (some a0)), .inl v1, .inl v2] => x_go k169 (b169_0 a0 v1 v2 M)
  | _ => none
theorem lb169_0 (G : gX) (l : Launch) (a0 : Nat) (v1 : Int32) (v2 : Int32) (M : hM) {res : xRes} (h : b169_0 a0 v1 v2 M = some res) : h_sz M ≤ r_sz res ∧ h_sl M ≤ r_sl res := by
  unfold b169_0 at h
  obtain rfl := Option.some.inj h
  show h_sz M ≤ h_sz M ∧ h_sl M ≤ h_sl M
  omega
theorem lb169_5 (G : gX) (l : Launch) (a0 : Nat) (v1 : Int32) (v2 : Int32) (v3 : Int32) (v4 : Int32) (M : hM) {res : xRes} (h : b169_5 a0 v1 v2 v3 v4 M = some res) : h_sz M ≤ r_sz res ∧ h_sl M ≤ r_sl res := by
  unfold b169_5 at h
  by_cases q5 : v2 ≤ v4
  · rw [if_pos q5] at h
    obtain rfl := Option.some.inj h
    show h_sz M ≤ h_sz M ∧ h_sl M ≤ h_sl M
    omega
  · rw [if_neg q5] at h
    obtain ⟨b_3, h4, h⟩ := bd h
    obtain ⟨q_1, h2, h⟩ := bd h
    have eh2 := (t165 G l (c_I_some h2)).1
    obtain rfl := Option.some.inj h
    show h_sz M ≤ h_sz q_1.2 ∧ h_sl M ≤ h_sl q_1.2
    omega
theorem lb169_51 (G : gX) (l : Launch) (a0 : Nat) (v1 : Int32) (v2 : Int32) (v3 : Int32) (v4 : Int32) (v5 : Int32) (M : hM) {res : xRes} (h : b169_51 a0 v1 v2 v3 v4 v5 M = some res) : h_sz M ≤ r_sz res ∧ h_sl M ≤ r_sl res := by
  unfold b169_51 at h
  obtain rfl := Option.some.inj h
  show h_sz M ≤ h_sz M ∧ h_sl M ≤ h_sl M
  omega
theorem lb169_24 (G : gX) (l : Launch) (a0 : Nat) (v1 : Int32) (v2 : Int32) (v3 : Int32) (v4 : Int32) (v5 : Int32) (M : hM) {res : xRes} (h : b169_24 a0 v1 v2 v3 v4 v5 M = some res) : h_sz M ≤ r_sz res ∧ h_sl M ≤ r_sl res := by
  unfold b169_24 at h
  by_cases q7 : (8 : Int32) ≤ v5
  · rw [if_pos q7] at h
    obtain rfl := Option.some.inj h
    show h_sz M ≤ h_sz M ∧ h_sl M ≤ h_sl M
    omega
  · rw [if_neg q7] at h
    by_cases q6 : (v3 &&& (1 : Int32)) = (1 : Int32)
    · rw [if_pos q6] at h
      have e := lb169_51 G l a0 v1 v2 ((Int32.toUInt32 v3 >>> (Int32.toUInt32 (1 : Int32) &&& Int32.toUInt32 31)).toInt32 ^^^ (-306674912 : Int32)) v4 v5 M h
      omega
    · rw [if_neg q6] at h
      have e := lb169_51 G l a0 v1 v2 (Int32.toUInt32 v3 >>> (Int32.toUInt32 (1 : Int32) &&& Int32.toUInt32 31)).toInt32 v4 v5 M h
      omega
section
variable {p : Program} {l : Launch} {e : Env} {s : State} {m : MethodId} {args : Array Value} {below : List Frame} {meth : Method} {c : Code} {G : gX} {z0 y0 : Nat} {r : Option aV} {M' : hM}
def pg169 (p : Program) (l : Launch) (e : Env) (s : State) (m : MethodId) (args : Array Value) (below : List Frame) (meth : Method) (c : Code) (G : gX) (z0 y0 : Nat) (r : Option aV) (M' : hM) (h : Nat) (as : List aV) (M : hM) : Prop :=
  if h = 5 then (match as with | [.inr (.inr (some a0)), .inl v1, .inl v2, .inl v3, .inl v4] => xV G p l e (xRm 1 (h_sz M' - z0) (h_sl M' - y0)) s m args below meth c z0 y0 (h_sz M') (h_sl M') 7 (MQ below (xQc G r M') args s (h_sz M' - z0) (h_sl M' - y0) (xFr G)) 5 [(0, .inr (.inr (some a0))), (1, .inl v1), (2, .inl v2), (3, .inl v3), (4, .inl v4)] [] M | _ => False) else
  if h = 24 then (match as with | [.inr (.inr (some a0)), .inl v1, .inl v2, .inl v3, .inl v4, .inl v5] => xV G p l e (xRm 1 (h_sz M' - z0) (h_sl M' - y0)) s m args below meth c z0 y0 (h_sz M') (h_sl M') 7 (MQ below (xQc G r M') args s (h_sz M' - z0) (h_sl M' - y0) (xFr G)) 24 [(0, .inr (.inr (some a0))), (1, .inl v1), (2, .inl v2), (3, .inl v3), (4, .inl v4), (5, .inl v5)] [] M | _ => False) else
  False
theorem sb169_0 (E : xE G p (xRm 1 (h_sz M' - z0) (h_sl M' - y0)) s m args c prog_14_method_8_code "ZonedFabricModel" z0 y0 (h_sz M') (h_sl M') 7) (B : xB ym169 (some FieldType.int) meth) (a0 : Nat) (v1 : Int32) (v2 : Int32) (M : hM) {res : xRes} (h : b169_0 a0 v1 v2 M = some res) (hN : xN (pg169 p l e s m args below meth c G z0 y0 r M') r M' res) : xV G p l e (xRm 1 (h_sz M' - z0) (h_sl M' - y0)) s m args below meth c z0 y0 (h_sz M') (h_sl M') 7 (MQ below (xQc G r M') args s (h_sz M' - z0) (h_sl M' - y0) (xFr G)) 0 [(0, .inr (.inr (some a0))), (1, .inl v1), (2, .inl v2)] [] M := by
  unfold b169_0 at h
  refine xv_b E [.iconst (-1), .istore_n 3, .iconst 0, .istore 4] (pc' := 5) (lv' := [(4, .inl (0 : Int32)), (3, .inl (-1 : Int32)), (0, .inr (.inr (some a0))), (1, .inl v1), (2, .inl v2)]) (st' := []) (by decide +kernel) rfl rfl ?_
  obtain rfl := Option.some.inj h
  exact xv_w hN rfl
theorem sb169_5 (E : xE G p (xRm 1 (h_sz M' - z0) (h_sl M' - y0)) s m args c prog_14_method_8_code "ZonedFabricModel" z0 y0 (h_sz M') (h_sl M') 7) (B : xB ym169 (some FieldType.int) meth) (a0 : Nat) (v1 : Int32) (v2 : Int32) (v3 : Int32) (v4 : Int32) (M : hM) {res : xRes} (h : b169_5 a0 v1 v2 v3 v4 M = some res) (hN : xN (pg169 p l e s m args below meth c G z0 y0 r M') r M' res) : xV G p l e (xRm 1 (h_sz M' - z0) (h_sl M' - y0)) s m args below meth c z0 y0 (h_sz M') (h_sl M') 7 (MQ below (xQc G r M') args s (h_sz M' - z0) (h_sl M' - y0) (xFr G)) 5 [(0, .inr (.inr (some a0))), (1, .inl v1), (2, .inl v2), (3, .inl v3), (4, .inl v4)] [] M := by
  unfold b169_5 at h
  refine xv_b E [.iload 4, .iload_n 2] (pc' := 8) (lv' := [(0, .inr (.inr (some a0))), (1, .inl v1), (2, .inl v2), (3, .inl v3), (4, .inl v4)]) (st' := [.inl v2, .inl v4]) (by decide +kernel) rfl rfl ?_
  by_cases q5 : v2 ≤ v4
  · rw [if_pos q5] at h
    refine xv_icmp_ge E 63 (show decode prog_14_method_8_code 8 = .ok (.if_icmp .ge (55), 3) by decide +kernel) rfl (fun _ => ?_) (fun z => absurd q5 z)
    refine xv_b E [.iload_n 3, .iconst (-1), .ixor] (pc' := 66) (lv' := [(0, .inr (.inr (some a0))), (1, .inl v1), (2, .inl v2), (3, .inl v3), (4, .inl v4)]) (st' := [.inl (v3 ^^^ (-1 : Int32))]) (by decide +kernel) rfl rfl ?_
    obtain rfl := Option.some.inj h
    obtain ⟨rfl, rfl⟩ := Prod.mk.inj (show ((some (.inl (v3 ^^^ (-1 : Int32))) : Option aV), M) = (r, M') from hN)
    exact xv_ri E B.1 rfl B.2.1 (show decode prog_14_method_8_code 66 = .ok (.ireturn, 1) by decide +kernel) rfl rfl
  · rw [if_neg q5] at h
    refine xv_icmp_ge E 63 (show decode prog_14_method_8_code 8 = .ok (.if_icmp .ge (55), 3) by decide +kernel) rfl (fun z => absurd z q5) (fun _ => ?_)
    refine xv_b E [.iload_n 3, .aload_n 0, .iload_n 1, .iload 4] (pc' := 16) (lv' := [(0, .inr (.inr (some a0))), (1, .inl v1), (2, .inl v2), (3, .inl v3), (4, .inl v4)]) (st' := [.inl v4, .inl v1, .inr (.inr (some a0)), .inl v3]) (by decide +kernel) rfl rfl ?_
    obtain ⟨b_3, h4, h⟩ := bd h
    obtain ⟨eh4, th4⟩ := g_o_some h4
    obtain ⟨q_1, h2, h⟩ := bd h
    refine xv_cvo E eh4 12 (as := [.inl v1, .inl v4]) (t165 G l (c_I_some h2)) cd165 mw927 mw928 mw929 (show decode prog_14_method_8_code 16 = .ok (.invokevirtual 186, 3) by decide +kernel) th4 rfl rfl (Nat.le_of_ble_eq_true rfl) ⟨Nat.le_of_ble_eq_true rfl, Nat.le_of_ble_eq_true rfl⟩ ?_
    refine xv_b E [.ixor, .istore_n 3, .iconst 0, .istore 5] (pc' := 24) (lv' := [(5, .inl (0 : Int32)), (3, .inl (v3 ^^^ q_1.1)), (0, .inr (.inr (some a0))), (1, .inl v1), (2, .inl v2), (4, .inl v4)]) (st' := []) (by decide +kernel) rfl rfl ?_
    obtain rfl := Option.some.inj h
    exact xv_w hN rfl
theorem sb169_51 (E : xE G p (xRm 1 (h_sz M' - z0) (h_sl M' - y0)) s m args c prog_14_method_8_code "ZonedFabricModel" z0 y0 (h_sz M') (h_sl M') 7) (B : xB ym169 (some FieldType.int) meth) (a0 : Nat) (v1 : Int32) (v2 : Int32) (v3 : Int32) (v4 : Int32) (v5 : Int32) (M : hM) {res : xRes} (h : b169_51 a0 v1 v2 v3 v4 v5 M = some res) (hN : xN (pg169 p l e s m args below meth c G z0 y0 r M') r M' res) : xV G p l e (xRm 1 (h_sz M' - z0) (h_sl M' - y0)) s m args below meth c z0 y0 (h_sz M') (h_sl M') 7 (MQ below (xQc G r M') args s (h_sz M' - z0) (h_sl M' - y0) (xFr G)) 51 [(0, .inr (.inr (some a0))), (1, .inl v1), (2, .inl v2), (3, .inl v3), (4, .inl v4), (5, .inl v5)] [] M := by
  unfold b169_51 at h
  refine xv_b E [.iinc 5 1] (pc' := 54) (lv' := [(5, .inl (v5 + (1 : Int32))), (0, .inr (.inr (some a0))), (1, .inl v1), (2, .inl v2), (3, .inl v3), (4, .inl v4)]) (st' := []) (by decide +kernel) rfl rfl ?_
  refine xv_goto E 24 (show decode prog_14_method_8_code 54 = .ok (.goto (-30), 3) by decide +kernel) rfl ?_
  obtain rfl := Option.some.inj h
  exact xv_w hN rfl
theorem sb169_24 (E : xE G p (xRm 1 (h_sz M' - z0) (h_sl M' - y0)) s m args c prog_14_method_8_code "ZonedFabricModel" z0 y0 (h_sz M') (h_sl M') 7) (B : xB ym169 (some FieldType.int) meth) (a0 : Nat) (v1 : Int32) (v2 : Int32) (v3 : Int32) (v4 : Int32) (v5 : Int32) (M : hM) {res : xRes} (h : b169_24 a0 v1 v2 v3 v4 v5 M = some res) (hN : xN (pg169 p l e s m args below meth c G z0 y0 r M') r M' res) : xV G p l e (xRm 1 (h_sz M' - z0) (h_sl M' - y0)) s m args below meth c z0 y0 (h_sz M') (h_sl M') 7 (MQ below (xQc G r M') args s (h_sz M' - z0) (h_sl M' - y0) (xFr G)) 24 [(0, .inr (.inr (some a0))), (1, .inl v1), (2, .inl v2), (3, .inl v3), (4, .inl v4), (5, .inl v5)] [] M := by
  unfold b169_24 at h
  refine xv_b E [.iload 5, .bipush 8] (pc' := 28) (lv' := [(0, .inr (.inr (some a0))), (1, .inl v1), (2, .inl v2), (3, .inl v3), (4, .inl v4), (5, .inl v5)]) (st' := [.inl (8 : Int32), .inl v5]) (by decide +kernel) rfl rfl ?_
  by_cases q7 : (8 : Int32) ≤ v5
  · rw [if_pos q7] at h
    refine xv_icmp_ge E 57 (show decode prog_14_method_8_code 28 = .ok (.if_icmp .ge (29), 3) by decide +kernel) rfl (fun _ => ?_) (fun z => absurd q7 z)
    refine xv_b E [.iinc 4 1] (pc' := 60) (lv' := [(4, .inl (v4 + (1 : Int32))), (0, .inr (.inr (some a0))), (1, .inl v1), (2, .inl v2), (3, .inl v3), (5, .inl v5)]) (st' := []) (by decide +kernel) rfl rfl ?_
    refine xv_goto E 5 (show decode prog_14_method_8_code 60 = .ok (.goto (-55), 3) by decide +kernel) rfl ?_
    obtain rfl := Option.some.inj h
    exact xv_w hN rfl
  · rw [if_neg q7] at h
    refine xv_icmp_ge E 57 (show decode prog_14_method_8_code 28 = .ok (.if_icmp .ge (29), 3) by decide +kernel) rfl (fun z => absurd z q7) (fun _ => ?_)
    refine xv_b E [.iload_n 3, .iconst 1, .iand, .istore 6, .iload_n 3, .iconst 1, .iushr, .istore_n 3, .iload 6, .iconst 1] (pc' := 43) (lv' := [(3, .inl (Int32.toUInt32 v3 >>> (Int32.toUInt32 (1 : Int32) &&& Int32.toUInt32 31)).toInt32), (6, .inl (v3 &&& (1 : Int32))), (0, .inr (.inr (some a0))), (1, .inl v1), (2, .inl v2), (4, .inl v4), (5, .inl v5)]) (st' := [.inl (1 : Int32), .inl (v3 &&& (1 : Int32))]) (by decide +kernel) rfl rfl ?_
    by_cases q6 : (v3 &&& (1 : Int32)) = (1 : Int32)
    · rw [if_pos q6] at h
      refine xv_icmp_ne E 51 (show decode prog_14_method_8_code 43 = .ok (.if_icmp .ne (8), 3) by decide +kernel) rfl (fun z => absurd q6 z) (fun _ => ?_)
      refine xv_b E [.iload_n 3] (pc' := 47) (lv' := [(3, .inl (Int32.toUInt32 v3 >>> (Int32.toUInt32 (1 : Int32) &&& Int32.toUInt32 31)).toInt32), (6, .inl (v3 &&& (1 : Int32))), (0, .inr (.inr (some a0))), (1, .inl v1), (2, .inl v2), (4, .inl v4), (5, .inl v5)]) (st' := [.inl (Int32.toUInt32 v3 >>> (Int32.toUInt32 (1 : Int32) &&& Int32.toUInt32 31)).toInt32]) (by decide +kernel) rfl rfl ?_
      refine xv_ldc E (-306674912 : Int32) mw936 (show decode prog_14_method_8_code 47 = .ok (.ldc 197, 2) by decide +kernel) ?_
      refine xv_b E [.ixor, .istore_n 3] (pc' := 51) (lv' := [(3, .inl ((Int32.toUInt32 v3 >>> (Int32.toUInt32 (1 : Int32) &&& Int32.toUInt32 31)).toInt32 ^^^ (-306674912 : Int32))), (6, .inl (v3 &&& (1 : Int32))), (0, .inr (.inr (some a0))), (1, .inl v1), (2, .inl v2), (4, .inl v4), (5, .inl v5)]) (st' := []) (by decide +kernel) rfl rfl ?_
      exact xv_w (sb169_51 E B a0 v1 v2 ((Int32.toUInt32 v3 >>> (Int32.toUInt32 (1 : Int32) &&& Int32.toUInt32 31)).toInt32 ^^^ (-306674912 : Int32)) v4 v5 M h hN) rfl
    · rw [if_neg q6] at h
      refine xv_icmp_ne E 51 (show decode prog_14_method_8_code 43 = .ok (.if_icmp .ne (8), 3) by decide +kernel) rfl (fun _ => ?_) (fun z => absurd z q6)
      exact xv_w (sb169_51 E B a0 v1 v2 (Int32.toUInt32 v3 >>> (Int32.toUInt32 (1 : Int32) &&& Int32.toUInt32 31)).toInt32 v4 v5 M h hN) rfl
end
theorem t169 (G : gX) (l : Launch) {as : List aV} {M : hM} {r : Option aV} {M' : hM} (h : f169 as M = some (r, M')) : xM G l ym169 prog_14_method_8_code 7 (some FieldType.int) 1 as M r M' := by
  unfold f169 at h
  split at h
  · have hle : ∀ h as M res, k169 h as M = some res → h_sz M ≤ r_sz res ∧ h_sl M ≤ r_sl res := by
      intro h as M res hb
      unfold k169 at hb
      by_cases e0 : h = 5
      · rw [if_pos e0] at hb
        split at hb
        · exact lb169_5 G l _ _ _ _ _ M hb
        · cases hb
      · rw [if_neg e0] at hb
        by_cases e1 : h = 24
        · rw [if_pos e1] at hb
          split at hb
          · exact lb169_24 G l _ _ _ _ _ _ M hb
          · cases hb
        · rw [if_neg e1] at hb
          cases hb
    obtain ⟨res, hx, hres⟩ := x_go_ok h
    refine xM_of (by decide) (Nat.le_of_ble_eq_true rfl) ?_ ?_
    · have e1 := lb169_0 G l _ _ _ M hx
      have e2 := x_go_le hle hres
      omega
    · intro p e s m args below meth c E B
      refine sb169_0 E B _ _ _ M hx (hres _ ?_)
      intro h as M res hb hN
      unfold k169 at hb
      unfold pg169
      by_cases e0 : h = 5
      · rw [if_pos e0] at hb ⊢
        split at hb
        · exact sb169_5 E B _ _ _ _ _ M hb hN
        · cases hb
      · rw [if_neg e0] at hb ⊢
        by_cases e1 : h = 24
        · rw [if_pos e1] at hb ⊢
          split at hb
          · exact sb169_24 E B _ _ _ _ _ _ M hb hN
          · cases hb
        · rw [if_neg e1] at hb ⊢
          cases hb
  · cases h
/-! ZFModel.closes(I)V -/
def ym170 : MethodName := ⟨"ZonedFabricModel", "closes", "(I)V"⟩
theorem cd170 : xCd ym170 prog_14_method_6_code 2 none 1 := ⟨mw937, mw864, by decide, by decide, by decide +kernel⟩
def b170_0 (a0 : Nat) (v1 : Int32) (M : hM) : Option xRes :=
  Option.bind (g_r M 12 6 (some a0)) fun o_1 =>
  Option.bind (g_r M 12 7 (some a0)) fun o_3 =>
  Option.bind (al_i M 20 o_3 v1) fun v_5 =>
  Option.bind (as_b M 21 o_1 ((v1 * (80 : Int32)) + (12 : Int32)) (Int32.toInt8 (v_5 - (13 : Int32))).toInt32) fun M7 =>
  Option.bind (g_r M7 12 7 (some a0)) fun o_9 =>
  Option.bind (al_i M7 20 o_9 v1) fun v_11 =>
  Option.bind (g_o M7 12 (some a0)) fun b_15 =>
  Option.bind (c_I (f169 [.inr (.inr (some b_15)), .inl v1, .inl v_11] M7)) fun q_13 =>
  Option.bind (g_o q_13.2 12 (some a0)) fun b_19 =>
  Option.bind (c_V (f167 [.inr (.inr (some b_19)), .inl v1, .inr (.inl (Int32.toInt64 q_13.1)), .inl (4 : Int32)] q_13.2)) fun q_17 =>
  some (.inl (none, q_17))
def f170 (as : List aV) (M : hM) : xO := match as with
  | [.inr (.inr (some a0)), .inl v1] => x_out (b170_0 a0 v1 M)
  | _ => none
theorem lb170_0 (G : gX) (l : Launch) (a0 : Nat) (v1 : Int32) (M : hM) {res : xRes} (h : b170_0 a0 v1 M = some res) : h_sz M ≤ r_sz res ∧ h_sl M ≤ r_sl res := by
  unfold b170_0 at h
  obtain ⟨o_1, h2, h⟩ := bd h
  obtain ⟨o_3, h4, h⟩ := bd h
  obtain ⟨v_5, h6, h⟩ := bd h
  obtain ⟨M7, h8, h⟩ := bd h
  have eh8 := as_b_sz h8
  obtain ⟨o_9, h10, h⟩ := bd h
  obtain ⟨v_11, h12, h⟩ := bd h
  obtain ⟨b_15, h16, h⟩ := bd h
  obtain ⟨q_13, h14, h⟩ := bd h
  have eh14 := (t169 G l (c_I_some h14)).1
  obtain ⟨b_19, h20, h⟩ := bd h
  obtain ⟨q_17, h18, h⟩ := bd h
  have eh18 := (t167 G l (c_V_some h18)).1
  obtain rfl := Option.some.inj h
  show h_sz M ≤ h_sz q_17 ∧ h_sl M ≤ h_sl q_17
  omega
section
variable {p : Program} {l : Launch} {e : Env} {s : State} {m : MethodId} {args : Array Value} {below : List Frame} {meth : Method} {c : Code} {G : gX} {z0 y0 : Nat} {r : Option aV} {M' : hM}
theorem sb170_0 (E : xE G p (xRm 2 (h_sz M' - z0) (h_sl M' - y0)) s m args c prog_14_method_6_code "ZonedFabricModel" z0 y0 (h_sz M') (h_sl M') 2) (B : xB ym170 none meth) (a0 : Nat) (v1 : Int32) (M : hM) {res : xRes} (h : b170_0 a0 v1 M = some res) (hN : xN (fun _ _ _ => False) r M' res) : xV G p l e (xRm 2 (h_sz M' - z0) (h_sl M' - y0)) s m args below meth c z0 y0 (h_sz M') (h_sl M') 2 (MQ below (xQc G r M') args s (h_sz M' - z0) (h_sl M' - y0) (xFr G)) 0 [(0, .inr (.inr (some a0))), (1, .inl v1)] [] M := by
  unfold b170_0 at h
  refine xv_b E [.aload_n 0] (pc' := 1) (lv' := [(0, .inr (.inr (some a0))), (1, .inl v1)]) (st' := [.inr (.inr (some a0))]) (by decide +kernel) rfl rfl ?_
  obtain ⟨o_1, h2, h⟩ := bd h
  refine xg_r E 12 6 h2 mw867 (show decode prog_14_method_6_code 1 = .ok (.getfield 17, 3) by decide +kernel) ?_
  refine xv_b E [.iload_n 1, .bipush 80, .imul, .bipush 12, .iadd, .aload_n 0] (pc' := 12) (lv' := [(0, .inr (.inr (some a0))), (1, .inl v1)]) (st' := [.inr (.inr (some a0)), .inl ((v1 * (80 : Int32)) + (12 : Int32)), .inr (.inr o_1)]) (by decide +kernel) rfl rfl ?_
  obtain ⟨o_3, h4, h⟩ := bd h
  refine xg_r E 12 7 h4 mw868 (show decode prog_14_method_6_code 12 = .ok (.getfield 21, 3) by decide +kernel) ?_
  refine xv_b E [.iload_n 1] (pc' := 16) (lv' := [(0, .inr (.inr (some a0))), (1, .inl v1)]) (st' := [.inl v1, .inr (.inr o_3), .inl ((v1 * (80 : Int32)) + (12 : Int32)), .inr (.inr o_1)]) (by decide +kernel) rfl rfl ?_
  obtain ⟨v_5, h6, h⟩ := bd h
  refine xa_i E h6 (show decode prog_14_method_6_code 16 = .ok (.iaload, 1) by decide +kernel) ?_
  refine xv_b E [.bipush 13, .isub, .i2b] (pc' := 21) (lv' := [(0, .inr (.inr (some a0))), (1, .inl v1)]) (st' := [.inl (Int32.toInt8 (v_5 - (13 : Int32))).toInt32, .inl ((v1 * (80 : Int32)) + (12 : Int32)), .inr (.inr o_1)]) (by decide +kernel) rfl rfl ?_
  obtain ⟨M7, h8, h⟩ := bd h
  refine xs_b E h8 (show decode prog_14_method_6_code 21 = .ok (.bastore, 1) by decide +kernel) ?_
  refine xv_b E [.aload_n 0, .iload_n 1, .aload_n 0, .iload_n 1, .aload_n 0] (pc' := 27) (lv' := [(0, .inr (.inr (some a0))), (1, .inl v1)]) (st' := [.inr (.inr (some a0)), .inl v1, .inr (.inr (some a0)), .inl v1, .inr (.inr (some a0))]) (by decide +kernel) rfl rfl ?_
  obtain ⟨o_9, h10, h⟩ := bd h
  refine xg_r E 12 7 h10 mw868 (show decode prog_14_method_6_code 27 = .ok (.getfield 21, 3) by decide +kernel) ?_
  refine xv_b E [.iload_n 1] (pc' := 31) (lv' := [(0, .inr (.inr (some a0))), (1, .inl v1)]) (st' := [.inl v1, .inr (.inr o_9), .inl v1, .inr (.inr (some a0)), .inl v1, .inr (.inr (some a0))]) (by decide +kernel) rfl rfl ?_
  obtain ⟨v_11, h12, h⟩ := bd h
  refine xa_i E h12 (show decode prog_14_method_6_code 31 = .ok (.iaload, 1) by decide +kernel) ?_
  obtain ⟨b_15, h16, h⟩ := bd h
  obtain ⟨eh16, th16⟩ := g_o_some h16
  obtain ⟨q_13, h14, h⟩ := bd h
  refine xv_cvo E eh16 12 (as := [.inl v1, .inl v_11]) (t169 G l (c_I_some h14)) cd169 mw938 mw939 mw940 (show decode prog_14_method_6_code 32 = .ok (.invokevirtual 194, 3) by decide +kernel) th16 rfl rfl (Nat.le_of_ble_eq_true rfl) ⟨Nat.le_of_ble_eq_true rfl, Nat.le_of_ble_eq_true rfl⟩ ?_
  refine xv_b E [.i2l, .iconst 4] (pc' := 37) (lv' := [(0, .inr (.inr (some a0))), (1, .inl v1)]) (st' := [.inl (4 : Int32), .inr (.inl (Int32.toInt64 q_13.1)), .inl v1, .inr (.inr (some a0))]) (by decide +kernel) rfl rfl ?_
  obtain ⟨b_19, h20, h⟩ := bd h
  obtain ⟨eh20, th20⟩ := g_o_some h20
  obtain ⟨q_17, h18, h⟩ := bd h
  refine xv_cvo E eh20 12 (as := [.inl v1, .inr (.inl (Int32.toInt64 q_13.1)), .inl (4 : Int32)]) (t167 G l (c_V_some h18)) cd167 mw932 mw933 mw934 (show decode prog_14_method_6_code 37 = .ok (.invokevirtual 190, 3) by decide +kernel) th20 rfl rfl (Nat.le_of_ble_eq_true rfl) ⟨Nat.le_of_ble_eq_true rfl, Nat.le_of_ble_eq_true rfl⟩ ?_
  obtain rfl := Option.some.inj h
  obtain ⟨rfl, rfl⟩ := Prod.mk.inj (show ((none : Option aV), q_17) = (r, M') from hN)
  exact xv_rv E B.1 B.2.1 (show decode prog_14_method_6_code 40 = .ok (.return_, 1) by decide +kernel) rfl rfl
end
theorem t170 (G : gX) (l : Launch) {as : List aV} {M : hM} {r : Option aV} {M' : hM} (h : f170 as M = some (r, M')) : xM G l ym170 prog_14_method_6_code 2 none 2 as M r M' := by
  unfold f170 at h
  split at h
  · have h := x_out_ok h
    refine xM_of (by decide) (Nat.le_of_ble_eq_true rfl) (lb170_0 G l _ _ M h) ?_
    intro p e s m args below meth c E B
    exact sb170_0 E B _ _ M h rfl
  · cases h
/-! ZFModel.drops(I)V -/
def ym171 : MethodName := ⟨"ZonedFabricModel", "drops", "(I)V"⟩
theorem cd171 : xCd ym171 prog_14_method_7_code 2 none 1 := ⟨mw941, mw864, by decide, by decide, by decide +kernel⟩
def b171_0 (a0 : Nat) (v1 : Int32) (M : hM) : Option xRes :=
  Option.bind (g_r M 12 8 (some a0)) fun o_1 =>
  Option.bind (g_i M 12 9 (some a0)) fun v_3 =>
  Option.bind (as_i M 20 o_1 v_3 v1) fun M5 =>
  Option.bind (g_i M5 12 9 (some a0)) fun v_7 =>
  Option.bind (p_i M5 12 9 (some a0) (v_7 + (1 : Int32))) fun M9 =>
  some (.inl (none, M9))
def f171 (as : List aV) (M : hM) : xO := match as with
  | [.inr (.inr (some a0)), .inl v1] => x_out (b171_0 a0 v1 M)
  | _ => none
theorem lb171_0 (G : gX) (l : Launch) (a0 : Nat) (v1 : Int32) (M : hM) {res : xRes} (h : b171_0 a0 v1 M = some res) : h_sz M ≤ r_sz res ∧ h_sl M ≤ r_sl res := by
  unfold b171_0 at h
  obtain ⟨o_1, h2, h⟩ := bd h
  obtain ⟨v_3, h4, h⟩ := bd h
  obtain ⟨M5, h6, h⟩ := bd h
  have eh6 := as_i_sz h6
  obtain ⟨v_7, h8, h⟩ := bd h
  obtain ⟨M9, h10, h⟩ := bd h
  have eh10 := p_i_sz h10
  obtain rfl := Option.some.inj h
  show h_sz M ≤ h_sz M9 ∧ h_sl M ≤ h_sl M9
  omega
section
variable {p : Program} {l : Launch} {e : Env} {s : State} {m : MethodId} {args : Array Value} {below : List Frame} {meth : Method} {c : Code} {G : gX} {z0 y0 : Nat} {r : Option aV} {M' : hM}
theorem sb171_0 (E : xE G p (xRm 0 (h_sz M' - z0) (h_sl M' - y0)) s m args c prog_14_method_7_code "ZonedFabricModel" z0 y0 (h_sz M') (h_sl M') 2) (B : xB ym171 none meth) (a0 : Nat) (v1 : Int32) (M : hM) {res : xRes} (h : b171_0 a0 v1 M = some res) (hN : xN (fun _ _ _ => False) r M' res) : xV G p l e (xRm 0 (h_sz M' - z0) (h_sl M' - y0)) s m args below meth c z0 y0 (h_sz M') (h_sl M') 2 (MQ below (xQc G r M') args s (h_sz M' - z0) (h_sl M' - y0) (xFr G)) 0 [(0, .inr (.inr (some a0))), (1, .inl v1)] [] M := by
  unfold b171_0 at h
  refine xv_b E [.aload_n 0] (pc' := 1) (lv' := [(0, .inr (.inr (some a0))), (1, .inl v1)]) (st' := [.inr (.inr (some a0))]) (by decide +kernel) rfl rfl ?_
  obtain ⟨o_1, h2, h⟩ := bd h
  refine xg_r E 12 8 h2 mw869 (show decode prog_14_method_7_code 1 = .ok (.getfield 24, 3) by decide +kernel) ?_
  refine xv_b E [.aload_n 0] (pc' := 5) (lv' := [(0, .inr (.inr (some a0))), (1, .inl v1)]) (st' := [.inr (.inr (some a0)), .inr (.inr o_1)]) (by decide +kernel) rfl rfl ?_
  obtain ⟨v_3, h4, h⟩ := bd h
  refine xg_i E 12 9 h4 mw924 (show decode prog_14_method_7_code 5 = .ok (.getfield 183, 3) by decide +kernel) ?_
  refine xv_b E [.iload_n 1] (pc' := 9) (lv' := [(0, .inr (.inr (some a0))), (1, .inl v1)]) (st' := [.inl v1, .inl v_3, .inr (.inr o_1)]) (by decide +kernel) rfl rfl ?_
  obtain ⟨M5, h6, h⟩ := bd h
  refine xs_i E h6 (show decode prog_14_method_7_code 9 = .ok (.iastore, 1) by decide +kernel) ?_
  refine xv_b E [.aload_n 0, .dup] (pc' := 12) (lv' := [(0, .inr (.inr (some a0))), (1, .inl v1)]) (st' := [.inr (.inr (some a0)), .inr (.inr (some a0))]) (by decide +kernel) rfl rfl ?_
  obtain ⟨v_7, h8, h⟩ := bd h
  refine xg_i E 12 9 h8 mw924 (show decode prog_14_method_7_code 12 = .ok (.getfield 183, 3) by decide +kernel) ?_
  refine xv_b E [.iconst 1, .iadd] (pc' := 17) (lv' := [(0, .inr (.inr (some a0))), (1, .inl v1)]) (st' := [.inl (v_7 + (1 : Int32)), .inr (.inr (some a0))]) (by decide +kernel) rfl rfl ?_
  obtain ⟨M9, h10, h⟩ := bd h
  refine xp_i E 12 9 h10 mw924 (show decode prog_14_method_7_code 17 = .ok (.putfield 183, 3) by decide +kernel) (Or.inl rfl) ?_
  obtain rfl := Option.some.inj h
  obtain ⟨rfl, rfl⟩ := Prod.mk.inj (show ((none : Option aV), M9) = (r, M') from hN)
  exact xv_rv E B.1 B.2.1 (show decode prog_14_method_7_code 20 = .ok (.return_, 1) by decide +kernel) rfl rfl
end
theorem t171 (G : gX) (l : Launch) {as : List aV} {M : hM} {r : Option aV} {M' : hM} (h : f171 as M = some (r, M')) : xM G l ym171 prog_14_method_7_code 2 none 0 as M r M' := by
  unfold f171 at h
  split at h
  · have h := x_out_ok h
    refine xM_of (by decide) (Nat.le_of_ble_eq_true rfl) (lb171_0 G l _ _ M h) ?_
    intro p e s m args below meth c E B
    exact sb171_0 E B _ _ M h rfl
  · cases h
/-! ZFModel.isRecord(II)Z -/
def ym172 : MethodName := ⟨"ZonedFabricModel", "isRecord", "(II)Z"⟩
theorem cd172 : xCd ym172 prog_14_method_11_code 11 (some FieldType.boolean) 2 := ⟨mw942, mw864, by decide, by decide, by decide +kernel⟩
def b172_99 (a0 : Nat) (v1 : Int32) (v3 : Int32) (v4 : Int32) (si0 : Int32) (M : hM) : Option xRes :=
  some (.inr (107, [.inr (.inr (some a0)), .inl v1, .inl v3, .inl v4, .inl si0, .inl (-1 : Int32), .inl (0 : Int32)], M))
def b172_98 (a0 : Nat) (v1 : Int32) (v3 : Int32) (v4 : Int32) (M : hM) : Option xRes :=
  b172_99 a0 v1 v3 v4 (0 : Int32) M
def b172_0 (a0 : Nat) (v1 : Int32) (v2 : Int32) (M : hM) : Option xRes :=
  if (7 : Int32) ≤ v2 then
    (Option.bind (g_o M 12 (some a0)) fun b_3 =>
    Option.bind (c_I (f165 [.inr (.inr (some b_3)), .inl v1, .inl (18 : Int32)] M)) fun q_1 =>
    if ((7 : Int32) + ((3 : Int32) * q_1.1)) ≤ v2 then
      (Option.bind (g_o q_1.2 12 (some a0)) fun b_7 =>
      Option.bind (c_I (f165 [.inr (.inr (some b_7)), .inl v1, .inl ((19 : Int32) + ((3 : Int32) * q_1.1))] q_1.2)) fun q_5 =>
      if (((7 : Int32) + ((3 : Int32) * q_1.1)) + ((2 : Int32) * q_5.1)) = v2 then
        (Option.bind (g_o q_5.2 12 (some a0)) fun b_11 =>
        Option.bind (c_I (f165 [.inr (.inr (some b_11)), .inl v1, .inl (17 : Int32)] q_5.2)) fun q_9 =>
        Option.bind (g_o q_9.2 12 (some a0)) fun b_15 =>
        Option.bind (c_I (f165 [.inr (.inr (some b_15)), .inl v1, .inl (13 : Int32)] q_9.2)) fun q_13 =>
        Option.bind (g_i q_13.2 12 0 (some a0)) fun v_17 =>
        if v_17 ≤ q_13.1 then
          (b172_98 a0 v1 q_1.1 q_5.1 q_13.2)
        else
          (if q_9.1 < (1 : Int32) then
            (b172_98 a0 v1 q_1.1 q_5.1 q_13.2)
          else
            (if (15 : Int32) < q_9.1 then
              (b172_98 a0 v1 q_1.1 q_5.1 q_13.2)
            else
              (b172_99 a0 v1 q_1.1 q_5.1 (1 : Int32) q_13.2))))
      else
        (some (.inl (some (.inl (0 : Int32)), q_5.2))))
    else
      (some (.inl (some (.inl (0 : Int32)), q_1.2))))
  else
    (some (.inl (some (.inl (0 : Int32)), M)))
def b172_199 (a0 : Nat) (v1 : Int32) (v3 : Int32) (v4 : Int32) (v8 : Int32) (v9 : Int32) (si0 : Int32) (M : hM) : Option xRes :=
  Option.bind (g_o M 12 (some a0)) fun b_56 =>
  Option.bind (c_I (f165 [.inr (.inr (some b_56)), .inl v1, .inl v9] M)) fun q_54 =>
  some (.inr (107, [.inr (.inr (some a0)), .inl v1, .inl v3, .inl v4, .inl si0, .inl q_54.1, .inl (v8 + (1 : Int32))], q_54.2))
def b172_198 (a0 : Nat) (v1 : Int32) (v3 : Int32) (v4 : Int32) (v8 : Int32) (v9 : Int32) (M : hM) : Option xRes :=
  b172_199 a0 v1 v3 v4 v8 v9 (0 : Int32) M
def b172_107 (a0 : Nat) (v1 : Int32) (v3 : Int32) (v4 : Int32) (v6 : Int32) (v7 : Int32) (v8 : Int32) (M : hM) : Option xRes :=
  if v3 ≤ v8 then
    (some (.inr (225, [.inr (.inr (some a0)), .inl v1, .inl v3, .inl v4, .inl v6, .inl (-1 : Int32), .inl (0 : Int32), .inl (0 : Int32)], M)))
  else
    (if v6 = 0 then
      (b172_198 a0 v1 v3 v4 v8 ((19 : Int32) + ((3 : Int32) * v8)) M)
    else
      (Option.bind (g_o M 12 (some a0)) fun b_27 =>
      Option.bind (c_I (f165 [.inr (.inr (some b_27)), .inl v1, .inl ((19 : Int32) + ((3 : Int32) * v8))] M)) fun q_25 =>
      if q_25.1 ≤ v7 then
        (b172_198 a0 v1 v3 v4 v8 ((19 : Int32) + ((3 : Int32) * v8)) q_25.2)
      else
        (Option.bind (g_o q_25.2 12 (some a0)) fun b_31 =>
        Option.bind (c_I (f165 [.inr (.inr (some b_31)), .inl v1, .inl ((19 : Int32) + ((3 : Int32) * v8))] q_25.2)) fun q_29 =>
        if (8 : Int32) ≤ q_29.1 then
          (b172_198 a0 v1 v3 v4 v8 ((19 : Int32) + ((3 : Int32) * v8)) q_29.2)
        else
          (Option.bind (g_o q_29.2 12 (some a0)) fun b_35 =>
          Option.bind (c_I (f165 [.inr (.inr (some b_35)), .inl v1, .inl (((19 : Int32) + ((3 : Int32) * v8)) + (1 : Int32))] q_29.2)) fun q_33 =>
          Option.bind (g_i q_33.2 12 0 (some a0)) fun v_37 =>
          if v_37 ≤ q_33.1 then
            (b172_198 a0 v1 v3 v4 v8 ((19 : Int32) + ((3 : Int32) * v8)) q_33.2)
          else
            (Option.bind (g_o q_33.2 12 (some a0)) fun b_41 =>
            Option.bind (c_I (f165 [.inr (.inr (some b_41)), .inl v1, .inl (((19 : Int32) + ((3 : Int32) * v8)) + (2 : Int32))] q_33.2)) fun q_39 =>
            if q_39.1 < (1 : Int32) then
              (b172_198 a0 v1 v3 v4 v8 ((19 : Int32) + ((3 : Int32) * v8)) q_39.2)
            else
              (Option.bind (g_o q_39.2 12 (some a0)) fun b_45 =>
              Option.bind (c_I (f165 [.inr (.inr (some b_45)), .inl v1, .inl (((19 : Int32) + ((3 : Int32) * v8)) + (2 : Int32))] q_39.2)) fun q_43 =>
              if (9 : Int32) < q_43.1 then
                (b172_198 a0 v1 v3 v4 v8 ((19 : Int32) + ((3 : Int32) * v8)) q_43.2)
              else
                (b172_199 a0 v1 v3 v4 v8 ((19 : Int32) + ((3 : Int32) * v8)) (1 : Int32) q_43.2)))))))
def b172_333 (a0 : Nat) (v1 : Int32) (v3 : Int32) (v4 : Int32) (v6 : Int32) (v8 : Int32) (v9 : Int32) (v10 : Int32) (M : hM) : Option xRes :=
  Option.bind (g_o M 12 (some a0)) fun b_90 =>
  Option.bind (c_I (f165 [.inr (.inr (some b_90)), .inl v1, .inl (v10 + (1 : Int32))] M)) fun q_88 =>
  some (.inr (225, [.inr (.inr (some a0)), .inl v1, .inl v3, .inl v4, .inl v6, .inl q_88.1, .inl v8, .inl (v9 + (1 : Int32))], q_88.2))
def b172_312 (a0 : Nat) (v1 : Int32) (v3 : Int32) (v4 : Int32) (v8 : Int32) (v9 : Int32) (v10 : Int32) (si0 : Int32) (M : hM) : Option xRes :=
  if si0 = 0 then
    (b172_333 a0 v1 v3 v4 si0 v8 v9 v10 M)
  else
    (Option.bind (g_o M 12 (some a0)) fun b_85 =>
    Option.bind (c_I (f165 [.inr (.inr (some b_85)), .inl v1, .inl v10] M)) fun q_83 =>
    b172_333 a0 v1 v3 v4 si0 (v8 ||| ((1 : Int32) <<< (q_83.1 &&& 31))) v9 v10 q_83.2)
def b172_311 (a0 : Nat) (v1 : Int32) (v3 : Int32) (v4 : Int32) (v8 : Int32) (v9 : Int32) (v10 : Int32) (M : hM) : Option xRes :=
  b172_312 a0 v1 v3 v4 v8 v9 v10 (0 : Int32) M
def b172_225 (a0 : Nat) (v1 : Int32) (v3 : Int32) (v4 : Int32) (v6 : Int32) (v7 : Int32) (v8 : Int32) (v9 : Int32) (M : hM) : Option xRes :=
  if v4 ≤ v9 then
    (if v6 = 0 ∨ v6 = 1 then
      (some (.inl (some (.inl v6), M)))
    else
      none)
  else
    (if v6 = 0 then
      (b172_311 a0 v1 v3 v4 v8 v9 (((20 : Int32) + ((3 : Int32) * v3)) + ((2 : Int32) * v9)) M)
    else
      (Option.bind (g_o M 12 (some a0)) fun b_61 =>
      Option.bind (c_I (f165 [.inr (.inr (some b_61)), .inl v1, .inl (((20 : Int32) + ((3 : Int32) * v3)) + ((2 : Int32) * v9))] M)) fun q_59 =>
      Option.bind (g_i q_59.2 12 1 (some a0)) fun v_63 =>
      if v_63 ≤ q_59.1 then
        (b172_311 a0 v1 v3 v4 v8 v9 (((20 : Int32) + ((3 : Int32) * v3)) + ((2 : Int32) * v9)) q_59.2)
      else
        (Option.bind (g_o q_59.2 12 (some a0)) fun b_67 =>
        Option.bind (c_I (f165 [.inr (.inr (some b_67)), .inl v1, .inl (((20 : Int32) + ((3 : Int32) * v3)) + ((2 : Int32) * v9))] q_59.2)) fun q_65 =>
        if ((v8 >>> (q_65.1 &&& 31)) &&& (1 : Int32)) = 0 then
          (Option.bind (g_o q_65.2 12 (some a0)) fun b_71 =>
          Option.bind (c_I (f165 [.inr (.inr (some b_71)), .inl v1, .inl ((((20 : Int32) + ((3 : Int32) * v3)) + ((2 : Int32) * v9)) + (1 : Int32))] q_65.2)) fun q_69 =>
          if q_69.1 ≤ v7 then
            (b172_311 a0 v1 v3 v4 v8 v9 (((20 : Int32) + ((3 : Int32) * v3)) + ((2 : Int32) * v9)) q_69.2)
          else
            (Option.bind (g_o q_69.2 12 (some a0)) fun b_75 =>
            Option.bind (c_I (f165 [.inr (.inr (some b_75)), .inl v1, .inl ((((20 : Int32) + ((3 : Int32) * v3)) + ((2 : Int32) * v9)) + (1 : Int32))] q_69.2)) fun q_73 =>
            if (8 : Int32) ≤ q_73.1 then
              (b172_311 a0 v1 v3 v4 v8 v9 (((20 : Int32) + ((3 : Int32) * v3)) + ((2 : Int32) * v9)) q_73.2)
            else
              (b172_312 a0 v1 v3 v4 v8 v9 (((20 : Int32) + ((3 : Int32) * v3)) + ((2 : Int32) * v9)) (1 : Int32) q_73.2)))
        else
          (b172_311 a0 v1 v3 v4 v8 v9 (((20 : Int32) + ((3 : Int32) * v3)) + ((2 : Int32) * v9)) q_65.2))))
def k172 (h : Nat) (as : List aV) (M : hM) : Option xRes :=
  if h = 107 then (match as with | [.inr (.inr (some a0)), .inl v1, .inl v3, .inl v4, .inl v6, .inl v7, .inl v8] => b172_107 a0 v1 v3 v4 v6 v7 v8 M | _ => none) else
  if h = 225 then (match as with | [.inr (.inr (some a0)), .inl v1, .inl v3, .inl v4, .inl v6, .inl v7, .inl v8, .inl v9] => b172_225 a0 v1 v3 v4 v6 v7 v8 v9 M | _ => none) else
  none
def f172 (as : List aV) (M : hM) : xO := match as with
  | [.inr (.inr (some a0)), .inl v1, .inl v2] => x_go k172 (b172_0 a0 v1 v2 M)
  | _ => none
theorem lb172_99 (G : gX) (l : Launch) (a0 : Nat) (v1 : Int32) (v3 : Int32) (v4 : Int32) (si0 : Int32) (M : hM) {res : xRes} (h : b172_99 a0 v1 v3 v4 si0 M = some res) : h_sz M ≤ r_sz res ∧ h_sl M ≤ r_sl res := by
  unfold b172_99 at h
  obtain rfl := Option.some.inj h
  show h_sz M ≤ h_sz M ∧ h_sl M ≤ h_sl M
  omega
theorem lb172_98 (G : gX) (l : Launch) (a0 : Nat) (v1 : Int32) (v3 : Int32) (v4 : Int32) (M : hM) {res : xRes} (h : b172_98 a0 v1 v3 v4 M = some res) : h_sz M ≤ r_sz res ∧ h_sl M ≤ r_sl res := by
  unfold b172_98 at h
  have e := lb172_99 G l a0 v1 v3 v4 (0 : Int32) M h
  omega
theorem lb172_0 (G : gX) (l : Launch) (a0 : Nat) (v1 : Int32) (v2 : Int32) (M : hM) {res : xRes} (h : b172_0 a0 v1 v2 M = some res) : h_sz M ≤ r_sz res ∧ h_sl M ≤ r_sl res := by
  unfold b172_0 at h
  by_cases q24 : (7 : Int32) ≤ v2
  · rw [if_pos q24] at h
    obtain ⟨b_3, h4, h⟩ := bd h
    obtain ⟨q_1, h2, h⟩ := bd h
    have eh2 := (t165 G l (c_I_some h2)).1
    by_cases q23 : ((7 : Int32) + ((3 : Int32) * q_1.1)) ≤ v2
    · rw [if_pos q23] at h
      obtain ⟨b_7, h8, h⟩ := bd h
      obtain ⟨q_5, h6, h⟩ := bd h
      have eh6 := (t165 G l (c_I_some h6)).1
      by_cases q22 : (((7 : Int32) + ((3 : Int32) * q_1.1)) + ((2 : Int32) * q_5.1)) = v2
      · rw [if_pos q22] at h
        obtain ⟨b_11, h12, h⟩ := bd h
        obtain ⟨q_9, h10, h⟩ := bd h
        have eh10 := (t165 G l (c_I_some h10)).1
        obtain ⟨b_15, h16, h⟩ := bd h
        obtain ⟨q_13, h14, h⟩ := bd h
        have eh14 := (t165 G l (c_I_some h14)).1
        obtain ⟨v_17, h18, h⟩ := bd h
        by_cases q21 : v_17 ≤ q_13.1
        · rw [if_pos q21] at h
          have e := lb172_98 G l a0 v1 q_1.1 q_5.1 q_13.2 h
          omega
        · rw [if_neg q21] at h
          by_cases q20 : q_9.1 < (1 : Int32)
          · rw [if_pos q20] at h
            have e := lb172_98 G l a0 v1 q_1.1 q_5.1 q_13.2 h
            omega
          · rw [if_neg q20] at h
            by_cases q19 : (15 : Int32) < q_9.1
            · rw [if_pos q19] at h
              have e := lb172_98 G l a0 v1 q_1.1 q_5.1 q_13.2 h
              omega
            · rw [if_neg q19] at h
              have e := lb172_99 G l a0 v1 q_1.1 q_5.1 (1 : Int32) q_13.2 h
              omega
      · rw [if_neg q22] at h
        obtain rfl := Option.some.inj h
        show h_sz M ≤ h_sz q_5.2 ∧ h_sl M ≤ h_sl q_5.2
        omega
    · rw [if_neg q23] at h
      obtain rfl := Option.some.inj h
      show h_sz M ≤ h_sz q_1.2 ∧ h_sl M ≤ h_sl q_1.2
      omega
  · rw [if_neg q24] at h
    obtain rfl := Option.some.inj h
    show h_sz M ≤ h_sz M ∧ h_sl M ≤ h_sl M
    omega
theorem lb172_199 (G : gX) (l : Launch) (a0 : Nat) (v1 : Int32) (v3 : Int32) (v4 : Int32) (v8 : Int32) (v9 : Int32) (si0 : Int32) (M : hM) {res : xRes} (h : b172_199 a0 v1 v3 v4 v8 v9 si0 M = some res) : h_sz M ≤ r_sz res ∧ h_sl M ≤ r_sl res := by
  unfold b172_199 at h
  obtain ⟨b_56, h57, h⟩ := bd h
  obtain ⟨q_54, h55, h⟩ := bd h
  have eh55 := (t165 G l (c_I_some h55)).1
  obtain rfl := Option.some.inj h
  show h_sz M ≤ h_sz q_54.2 ∧ h_sl M ≤ h_sl q_54.2
  omega
theorem lb172_198 (G : gX) (l : Launch) (a0 : Nat) (v1 : Int32) (v3 : Int32) (v4 : Int32) (v8 : Int32) (v9 : Int32) (M : hM) {res : xRes} (h : b172_198 a0 v1 v3 v4 v8 v9 M = some res) : h_sz M ≤ r_sz res ∧ h_sl M ≤ r_sl res := by
  unfold b172_198 at h
  have e := lb172_199 G l a0 v1 v3 v4 v8 v9 (0 : Int32) M h
  omega
theorem lb172_107 (G : gX) (l : Launch) (a0 : Nat) (v1 : Int32) (v3 : Int32) (v4 : Int32) (v6 : Int32) (v7 : Int32) (v8 : Int32) (M : hM) {res : xRes} (h : b172_107 a0 v1 v3 v4 v6 v7 v8 M = some res) : h_sz M ≤ r_sz res ∧ h_sl M ≤ r_sl res := by
  unfold b172_107 at h
  by_cases q53 : v3 ≤ v8
  · rw [if_pos q53] at h
    obtain rfl := Option.some.inj h
    show h_sz M ≤ h_sz M ∧ h_sl M ≤ h_sl M
    omega
  · rw [if_neg q53] at h
    by_cases q52 : v6 = 0
    · rw [if_pos q52] at h
      have e := lb172_198 G l a0 v1 v3 v4 v8 ((19 : Int32) + ((3 : Int32) * v8)) M h
      omega
    · rw [if_neg q52] at h
      obtain ⟨b_27, h28, h⟩ := bd h
      obtain ⟨q_25, h26, h⟩ := bd h
      have eh26 := (t165 G l (c_I_some h26)).1
      by_cases q51 : q_25.1 ≤ v7
      · rw [if_pos q51] at h
        have e := lb172_198 G l a0 v1 v3 v4 v8 ((19 : Int32) + ((3 : Int32) * v8)) q_25.2 h
        omega
      · rw [if_neg q51] at h
        obtain ⟨b_31, h32, h⟩ := bd h
        obtain ⟨q_29, h30, h⟩ := bd h
        have eh30 := (t165 G l (c_I_some h30)).1
        by_cases q50 : (8 : Int32) ≤ q_29.1
        · rw [if_pos q50] at h
          have e := lb172_198 G l a0 v1 v3 v4 v8 ((19 : Int32) + ((3 : Int32) * v8)) q_29.2 h
          omega
        · rw [if_neg q50] at h
          obtain ⟨b_35, h36, h⟩ := bd h
          obtain ⟨q_33, h34, h⟩ := bd h
          have eh34 := (t165 G l (c_I_some h34)).1
          obtain ⟨v_37, h38, h⟩ := bd h
          by_cases q49 : v_37 ≤ q_33.1
          · rw [if_pos q49] at h
            have e := lb172_198 G l a0 v1 v3 v4 v8 ((19 : Int32) + ((3 : Int32) * v8)) q_33.2 h
            omega
          · rw [if_neg q49] at h
            obtain ⟨b_41, h42, h⟩ := bd h
            obtain ⟨q_39, h40, h⟩ := bd h
            have eh40 := (t165 G l (c_I_some h40)).1
            by_cases q48 : q_39.1 < (1 : Int32)
            · rw [if_pos q48] at h
              have e := lb172_198 G l a0 v1 v3 v4 v8 ((19 : Int32) + ((3 : Int32) * v8)) q_39.2 h
              omega
            · rw [if_neg q48] at h
              obtain ⟨b_45, h46, h⟩ := bd h
              obtain ⟨q_43, h44, h⟩ := bd h
              have eh44 := (t165 G l (c_I_some h44)).1
              by_cases q47 : (9 : Int32) < q_43.1
              · rw [if_pos q47] at h
                have e := lb172_198 G l a0 v1 v3 v4 v8 ((19 : Int32) + ((3 : Int32) * v8)) q_43.2 h
                omega
              · rw [if_neg q47] at h
                have e := lb172_199 G l a0 v1 v3 v4 v8 ((19 : Int32) + ((3 : Int32) * v8)) (1 : Int32) q_43.2 h
                omega
theorem lb172_333 (G : gX) (l : Launch) (a0 : Nat) (v1 : Int32) (v3 : Int32) (v4 : Int32) (v6 : Int32) (v8 : Int32) (v9 : Int32) (v10 : Int32) (M : hM) {res : xRes} (h : b172_333 a0 v1 v3 v4 v6 v8 v9 v10 M = some res) : h_sz M ≤ r_sz res ∧ h_sl M ≤ r_sl res := by
  unfold b172_333 at h
  obtain ⟨b_90, h91, h⟩ := bd h
  obtain ⟨q_88, h89, h⟩ := bd h
  have eh89 := (t165 G l (c_I_some h89)).1
  obtain rfl := Option.some.inj h
  show h_sz M ≤ h_sz q_88.2 ∧ h_sl M ≤ h_sl q_88.2
  omega
theorem lb172_312 (G : gX) (l : Launch) (a0 : Nat) (v1 : Int32) (v3 : Int32) (v4 : Int32) (v8 : Int32) (v9 : Int32) (v10 : Int32) (si0 : Int32) (M : hM) {res : xRes} (h : b172_312 a0 v1 v3 v4 v8 v9 v10 si0 M = some res) : h_sz M ≤ r_sz res ∧ h_sl M ≤ r_sl res := by
  unfold b172_312 at h
  by_cases q87 : si0 = 0
  · rw [if_pos q87] at h
    have e := lb172_333 G l a0 v1 v3 v4 si0 v8 v9 v10 M h
    omega
  · rw [if_neg q87] at h
    obtain ⟨b_85, h86, h⟩ := bd h
    obtain ⟨q_83, h84, h⟩ := bd h
    have eh84 := (t165 G l (c_I_some h84)).1
    have e := lb172_333 G l a0 v1 v3 v4 si0 (v8 ||| ((1 : Int32) <<< (q_83.1 &&& 31))) v9 v10 q_83.2 h
    omega
theorem lb172_311 (G : gX) (l : Launch) (a0 : Nat) (v1 : Int32) (v3 : Int32) (v4 : Int32) (v8 : Int32) (v9 : Int32) (v10 : Int32) (M : hM) {res : xRes} (h : b172_311 a0 v1 v3 v4 v8 v9 v10 M = some res) : h_sz M ≤ r_sz res ∧ h_sl M ≤ r_sl res := by
  unfold b172_311 at h
  have e := lb172_312 G l a0 v1 v3 v4 v8 v9 v10 (0 : Int32) M h
  omega
theorem lb172_225 (G : gX) (l : Launch) (a0 : Nat) (v1 : Int32) (v3 : Int32) (v4 : Int32) (v6 : Int32) (v7 : Int32) (v8 : Int32) (v9 : Int32) (M : hM) {res : xRes} (h : b172_225 a0 v1 v3 v4 v6 v7 v8 v9 M = some res) : h_sz M ≤ r_sz res ∧ h_sl M ≤ r_sl res := by
  unfold b172_225 at h
  by_cases q82 : v4 ≤ v9
  · rw [if_pos q82] at h
    by_cases q58 : v6 = 0 ∨ v6 = 1
    · rw [if_pos q58] at h
      obtain rfl := Option.some.inj h
      show h_sz M ≤ h_sz M ∧ h_sl M ≤ h_sl M
      omega
    · rw [if_neg q58] at h
      cases h
  · rw [if_neg q82] at h
    by_cases q81 : v6 = 0
    · rw [if_pos q81] at h
      have e := lb172_311 G l a0 v1 v3 v4 v8 v9 (((20 : Int32) + ((3 : Int32) * v3)) + ((2 : Int32) * v9)) M h
      omega
    · rw [if_neg q81] at h
      obtain ⟨b_61, h62, h⟩ := bd h
      obtain ⟨q_59, h60, h⟩ := bd h
      have eh60 := (t165 G l (c_I_some h60)).1
      obtain ⟨v_63, h64, h⟩ := bd h
      by_cases q80 : v_63 ≤ q_59.1
      · rw [if_pos q80] at h
        have e := lb172_311 G l a0 v1 v3 v4 v8 v9 (((20 : Int32) + ((3 : Int32) * v3)) + ((2 : Int32) * v9)) q_59.2 h
        omega
      · rw [if_neg q80] at h
        obtain ⟨b_67, h68, h⟩ := bd h
        obtain ⟨q_65, h66, h⟩ := bd h
        have eh66 := (t165 G l (c_I_some h66)).1
        by_cases q79 : ((v8 >>> (q_65.1 &&& 31)) &&& (1 : Int32)) = 0
        · rw [if_pos q79] at h
          obtain ⟨b_71, h72, h⟩ := bd h
          obtain ⟨q_69, h70, h⟩ := bd h
          have eh70 := (t165 G l (c_I_some h70)).1
          by_cases q78 : q_69.1 ≤ v7
          · rw [if_pos q78] at h
            have e := lb172_311 G l a0 v1 v3 v4 v8 v9 (((20 : Int32) + ((3 : Int32) * v3)) + ((2 : Int32) * v9)) q_69.2 h
            omega
          · rw [if_neg q78] at h
            obtain ⟨b_75, h76, h⟩ := bd h
            obtain ⟨q_73, h74, h⟩ := bd h
            have eh74 := (t165 G l (c_I_some h74)).1
            by_cases q77 : (8 : Int32) ≤ q_73.1
            · rw [if_pos q77] at h
              have e := lb172_311 G l a0 v1 v3 v4 v8 v9 (((20 : Int32) + ((3 : Int32) * v3)) + ((2 : Int32) * v9)) q_73.2 h
              omega
            · rw [if_neg q77] at h
              have e := lb172_312 G l a0 v1 v3 v4 v8 v9 (((20 : Int32) + ((3 : Int32) * v3)) + ((2 : Int32) * v9)) (1 : Int32) q_73.2 h
              omega
        · rw [if_neg q79] at h
          have e := lb172_311 G l a0 v1 v3 v4 v8 v9 (((20 : Int32) + ((3 : Int32) * v3)) + ((2 : Int32) * v9)) q_65.2 h
          omega
section
variable {p : Program} {l : Launch} {e : Env} {s : State} {m : MethodId} {args : Array Value} {below : List Frame} {meth : Method} {c : Code} {G : gX} {z0 y0 : Nat} {r : Option aV} {M' : hM}
def pg172 (p : Program) (l : Launch) (e : Env) (s : State) (m : MethodId) (args : Array Value) (below : List Frame) (meth : Method) (c : Code) (G : gX) (z0 y0 : Nat) (r : Option aV) (M' : hM) (h : Nat) (as : List aV) (M : hM) : Prop :=
  if h = 107 then (match as with | [.inr (.inr (some a0)), .inl v1, .inl v3, .inl v4, .inl v6, .inl v7, .inl v8] => xV G p l e (xRm 1 (h_sz M' - z0) (h_sl M' - y0)) s m args below meth c z0 y0 (h_sz M') (h_sl M') 11 (MQ below (xQc G r M') args s (h_sz M' - z0) (h_sl M' - y0) (xFr G)) 107 [(0, .inr (.inr (some a0))), (1, .inl v1), (3, .inl v3), (4, .inl v4), (6, .inl v6), (7, .inl v7), (8, .inl v8)] [] M | _ => False) else
  if h = 225 then (match as with | [.inr (.inr (some a0)), .inl v1, .inl v3, .inl v4, .inl v6, .inl v7, .inl v8, .inl v9] => xV G p l e (xRm 1 (h_sz M' - z0) (h_sl M' - y0)) s m args below meth c z0 y0 (h_sz M') (h_sl M') 11 (MQ below (xQc G r M') args s (h_sz M' - z0) (h_sl M' - y0) (xFr G)) 225 [(0, .inr (.inr (some a0))), (1, .inl v1), (3, .inl v3), (4, .inl v4), (6, .inl v6), (7, .inl v7), (8, .inl v8), (9, .inl v9)] [] M | _ => False) else
  False
theorem sb172_99 (E : xE G p (xRm 1 (h_sz M' - z0) (h_sl M' - y0)) s m args c prog_14_method_11_code "ZonedFabricModel" z0 y0 (h_sz M') (h_sl M') 11) (B : xB ym172 (some FieldType.boolean) meth) (a0 : Nat) (v1 : Int32) (v3 : Int32) (v4 : Int32) (si0 : Int32) (M : hM) {res : xRes} (h : b172_99 a0 v1 v3 v4 si0 M = some res) (hN : xN (pg172 p l e s m args below meth c G z0 y0 r M') r M' res) : xV G p l e (xRm 1 (h_sz M' - z0) (h_sl M' - y0)) s m args below meth c z0 y0 (h_sz M') (h_sl M') 11 (MQ below (xQc G r M') args s (h_sz M' - z0) (h_sl M' - y0) (xFr G)) 99 [(0, .inr (.inr (some a0))), (1, .inl v1), (3, .inl v3), (4, .inl v4)] [.inl si0] M := by
  unfold b172_99 at h
  refine xv_b E [.istore 6, .iconst (-1), .istore 7, .iconst 0, .istore 8] (pc' := 107) (lv' := [(8, .inl (0 : Int32)), (7, .inl (-1 : Int32)), (6, .inl si0), (0, .inr (.inr (some a0))), (1, .inl v1), (3, .inl v3), (4, .inl v4)]) (st' := []) (by decide +kernel) rfl rfl ?_
  obtain rfl := Option.some.inj h
  exact xv_w hN rfl
theorem sb172_98 (E : xE G p (xRm 1 (h_sz M' - z0) (h_sl M' - y0)) s m args c prog_14_method_11_code "ZonedFabricModel" z0 y0 (h_sz M') (h_sl M') 11) (B : xB ym172 (some FieldType.boolean) meth) (a0 : Nat) (v1 : Int32) (v3 : Int32) (v4 : Int32) (M : hM) {res : xRes} (h : b172_98 a0 v1 v3 v4 M = some res) (hN : xN (pg172 p l e s m args below meth c G z0 y0 r M') r M' res) : xV G p l e (xRm 1 (h_sz M' - z0) (h_sl M' - y0)) s m args below meth c z0 y0 (h_sz M') (h_sl M') 11 (MQ below (xQc G r M') args s (h_sz M' - z0) (h_sl M' - y0) (xFr G)) 98 [(0, .inr (.inr (some a0))), (1, .inl v1), (3, .inl v3), (4, .inl v4)] [] M := by
  unfold b172_98 at h
  refine xv_b E [.iconst 0] (pc' := 99) (lv' := [(0, .inr (.inr (some a0))), (1, .inl v1), (3, .inl v3), (4, .inl v4)]) (st' := [.inl (0 : Int32)]) (by decide +kernel) rfl rfl ?_
  exact xv_w (sb172_99 E B a0 v1 v3 v4 (0 : Int32) M h hN) rfl
theorem sb172_0 (E : xE G p (xRm 1 (h_sz M' - z0) (h_sl M' - y0)) s m args c prog_14_method_11_code "ZonedFabricModel" z0 y0 (h_sz M') (h_sl M') 11) (B : xB ym172 (some FieldType.boolean) meth) (a0 : Nat) (v1 : Int32) (v2 : Int32) (M : hM) {res : xRes} (h : b172_0 a0 v1 v2 M = some res) (hN : xN (pg172 p l e s m args below meth c G z0 y0 r M') r M' res) : xV G p l e (xRm 1 (h_sz M' - z0) (h_sl M' - y0)) s m args below meth c z0 y0 (h_sz M') (h_sl M') 11 (MQ below (xQc G r M') args s (h_sz M' - z0) (h_sl M' - y0) (xFr G)) 0 [(0, .inr (.inr (some a0))), (1, .inl v1), (2, .inl v2)] [] M := by
  unfold b172_0 at h
  refine xv_b E [.iload_n 2, .bipush 7] (pc' := 3) (lv' := [(0, .inr (.inr (some a0))), (1, .inl v1), (2, .inl v2)]) (st' := [.inl (7 : Int32), .inl v2]) (by decide +kernel) rfl rfl ?_
  by_cases q24 : (7 : Int32) ≤ v2
  · rw [if_pos q24] at h
    refine xv_icmp_ge E 8 (show decode prog_14_method_11_code 3 = .ok (.if_icmp .ge (5), 3) by decide +kernel) rfl (fun _ => ?_) (fun z => absurd q24 z)
    refine xv_b E [.aload_n 0, .iload_n 1, .bipush 18] (pc' := 12) (lv' := [(0, .inr (.inr (some a0))), (1, .inl v1), (2, .inl v2)]) (st' := [.inl (18 : Int32), .inl v1, .inr (.inr (some a0))]) (by decide +kernel) rfl rfl ?_
    obtain ⟨b_3, h4, h⟩ := bd h
    obtain ⟨eh4, th4⟩ := g_o_some h4
    obtain ⟨q_1, h2, h⟩ := bd h
    refine xv_cvo E eh4 12 (as := [.inl v1, .inl (18 : Int32)]) (t165 G l (c_I_some h2)) cd165 mw927 mw928 mw929 (show decode prog_14_method_11_code 12 = .ok (.invokevirtual 186, 3) by decide +kernel) th4 rfl rfl (Nat.le_of_ble_eq_true rfl) ⟨Nat.le_of_ble_eq_true rfl, Nat.le_of_ble_eq_true rfl⟩ ?_
    refine xv_b E [.istore_n 3, .bipush 7, .iconst 3, .iload_n 3, .imul, .iadd, .iload_n 2] (pc' := 23) (lv' := [(3, .inl q_1.1), (0, .inr (.inr (some a0))), (1, .inl v1), (2, .inl v2)]) (st' := [.inl v2, .inl ((7 : Int32) + ((3 : Int32) * q_1.1))]) (by decide +kernel) rfl rfl ?_
    by_cases q23 : ((7 : Int32) + ((3 : Int32) * q_1.1)) ≤ v2
    · rw [if_pos q23] at h
      refine xv_icmp_le E 28 (show decode prog_14_method_11_code 23 = .ok (.if_icmp .le (5), 3) by decide +kernel) rfl (fun _ => ?_) (fun z => absurd q23 z)
      refine xv_b E [.aload_n 0, .iload_n 1, .bipush 19, .iconst 3, .iload_n 3, .imul, .iadd] (pc' := 36) (lv' := [(3, .inl q_1.1), (0, .inr (.inr (some a0))), (1, .inl v1), (2, .inl v2)]) (st' := [.inl ((19 : Int32) + ((3 : Int32) * q_1.1)), .inl v1, .inr (.inr (some a0))]) (by decide +kernel) rfl rfl ?_
      obtain ⟨b_7, h8, h⟩ := bd h
      obtain ⟨eh8, th8⟩ := g_o_some h8
      obtain ⟨q_5, h6, h⟩ := bd h
      refine xv_cvo E eh8 12 (as := [.inl v1, .inl ((19 : Int32) + ((3 : Int32) * q_1.1))]) (t165 G l (c_I_some h6)) cd165 mw927 mw928 mw929 (show decode prog_14_method_11_code 36 = .ok (.invokevirtual 186, 3) by decide +kernel) th8 rfl rfl (Nat.le_of_ble_eq_true rfl) ⟨Nat.le_of_ble_eq_true rfl, Nat.le_of_ble_eq_true rfl⟩ ?_
      refine xv_b E [.istore 4, .bipush 7, .iconst 3, .iload_n 3, .imul, .iadd, .iconst 2, .iload 4, .imul, .iadd, .iload_n 2] (pc' := 53) (lv' := [(4, .inl q_5.1), (3, .inl q_1.1), (0, .inr (.inr (some a0))), (1, .inl v1), (2, .inl v2)]) (st' := [.inl v2, .inl (((7 : Int32) + ((3 : Int32) * q_1.1)) + ((2 : Int32) * q_5.1))]) (by decide +kernel) rfl rfl ?_
      by_cases q22 : (((7 : Int32) + ((3 : Int32) * q_1.1)) + ((2 : Int32) * q_5.1)) = v2
      · rw [if_pos q22] at h
        refine xv_icmp_eq E 58 (show decode prog_14_method_11_code 53 = .ok (.if_icmp .eq (5), 3) by decide +kernel) rfl (fun _ => ?_) (fun z => absurd q22 z)
        refine xv_b E [.aload_n 0, .iload_n 1, .bipush 17] (pc' := 62) (lv' := [(4, .inl q_5.1), (3, .inl q_1.1), (0, .inr (.inr (some a0))), (1, .inl v1), (2, .inl v2)]) (st' := [.inl (17 : Int32), .inl v1, .inr (.inr (some a0))]) (by decide +kernel) rfl rfl ?_
        obtain ⟨b_11, h12, h⟩ := bd h
        obtain ⟨eh12, th12⟩ := g_o_some h12
        obtain ⟨q_9, h10, h⟩ := bd h
        refine xv_cvo E eh12 12 (as := [.inl v1, .inl (17 : Int32)]) (t165 G l (c_I_some h10)) cd165 mw927 mw928 mw929 (show decode prog_14_method_11_code 62 = .ok (.invokevirtual 186, 3) by decide +kernel) th12 rfl rfl (Nat.le_of_ble_eq_true rfl) ⟨Nat.le_of_ble_eq_true rfl, Nat.le_of_ble_eq_true rfl⟩ ?_
        refine xv_b E [.istore 5, .aload_n 0, .iload_n 1, .bipush 13] (pc' := 71) (lv' := [(5, .inl q_9.1), (4, .inl q_5.1), (3, .inl q_1.1), (0, .inr (.inr (some a0))), (1, .inl v1), (2, .inl v2)]) (st' := [.inl (13 : Int32), .inl v1, .inr (.inr (some a0))]) (by decide +kernel) rfl rfl ?_
        obtain ⟨b_15, h16, h⟩ := bd h
        obtain ⟨eh16, th16⟩ := g_o_some h16
        obtain ⟨q_13, h14, h⟩ := bd h
        refine xv_cvo E eh16 12 (as := [.inl v1, .inl (13 : Int32)]) (t165 G l (c_I_some h14)) cd165 mw927 mw928 mw929 (show decode prog_14_method_11_code 71 = .ok (.invokevirtual 186, 3) by decide +kernel) th16 rfl rfl (Nat.le_of_ble_eq_true rfl) ⟨Nat.le_of_ble_eq_true rfl, Nat.le_of_ble_eq_true rfl⟩ ?_
        refine xv_b E [.aload_n 0] (pc' := 75) (lv' := [(5, .inl q_9.1), (4, .inl q_5.1), (3, .inl q_1.1), (0, .inr (.inr (some a0))), (1, .inl v1), (2, .inl v2)]) (st' := [.inr (.inr (some a0)), .inl q_13.1]) (by decide +kernel) rfl rfl ?_
        obtain ⟨v_17, h18, h⟩ := bd h
        refine xg_i E 12 0 h18 mw921 (show decode prog_14_method_11_code 75 = .ok (.getfield 173, 3) by decide +kernel) ?_
        by_cases q21 : v_17 ≤ q_13.1
        · rw [if_pos q21] at h
          refine xv_icmp_ge E 98 (show decode prog_14_method_11_code 78 = .ok (.if_icmp .ge (20), 3) by decide +kernel) rfl (fun _ => ?_) (fun z => absurd q21 z)
          exact xv_w (sb172_98 E B a0 v1 q_1.1 q_5.1 q_13.2 h hN) rfl
        · rw [if_neg q21] at h
          refine xv_icmp_ge E 98 (show decode prog_14_method_11_code 78 = .ok (.if_icmp .ge (20), 3) by decide +kernel) rfl (fun z => absurd z q21) (fun _ => ?_)
          refine xv_b E [.iload 5, .iconst 1] (pc' := 84) (lv' := [(5, .inl q_9.1), (4, .inl q_5.1), (3, .inl q_1.1), (0, .inr (.inr (some a0))), (1, .inl v1), (2, .inl v2)]) (st' := [.inl (1 : Int32), .inl q_9.1]) (by decide +kernel) rfl rfl ?_
          by_cases q20 : q_9.1 < (1 : Int32)
          · rw [if_pos q20] at h
            refine xv_icmp_lt E 98 (show decode prog_14_method_11_code 84 = .ok (.if_icmp .lt (14), 3) by decide +kernel) rfl (fun _ => ?_) (fun z => absurd q20 z)
            exact xv_w (sb172_98 E B a0 v1 q_1.1 q_5.1 q_13.2 h hN) rfl
          · rw [if_neg q20] at h
            refine xv_icmp_lt E 98 (show decode prog_14_method_11_code 84 = .ok (.if_icmp .lt (14), 3) by decide +kernel) rfl (fun z => absurd z q20) (fun _ => ?_)
            refine xv_b E [.iload 5, .bipush 15] (pc' := 91) (lv' := [(5, .inl q_9.1), (4, .inl q_5.1), (3, .inl q_1.1), (0, .inr (.inr (some a0))), (1, .inl v1), (2, .inl v2)]) (st' := [.inl (15 : Int32), .inl q_9.1]) (by decide +kernel) rfl rfl ?_
            by_cases q19 : (15 : Int32) < q_9.1
            · rw [if_pos q19] at h
              refine xv_icmp_gt E 98 (show decode prog_14_method_11_code 91 = .ok (.if_icmp .gt (7), 3) by decide +kernel) rfl (fun _ => ?_) (fun z => absurd q19 z)
              exact xv_w (sb172_98 E B a0 v1 q_1.1 q_5.1 q_13.2 h hN) rfl
            · rw [if_neg q19] at h
              refine xv_icmp_gt E 98 (show decode prog_14_method_11_code 91 = .ok (.if_icmp .gt (7), 3) by decide +kernel) rfl (fun z => absurd z q19) (fun _ => ?_)
              refine xv_b E [.iconst 1] (pc' := 95) (lv' := [(5, .inl q_9.1), (4, .inl q_5.1), (3, .inl q_1.1), (0, .inr (.inr (some a0))), (1, .inl v1), (2, .inl v2)]) (st' := [.inl (1 : Int32)]) (by decide +kernel) rfl rfl ?_
              refine xv_goto E 99 (show decode prog_14_method_11_code 95 = .ok (.goto (4), 3) by decide +kernel) rfl ?_
              exact xv_w (sb172_99 E B a0 v1 q_1.1 q_5.1 (1 : Int32) q_13.2 h hN) rfl
      · rw [if_neg q22] at h
        refine xv_icmp_eq E 58 (show decode prog_14_method_11_code 53 = .ok (.if_icmp .eq (5), 3) by decide +kernel) rfl (fun z => absurd z q22) (fun _ => ?_)
        refine xv_b E [.iconst 0] (pc' := 57) (lv' := [(4, .inl q_5.1), (3, .inl q_1.1), (0, .inr (.inr (some a0))), (1, .inl v1), (2, .inl v2)]) (st' := [.inl (0 : Int32)]) (by decide +kernel) rfl rfl ?_
        obtain rfl := Option.some.inj h
        obtain ⟨rfl, rfl⟩ := Prod.mk.inj (show ((some (.inl (0 : Int32)) : Option aV), q_5.2) = (r, M') from hN)
        exact xv_ri E B.1 rfl B.2.1 (show decode prog_14_method_11_code 57 = .ok (.ireturn, 1) by decide +kernel) rfl rfl
    · rw [if_neg q23] at h
      refine xv_icmp_le E 28 (show decode prog_14_method_11_code 23 = .ok (.if_icmp .le (5), 3) by decide +kernel) rfl (fun z => absurd z q23) (fun _ => ?_)
      refine xv_b E [.iconst 0] (pc' := 27) (lv' := [(3, .inl q_1.1), (0, .inr (.inr (some a0))), (1, .inl v1), (2, .inl v2)]) (st' := [.inl (0 : Int32)]) (by decide +kernel) rfl rfl ?_
      obtain rfl := Option.some.inj h
      obtain ⟨rfl, rfl⟩ := Prod.mk.inj (show ((some (.inl (0 : Int32)) : Option aV), q_1.2) = (r, M') from hN)
      exact xv_ri E B.1 rfl B.2.1 (show decode prog_14_method_11_code 27 = .ok (.ireturn, 1) by decide +kernel) rfl rfl
  · rw [if_neg q24] at h
    refine xv_icmp_ge E 8 (show decode prog_14_method_11_code 3 = .ok (.if_icmp .ge (5), 3) by decide +kernel) rfl (fun z => absurd z q24) (fun _ => ?_)
    refine xv_b E [.iconst 0] (pc' := 7) (lv' := [(0, .inr (.inr (some a0))), (1, .inl v1), (2, .inl v2)]) (st' := [.inl (0 : Int32)]) (by decide +kernel) rfl rfl ?_
    obtain rfl := Option.some.inj h
    obtain ⟨rfl, rfl⟩ := Prod.mk.inj (show ((some (.inl (0 : Int32)) : Option aV), M) = (r, M') from hN)
    exact xv_ri E B.1 rfl B.2.1 (show decode prog_14_method_11_code 7 = .ok (.ireturn, 1) by decide +kernel) rfl rfl
theorem sb172_199 (E : xE G p (xRm 1 (h_sz M' - z0) (h_sl M' - y0)) s m args c prog_14_method_11_code "ZonedFabricModel" z0 y0 (h_sz M') (h_sl M') 11) (B : xB ym172 (some FieldType.boolean) meth) (a0 : Nat) (v1 : Int32) (v3 : Int32) (v4 : Int32) (v8 : Int32) (v9 : Int32) (si0 : Int32) (M : hM) {res : xRes} (h : b172_199 a0 v1 v3 v4 v8 v9 si0 M = some res) (hN : xN (pg172 p l e s m args below meth c G z0 y0 r M') r M' res) : xV G p l e (xRm 1 (h_sz M' - z0) (h_sl M' - y0)) s m args below meth c z0 y0 (h_sz M') (h_sl M') 11 (MQ below (xQc G r M') args s (h_sz M' - z0) (h_sl M' - y0) (xFr G)) 199 [(0, .inr (.inr (some a0))), (1, .inl v1), (3, .inl v3), (4, .inl v4), (8, .inl v8), (9, .inl v9)] [.inl si0] M := by
  unfold b172_199 at h
  refine xv_b E [.istore 6, .aload_n 0, .iload_n 1, .iload 9] (pc' := 205) (lv' := [(6, .inl si0), (0, .inr (.inr (some a0))), (1, .inl v1), (3, .inl v3), (4, .inl v4), (8, .inl v8), (9, .inl v9)]) (st' := [.inl v9, .inl v1, .inr (.inr (some a0))]) (by decide +kernel) rfl rfl ?_
  obtain ⟨b_56, h57, h⟩ := bd h
  obtain ⟨eh57, th57⟩ := g_o_some h57
  obtain ⟨q_54, h55, h⟩ := bd h
  refine xv_cvo E eh57 12 (as := [.inl v1, .inl v9]) (t165 G l (c_I_some h55)) cd165 mw927 mw928 mw929 (show decode prog_14_method_11_code 205 = .ok (.invokevirtual 186, 3) by decide +kernel) th57 rfl rfl (Nat.le_of_ble_eq_true rfl) ⟨Nat.le_of_ble_eq_true rfl, Nat.le_of_ble_eq_true rfl⟩ ?_
  refine xv_b E [.istore 7, .iinc 8 1] (pc' := 213) (lv' := [(8, .inl (v8 + (1 : Int32))), (7, .inl q_54.1), (6, .inl si0), (0, .inr (.inr (some a0))), (1, .inl v1), (3, .inl v3), (4, .inl v4), (9, .inl v9)]) (st' := []) (by decide +kernel) rfl rfl ?_
  refine xv_goto E 107 (show decode prog_14_method_11_code 213 = .ok (.goto (-106), 3) by decide +kernel) rfl ?_
  obtain rfl := Option.some.inj h
  exact xv_w hN rfl
theorem sb172_198 (E : xE G p (xRm 1 (h_sz M' - z0) (h_sl M' - y0)) s m args c prog_14_method_11_code "ZonedFabricModel" z0 y0 (h_sz M') (h_sl M') 11) (B : xB ym172 (some FieldType.boolean) meth) (a0 : Nat) (v1 : Int32) (v3 : Int32) (v4 : Int32) (v8 : Int32) (v9 : Int32) (M : hM) {res : xRes} (h : b172_198 a0 v1 v3 v4 v8 v9 M = some res) (hN : xN (pg172 p l e s m args below meth c G z0 y0 r M') r M' res) : xV G p l e (xRm 1 (h_sz M' - z0) (h_sl M' - y0)) s m args below meth c z0 y0 (h_sz M') (h_sl M') 11 (MQ below (xQc G r M') args s (h_sz M' - z0) (h_sl M' - y0) (xFr G)) 198 [(0, .inr (.inr (some a0))), (1, .inl v1), (3, .inl v3), (4, .inl v4), (8, .inl v8), (9, .inl v9)] [] M := by
  unfold b172_198 at h
  refine xv_b E [.iconst 0] (pc' := 199) (lv' := [(0, .inr (.inr (some a0))), (1, .inl v1), (3, .inl v3), (4, .inl v4), (8, .inl v8), (9, .inl v9)]) (st' := [.inl (0 : Int32)]) (by decide +kernel) rfl rfl ?_
  exact xv_w (sb172_199 E B a0 v1 v3 v4 v8 v9 (0 : Int32) M h hN) rfl
theorem sb172_107 (E : xE G p (xRm 1 (h_sz M' - z0) (h_sl M' - y0)) s m args c prog_14_method_11_code "ZonedFabricModel" z0 y0 (h_sz M') (h_sl M') 11) (B : xB ym172 (some FieldType.boolean) meth) (a0 : Nat) (v1 : Int32) (v3 : Int32) (v4 : Int32) (v6 : Int32) (v7 : Int32) (v8 : Int32) (M : hM) {res : xRes} (h : b172_107 a0 v1 v3 v4 v6 v7 v8 M = some res) (hN : xN (pg172 p l e s m args below meth c G z0 y0 r M') r M' res) : xV G p l e (xRm 1 (h_sz M' - z0) (h_sl M' - y0)) s m args below meth c z0 y0 (h_sz M') (h_sl M') 11 (MQ below (xQc G r M') args s (h_sz M' - z0) (h_sl M' - y0) (xFr G)) 107 [(0, .inr (.inr (some a0))), (1, .inl v1), (3, .inl v3), (4, .inl v4), (6, .inl v6), (7, .inl v7), (8, .inl v8)] [] M := by
  unfold b172_107 at h
  refine xv_b E [.iload 8, .iload_n 3] (pc' := 110) (lv' := [(0, .inr (.inr (some a0))), (1, .inl v1), (3, .inl v3), (4, .inl v4), (6, .inl v6), (7, .inl v7), (8, .inl v8)]) (st' := [.inl v3, .inl v8]) (by decide +kernel) rfl rfl ?_
  by_cases q53 : v3 ≤ v8
  · rw [if_pos q53] at h
    refine xv_icmp_ge E 216 (show decode prog_14_method_11_code 110 = .ok (.if_icmp .ge (106), 3) by decide +kernel) rfl (fun _ => ?_) (fun z => absurd q53 z)
    refine xv_b E [.iconst (-1), .istore 7, .iconst 0, .istore 8, .iconst 0, .istore 9] (pc' := 225) (lv' := [(9, .inl (0 : Int32)), (8, .inl (0 : Int32)), (7, .inl (-1 : Int32)), (0, .inr (.inr (some a0))), (1, .inl v1), (3, .inl v3), (4, .inl v4), (6, .inl v6)]) (st' := []) (by decide +kernel) rfl rfl ?_
    obtain rfl := Option.some.inj h
    exact xv_w hN rfl
  · rw [if_neg q53] at h
    refine xv_icmp_ge E 216 (show decode prog_14_method_11_code 110 = .ok (.if_icmp .ge (106), 3) by decide +kernel) rfl (fun z => absurd z q53) (fun _ => ?_)
    refine xv_b E [.bipush 19, .iconst 3, .iload 8, .imul, .iadd, .istore 9, .iload 6] (pc' := 124) (lv' := [(9, .inl ((19 : Int32) + ((3 : Int32) * v8))), (0, .inr (.inr (some a0))), (1, .inl v1), (3, .inl v3), (4, .inl v4), (6, .inl v6), (7, .inl v7), (8, .inl v8)]) (st' := [.inl v6]) (by decide +kernel) rfl rfl ?_
    by_cases q52 : v6 = 0
    · rw [if_pos q52] at h
      refine xv_if_eq E 198 (show decode prog_14_method_11_code 124 = .ok (.ifCond .eq (74), 3) by decide +kernel) rfl (fun _ => ?_) (fun z => absurd q52 z)
      exact xv_w (sb172_198 E B a0 v1 v3 v4 v8 ((19 : Int32) + ((3 : Int32) * v8)) M h hN) rfl
    · rw [if_neg q52] at h
      refine xv_if_eq E 198 (show decode prog_14_method_11_code 124 = .ok (.ifCond .eq (74), 3) by decide +kernel) rfl (fun z => absurd z q52) (fun _ => ?_)
      refine xv_b E [.aload_n 0, .iload_n 1, .iload 9] (pc' := 131) (lv' := [(9, .inl ((19 : Int32) + ((3 : Int32) * v8))), (0, .inr (.inr (some a0))), (1, .inl v1), (3, .inl v3), (4, .inl v4), (6, .inl v6), (7, .inl v7), (8, .inl v8)]) (st' := [.inl ((19 : Int32) + ((3 : Int32) * v8)), .inl v1, .inr (.inr (some a0))]) (by decide +kernel) rfl rfl ?_
      obtain ⟨b_27, h28, h⟩ := bd h
      obtain ⟨eh28, th28⟩ := g_o_some h28
      obtain ⟨q_25, h26, h⟩ := bd h
      refine xv_cvo E eh28 12 (as := [.inl v1, .inl ((19 : Int32) + ((3 : Int32) * v8))]) (t165 G l (c_I_some h26)) cd165 mw927 mw928 mw929 (show decode prog_14_method_11_code 131 = .ok (.invokevirtual 186, 3) by decide +kernel) th28 rfl rfl (Nat.le_of_ble_eq_true rfl) ⟨Nat.le_of_ble_eq_true rfl, Nat.le_of_ble_eq_true rfl⟩ ?_
      refine xv_b E [.iload 7] (pc' := 136) (lv' := [(9, .inl ((19 : Int32) + ((3 : Int32) * v8))), (0, .inr (.inr (some a0))), (1, .inl v1), (3, .inl v3), (4, .inl v4), (6, .inl v6), (7, .inl v7), (8, .inl v8)]) (st' := [.inl v7, .inl q_25.1]) (by decide +kernel) rfl rfl ?_
      by_cases q51 : q_25.1 ≤ v7
      · rw [if_pos q51] at h
        refine xv_icmp_le E 198 (show decode prog_14_method_11_code 136 = .ok (.if_icmp .le (62), 3) by decide +kernel) rfl (fun _ => ?_) (fun z => absurd q51 z)
        exact xv_w (sb172_198 E B a0 v1 v3 v4 v8 ((19 : Int32) + ((3 : Int32) * v8)) q_25.2 h hN) rfl
      · rw [if_neg q51] at h
        refine xv_icmp_le E 198 (show decode prog_14_method_11_code 136 = .ok (.if_icmp .le (62), 3) by decide +kernel) rfl (fun z => absurd z q51) (fun _ => ?_)
        refine xv_b E [.aload_n 0, .iload_n 1, .iload 9] (pc' := 143) (lv' := [(9, .inl ((19 : Int32) + ((3 : Int32) * v8))), (0, .inr (.inr (some a0))), (1, .inl v1), (3, .inl v3), (4, .inl v4), (6, .inl v6), (7, .inl v7), (8, .inl v8)]) (st' := [.inl ((19 : Int32) + ((3 : Int32) * v8)), .inl v1, .inr (.inr (some a0))]) (by decide +kernel) rfl rfl ?_
        obtain ⟨b_31, h32, h⟩ := bd h
        obtain ⟨eh32, th32⟩ := g_o_some h32
        obtain ⟨q_29, h30, h⟩ := bd h
        refine xv_cvo E eh32 12 (as := [.inl v1, .inl ((19 : Int32) + ((3 : Int32) * v8))]) (t165 G l (c_I_some h30)) cd165 mw927 mw928 mw929 (show decode prog_14_method_11_code 143 = .ok (.invokevirtual 186, 3) by decide +kernel) th32 rfl rfl (Nat.le_of_ble_eq_true rfl) ⟨Nat.le_of_ble_eq_true rfl, Nat.le_of_ble_eq_true rfl⟩ ?_
        refine xv_b E [.bipush 8] (pc' := 148) (lv' := [(9, .inl ((19 : Int32) + ((3 : Int32) * v8))), (0, .inr (.inr (some a0))), (1, .inl v1), (3, .inl v3), (4, .inl v4), (6, .inl v6), (7, .inl v7), (8, .inl v8)]) (st' := [.inl (8 : Int32), .inl q_29.1]) (by decide +kernel) rfl rfl ?_
        by_cases q50 : (8 : Int32) ≤ q_29.1
        · rw [if_pos q50] at h
          refine xv_icmp_ge E 198 (show decode prog_14_method_11_code 148 = .ok (.if_icmp .ge (50), 3) by decide +kernel) rfl (fun _ => ?_) (fun z => absurd q50 z)
          exact xv_w (sb172_198 E B a0 v1 v3 v4 v8 ((19 : Int32) + ((3 : Int32) * v8)) q_29.2 h hN) rfl
        · rw [if_neg q50] at h
          refine xv_icmp_ge E 198 (show decode prog_14_method_11_code 148 = .ok (.if_icmp .ge (50), 3) by decide +kernel) rfl (fun z => absurd z q50) (fun _ => ?_)
          refine xv_b E [.aload_n 0, .iload_n 1, .iload 9, .iconst 1, .iadd] (pc' := 157) (lv' := [(9, .inl ((19 : Int32) + ((3 : Int32) * v8))), (0, .inr (.inr (some a0))), (1, .inl v1), (3, .inl v3), (4, .inl v4), (6, .inl v6), (7, .inl v7), (8, .inl v8)]) (st' := [.inl (((19 : Int32) + ((3 : Int32) * v8)) + (1 : Int32)), .inl v1, .inr (.inr (some a0))]) (by decide +kernel) rfl rfl ?_
          obtain ⟨b_35, h36, h⟩ := bd h
          obtain ⟨eh36, th36⟩ := g_o_some h36
          obtain ⟨q_33, h34, h⟩ := bd h
          refine xv_cvo E eh36 12 (as := [.inl v1, .inl (((19 : Int32) + ((3 : Int32) * v8)) + (1 : Int32))]) (t165 G l (c_I_some h34)) cd165 mw927 mw928 mw929 (show decode prog_14_method_11_code 157 = .ok (.invokevirtual 186, 3) by decide +kernel) th36 rfl rfl (Nat.le_of_ble_eq_true rfl) ⟨Nat.le_of_ble_eq_true rfl, Nat.le_of_ble_eq_true rfl⟩ ?_
          refine xv_b E [.aload_n 0] (pc' := 161) (lv' := [(9, .inl ((19 : Int32) + ((3 : Int32) * v8))), (0, .inr (.inr (some a0))), (1, .inl v1), (3, .inl v3), (4, .inl v4), (6, .inl v6), (7, .inl v7), (8, .inl v8)]) (st' := [.inr (.inr (some a0)), .inl q_33.1]) (by decide +kernel) rfl rfl ?_
          obtain ⟨v_37, h38, h⟩ := bd h
          refine xg_i E 12 0 h38 mw921 (show decode prog_14_method_11_code 161 = .ok (.getfield 173, 3) by decide +kernel) ?_
          by_cases q49 : v_37 ≤ q_33.1
          · rw [if_pos q49] at h
            refine xv_icmp_ge E 198 (show decode prog_14_method_11_code 164 = .ok (.if_icmp .ge (34), 3) by decide +kernel) rfl (fun _ => ?_) (fun z => absurd q49 z)
            exact xv_w (sb172_198 E B a0 v1 v3 v4 v8 ((19 : Int32) + ((3 : Int32) * v8)) q_33.2 h hN) rfl
          · rw [if_neg q49] at h
            refine xv_icmp_ge E 198 (show decode prog_14_method_11_code 164 = .ok (.if_icmp .ge (34), 3) by decide +kernel) rfl (fun z => absurd z q49) (fun _ => ?_)
            refine xv_b E [.aload_n 0, .iload_n 1, .iload 9, .iconst 2, .iadd] (pc' := 173) (lv' := [(9, .inl ((19 : Int32) + ((3 : Int32) * v8))), (0, .inr (.inr (some a0))), (1, .inl v1), (3, .inl v3), (4, .inl v4), (6, .inl v6), (7, .inl v7), (8, .inl v8)]) (st' := [.inl (((19 : Int32) + ((3 : Int32) * v8)) + (2 : Int32)), .inl v1, .inr (.inr (some a0))]) (by decide +kernel) rfl rfl ?_
            obtain ⟨b_41, h42, h⟩ := bd h
            obtain ⟨eh42, th42⟩ := g_o_some h42
            obtain ⟨q_39, h40, h⟩ := bd h
            refine xv_cvo E eh42 12 (as := [.inl v1, .inl (((19 : Int32) + ((3 : Int32) * v8)) + (2 : Int32))]) (t165 G l (c_I_some h40)) cd165 mw927 mw928 mw929 (show decode prog_14_method_11_code 173 = .ok (.invokevirtual 186, 3) by decide +kernel) th42 rfl rfl (Nat.le_of_ble_eq_true rfl) ⟨Nat.le_of_ble_eq_true rfl, Nat.le_of_ble_eq_true rfl⟩ ?_
            refine xv_b E [.iconst 1] (pc' := 177) (lv' := [(9, .inl ((19 : Int32) + ((3 : Int32) * v8))), (0, .inr (.inr (some a0))), (1, .inl v1), (3, .inl v3), (4, .inl v4), (6, .inl v6), (7, .inl v7), (8, .inl v8)]) (st' := [.inl (1 : Int32), .inl q_39.1]) (by decide +kernel) rfl rfl ?_
            by_cases q48 : q_39.1 < (1 : Int32)
            · rw [if_pos q48] at h
              refine xv_icmp_lt E 198 (show decode prog_14_method_11_code 177 = .ok (.if_icmp .lt (21), 3) by decide +kernel) rfl (fun _ => ?_) (fun z => absurd q48 z)
              exact xv_w (sb172_198 E B a0 v1 v3 v4 v8 ((19 : Int32) + ((3 : Int32) * v8)) q_39.2 h hN) rfl
            · rw [if_neg q48] at h
              refine xv_icmp_lt E 198 (show decode prog_14_method_11_code 177 = .ok (.if_icmp .lt (21), 3) by decide +kernel) rfl (fun z => absurd z q48) (fun _ => ?_)
              refine xv_b E [.aload_n 0, .iload_n 1, .iload 9, .iconst 2, .iadd] (pc' := 186) (lv' := [(9, .inl ((19 : Int32) + ((3 : Int32) * v8))), (0, .inr (.inr (some a0))), (1, .inl v1), (3, .inl v3), (4, .inl v4), (6, .inl v6), (7, .inl v7), (8, .inl v8)]) (st' := [.inl (((19 : Int32) + ((3 : Int32) * v8)) + (2 : Int32)), .inl v1, .inr (.inr (some a0))]) (by decide +kernel) rfl rfl ?_
              obtain ⟨b_45, h46, h⟩ := bd h
              obtain ⟨eh46, th46⟩ := g_o_some h46
              obtain ⟨q_43, h44, h⟩ := bd h
              refine xv_cvo E eh46 12 (as := [.inl v1, .inl (((19 : Int32) + ((3 : Int32) * v8)) + (2 : Int32))]) (t165 G l (c_I_some h44)) cd165 mw927 mw928 mw929 (show decode prog_14_method_11_code 186 = .ok (.invokevirtual 186, 3) by decide +kernel) th46 rfl rfl (Nat.le_of_ble_eq_true rfl) ⟨Nat.le_of_ble_eq_true rfl, Nat.le_of_ble_eq_true rfl⟩ ?_
              refine xv_b E [.bipush 9] (pc' := 191) (lv' := [(9, .inl ((19 : Int32) + ((3 : Int32) * v8))), (0, .inr (.inr (some a0))), (1, .inl v1), (3, .inl v3), (4, .inl v4), (6, .inl v6), (7, .inl v7), (8, .inl v8)]) (st' := [.inl (9 : Int32), .inl q_43.1]) (by decide +kernel) rfl rfl ?_
              by_cases q47 : (9 : Int32) < q_43.1
              · rw [if_pos q47] at h
                refine xv_icmp_gt E 198 (show decode prog_14_method_11_code 191 = .ok (.if_icmp .gt (7), 3) by decide +kernel) rfl (fun _ => ?_) (fun z => absurd q47 z)
                exact xv_w (sb172_198 E B a0 v1 v3 v4 v8 ((19 : Int32) + ((3 : Int32) * v8)) q_43.2 h hN) rfl
              · rw [if_neg q47] at h
                refine xv_icmp_gt E 198 (show decode prog_14_method_11_code 191 = .ok (.if_icmp .gt (7), 3) by decide +kernel) rfl (fun z => absurd z q47) (fun _ => ?_)
                refine xv_b E [.iconst 1] (pc' := 195) (lv' := [(9, .inl ((19 : Int32) + ((3 : Int32) * v8))), (0, .inr (.inr (some a0))), (1, .inl v1), (3, .inl v3), (4, .inl v4), (6, .inl v6), (7, .inl v7), (8, .inl v8)]) (st' := [.inl (1 : Int32)]) (by decide +kernel) rfl rfl ?_
                refine xv_goto E 199 (show decode prog_14_method_11_code 195 = .ok (.goto (4), 3) by decide +kernel) rfl ?_
                exact xv_w (sb172_199 E B a0 v1 v3 v4 v8 ((19 : Int32) + ((3 : Int32) * v8)) (1 : Int32) q_43.2 h hN) rfl
theorem sb172_333 (E : xE G p (xRm 1 (h_sz M' - z0) (h_sl M' - y0)) s m args c prog_14_method_11_code "ZonedFabricModel" z0 y0 (h_sz M') (h_sl M') 11) (B : xB ym172 (some FieldType.boolean) meth) (a0 : Nat) (v1 : Int32) (v3 : Int32) (v4 : Int32) (v6 : Int32) (v8 : Int32) (v9 : Int32) (v10 : Int32) (M : hM) {res : xRes} (h : b172_333 a0 v1 v3 v4 v6 v8 v9 v10 M = some res) (hN : xN (pg172 p l e s m args below meth c G z0 y0 r M') r M' res) : xV G p l e (xRm 1 (h_sz M' - z0) (h_sl M' - y0)) s m args below meth c z0 y0 (h_sz M') (h_sl M') 11 (MQ below (xQc G r M') args s (h_sz M' - z0) (h_sl M' - y0) (xFr G)) 333 [(0, .inr (.inr (some a0))), (1, .inl v1), (3, .inl v3), (4, .inl v4), (6, .inl v6), (8, .inl v8), (9, .inl v9), (10, .inl v10)] [] M := by
  unfold b172_333 at h
  refine xv_b E [.aload_n 0, .iload_n 1, .iload 10, .iconst 1, .iadd] (pc' := 339) (lv' := [(0, .inr (.inr (some a0))), (1, .inl v1), (3, .inl v3), (4, .inl v4), (6, .inl v6), (8, .inl v8), (9, .inl v9), (10, .inl v10)]) (st' := [.inl (v10 + (1 : Int32)), .inl v1, .inr (.inr (some a0))]) (by decide +kernel) rfl rfl ?_
  obtain ⟨b_90, h91, h⟩ := bd h
  obtain ⟨eh91, th91⟩ := g_o_some h91
  obtain ⟨q_88, h89, h⟩ := bd h
  refine xv_cvo E eh91 12 (as := [.inl v1, .inl (v10 + (1 : Int32))]) (t165 G l (c_I_some h89)) cd165 mw927 mw928 mw929 (show decode prog_14_method_11_code 339 = .ok (.invokevirtual 186, 3) by decide +kernel) th91 rfl rfl (Nat.le_of_ble_eq_true rfl) ⟨Nat.le_of_ble_eq_true rfl, Nat.le_of_ble_eq_true rfl⟩ ?_
  refine xv_b E [.istore 7, .iinc 9 1] (pc' := 347) (lv' := [(9, .inl (v9 + (1 : Int32))), (7, .inl q_88.1), (0, .inr (.inr (some a0))), (1, .inl v1), (3, .inl v3), (4, .inl v4), (6, .inl v6), (8, .inl v8), (10, .inl v10)]) (st' := []) (by decide +kernel) rfl rfl ?_
  refine xv_goto E 225 (show decode prog_14_method_11_code 347 = .ok (.goto (-122), 3) by decide +kernel) rfl ?_
  obtain rfl := Option.some.inj h
  exact xv_w hN rfl
theorem sb172_312 (E : xE G p (xRm 1 (h_sz M' - z0) (h_sl M' - y0)) s m args c prog_14_method_11_code "ZonedFabricModel" z0 y0 (h_sz M') (h_sl M') 11) (B : xB ym172 (some FieldType.boolean) meth) (a0 : Nat) (v1 : Int32) (v3 : Int32) (v4 : Int32) (v8 : Int32) (v9 : Int32) (v10 : Int32) (si0 : Int32) (M : hM) {res : xRes} (h : b172_312 a0 v1 v3 v4 v8 v9 v10 si0 M = some res) (hN : xN (pg172 p l e s m args below meth c G z0 y0 r M') r M' res) : xV G p l e (xRm 1 (h_sz M' - z0) (h_sl M' - y0)) s m args below meth c z0 y0 (h_sz M') (h_sl M') 11 (MQ below (xQc G r M') args s (h_sz M' - z0) (h_sl M' - y0) (xFr G)) 312 [(0, .inr (.inr (some a0))), (1, .inl v1), (3, .inl v3), (4, .inl v4), (8, .inl v8), (9, .inl v9), (10, .inl v10)] [.inl si0] M := by
  unfold b172_312 at h
  refine xv_b E [.istore 6, .iload 6] (pc' := 316) (lv' := [(6, .inl si0), (0, .inr (.inr (some a0))), (1, .inl v1), (3, .inl v3), (4, .inl v4), (8, .inl v8), (9, .inl v9), (10, .inl v10)]) (st' := [.inl si0]) (by decide +kernel) rfl rfl ?_
  by_cases q87 : si0 = 0
  · rw [if_pos q87] at h
    refine xv_if_eq E 333 (show decode prog_14_method_11_code 316 = .ok (.ifCond .eq (17), 3) by decide +kernel) rfl (fun _ => ?_) (fun z => absurd q87 z)
    exact xv_w (sb172_333 E B a0 v1 v3 v4 si0 v8 v9 v10 M h hN) rfl
  · rw [if_neg q87] at h
    refine xv_if_eq E 333 (show decode prog_14_method_11_code 316 = .ok (.ifCond .eq (17), 3) by decide +kernel) rfl (fun z => absurd z q87) (fun _ => ?_)
    refine xv_b E [.iload 8, .iconst 1, .aload_n 0, .iload_n 1, .iload 10] (pc' := 326) (lv' := [(6, .inl si0), (0, .inr (.inr (some a0))), (1, .inl v1), (3, .inl v3), (4, .inl v4), (8, .inl v8), (9, .inl v9), (10, .inl v10)]) (st' := [.inl v10, .inl v1, .inr (.inr (some a0)), .inl (1 : Int32), .inl v8]) (by decide +kernel) rfl rfl ?_
    obtain ⟨b_85, h86, h⟩ := bd h
    obtain ⟨eh86, th86⟩ := g_o_some h86
    obtain ⟨q_83, h84, h⟩ := bd h
    refine xv_cvo E eh86 12 (as := [.inl v1, .inl v10]) (t165 G l (c_I_some h84)) cd165 mw927 mw928 mw929 (show decode prog_14_method_11_code 326 = .ok (.invokevirtual 186, 3) by decide +kernel) th86 rfl rfl (Nat.le_of_ble_eq_true rfl) ⟨Nat.le_of_ble_eq_true rfl, Nat.le_of_ble_eq_true rfl⟩ ?_
    refine xv_b E [.ishl, .ior, .istore 8] (pc' := 333) (lv' := [(8, .inl (v8 ||| ((1 : Int32) <<< (q_83.1 &&& 31)))), (6, .inl si0), (0, .inr (.inr (some a0))), (1, .inl v1), (3, .inl v3), (4, .inl v4), (9, .inl v9), (10, .inl v10)]) (st' := []) (by decide +kernel) rfl rfl ?_
    exact xv_w (sb172_333 E B a0 v1 v3 v4 si0 (v8 ||| ((1 : Int32) <<< (q_83.1 &&& 31))) v9 v10 q_83.2 h hN) rfl
theorem sb172_311 (E : xE G p (xRm 1 (h_sz M' - z0) (h_sl M' - y0)) s m args c prog_14_method_11_code "ZonedFabricModel" z0 y0 (h_sz M') (h_sl M') 11) (B : xB ym172 (some FieldType.boolean) meth) (a0 : Nat) (v1 : Int32) (v3 : Int32) (v4 : Int32) (v8 : Int32) (v9 : Int32) (v10 : Int32) (M : hM) {res : xRes} (h : b172_311 a0 v1 v3 v4 v8 v9 v10 M = some res) (hN : xN (pg172 p l e s m args below meth c G z0 y0 r M') r M' res) : xV G p l e (xRm 1 (h_sz M' - z0) (h_sl M' - y0)) s m args below meth c z0 y0 (h_sz M') (h_sl M') 11 (MQ below (xQc G r M') args s (h_sz M' - z0) (h_sl M' - y0) (xFr G)) 311 [(0, .inr (.inr (some a0))), (1, .inl v1), (3, .inl v3), (4, .inl v4), (8, .inl v8), (9, .inl v9), (10, .inl v10)] [] M := by
  unfold b172_311 at h
  refine xv_b E [.iconst 0] (pc' := 312) (lv' := [(0, .inr (.inr (some a0))), (1, .inl v1), (3, .inl v3), (4, .inl v4), (8, .inl v8), (9, .inl v9), (10, .inl v10)]) (st' := [.inl (0 : Int32)]) (by decide +kernel) rfl rfl ?_
  exact xv_w (sb172_312 E B a0 v1 v3 v4 v8 v9 v10 (0 : Int32) M h hN) rfl
theorem sb172_225 (E : xE G p (xRm 1 (h_sz M' - z0) (h_sl M' - y0)) s m args c prog_14_method_11_code "ZonedFabricModel" z0 y0 (h_sz M') (h_sl M') 11) (B : xB ym172 (some FieldType.boolean) meth) (a0 : Nat) (v1 : Int32) (v3 : Int32) (v4 : Int32) (v6 : Int32) (v7 : Int32) (v8 : Int32) (v9 : Int32) (M : hM) {res : xRes} (h : b172_225 a0 v1 v3 v4 v6 v7 v8 v9 M = some res) (hN : xN (pg172 p l e s m args below meth c G z0 y0 r M') r M' res) : xV G p l e (xRm 1 (h_sz M' - z0) (h_sl M' - y0)) s m args below meth c z0 y0 (h_sz M') (h_sl M') 11 (MQ below (xQc G r M') args s (h_sz M' - z0) (h_sl M' - y0) (xFr G)) 225 [(0, .inr (.inr (some a0))), (1, .inl v1), (3, .inl v3), (4, .inl v4), (6, .inl v6), (7, .inl v7), (8, .inl v8), (9, .inl v9)] [] M := by
  unfold b172_225 at h
  refine xv_b E [.iload 9, .iload 4] (pc' := 229) (lv' := [(0, .inr (.inr (some a0))), (1, .inl v1), (3, .inl v3), (4, .inl v4), (6, .inl v6), (7, .inl v7), (8, .inl v8), (9, .inl v9)]) (st' := [.inl v4, .inl v9]) (by decide +kernel) rfl rfl ?_
  by_cases q82 : v4 ≤ v9
  · rw [if_pos q82] at h
    refine xv_icmp_ge E 350 (show decode prog_14_method_11_code 229 = .ok (.if_icmp .ge (121), 3) by decide +kernel) rfl (fun _ => ?_) (fun z => absurd q82 z)
    refine xv_b E [.iload 6] (pc' := 352) (lv' := [(0, .inr (.inr (some a0))), (1, .inl v1), (3, .inl v3), (4, .inl v4), (6, .inl v6), (7, .inl v7), (8, .inl v8), (9, .inl v9)]) (st' := [.inl v6]) (by decide +kernel) rfl rfl ?_
    by_cases q58 : v6 = 0 ∨ v6 = 1
    · rw [if_pos q58] at h
      obtain rfl := Option.some.inj h
      obtain ⟨rfl, rfl⟩ := Prod.mk.inj (show ((some (.inl v6) : Option aV), M) = (r, M') from hN)
      exact xv_ri E B.1 (by rcases q58 with z | z <;> rw [z] <;> rfl) B.2.1 (show decode prog_14_method_11_code 352 = .ok (.ireturn, 1) by decide +kernel) rfl rfl
    · rw [if_neg q58] at h
      cases h
  · rw [if_neg q82] at h
    refine xv_icmp_ge E 350 (show decode prog_14_method_11_code 229 = .ok (.if_icmp .ge (121), 3) by decide +kernel) rfl (fun z => absurd z q82) (fun _ => ?_)
    refine xv_b E [.bipush 20, .iconst 3, .iload_n 3, .imul, .iadd, .iconst 2, .iload 9, .imul, .iadd, .istore 10, .iload 6] (pc' := 247) (lv' := [(10, .inl (((20 : Int32) + ((3 : Int32) * v3)) + ((2 : Int32) * v9))), (0, .inr (.inr (some a0))), (1, .inl v1), (3, .inl v3), (4, .inl v4), (6, .inl v6), (7, .inl v7), (8, .inl v8), (9, .inl v9)]) (st' := [.inl v6]) (by decide +kernel) rfl rfl ?_
    by_cases q81 : v6 = 0
    · rw [if_pos q81] at h
      refine xv_if_eq E 311 (show decode prog_14_method_11_code 247 = .ok (.ifCond .eq (64), 3) by decide +kernel) rfl (fun _ => ?_) (fun z => absurd q81 z)
      exact xv_w (sb172_311 E B a0 v1 v3 v4 v8 v9 (((20 : Int32) + ((3 : Int32) * v3)) + ((2 : Int32) * v9)) M h hN) rfl
    · rw [if_neg q81] at h
      refine xv_if_eq E 311 (show decode prog_14_method_11_code 247 = .ok (.ifCond .eq (64), 3) by decide +kernel) rfl (fun z => absurd z q81) (fun _ => ?_)
      refine xv_b E [.aload_n 0, .iload_n 1, .iload 10] (pc' := 254) (lv' := [(10, .inl (((20 : Int32) + ((3 : Int32) * v3)) + ((2 : Int32) * v9))), (0, .inr (.inr (some a0))), (1, .inl v1), (3, .inl v3), (4, .inl v4), (6, .inl v6), (7, .inl v7), (8, .inl v8), (9, .inl v9)]) (st' := [.inl (((20 : Int32) + ((3 : Int32) * v3)) + ((2 : Int32) * v9)), .inl v1, .inr (.inr (some a0))]) (by decide +kernel) rfl rfl ?_
      obtain ⟨b_61, h62, h⟩ := bd h
      obtain ⟨eh62, th62⟩ := g_o_some h62
      obtain ⟨q_59, h60, h⟩ := bd h
      refine xv_cvo E eh62 12 (as := [.inl v1, .inl (((20 : Int32) + ((3 : Int32) * v3)) + ((2 : Int32) * v9))]) (t165 G l (c_I_some h60)) cd165 mw927 mw928 mw929 (show decode prog_14_method_11_code 254 = .ok (.invokevirtual 186, 3) by decide +kernel) th62 rfl rfl (Nat.le_of_ble_eq_true rfl) ⟨Nat.le_of_ble_eq_true rfl, Nat.le_of_ble_eq_true rfl⟩ ?_
      refine xv_b E [.aload_n 0] (pc' := 258) (lv' := [(10, .inl (((20 : Int32) + ((3 : Int32) * v3)) + ((2 : Int32) * v9))), (0, .inr (.inr (some a0))), (1, .inl v1), (3, .inl v3), (4, .inl v4), (6, .inl v6), (7, .inl v7), (8, .inl v8), (9, .inl v9)]) (st' := [.inr (.inr (some a0)), .inl q_59.1]) (by decide +kernel) rfl rfl ?_
      obtain ⟨v_63, h64, h⟩ := bd h
      refine xg_i E 12 1 h64 mw922 (show decode prog_14_method_11_code 258 = .ok (.getfield 177, 3) by decide +kernel) ?_
      by_cases q80 : v_63 ≤ q_59.1
      · rw [if_pos q80] at h
        refine xv_icmp_ge E 311 (show decode prog_14_method_11_code 261 = .ok (.if_icmp .ge (50), 3) by decide +kernel) rfl (fun _ => ?_) (fun z => absurd q80 z)
        exact xv_w (sb172_311 E B a0 v1 v3 v4 v8 v9 (((20 : Int32) + ((3 : Int32) * v3)) + ((2 : Int32) * v9)) q_59.2 h hN) rfl
      · rw [if_neg q80] at h
        refine xv_icmp_ge E 311 (show decode prog_14_method_11_code 261 = .ok (.if_icmp .ge (50), 3) by decide +kernel) rfl (fun z => absurd z q80) (fun _ => ?_)
        refine xv_b E [.iload 8, .aload_n 0, .iload_n 1, .iload 10] (pc' := 270) (lv' := [(10, .inl (((20 : Int32) + ((3 : Int32) * v3)) + ((2 : Int32) * v9))), (0, .inr (.inr (some a0))), (1, .inl v1), (3, .inl v3), (4, .inl v4), (6, .inl v6), (7, .inl v7), (8, .inl v8), (9, .inl v9)]) (st' := [.inl (((20 : Int32) + ((3 : Int32) * v3)) + ((2 : Int32) * v9)), .inl v1, .inr (.inr (some a0)), .inl v8]) (by decide +kernel) rfl rfl ?_
        obtain ⟨b_67, h68, h⟩ := bd h
        obtain ⟨eh68, th68⟩ := g_o_some h68
        obtain ⟨q_65, h66, h⟩ := bd h
        refine xv_cvo E eh68 12 (as := [.inl v1, .inl (((20 : Int32) + ((3 : Int32) * v3)) + ((2 : Int32) * v9))]) (t165 G l (c_I_some h66)) cd165 mw927 mw928 mw929 (show decode prog_14_method_11_code 270 = .ok (.invokevirtual 186, 3) by decide +kernel) th68 rfl rfl (Nat.le_of_ble_eq_true rfl) ⟨Nat.le_of_ble_eq_true rfl, Nat.le_of_ble_eq_true rfl⟩ ?_
        refine xv_b E [.ishr, .iconst 1, .iand] (pc' := 276) (lv' := [(10, .inl (((20 : Int32) + ((3 : Int32) * v3)) + ((2 : Int32) * v9))), (0, .inr (.inr (some a0))), (1, .inl v1), (3, .inl v3), (4, .inl v4), (6, .inl v6), (7, .inl v7), (8, .inl v8), (9, .inl v9)]) (st' := [.inl ((v8 >>> (q_65.1 &&& 31)) &&& (1 : Int32))]) (by decide +kernel) rfl rfl ?_
        by_cases q79 : ((v8 >>> (q_65.1 &&& 31)) &&& (1 : Int32)) = 0
        · rw [if_pos q79] at h
          refine xv_if_ne E 311 (show decode prog_14_method_11_code 276 = .ok (.ifCond .ne (35), 3) by decide +kernel) rfl (fun z => absurd q79 z) (fun _ => ?_)
          refine xv_b E [.aload_n 0, .iload_n 1, .iload 10, .iconst 1, .iadd] (pc' := 285) (lv' := [(10, .inl (((20 : Int32) + ((3 : Int32) * v3)) + ((2 : Int32) * v9))), (0, .inr (.inr (some a0))), (1, .inl v1), (3, .inl v3), (4, .inl v4), (6, .inl v6), (7, .inl v7), (8, .inl v8), (9, .inl v9)]) (st' := [.inl ((((20 : Int32) + ((3 : Int32) * v3)) + ((2 : Int32) * v9)) + (1 : Int32)), .inl v1, .inr (.inr (some a0))]) (by decide +kernel) rfl rfl ?_
          obtain ⟨b_71, h72, h⟩ := bd h
          obtain ⟨eh72, th72⟩ := g_o_some h72
          obtain ⟨q_69, h70, h⟩ := bd h
          refine xv_cvo E eh72 12 (as := [.inl v1, .inl ((((20 : Int32) + ((3 : Int32) * v3)) + ((2 : Int32) * v9)) + (1 : Int32))]) (t165 G l (c_I_some h70)) cd165 mw927 mw928 mw929 (show decode prog_14_method_11_code 285 = .ok (.invokevirtual 186, 3) by decide +kernel) th72 rfl rfl (Nat.le_of_ble_eq_true rfl) ⟨Nat.le_of_ble_eq_true rfl, Nat.le_of_ble_eq_true rfl⟩ ?_
          refine xv_b E [.iload 7] (pc' := 290) (lv' := [(10, .inl (((20 : Int32) + ((3 : Int32) * v3)) + ((2 : Int32) * v9))), (0, .inr (.inr (some a0))), (1, .inl v1), (3, .inl v3), (4, .inl v4), (6, .inl v6), (7, .inl v7), (8, .inl v8), (9, .inl v9)]) (st' := [.inl v7, .inl q_69.1]) (by decide +kernel) rfl rfl ?_
          by_cases q78 : q_69.1 ≤ v7
          · rw [if_pos q78] at h
            refine xv_icmp_le E 311 (show decode prog_14_method_11_code 290 = .ok (.if_icmp .le (21), 3) by decide +kernel) rfl (fun _ => ?_) (fun z => absurd q78 z)
            exact xv_w (sb172_311 E B a0 v1 v3 v4 v8 v9 (((20 : Int32) + ((3 : Int32) * v3)) + ((2 : Int32) * v9)) q_69.2 h hN) rfl
          · rw [if_neg q78] at h
            refine xv_icmp_le E 311 (show decode prog_14_method_11_code 290 = .ok (.if_icmp .le (21), 3) by decide +kernel) rfl (fun z => absurd z q78) (fun _ => ?_)
            refine xv_b E [.aload_n 0, .iload_n 1, .iload 10, .iconst 1, .iadd] (pc' := 299) (lv' := [(10, .inl (((20 : Int32) + ((3 : Int32) * v3)) + ((2 : Int32) * v9))), (0, .inr (.inr (some a0))), (1, .inl v1), (3, .inl v3), (4, .inl v4), (6, .inl v6), (7, .inl v7), (8, .inl v8), (9, .inl v9)]) (st' := [.inl ((((20 : Int32) + ((3 : Int32) * v3)) + ((2 : Int32) * v9)) + (1 : Int32)), .inl v1, .inr (.inr (some a0))]) (by decide +kernel) rfl rfl ?_
            obtain ⟨b_75, h76, h⟩ := bd h
            obtain ⟨eh76, th76⟩ := g_o_some h76
            obtain ⟨q_73, h74, h⟩ := bd h
            refine xv_cvo E eh76 12 (as := [.inl v1, .inl ((((20 : Int32) + ((3 : Int32) * v3)) + ((2 : Int32) * v9)) + (1 : Int32))]) (t165 G l (c_I_some h74)) cd165 mw927 mw928 mw929 (show decode prog_14_method_11_code 299 = .ok (.invokevirtual 186, 3) by decide +kernel) th76 rfl rfl (Nat.le_of_ble_eq_true rfl) ⟨Nat.le_of_ble_eq_true rfl, Nat.le_of_ble_eq_true rfl⟩ ?_
            refine xv_b E [.bipush 8] (pc' := 304) (lv' := [(10, .inl (((20 : Int32) + ((3 : Int32) * v3)) + ((2 : Int32) * v9))), (0, .inr (.inr (some a0))), (1, .inl v1), (3, .inl v3), (4, .inl v4), (6, .inl v6), (7, .inl v7), (8, .inl v8), (9, .inl v9)]) (st' := [.inl (8 : Int32), .inl q_73.1]) (by decide +kernel) rfl rfl ?_
            by_cases q77 : (8 : Int32) ≤ q_73.1
            · rw [if_pos q77] at h
              refine xv_icmp_ge E 311 (show decode prog_14_method_11_code 304 = .ok (.if_icmp .ge (7), 3) by decide +kernel) rfl (fun _ => ?_) (fun z => absurd q77 z)
              exact xv_w (sb172_311 E B a0 v1 v3 v4 v8 v9 (((20 : Int32) + ((3 : Int32) * v3)) + ((2 : Int32) * v9)) q_73.2 h hN) rfl
            · rw [if_neg q77] at h
              refine xv_icmp_ge E 311 (show decode prog_14_method_11_code 304 = .ok (.if_icmp .ge (7), 3) by decide +kernel) rfl (fun z => absurd z q77) (fun _ => ?_)
              refine xv_b E [.iconst 1] (pc' := 308) (lv' := [(10, .inl (((20 : Int32) + ((3 : Int32) * v3)) + ((2 : Int32) * v9))), (0, .inr (.inr (some a0))), (1, .inl v1), (3, .inl v3), (4, .inl v4), (6, .inl v6), (7, .inl v7), (8, .inl v8), (9, .inl v9)]) (st' := [.inl (1 : Int32)]) (by decide +kernel) rfl rfl ?_
              refine xv_goto E 312 (show decode prog_14_method_11_code 308 = .ok (.goto (4), 3) by decide +kernel) rfl ?_
              exact xv_w (sb172_312 E B a0 v1 v3 v4 v8 v9 (((20 : Int32) + ((3 : Int32) * v3)) + ((2 : Int32) * v9)) (1 : Int32) q_73.2 h hN) rfl
        · rw [if_neg q79] at h
          refine xv_if_ne E 311 (show decode prog_14_method_11_code 276 = .ok (.ifCond .ne (35), 3) by decide +kernel) rfl (fun _ => ?_) (fun z => absurd z q79)
          exact xv_w (sb172_311 E B a0 v1 v3 v4 v8 v9 (((20 : Int32) + ((3 : Int32) * v3)) + ((2 : Int32) * v9)) q_65.2 h hN) rfl
end
theorem t172 (G : gX) (l : Launch) {as : List aV} {M : hM} {r : Option aV} {M' : hM} (h : f172 as M = some (r, M')) : xM G l ym172 prog_14_method_11_code 11 (some FieldType.boolean) 1 as M r M' := by
  unfold f172 at h
  split at h
  · have hle : ∀ h as M res, k172 h as M = some res → h_sz M ≤ r_sz res ∧ h_sl M ≤ r_sl res := by
      intro h as M res hb
      unfold k172 at hb
      by_cases e0 : h = 107
      · rw [if_pos e0] at hb
        split at hb
        · exact lb172_107 G l _ _ _ _ _ _ _ M hb
        · cases hb
      · rw [if_neg e0] at hb
        by_cases e1 : h = 225
        · rw [if_pos e1] at hb
          split at hb
          · exact lb172_225 G l _ _ _ _ _ _ _ _ M hb
          · cases hb
        · rw [if_neg e1] at hb
          cases hb
    obtain ⟨res, hx, hres⟩ := x_go_ok h
    refine xM_of (by decide) (Nat.le_of_ble_eq_true rfl) ?_ ?_
    · have e1 := lb172_0 G l _ _ _ M hx
      have e2 := x_go_le hle hres
      omega
    · intro p e s m args below meth c E B
      refine sb172_0 E B _ _ _ M hx (hres _ ?_)
      intro h as M res hb hN
      unfold k172 at hb
      unfold pg172
      by_cases e0 : h = 107
      · rw [if_pos e0] at hb ⊢
        split at hb
        · exact sb172_107 E B _ _ _ _ _ _ _ M hb hN
        · cases hb
      · rw [if_neg e0] at hb ⊢
        by_cases e1 : h = 225
        · rw [if_pos e1] at hb ⊢
          split at hb
          · exact sb172_225 E B _ _ _ _ _ _ _ _ M hb hN
          · cases hb
        · rw [if_neg e1] at hb ⊢
          cases hb
  · cases h
/-! ZFModel.hasForm(II)Z -/
def ym173 : MethodName := ⟨"ZonedFabricModel", "hasForm", "(II)Z"⟩
theorem cd173 : xCd ym173 prog_14_method_10_code 4 (some FieldType.boolean) 2 := ⟨mw943, mw864, by decide, by decide, by decide +kernel⟩
def b173_94 (si0 : Int32) (M : hM) : Option xRes :=
  if si0 = 0 ∨ si0 = 1 then
    (some (.inl (some (.inl si0), M)))
  else
    none
def b173_93  (M : hM) : Option xRes :=
  b173_94 (0 : Int32) M
def b173_120 (si0 : Int32) (M : hM) : Option xRes :=
  if si0 = 0 ∨ si0 = 1 then
    (some (.inl (some (.inl si0), M)))
  else
    none
def b173_119  (M : hM) : Option xRes :=
  b173_120 (0 : Int32) M
def b173_163 (si0 : Int32) (M : hM) : Option xRes :=
  if si0 = 0 ∨ si0 = 1 then
    (some (.inl (some (.inl si0), M)))
  else
    none
def b173_158  (M : hM) : Option xRes :=
  b173_163 (1 : Int32) M
def b173_162  (M : hM) : Option xRes :=
  b173_163 (0 : Int32) M
def b173_185 (si0 : Int32) (M : hM) : Option xRes :=
  if si0 = 0 ∨ si0 = 1 then
    (some (.inl (some (.inl si0), M)))
  else
    none
def b173_184  (M : hM) : Option xRes :=
  b173_185 (0 : Int32) M
def b173_196 (si0 : Int32) (M : hM) : Option xRes :=
  if si0 = 0 ∨ si0 = 1 then
    (some (.inl (some (.inl si0), M)))
  else
    none
def b173_208 (si0 : Int32) (M : hM) : Option xRes :=
  if si0 = 0 ∨ si0 = 1 then
    (some (.inl (some (.inl si0), M)))
  else
    none
def b173_224 (si0 : Int32) (M : hM) : Option xRes :=
  if si0 = 0 ∨ si0 = 1 then
    (some (.inl (some (.inl si0), M)))
  else
    none
def b173_223  (M : hM) : Option xRes :=
  b173_224 (0 : Int32) M
def b173_0 (a0 : Nat) (v1 : Int32) (v2 : Int32) (M : hM) : Option xRes :=
  Option.bind (g_o M 12 (some a0)) fun b_3 =>
  Option.bind (c_I (f165 [.inr (.inr (some b_3)), .inl v1, .inl (13 : Int32)] M)) fun q_1 =>
  Option.bind (g_o q_1.2 12 (some a0)) fun b_7 =>
  Option.bind (c_I (f165 [.inr (.inr (some b_7)), .inl v1, .inl (0 : Int32)] q_1.2)) fun q_5 =>
  if q_5.1 = 1 then
    (if v2 = (1 : Int32) then
      (Option.bind (g_i q_5.2 12 0 (some a0)) fun v_10 =>
      if v_10 ≤ q_1.1 then
        (b173_93  q_5.2)
      else
        (b173_94 (1 : Int32) q_5.2))
    else
      (b173_93  q_5.2))
  else
    (if q_5.1 = 2 then
      (Option.bind (g_o q_5.2 12 (some a0)) fun b_17 =>
      Option.bind (c_I (f172 [.inr (.inr (some b_17)), .inl v1, .inl v2] q_5.2)) fun q_15 =>
      if q_15.1 = 0 ∨ q_15.1 = 1 then
        (some (.inl (some (.inl q_15.1), q_15.2)))
      else
        none)
    else
      (if q_5.1 = 3 then
        (if v2 = (1 : Int32) then
          (Option.bind (g_i q_5.2 12 1 (some a0)) fun v_21 =>
          if v_21 ≤ q_1.1 then
            (b173_119  q_5.2)
          else
            (b173_120 (1 : Int32) q_5.2))
        else
          (b173_119  q_5.2))
      else
        (if q_5.1 = 4 then
          (some (.inl (some (.inl (1 : Int32)), q_5.2)))
        else
          (if q_5.1 = 5 then
            (if v2 = (1 : Int32) then
              (Option.bind (g_i q_5.2 12 1 (some a0)) fun v_27 =>
              if v_27 ≤ q_1.1 then
                (b173_119  q_5.2)
              else
                (b173_120 (1 : Int32) q_5.2))
            else
              (b173_119  q_5.2))
          else
            (if q_5.1 = 6 then
              (if v2 = (4 : Int32) then
                (Option.bind (g_i q_5.2 12 1 (some a0)) fun v_32 =>
                if v_32 ≤ q_1.1 then
                  (b173_162  q_5.2)
                else
                  (Option.bind (g_o q_5.2 12 (some a0)) fun b_36 =>
                  Option.bind (c_I (f166 [.inr (.inr (some b_36)), .inl v1, .inl (14 : Int32), .inl (3 : Int32)] q_5.2)) fun q_34 =>
                  if q_34.1 = 0 then
                    (b173_158  q_34.2)
                  else
                    (Option.bind (g_o q_34.2 12 (some a0)) fun b_40 =>
                    Option.bind (c_I (f165 [.inr (.inr (some b_40)), .inl v1, .inl (16 : Int32)] q_34.2)) fun q_38 =>
                    if q_38.1 = (q_1.1 + (1 : Int32)) then
                      (b173_158  q_38.2)
                    else
                      (b173_162  q_38.2))))
              else
                (b173_162  q_5.2))
            else
              (if q_5.1 = 7 then
                (if v2 = (1 : Int32) then
                  (Option.bind (g_i q_5.2 12 1 (some a0)) fun v_47 =>
                  if v_47 ≤ q_1.1 then
                    (b173_119  q_5.2)
                  else
                    (b173_120 (1 : Int32) q_5.2))
                else
                  (b173_119  q_5.2))
              else
                (if q_5.1 = 8 then
                  (some (.inl (some (.inl (1 : Int32)), q_5.2)))
                else
                  (if q_5.1 = 9 then
                    (if v2 = (4 : Int32) then
                      (Option.bind (g_o q_5.2 12 (some a0)) fun b_55 =>
                      Option.bind (c_I (f165 [.inr (.inr (some b_55)), .inl v1, .inl (14 : Int32)] q_5.2)) fun q_53 =>
                      if (2 : Int32) ≤ q_53.1 then
                        (b173_184  q_53.2)
                      else
                        (b173_185 (1 : Int32) q_53.2))
                    else
                      (b173_184  q_5.2))
                  else
                    (if q_5.1 = 10 then
                      (if v2 = (1 : Int32) then
                        (b173_196 (1 : Int32) q_5.2)
                      else
                        (b173_196 (0 : Int32) q_5.2))
                    else
                      (if q_5.1 = 11 then
                        (if v2 = (8 : Int32) then
                          (b173_208 (1 : Int32) q_5.2)
                        else
                          (b173_208 (0 : Int32) q_5.2))
                      else
                        (if q_5.1 = 12 then
                          (if v2 = (1 : Int32) then
                            (if (2 : Int32) ≤ q_1.1 then
                              (b173_223  q_5.2)
                            else
                              (b173_224 (1 : Int32) q_5.2))
                          else
                            (b173_223  q_5.2))
                        else
                          (some (.inl (some (.inl (1 : Int32)), q_5.2))))))))))))))
def f173 (as : List aV) (M : hM) : xO := match as with
  | [.inr (.inr (some a0)), .inl v1, .inl v2] => x_out (b173_0 a0 v1 v2 M)
  | _ => none
theorem lb173_94 (G : gX) (l : Launch) (si0 : Int32) (M : hM) {res : xRes} (h : b173_94 si0 M = some res) : h_sz M ≤ r_sz res ∧ h_sl M ≤ r_sl res := by
  unfold b173_94 at h
  by_cases q66 : si0 = 0 ∨ si0 = 1
  · rw [if_pos q66] at h
    obtain rfl := Option.some.inj h
    show h_sz M ≤ h_sz M ∧ h_sl M ≤ h_sl M
    omega
  · rw [if_neg q66] at h
    cases h
theorem lb173_93 (G : gX) (l : Launch)  (M : hM) {res : xRes} (h : b173_93  M = some res) : h_sz M ≤ r_sz res ∧ h_sl M ≤ r_sl res := by
  unfold b173_93 at h
  have e := lb173_94 G l (0 : Int32) M h
  omega
theorem lb173_120 (G : gX) (l : Launch) (si0 : Int32) (M : hM) {res : xRes} (h : b173_120 si0 M = some res) : h_sz M ≤ r_sz res ∧ h_sl M ≤ r_sl res := by
  unfold b173_120 at h
  by_cases q67 : si0 = 0 ∨ si0 = 1
  · rw [if_pos q67] at h
    obtain rfl := Option.some.inj h
    show h_sz M ≤ h_sz M ∧ h_sl M ≤ h_sl M
    omega
  · rw [if_neg q67] at h
    cases h
theorem lb173_119 (G : gX) (l : Launch)  (M : hM) {res : xRes} (h : b173_119  M = some res) : h_sz M ≤ r_sz res ∧ h_sl M ≤ r_sl res := by
  unfold b173_119 at h
  have e := lb173_120 G l (0 : Int32) M h
  omega
theorem lb173_163 (G : gX) (l : Launch) (si0 : Int32) (M : hM) {res : xRes} (h : b173_163 si0 M = some res) : h_sz M ≤ r_sz res ∧ h_sl M ≤ r_sl res := by
  unfold b173_163 at h
  by_cases q68 : si0 = 0 ∨ si0 = 1
  · rw [if_pos q68] at h
    obtain rfl := Option.some.inj h
    show h_sz M ≤ h_sz M ∧ h_sl M ≤ h_sl M
    omega
  · rw [if_neg q68] at h
    cases h
theorem lb173_158 (G : gX) (l : Launch)  (M : hM) {res : xRes} (h : b173_158  M = some res) : h_sz M ≤ r_sz res ∧ h_sl M ≤ r_sl res := by
  unfold b173_158 at h
  have e := lb173_163 G l (1 : Int32) M h
  omega
theorem lb173_162 (G : gX) (l : Launch)  (M : hM) {res : xRes} (h : b173_162  M = some res) : h_sz M ≤ r_sz res ∧ h_sl M ≤ r_sl res := by
  unfold b173_162 at h
  have e := lb173_163 G l (0 : Int32) M h
  omega
theorem lb173_185 (G : gX) (l : Launch) (si0 : Int32) (M : hM) {res : xRes} (h : b173_185 si0 M = some res) : h_sz M ≤ r_sz res ∧ h_sl M ≤ r_sl res := by
  unfold b173_185 at h
  by_cases q69 : si0 = 0 ∨ si0 = 1
  · rw [if_pos q69] at h
    obtain rfl := Option.some.inj h
    show h_sz M ≤ h_sz M ∧ h_sl M ≤ h_sl M
    omega
  · rw [if_neg q69] at h
    cases h
theorem lb173_184 (G : gX) (l : Launch)  (M : hM) {res : xRes} (h : b173_184  M = some res) : h_sz M ≤ r_sz res ∧ h_sl M ≤ r_sl res := by
  unfold b173_184 at h
  have e := lb173_185 G l (0 : Int32) M h
  omega
theorem lb173_196 (G : gX) (l : Launch) (si0 : Int32) (M : hM) {res : xRes} (h : b173_196 si0 M = some res) : h_sz M ≤ r_sz res ∧ h_sl M ≤ r_sl res := by
  unfold b173_196 at h
  by_cases q70 : si0 = 0 ∨ si0 = 1
  · rw [if_pos q70] at h
    obtain rfl := Option.some.inj h
    show h_sz M ≤ h_sz M ∧ h_sl M ≤ h_sl M
    omega
  · rw [if_neg q70] at h
    cases h
theorem lb173_208 (G : gX) (l : Launch) (si0 : Int32) (M : hM) {res : xRes} (h : b173_208 si0 M = some res) : h_sz M ≤ r_sz res ∧ h_sl M ≤ r_sl res := by
  unfold b173_208 at h
  by_cases q71 : si0 = 0 ∨ si0 = 1
  · rw [if_pos q71] at h
    obtain rfl := Option.some.inj h
    show h_sz M ≤ h_sz M ∧ h_sl M ≤ h_sl M
    omega
  · rw [if_neg q71] at h
    cases h
theorem lb173_224 (G : gX) (l : Launch) (si0 : Int32) (M : hM) {res : xRes} (h : b173_224 si0 M = some res) : h_sz M ≤ r_sz res ∧ h_sl M ≤ r_sl res := by
  unfold b173_224 at h
  by_cases q72 : si0 = 0 ∨ si0 = 1
  · rw [if_pos q72] at h
    obtain rfl := Option.some.inj h
    show h_sz M ≤ h_sz M ∧ h_sl M ≤ h_sl M
    omega
  · rw [if_neg q72] at h
    cases h
theorem lb173_223 (G : gX) (l : Launch)  (M : hM) {res : xRes} (h : b173_223  M = some res) : h_sz M ≤ r_sz res ∧ h_sl M ≤ r_sl res := by
  unfold b173_223 at h
  have e := lb173_224 G l (0 : Int32) M h
  omega
theorem lb173_0 (G : gX) (l : Launch) (a0 : Nat) (v1 : Int32) (v2 : Int32) (M : hM) {res : xRes} (h : b173_0 a0 v1 v2 M = some res) : h_sz M ≤ r_sz res ∧ h_sl M ≤ r_sl res := by
  unfold b173_0 at h
  obtain ⟨b_3, h4, h⟩ := bd h
  obtain ⟨q_1, h2, h⟩ := bd h
  have eh2 := (t165 G l (c_I_some h2)).1
  obtain ⟨b_7, h8, h⟩ := bd h
  obtain ⟨q_5, h6, h⟩ := bd h
  have eh6 := (t165 G l (c_I_some h6)).1
  by_cases q9 : q_5.1 = 1
  · rw [if_pos q9] at h
    by_cases q13 : v2 = (1 : Int32)
    · rw [if_pos q13] at h
      obtain ⟨v_10, h11, h⟩ := bd h
      by_cases q12 : v_10 ≤ q_1.1
      · rw [if_pos q12] at h
        have e := lb173_93 G l  q_5.2 h
        omega
      · rw [if_neg q12] at h
        have e := lb173_94 G l (1 : Int32) q_5.2 h
        omega
    · rw [if_neg q13] at h
      have e := lb173_93 G l  q_5.2 h
      omega
  · rw [if_neg q9] at h
    by_cases q14 : q_5.1 = 2
    · rw [if_pos q14] at h
      obtain ⟨b_17, h18, h⟩ := bd h
      obtain ⟨q_15, h16, h⟩ := bd h
      have eh16 := (t172 G l (c_I_some h16)).1
      by_cases q19 : q_15.1 = 0 ∨ q_15.1 = 1
      · rw [if_pos q19] at h
        obtain rfl := Option.some.inj h
        show h_sz M ≤ h_sz q_15.2 ∧ h_sl M ≤ h_sl q_15.2
        omega
      · rw [if_neg q19] at h
        cases h
    · rw [if_neg q14] at h
      by_cases q20 : q_5.1 = 3
      · rw [if_pos q20] at h
        by_cases q24 : v2 = (1 : Int32)
        · rw [if_pos q24] at h
          obtain ⟨v_21, h22, h⟩ := bd h
          by_cases q23 : v_21 ≤ q_1.1
          · rw [if_pos q23] at h
            have e := lb173_119 G l  q_5.2 h
            omega
          · rw [if_neg q23] at h
            have e := lb173_120 G l (1 : Int32) q_5.2 h
            omega
        · rw [if_neg q24] at h
          have e := lb173_119 G l  q_5.2 h
          omega
      · rw [if_neg q20] at h
        by_cases q25 : q_5.1 = 4
        · rw [if_pos q25] at h
          obtain rfl := Option.some.inj h
          show h_sz M ≤ h_sz q_5.2 ∧ h_sl M ≤ h_sl q_5.2
          omega
        · rw [if_neg q25] at h
          by_cases q26 : q_5.1 = 5
          · rw [if_pos q26] at h
            by_cases q30 : v2 = (1 : Int32)
            · rw [if_pos q30] at h
              obtain ⟨v_27, h28, h⟩ := bd h
              by_cases q29 : v_27 ≤ q_1.1
              · rw [if_pos q29] at h
                have e := lb173_119 G l  q_5.2 h
                omega
              · rw [if_neg q29] at h
                have e := lb173_120 G l (1 : Int32) q_5.2 h
                omega
            · rw [if_neg q30] at h
              have e := lb173_119 G l  q_5.2 h
              omega
          · rw [if_neg q26] at h
            by_cases q31 : q_5.1 = 6
            · rw [if_pos q31] at h
              by_cases q45 : v2 = (4 : Int32)
              · rw [if_pos q45] at h
                obtain ⟨v_32, h33, h⟩ := bd h
                by_cases q44 : v_32 ≤ q_1.1
                · rw [if_pos q44] at h
                  have e := lb173_162 G l  q_5.2 h
                  omega
                · rw [if_neg q44] at h
                  obtain ⟨b_36, h37, h⟩ := bd h
                  obtain ⟨q_34, h35, h⟩ := bd h
                  have eh35 := (t166 G l (c_I_some h35)).1
                  by_cases q43 : q_34.1 = 0
                  · rw [if_pos q43] at h
                    have e := lb173_158 G l  q_34.2 h
                    omega
                  · rw [if_neg q43] at h
                    obtain ⟨b_40, h41, h⟩ := bd h
                    obtain ⟨q_38, h39, h⟩ := bd h
                    have eh39 := (t165 G l (c_I_some h39)).1
                    by_cases q42 : q_38.1 = (q_1.1 + (1 : Int32))
                    · rw [if_pos q42] at h
                      have e := lb173_158 G l  q_38.2 h
                      omega
                    · rw [if_neg q42] at h
                      have e := lb173_162 G l  q_38.2 h
                      omega
              · rw [if_neg q45] at h
                have e := lb173_162 G l  q_5.2 h
                omega
            · rw [if_neg q31] at h
              by_cases q46 : q_5.1 = 7
              · rw [if_pos q46] at h
                by_cases q50 : v2 = (1 : Int32)
                · rw [if_pos q50] at h
                  obtain ⟨v_47, h48, h⟩ := bd h
                  by_cases q49 : v_47 ≤ q_1.1
                  · rw [if_pos q49] at h
                    have e := lb173_119 G l  q_5.2 h
                    omega
                  · rw [if_neg q49] at h
                    have e := lb173_120 G l (1 : Int32) q_5.2 h
                    omega
                · rw [if_neg q50] at h
                  have e := lb173_119 G l  q_5.2 h
                  omega
              · rw [if_neg q46] at h
                by_cases q51 : q_5.1 = 8
                · rw [if_pos q51] at h
                  obtain rfl := Option.some.inj h
                  show h_sz M ≤ h_sz q_5.2 ∧ h_sl M ≤ h_sl q_5.2
                  omega
                · rw [if_neg q51] at h
                  by_cases q52 : q_5.1 = 9
                  · rw [if_pos q52] at h
                    by_cases q58 : v2 = (4 : Int32)
                    · rw [if_pos q58] at h
                      obtain ⟨b_55, h56, h⟩ := bd h
                      obtain ⟨q_53, h54, h⟩ := bd h
                      have eh54 := (t165 G l (c_I_some h54)).1
                      by_cases q57 : (2 : Int32) ≤ q_53.1
                      · rw [if_pos q57] at h
                        have e := lb173_184 G l  q_53.2 h
                        omega
                      · rw [if_neg q57] at h
                        have e := lb173_185 G l (1 : Int32) q_53.2 h
                        omega
                    · rw [if_neg q58] at h
                      have e := lb173_184 G l  q_5.2 h
                      omega
                  · rw [if_neg q52] at h
                    by_cases q59 : q_5.1 = 10
                    · rw [if_pos q59] at h
                      by_cases q60 : v2 = (1 : Int32)
                      · rw [if_pos q60] at h
                        have e := lb173_196 G l (1 : Int32) q_5.2 h
                        omega
                      · rw [if_neg q60] at h
                        have e := lb173_196 G l (0 : Int32) q_5.2 h
                        omega
                    · rw [if_neg q59] at h
                      by_cases q61 : q_5.1 = 11
                      · rw [if_pos q61] at h
                        by_cases q62 : v2 = (8 : Int32)
                        · rw [if_pos q62] at h
                          have e := lb173_208 G l (1 : Int32) q_5.2 h
                          omega
                        · rw [if_neg q62] at h
                          have e := lb173_208 G l (0 : Int32) q_5.2 h
                          omega
                      · rw [if_neg q61] at h
                        by_cases q63 : q_5.1 = 12
                        · rw [if_pos q63] at h
                          by_cases q65 : v2 = (1 : Int32)
                          · rw [if_pos q65] at h
                            by_cases q64 : (2 : Int32) ≤ q_1.1
                            · rw [if_pos q64] at h
                              have e := lb173_223 G l  q_5.2 h
                              omega
                            · rw [if_neg q64] at h
                              have e := lb173_224 G l (1 : Int32) q_5.2 h
                              omega
                          · rw [if_neg q65] at h
                            have e := lb173_223 G l  q_5.2 h
                            omega
                        · rw [if_neg q63] at h
                          obtain rfl := Option.some.inj h
                          show h_sz M ≤ h_sz q_5.2 ∧ h_sl M ≤ h_sl q_5.2
                          omega
section
variable {p : Program} {l : Launch} {e : Env} {s : State} {m : MethodId} {args : Array Value} {below : List Frame} {meth : Method} {c : Code} {G : gX} {z0 y0 : Nat} {r : Option aV} {M' : hM}
theorem sb173_94 (E : xE G p (xRm 2 (h_sz M' - z0) (h_sl M' - y0)) s m args c prog_14_method_10_code "ZonedFabricModel" z0 y0 (h_sz M') (h_sl M') 4) (B : xB ym173 (some FieldType.boolean) meth) (si0 : Int32) (M : hM) {res : xRes} (h : b173_94 si0 M = some res) (hN : xN (fun _ _ _ => False) r M' res) : xV G p l e (xRm 2 (h_sz M' - z0) (h_sl M' - y0)) s m args below meth c z0 y0 (h_sz M') (h_sl M') 4 (MQ below (xQc G r M') args s (h_sz M' - z0) (h_sl M' - y0) (xFr G)) 94 [] [.inl si0] M := by
  unfold b173_94 at h
  by_cases q66 : si0 = 0 ∨ si0 = 1
  · rw [if_pos q66] at h
    obtain rfl := Option.some.inj h
    obtain ⟨rfl, rfl⟩ := Prod.mk.inj (show ((some (.inl si0) : Option aV), M) = (r, M') from hN)
    exact xv_ri E B.1 (by rcases q66 with z | z <;> rw [z] <;> rfl) B.2.1 (show decode prog_14_method_10_code 94 = .ok (.ireturn, 1) by decide +kernel) rfl rfl
  · rw [if_neg q66] at h
    cases h
theorem sb173_93 (E : xE G p (xRm 2 (h_sz M' - z0) (h_sl M' - y0)) s m args c prog_14_method_10_code "ZonedFabricModel" z0 y0 (h_sz M') (h_sl M') 4) (B : xB ym173 (some FieldType.boolean) meth)  (M : hM) {res : xRes} (h : b173_93  M = some res) (hN : xN (fun _ _ _ => False) r M' res) : xV G p l e (xRm 2 (h_sz M' - z0) (h_sl M' - y0)) s m args below meth c z0 y0 (h_sz M') (h_sl M') 4 (MQ below (xQc G r M') args s (h_sz M' - z0) (h_sl M' - y0) (xFr G)) 93 [] [] M := by
  unfold b173_93 at h
  refine xv_b E [.iconst 0] (pc' := 94) (lv' := []) (st' := [.inl (0 : Int32)]) (by decide +kernel) rfl rfl ?_
  exact xv_w (sb173_94 E B (0 : Int32) M h hN) rfl
theorem sb173_120 (E : xE G p (xRm 2 (h_sz M' - z0) (h_sl M' - y0)) s m args c prog_14_method_10_code "ZonedFabricModel" z0 y0 (h_sz M') (h_sl M') 4) (B : xB ym173 (some FieldType.boolean) meth) (si0 : Int32) (M : hM) {res : xRes} (h : b173_120 si0 M = some res) (hN : xN (fun _ _ _ => False) r M' res) : xV G p l e (xRm 2 (h_sz M' - z0) (h_sl M' - y0)) s m args below meth c z0 y0 (h_sz M') (h_sl M') 4 (MQ below (xQc G r M') args s (h_sz M' - z0) (h_sl M' - y0) (xFr G)) 120 [] [.inl si0] M := by
  unfold b173_120 at h
  by_cases q67 : si0 = 0 ∨ si0 = 1
  · rw [if_pos q67] at h
    obtain rfl := Option.some.inj h
    obtain ⟨rfl, rfl⟩ := Prod.mk.inj (show ((some (.inl si0) : Option aV), M) = (r, M') from hN)
    exact xv_ri E B.1 (by rcases q67 with z | z <;> rw [z] <;> rfl) B.2.1 (show decode prog_14_method_10_code 120 = .ok (.ireturn, 1) by decide +kernel) rfl rfl
  · rw [if_neg q67] at h
    cases h
theorem sb173_119 (E : xE G p (xRm 2 (h_sz M' - z0) (h_sl M' - y0)) s m args c prog_14_method_10_code "ZonedFabricModel" z0 y0 (h_sz M') (h_sl M') 4) (B : xB ym173 (some FieldType.boolean) meth)  (M : hM) {res : xRes} (h : b173_119  M = some res) (hN : xN (fun _ _ _ => False) r M' res) : xV G p l e (xRm 2 (h_sz M' - z0) (h_sl M' - y0)) s m args below meth c z0 y0 (h_sz M') (h_sl M') 4 (MQ below (xQc G r M') args s (h_sz M' - z0) (h_sl M' - y0) (xFr G)) 119 [] [] M := by
  unfold b173_119 at h
  refine xv_b E [.iconst 0] (pc' := 120) (lv' := []) (st' := [.inl (0 : Int32)]) (by decide +kernel) rfl rfl ?_
  exact xv_w (sb173_120 E B (0 : Int32) M h hN) rfl
theorem sb173_163 (E : xE G p (xRm 2 (h_sz M' - z0) (h_sl M' - y0)) s m args c prog_14_method_10_code "ZonedFabricModel" z0 y0 (h_sz M') (h_sl M') 4) (B : xB ym173 (some FieldType.boolean) meth) (si0 : Int32) (M : hM) {res : xRes} (h : b173_163 si0 M = some res) (hN : xN (fun _ _ _ => False) r M' res) : xV G p l e (xRm 2 (h_sz M' - z0) (h_sl M' - y0)) s m args below meth c z0 y0 (h_sz M') (h_sl M') 4 (MQ below (xQc G r M') args s (h_sz M' - z0) (h_sl M' - y0) (xFr G)) 163 [] [.inl si0] M := by
  unfold b173_163 at h
  by_cases q68 : si0 = 0 ∨ si0 = 1
  · rw [if_pos q68] at h
    obtain rfl := Option.some.inj h
    obtain ⟨rfl, rfl⟩ := Prod.mk.inj (show ((some (.inl si0) : Option aV), M) = (r, M') from hN)
    exact xv_ri E B.1 (by rcases q68 with z | z <;> rw [z] <;> rfl) B.2.1 (show decode prog_14_method_10_code 163 = .ok (.ireturn, 1) by decide +kernel) rfl rfl
  · rw [if_neg q68] at h
    cases h
theorem sb173_158 (E : xE G p (xRm 2 (h_sz M' - z0) (h_sl M' - y0)) s m args c prog_14_method_10_code "ZonedFabricModel" z0 y0 (h_sz M') (h_sl M') 4) (B : xB ym173 (some FieldType.boolean) meth)  (M : hM) {res : xRes} (h : b173_158  M = some res) (hN : xN (fun _ _ _ => False) r M' res) : xV G p l e (xRm 2 (h_sz M' - z0) (h_sl M' - y0)) s m args below meth c z0 y0 (h_sz M') (h_sl M') 4 (MQ below (xQc G r M') args s (h_sz M' - z0) (h_sl M' - y0) (xFr G)) 158 [] [] M := by
  unfold b173_158 at h
  refine xv_b E [.iconst 1] (pc' := 159) (lv' := []) (st' := [.inl (1 : Int32)]) (by decide +kernel) rfl rfl ?_
  refine xv_goto E 163 (show decode prog_14_method_10_code 159 = .ok (.goto (4), 3) by decide +kernel) rfl ?_
  exact xv_w (sb173_163 E B (1 : Int32) M h hN) rfl
theorem sb173_162 (E : xE G p (xRm 2 (h_sz M' - z0) (h_sl M' - y0)) s m args c prog_14_method_10_code "ZonedFabricModel" z0 y0 (h_sz M') (h_sl M') 4) (B : xB ym173 (some FieldType.boolean) meth)  (M : hM) {res : xRes} (h : b173_162  M = some res) (hN : xN (fun _ _ _ => False) r M' res) : xV G p l e (xRm 2 (h_sz M' - z0) (h_sl M' - y0)) s m args below meth c z0 y0 (h_sz M') (h_sl M') 4 (MQ below (xQc G r M') args s (h_sz M' - z0) (h_sl M' - y0) (xFr G)) 162 [] [] M := by
  unfold b173_162 at h
  refine xv_b E [.iconst 0] (pc' := 163) (lv' := []) (st' := [.inl (0 : Int32)]) (by decide +kernel) rfl rfl ?_
  exact xv_w (sb173_163 E B (0 : Int32) M h hN) rfl
theorem sb173_185 (E : xE G p (xRm 2 (h_sz M' - z0) (h_sl M' - y0)) s m args c prog_14_method_10_code "ZonedFabricModel" z0 y0 (h_sz M') (h_sl M') 4) (B : xB ym173 (some FieldType.boolean) meth) (si0 : Int32) (M : hM) {res : xRes} (h : b173_185 si0 M = some res) (hN : xN (fun _ _ _ => False) r M' res) : xV G p l e (xRm 2 (h_sz M' - z0) (h_sl M' - y0)) s m args below meth c z0 y0 (h_sz M') (h_sl M') 4 (MQ below (xQc G r M') args s (h_sz M' - z0) (h_sl M' - y0) (xFr G)) 185 [] [.inl si0] M := by
  unfold b173_185 at h
  by_cases q69 : si0 = 0 ∨ si0 = 1
  · rw [if_pos q69] at h
    obtain rfl := Option.some.inj h
    obtain ⟨rfl, rfl⟩ := Prod.mk.inj (show ((some (.inl si0) : Option aV), M) = (r, M') from hN)
    exact xv_ri E B.1 (by rcases q69 with z | z <;> rw [z] <;> rfl) B.2.1 (show decode prog_14_method_10_code 185 = .ok (.ireturn, 1) by decide +kernel) rfl rfl
  · rw [if_neg q69] at h
    cases h
theorem sb173_184 (E : xE G p (xRm 2 (h_sz M' - z0) (h_sl M' - y0)) s m args c prog_14_method_10_code "ZonedFabricModel" z0 y0 (h_sz M') (h_sl M') 4) (B : xB ym173 (some FieldType.boolean) meth)  (M : hM) {res : xRes} (h : b173_184  M = some res) (hN : xN (fun _ _ _ => False) r M' res) : xV G p l e (xRm 2 (h_sz M' - z0) (h_sl M' - y0)) s m args below meth c z0 y0 (h_sz M') (h_sl M') 4 (MQ below (xQc G r M') args s (h_sz M' - z0) (h_sl M' - y0) (xFr G)) 184 [] [] M := by
  unfold b173_184 at h
  refine xv_b E [.iconst 0] (pc' := 185) (lv' := []) (st' := [.inl (0 : Int32)]) (by decide +kernel) rfl rfl ?_
  exact xv_w (sb173_185 E B (0 : Int32) M h hN) rfl
theorem sb173_196 (E : xE G p (xRm 2 (h_sz M' - z0) (h_sl M' - y0)) s m args c prog_14_method_10_code "ZonedFabricModel" z0 y0 (h_sz M') (h_sl M') 4) (B : xB ym173 (some FieldType.boolean) meth) (si0 : Int32) (M : hM) {res : xRes} (h : b173_196 si0 M = some res) (hN : xN (fun _ _ _ => False) r M' res) : xV G p l e (xRm 2 (h_sz M' - z0) (h_sl M' - y0)) s m args below meth c z0 y0 (h_sz M') (h_sl M') 4 (MQ below (xQc G r M') args s (h_sz M' - z0) (h_sl M' - y0) (xFr G)) 196 [] [.inl si0] M := by
  unfold b173_196 at h
  by_cases q70 : si0 = 0 ∨ si0 = 1
  · rw [if_pos q70] at h
    obtain rfl := Option.some.inj h
    obtain ⟨rfl, rfl⟩ := Prod.mk.inj (show ((some (.inl si0) : Option aV), M) = (r, M') from hN)
    exact xv_ri E B.1 (by rcases q70 with z | z <;> rw [z] <;> rfl) B.2.1 (show decode prog_14_method_10_code 196 = .ok (.ireturn, 1) by decide +kernel) rfl rfl
  · rw [if_neg q70] at h
    cases h
theorem sb173_208 (E : xE G p (xRm 2 (h_sz M' - z0) (h_sl M' - y0)) s m args c prog_14_method_10_code "ZonedFabricModel" z0 y0 (h_sz M') (h_sl M') 4) (B : xB ym173 (some FieldType.boolean) meth) (si0 : Int32) (M : hM) {res : xRes} (h : b173_208 si0 M = some res) (hN : xN (fun _ _ _ => False) r M' res) : xV G p l e (xRm 2 (h_sz M' - z0) (h_sl M' - y0)) s m args below meth c z0 y0 (h_sz M') (h_sl M') 4 (MQ below (xQc G r M') args s (h_sz M' - z0) (h_sl M' - y0) (xFr G)) 208 [] [.inl si0] M := by
  unfold b173_208 at h
  by_cases q71 : si0 = 0 ∨ si0 = 1
  · rw [if_pos q71] at h
    obtain rfl := Option.some.inj h
    obtain ⟨rfl, rfl⟩ := Prod.mk.inj (show ((some (.inl si0) : Option aV), M) = (r, M') from hN)
    exact xv_ri E B.1 (by rcases q71 with z | z <;> rw [z] <;> rfl) B.2.1 (show decode prog_14_method_10_code 208 = .ok (.ireturn, 1) by decide +kernel) rfl rfl
  · rw [if_neg q71] at h
    cases h
theorem sb173_224 (E : xE G p (xRm 2 (h_sz M' - z0) (h_sl M' - y0)) s m args c prog_14_method_10_code "ZonedFabricModel" z0 y0 (h_sz M') (h_sl M') 4) (B : xB ym173 (some FieldType.boolean) meth) (si0 : Int32) (M : hM) {res : xRes} (h : b173_224 si0 M = some res) (hN : xN (fun _ _ _ => False) r M' res) : xV G p l e (xRm 2 (h_sz M' - z0) (h_sl M' - y0)) s m args below meth c z0 y0 (h_sz M') (h_sl M') 4 (MQ below (xQc G r M') args s (h_sz M' - z0) (h_sl M' - y0) (xFr G)) 224 [] [.inl si0] M := by
  unfold b173_224 at h
  by_cases q72 : si0 = 0 ∨ si0 = 1
  · rw [if_pos q72] at h
    obtain rfl := Option.some.inj h
    obtain ⟨rfl, rfl⟩ := Prod.mk.inj (show ((some (.inl si0) : Option aV), M) = (r, M') from hN)
    exact xv_ri E B.1 (by rcases q72 with z | z <;> rw [z] <;> rfl) B.2.1 (show decode prog_14_method_10_code 224 = .ok (.ireturn, 1) by decide +kernel) rfl rfl
  · rw [if_neg q72] at h
    cases h
theorem sb173_223 (E : xE G p (xRm 2 (h_sz M' - z0) (h_sl M' - y0)) s m args c prog_14_method_10_code "ZonedFabricModel" z0 y0 (h_sz M') (h_sl M') 4) (B : xB ym173 (some FieldType.boolean) meth)  (M : hM) {res : xRes} (h : b173_223  M = some res) (hN : xN (fun _ _ _ => False) r M' res) : xV G p l e (xRm 2 (h_sz M' - z0) (h_sl M' - y0)) s m args below meth c z0 y0 (h_sz M') (h_sl M') 4 (MQ below (xQc G r M') args s (h_sz M' - z0) (h_sl M' - y0) (xFr G)) 223 [] [] M := by
  unfold b173_223 at h
  refine xv_b E [.iconst 0] (pc' := 224) (lv' := []) (st' := [.inl (0 : Int32)]) (by decide +kernel) rfl rfl ?_
  exact xv_w (sb173_224 E B (0 : Int32) M h hN) rfl
theorem sb173_0 (E : xE G p (xRm 2 (h_sz M' - z0) (h_sl M' - y0)) s m args c prog_14_method_10_code "ZonedFabricModel" z0 y0 (h_sz M') (h_sl M') 4) (B : xB ym173 (some FieldType.boolean) meth) (a0 : Nat) (v1 : Int32) (v2 : Int32) (M : hM) {res : xRes} (h : b173_0 a0 v1 v2 M = some res) (hN : xN (fun _ _ _ => False) r M' res) : xV G p l e (xRm 2 (h_sz M' - z0) (h_sl M' - y0)) s m args below meth c z0 y0 (h_sz M') (h_sl M') 4 (MQ below (xQc G r M') args s (h_sz M' - z0) (h_sl M' - y0) (xFr G)) 0 [(0, .inr (.inr (some a0))), (1, .inl v1), (2, .inl v2)] [] M := by
  unfold b173_0 at h
  refine xv_b E [.aload_n 0, .iload_n 1, .bipush 13] (pc' := 4) (lv' := [(0, .inr (.inr (some a0))), (1, .inl v1), (2, .inl v2)]) (st' := [.inl (13 : Int32), .inl v1, .inr (.inr (some a0))]) (by decide +kernel) rfl rfl ?_
  obtain ⟨b_3, h4, h⟩ := bd h
  obtain ⟨eh4, th4⟩ := g_o_some h4
  obtain ⟨q_1, h2, h⟩ := bd h
  refine xv_cvo E eh4 12 (as := [.inl v1, .inl (13 : Int32)]) (t165 G l (c_I_some h2)) cd165 mw927 mw928 mw929 (show decode prog_14_method_10_code 4 = .ok (.invokevirtual 186, 3) by decide +kernel) th4 rfl rfl (Nat.le_of_ble_eq_true rfl) ⟨Nat.le_of_ble_eq_true rfl, Nat.le_of_ble_eq_true rfl⟩ ?_
  refine xv_b E [.istore_n 3, .aload_n 0, .iload_n 1, .iconst 0] (pc' := 11) (lv' := [(3, .inl q_1.1), (0, .inr (.inr (some a0))), (1, .inl v1), (2, .inl v2)]) (st' := [.inl (0 : Int32), .inl v1, .inr (.inr (some a0))]) (by decide +kernel) rfl rfl ?_
  obtain ⟨b_7, h8, h⟩ := bd h
  obtain ⟨eh8, th8⟩ := g_o_some h8
  obtain ⟨q_5, h6, h⟩ := bd h
  refine xv_cvo E eh8 12 (as := [.inl v1, .inl (0 : Int32)]) (t165 G l (c_I_some h6)) cd165 mw927 mw928 mw929 (show decode prog_14_method_10_code 11 = .ok (.invokevirtual 186, 3) by decide +kernel) th8 rfl rfl (Nat.le_of_ble_eq_true rfl) ⟨Nat.le_of_ble_eq_true rfl, Nat.le_of_ble_eq_true rfl⟩ ?_
  by_cases q9 : q_5.1 = 1
  · rw [if_pos q9] at h
    refine xv_tabIn E (off := 62) 76 (show decode prog_14_method_10_code 14 = .ok (.tableswitch (211) 1 12 #[62, 81, 88, 211, 88, 107, 88, 211, 150, 172, 183, 195], 62) by decide +kernel) (by rw [q9]; decide) (by rw [q9]; decide) (by rw [q9]; rfl) rfl ?_
    refine xv_b E [.iload_n 2, .iconst 1] (pc' := 78) (lv' := [(3, .inl q_1.1), (0, .inr (.inr (some a0))), (1, .inl v1), (2, .inl v2)]) (st' := [.inl (1 : Int32), .inl v2]) (by decide +kernel) rfl rfl ?_
    by_cases q13 : v2 = (1 : Int32)
    · rw [if_pos q13] at h
      refine xv_icmp_ne E 93 (show decode prog_14_method_10_code 78 = .ok (.if_icmp .ne (15), 3) by decide +kernel) rfl (fun z => absurd q13 z) (fun _ => ?_)
      refine xv_b E [.iload_n 3, .aload_n 0] (pc' := 83) (lv' := [(3, .inl q_1.1), (0, .inr (.inr (some a0))), (1, .inl v1), (2, .inl v2)]) (st' := [.inr (.inr (some a0)), .inl q_1.1]) (by decide +kernel) rfl rfl ?_
      obtain ⟨v_10, h11, h⟩ := bd h
      refine xg_i E 12 0 h11 mw921 (show decode prog_14_method_10_code 83 = .ok (.getfield 173, 3) by decide +kernel) ?_
      by_cases q12 : v_10 ≤ q_1.1
      · rw [if_pos q12] at h
        refine xv_icmp_ge E 93 (show decode prog_14_method_10_code 86 = .ok (.if_icmp .ge (7), 3) by decide +kernel) rfl (fun _ => ?_) (fun z => absurd q12 z)
        exact xv_w (sb173_93 E B  q_5.2 h hN) rfl
      · rw [if_neg q12] at h
        refine xv_icmp_ge E 93 (show decode prog_14_method_10_code 86 = .ok (.if_icmp .ge (7), 3) by decide +kernel) rfl (fun z => absurd z q12) (fun _ => ?_)
        refine xv_b E [.iconst 1] (pc' := 90) (lv' := [(3, .inl q_1.1), (0, .inr (.inr (some a0))), (1, .inl v1), (2, .inl v2)]) (st' := [.inl (1 : Int32)]) (by decide +kernel) rfl rfl ?_
        refine xv_goto E 94 (show decode prog_14_method_10_code 90 = .ok (.goto (4), 3) by decide +kernel) rfl ?_
        exact xv_w (sb173_94 E B (1 : Int32) q_5.2 h hN) rfl
    · rw [if_neg q13] at h
      refine xv_icmp_ne E 93 (show decode prog_14_method_10_code 78 = .ok (.if_icmp .ne (15), 3) by decide +kernel) rfl (fun _ => ?_) (fun z => absurd z q13)
      exact xv_w (sb173_93 E B  q_5.2 h hN) rfl
  · rw [if_neg q9] at h
    by_cases q14 : q_5.1 = 2
    · rw [if_pos q14] at h
      refine xv_tabIn E (off := 81) 95 (show decode prog_14_method_10_code 14 = .ok (.tableswitch (211) 1 12 #[62, 81, 88, 211, 88, 107, 88, 211, 150, 172, 183, 195], 62) by decide +kernel) (by rw [q14]; decide) (by rw [q14]; decide) (by rw [q14]; rfl) rfl ?_
      refine xv_b E [.aload_n 0, .iload_n 1, .iload_n 2] (pc' := 98) (lv' := [(3, .inl q_1.1), (0, .inr (.inr (some a0))), (1, .inl v1), (2, .inl v2)]) (st' := [.inl v2, .inl v1, .inr (.inr (some a0))]) (by decide +kernel) rfl rfl ?_
      obtain ⟨b_17, h18, h⟩ := bd h
      obtain ⟨eh18, th18⟩ := g_o_some h18
      obtain ⟨q_15, h16, h⟩ := bd h
      refine xv_cvo E eh18 12 (as := [.inl v1, .inl v2]) (t172 G l (c_I_some h16)) cd172 mw944 mw945 mw946 (show decode prog_14_method_10_code 98 = .ok (.invokevirtual 206, 3) by decide +kernel) th18 rfl rfl (Nat.le_of_ble_eq_true rfl) ⟨Nat.le_of_ble_eq_true rfl, Nat.le_of_ble_eq_true rfl⟩ ?_
      by_cases q19 : q_15.1 = 0 ∨ q_15.1 = 1
      · rw [if_pos q19] at h
        obtain rfl := Option.some.inj h
        obtain ⟨rfl, rfl⟩ := Prod.mk.inj (show ((some (.inl q_15.1) : Option aV), q_15.2) = (r, M') from hN)
        exact xv_ri E B.1 (by rcases q19 with z | z <;> rw [z] <;> rfl) B.2.1 (show decode prog_14_method_10_code 101 = .ok (.ireturn, 1) by decide +kernel) rfl rfl
      · rw [if_neg q19] at h
        cases h
    · rw [if_neg q14] at h
      by_cases q20 : q_5.1 = 3
      · rw [if_pos q20] at h
        refine xv_tabIn E (off := 88) 102 (show decode prog_14_method_10_code 14 = .ok (.tableswitch (211) 1 12 #[62, 81, 88, 211, 88, 107, 88, 211, 150, 172, 183, 195], 62) by decide +kernel) (by rw [q20]; decide) (by rw [q20]; decide) (by rw [q20]; rfl) rfl ?_
        refine xv_b E [.iload_n 2, .iconst 1] (pc' := 104) (lv' := [(3, .inl q_1.1), (0, .inr (.inr (some a0))), (1, .inl v1), (2, .inl v2)]) (st' := [.inl (1 : Int32), .inl v2]) (by decide +kernel) rfl rfl ?_
        by_cases q24 : v2 = (1 : Int32)
        · rw [if_pos q24] at h
          refine xv_icmp_ne E 119 (show decode prog_14_method_10_code 104 = .ok (.if_icmp .ne (15), 3) by decide +kernel) rfl (fun z => absurd q24 z) (fun _ => ?_)
          refine xv_b E [.iload_n 3, .aload_n 0] (pc' := 109) (lv' := [(3, .inl q_1.1), (0, .inr (.inr (some a0))), (1, .inl v1), (2, .inl v2)]) (st' := [.inr (.inr (some a0)), .inl q_1.1]) (by decide +kernel) rfl rfl ?_
          obtain ⟨v_21, h22, h⟩ := bd h
          refine xg_i E 12 1 h22 mw922 (show decode prog_14_method_10_code 109 = .ok (.getfield 177, 3) by decide +kernel) ?_
          by_cases q23 : v_21 ≤ q_1.1
          · rw [if_pos q23] at h
            refine xv_icmp_ge E 119 (show decode prog_14_method_10_code 112 = .ok (.if_icmp .ge (7), 3) by decide +kernel) rfl (fun _ => ?_) (fun z => absurd q23 z)
            exact xv_w (sb173_119 E B  q_5.2 h hN) rfl
          · rw [if_neg q23] at h
            refine xv_icmp_ge E 119 (show decode prog_14_method_10_code 112 = .ok (.if_icmp .ge (7), 3) by decide +kernel) rfl (fun z => absurd z q23) (fun _ => ?_)
            refine xv_b E [.iconst 1] (pc' := 116) (lv' := [(3, .inl q_1.1), (0, .inr (.inr (some a0))), (1, .inl v1), (2, .inl v2)]) (st' := [.inl (1 : Int32)]) (by decide +kernel) rfl rfl ?_
            refine xv_goto E 120 (show decode prog_14_method_10_code 116 = .ok (.goto (4), 3) by decide +kernel) rfl ?_
            exact xv_w (sb173_120 E B (1 : Int32) q_5.2 h hN) rfl
        · rw [if_neg q24] at h
          refine xv_icmp_ne E 119 (show decode prog_14_method_10_code 104 = .ok (.if_icmp .ne (15), 3) by decide +kernel) rfl (fun _ => ?_) (fun z => absurd z q24)
          exact xv_w (sb173_119 E B  q_5.2 h hN) rfl
      · rw [if_neg q20] at h
        by_cases q25 : q_5.1 = 4
        · rw [if_pos q25] at h
          refine xv_tabIn E (off := 211) 225 (show decode prog_14_method_10_code 14 = .ok (.tableswitch (211) 1 12 #[62, 81, 88, 211, 88, 107, 88, 211, 150, 172, 183, 195], 62) by decide +kernel) (by rw [q25]; decide) (by rw [q25]; decide) (by rw [q25]; rfl) rfl ?_
          refine xv_b E [.iconst 1] (pc' := 226) (lv' := [(3, .inl q_1.1), (0, .inr (.inr (some a0))), (1, .inl v1), (2, .inl v2)]) (st' := [.inl (1 : Int32)]) (by decide +kernel) rfl rfl ?_
          obtain rfl := Option.some.inj h
          obtain ⟨rfl, rfl⟩ := Prod.mk.inj (show ((some (.inl (1 : Int32)) : Option aV), q_5.2) = (r, M') from hN)
          exact xv_ri E B.1 rfl B.2.1 (show decode prog_14_method_10_code 226 = .ok (.ireturn, 1) by decide +kernel) rfl rfl
        · rw [if_neg q25] at h
          by_cases q26 : q_5.1 = 5
          · rw [if_pos q26] at h
            refine xv_tabIn E (off := 88) 102 (show decode prog_14_method_10_code 14 = .ok (.tableswitch (211) 1 12 #[62, 81, 88, 211, 88, 107, 88, 211, 150, 172, 183, 195], 62) by decide +kernel) (by rw [q26]; decide) (by rw [q26]; decide) (by rw [q26]; rfl) rfl ?_
            refine xv_b E [.iload_n 2, .iconst 1] (pc' := 104) (lv' := [(3, .inl q_1.1), (0, .inr (.inr (some a0))), (1, .inl v1), (2, .inl v2)]) (st' := [.inl (1 : Int32), .inl v2]) (by decide +kernel) rfl rfl ?_
            by_cases q30 : v2 = (1 : Int32)
            · rw [if_pos q30] at h
              refine xv_icmp_ne E 119 (show decode prog_14_method_10_code 104 = .ok (.if_icmp .ne (15), 3) by decide +kernel) rfl (fun z => absurd q30 z) (fun _ => ?_)
              refine xv_b E [.iload_n 3, .aload_n 0] (pc' := 109) (lv' := [(3, .inl q_1.1), (0, .inr (.inr (some a0))), (1, .inl v1), (2, .inl v2)]) (st' := [.inr (.inr (some a0)), .inl q_1.1]) (by decide +kernel) rfl rfl ?_
              obtain ⟨v_27, h28, h⟩ := bd h
              refine xg_i E 12 1 h28 mw922 (show decode prog_14_method_10_code 109 = .ok (.getfield 177, 3) by decide +kernel) ?_
              by_cases q29 : v_27 ≤ q_1.1
              · rw [if_pos q29] at h
                refine xv_icmp_ge E 119 (show decode prog_14_method_10_code 112 = .ok (.if_icmp .ge (7), 3) by decide +kernel) rfl (fun _ => ?_) (fun z => absurd q29 z)
                exact xv_w (sb173_119 E B  q_5.2 h hN) rfl
              · rw [if_neg q29] at h
                refine xv_icmp_ge E 119 (show decode prog_14_method_10_code 112 = .ok (.if_icmp .ge (7), 3) by decide +kernel) rfl (fun z => absurd z q29) (fun _ => ?_)
                refine xv_b E [.iconst 1] (pc' := 116) (lv' := [(3, .inl q_1.1), (0, .inr (.inr (some a0))), (1, .inl v1), (2, .inl v2)]) (st' := [.inl (1 : Int32)]) (by decide +kernel) rfl rfl ?_
                refine xv_goto E 120 (show decode prog_14_method_10_code 116 = .ok (.goto (4), 3) by decide +kernel) rfl ?_
                exact xv_w (sb173_120 E B (1 : Int32) q_5.2 h hN) rfl
            · rw [if_neg q30] at h
              refine xv_icmp_ne E 119 (show decode prog_14_method_10_code 104 = .ok (.if_icmp .ne (15), 3) by decide +kernel) rfl (fun _ => ?_) (fun z => absurd z q30)
              exact xv_w (sb173_119 E B  q_5.2 h hN) rfl
          · rw [if_neg q26] at h
            by_cases q31 : q_5.1 = 6
            · rw [if_pos q31] at h
              refine xv_tabIn E (off := 107) 121 (show decode prog_14_method_10_code 14 = .ok (.tableswitch (211) 1 12 #[62, 81, 88, 211, 88, 107, 88, 211, 150, 172, 183, 195], 62) by decide +kernel) (by rw [q31]; decide) (by rw [q31]; decide) (by rw [q31]; rfl) rfl ?_
              refine xv_b E [.iload_n 2, .iconst 4] (pc' := 123) (lv' := [(3, .inl q_1.1), (0, .inr (.inr (some a0))), (1, .inl v1), (2, .inl v2)]) (st' := [.inl (4 : Int32), .inl v2]) (by decide +kernel) rfl rfl ?_
              by_cases q45 : v2 = (4 : Int32)
              · rw [if_pos q45] at h
                refine xv_icmp_ne E 162 (show decode prog_14_method_10_code 123 = .ok (.if_icmp .ne (39), 3) by decide +kernel) rfl (fun z => absurd q45 z) (fun _ => ?_)
                refine xv_b E [.iload_n 3, .aload_n 0] (pc' := 128) (lv' := [(3, .inl q_1.1), (0, .inr (.inr (some a0))), (1, .inl v1), (2, .inl v2)]) (st' := [.inr (.inr (some a0)), .inl q_1.1]) (by decide +kernel) rfl rfl ?_
                obtain ⟨v_32, h33, h⟩ := bd h
                refine xg_i E 12 1 h33 mw922 (show decode prog_14_method_10_code 128 = .ok (.getfield 177, 3) by decide +kernel) ?_
                by_cases q44 : v_32 ≤ q_1.1
                · rw [if_pos q44] at h
                  refine xv_icmp_ge E 162 (show decode prog_14_method_10_code 131 = .ok (.if_icmp .ge (31), 3) by decide +kernel) rfl (fun _ => ?_) (fun z => absurd q44 z)
                  exact xv_w (sb173_162 E B  q_5.2 h hN) rfl
                · rw [if_neg q44] at h
                  refine xv_icmp_ge E 162 (show decode prog_14_method_10_code 131 = .ok (.if_icmp .ge (31), 3) by decide +kernel) rfl (fun z => absurd z q44) (fun _ => ?_)
                  refine xv_b E [.aload_n 0, .iload_n 1, .bipush 14, .iconst 3] (pc' := 139) (lv' := [(3, .inl q_1.1), (0, .inr (.inr (some a0))), (1, .inl v1), (2, .inl v2)]) (st' := [.inl (3 : Int32), .inl (14 : Int32), .inl v1, .inr (.inr (some a0))]) (by decide +kernel) rfl rfl ?_
                  obtain ⟨b_36, h37, h⟩ := bd h
                  obtain ⟨eh37, th37⟩ := g_o_some h37
                  obtain ⟨q_34, h35, h⟩ := bd h
                  refine xv_cvo E eh37 12 (as := [.inl v1, .inl (14 : Int32), .inl (3 : Int32)]) (t166 G l (c_I_some h35)) cd166 mw947 mw948 mw949 (show decode prog_14_method_10_code 139 = .ok (.invokevirtual 198, 3) by decide +kernel) th37 rfl rfl (Nat.le_of_ble_eq_true rfl) ⟨Nat.le_of_ble_eq_true rfl, Nat.le_of_ble_eq_true rfl⟩ ?_
                  by_cases q43 : q_34.1 = 0
                  · rw [if_pos q43] at h
                    refine xv_if_eq E 158 (show decode prog_14_method_10_code 142 = .ok (.ifCond .eq (16), 3) by decide +kernel) rfl (fun _ => ?_) (fun z => absurd q43 z)
                    exact xv_w (sb173_158 E B  q_34.2 h hN) rfl
                  · rw [if_neg q43] at h
                    refine xv_if_eq E 158 (show decode prog_14_method_10_code 142 = .ok (.ifCond .eq (16), 3) by decide +kernel) rfl (fun z => absurd z q43) (fun _ => ?_)
                    refine xv_b E [.aload_n 0, .iload_n 1, .bipush 16] (pc' := 149) (lv' := [(3, .inl q_1.1), (0, .inr (.inr (some a0))), (1, .inl v1), (2, .inl v2)]) (st' := [.inl (16 : Int32), .inl v1, .inr (.inr (some a0))]) (by decide +kernel) rfl rfl ?_
                    obtain ⟨b_40, h41, h⟩ := bd h
                    obtain ⟨eh41, th41⟩ := g_o_some h41
                    obtain ⟨q_38, h39, h⟩ := bd h
                    refine xv_cvo E eh41 12 (as := [.inl v1, .inl (16 : Int32)]) (t165 G l (c_I_some h39)) cd165 mw927 mw928 mw929 (show decode prog_14_method_10_code 149 = .ok (.invokevirtual 186, 3) by decide +kernel) th41 rfl rfl (Nat.le_of_ble_eq_true rfl) ⟨Nat.le_of_ble_eq_true rfl, Nat.le_of_ble_eq_true rfl⟩ ?_
                    refine xv_b E [.iload_n 3, .iconst 1, .iadd] (pc' := 155) (lv' := [(3, .inl q_1.1), (0, .inr (.inr (some a0))), (1, .inl v1), (2, .inl v2)]) (st' := [.inl (q_1.1 + (1 : Int32)), .inl q_38.1]) (by decide +kernel) rfl rfl ?_
                    by_cases q42 : q_38.1 = (q_1.1 + (1 : Int32))
                    · rw [if_pos q42] at h
                      refine xv_icmp_ne E 162 (show decode prog_14_method_10_code 155 = .ok (.if_icmp .ne (7), 3) by decide +kernel) rfl (fun z => absurd q42 z) (fun _ => ?_)
                      exact xv_w (sb173_158 E B  q_38.2 h hN) rfl
                    · rw [if_neg q42] at h
                      refine xv_icmp_ne E 162 (show decode prog_14_method_10_code 155 = .ok (.if_icmp .ne (7), 3) by decide +kernel) rfl (fun _ => ?_) (fun z => absurd z q42)
                      exact xv_w (sb173_162 E B  q_38.2 h hN) rfl
              · rw [if_neg q45] at h
                refine xv_icmp_ne E 162 (show decode prog_14_method_10_code 123 = .ok (.if_icmp .ne (39), 3) by decide +kernel) rfl (fun _ => ?_) (fun z => absurd z q45)
                exact xv_w (sb173_162 E B  q_5.2 h hN) rfl
            · rw [if_neg q31] at h
              by_cases q46 : q_5.1 = 7
              · rw [if_pos q46] at h
                refine xv_tabIn E (off := 88) 102 (show decode prog_14_method_10_code 14 = .ok (.tableswitch (211) 1 12 #[62, 81, 88, 211, 88, 107, 88, 211, 150, 172, 183, 195], 62) by decide +kernel) (by rw [q46]; decide) (by rw [q46]; decide) (by rw [q46]; rfl) rfl ?_
                refine xv_b E [.iload_n 2, .iconst 1] (pc' := 104) (lv' := [(3, .inl q_1.1), (0, .inr (.inr (some a0))), (1, .inl v1), (2, .inl v2)]) (st' := [.inl (1 : Int32), .inl v2]) (by decide +kernel) rfl rfl ?_
                by_cases q50 : v2 = (1 : Int32)
                · rw [if_pos q50] at h
                  refine xv_icmp_ne E 119 (show decode prog_14_method_10_code 104 = .ok (.if_icmp .ne (15), 3) by decide +kernel) rfl (fun z => absurd q50 z) (fun _ => ?_)
                  refine xv_b E [.iload_n 3, .aload_n 0] (pc' := 109) (lv' := [(3, .inl q_1.1), (0, .inr (.inr (some a0))), (1, .inl v1), (2, .inl v2)]) (st' := [.inr (.inr (some a0)), .inl q_1.1]) (by decide +kernel) rfl rfl ?_
                  obtain ⟨v_47, h48, h⟩ := bd h
                  refine xg_i E 12 1 h48 mw922 (show decode prog_14_method_10_code 109 = .ok (.getfield 177, 3) by decide +kernel) ?_
                  by_cases q49 : v_47 ≤ q_1.1
                  · rw [if_pos q49] at h
                    refine xv_icmp_ge E 119 (show decode prog_14_method_10_code 112 = .ok (.if_icmp .ge (7), 3) by decide +kernel) rfl (fun _ => ?_) (fun z => absurd q49 z)
                    exact xv_w (sb173_119 E B  q_5.2 h hN) rfl
                  · rw [if_neg q49] at h
                    refine xv_icmp_ge E 119 (show decode prog_14_method_10_code 112 = .ok (.if_icmp .ge (7), 3) by decide +kernel) rfl (fun z => absurd z q49) (fun _ => ?_)
                    refine xv_b E [.iconst 1] (pc' := 116) (lv' := [(3, .inl q_1.1), (0, .inr (.inr (some a0))), (1, .inl v1), (2, .inl v2)]) (st' := [.inl (1 : Int32)]) (by decide +kernel) rfl rfl ?_
                    refine xv_goto E 120 (show decode prog_14_method_10_code 116 = .ok (.goto (4), 3) by decide +kernel) rfl ?_
                    exact xv_w (sb173_120 E B (1 : Int32) q_5.2 h hN) rfl
                · rw [if_neg q50] at h
                  refine xv_icmp_ne E 119 (show decode prog_14_method_10_code 104 = .ok (.if_icmp .ne (15), 3) by decide +kernel) rfl (fun _ => ?_) (fun z => absurd z q50)
                  exact xv_w (sb173_119 E B  q_5.2 h hN) rfl
              · rw [if_neg q46] at h
                by_cases q51 : q_5.1 = 8
                · rw [if_pos q51] at h
                  refine xv_tabIn E (off := 211) 225 (show decode prog_14_method_10_code 14 = .ok (.tableswitch (211) 1 12 #[62, 81, 88, 211, 88, 107, 88, 211, 150, 172, 183, 195], 62) by decide +kernel) (by rw [q51]; decide) (by rw [q51]; decide) (by rw [q51]; rfl) rfl ?_
                  refine xv_b E [.iconst 1] (pc' := 226) (lv' := [(3, .inl q_1.1), (0, .inr (.inr (some a0))), (1, .inl v1), (2, .inl v2)]) (st' := [.inl (1 : Int32)]) (by decide +kernel) rfl rfl ?_
                  obtain rfl := Option.some.inj h
                  obtain ⟨rfl, rfl⟩ := Prod.mk.inj (show ((some (.inl (1 : Int32)) : Option aV), q_5.2) = (r, M') from hN)
                  exact xv_ri E B.1 rfl B.2.1 (show decode prog_14_method_10_code 226 = .ok (.ireturn, 1) by decide +kernel) rfl rfl
                · rw [if_neg q51] at h
                  by_cases q52 : q_5.1 = 9
                  · rw [if_pos q52] at h
                    refine xv_tabIn E (off := 150) 164 (show decode prog_14_method_10_code 14 = .ok (.tableswitch (211) 1 12 #[62, 81, 88, 211, 88, 107, 88, 211, 150, 172, 183, 195], 62) by decide +kernel) (by rw [q52]; decide) (by rw [q52]; decide) (by rw [q52]; rfl) rfl ?_
                    refine xv_b E [.iload_n 2, .iconst 4] (pc' := 166) (lv' := [(3, .inl q_1.1), (0, .inr (.inr (some a0))), (1, .inl v1), (2, .inl v2)]) (st' := [.inl (4 : Int32), .inl v2]) (by decide +kernel) rfl rfl ?_
                    by_cases q58 : v2 = (4 : Int32)
                    · rw [if_pos q58] at h
                      refine xv_icmp_ne E 184 (show decode prog_14_method_10_code 166 = .ok (.if_icmp .ne (18), 3) by decide +kernel) rfl (fun z => absurd q58 z) (fun _ => ?_)
                      refine xv_b E [.aload_n 0, .iload_n 1, .bipush 14] (pc' := 173) (lv' := [(3, .inl q_1.1), (0, .inr (.inr (some a0))), (1, .inl v1), (2, .inl v2)]) (st' := [.inl (14 : Int32), .inl v1, .inr (.inr (some a0))]) (by decide +kernel) rfl rfl ?_
                      obtain ⟨b_55, h56, h⟩ := bd h
                      obtain ⟨eh56, th56⟩ := g_o_some h56
                      obtain ⟨q_53, h54, h⟩ := bd h
                      refine xv_cvo E eh56 12 (as := [.inl v1, .inl (14 : Int32)]) (t165 G l (c_I_some h54)) cd165 mw927 mw928 mw929 (show decode prog_14_method_10_code 173 = .ok (.invokevirtual 186, 3) by decide +kernel) th56 rfl rfl (Nat.le_of_ble_eq_true rfl) ⟨Nat.le_of_ble_eq_true rfl, Nat.le_of_ble_eq_true rfl⟩ ?_
                      refine xv_b E [.iconst 2] (pc' := 177) (lv' := [(3, .inl q_1.1), (0, .inr (.inr (some a0))), (1, .inl v1), (2, .inl v2)]) (st' := [.inl (2 : Int32), .inl q_53.1]) (by decide +kernel) rfl rfl ?_
                      by_cases q57 : (2 : Int32) ≤ q_53.1
                      · rw [if_pos q57] at h
                        refine xv_icmp_ge E 184 (show decode prog_14_method_10_code 177 = .ok (.if_icmp .ge (7), 3) by decide +kernel) rfl (fun _ => ?_) (fun z => absurd q57 z)
                        exact xv_w (sb173_184 E B  q_53.2 h hN) rfl
                      · rw [if_neg q57] at h
                        refine xv_icmp_ge E 184 (show decode prog_14_method_10_code 177 = .ok (.if_icmp .ge (7), 3) by decide +kernel) rfl (fun z => absurd z q57) (fun _ => ?_)
                        refine xv_b E [.iconst 1] (pc' := 181) (lv' := [(3, .inl q_1.1), (0, .inr (.inr (some a0))), (1, .inl v1), (2, .inl v2)]) (st' := [.inl (1 : Int32)]) (by decide +kernel) rfl rfl ?_
                        refine xv_goto E 185 (show decode prog_14_method_10_code 181 = .ok (.goto (4), 3) by decide +kernel) rfl ?_
                        exact xv_w (sb173_185 E B (1 : Int32) q_53.2 h hN) rfl
                    · rw [if_neg q58] at h
                      refine xv_icmp_ne E 184 (show decode prog_14_method_10_code 166 = .ok (.if_icmp .ne (18), 3) by decide +kernel) rfl (fun _ => ?_) (fun z => absurd z q58)
                      exact xv_w (sb173_184 E B  q_5.2 h hN) rfl
                  · rw [if_neg q52] at h
                    by_cases q59 : q_5.1 = 10
                    · rw [if_pos q59] at h
                      refine xv_tabIn E (off := 172) 186 (show decode prog_14_method_10_code 14 = .ok (.tableswitch (211) 1 12 #[62, 81, 88, 211, 88, 107, 88, 211, 150, 172, 183, 195], 62) by decide +kernel) (by rw [q59]; decide) (by rw [q59]; decide) (by rw [q59]; rfl) rfl ?_
                      refine xv_b E [.iload_n 2, .iconst 1] (pc' := 188) (lv' := [(3, .inl q_1.1), (0, .inr (.inr (some a0))), (1, .inl v1), (2, .inl v2)]) (st' := [.inl (1 : Int32), .inl v2]) (by decide +kernel) rfl rfl ?_
                      by_cases q60 : v2 = (1 : Int32)
                      · rw [if_pos q60] at h
                        refine xv_icmp_ne E 195 (show decode prog_14_method_10_code 188 = .ok (.if_icmp .ne (7), 3) by decide +kernel) rfl (fun z => absurd q60 z) (fun _ => ?_)
                        refine xv_b E [.iconst 1] (pc' := 192) (lv' := [(3, .inl q_1.1), (0, .inr (.inr (some a0))), (1, .inl v1), (2, .inl v2)]) (st' := [.inl (1 : Int32)]) (by decide +kernel) rfl rfl ?_
                        refine xv_goto E 196 (show decode prog_14_method_10_code 192 = .ok (.goto (4), 3) by decide +kernel) rfl ?_
                        exact xv_w (sb173_196 E B (1 : Int32) q_5.2 h hN) rfl
                      · rw [if_neg q60] at h
                        refine xv_icmp_ne E 195 (show decode prog_14_method_10_code 188 = .ok (.if_icmp .ne (7), 3) by decide +kernel) rfl (fun _ => ?_) (fun z => absurd z q60)
                        refine xv_b E [.iconst 0] (pc' := 196) (lv' := [(3, .inl q_1.1), (0, .inr (.inr (some a0))), (1, .inl v1), (2, .inl v2)]) (st' := [.inl (0 : Int32)]) (by decide +kernel) rfl rfl ?_
                        exact xv_w (sb173_196 E B (0 : Int32) q_5.2 h hN) rfl
                    · rw [if_neg q59] at h
                      by_cases q61 : q_5.1 = 11
                      · rw [if_pos q61] at h
                        refine xv_tabIn E (off := 183) 197 (show decode prog_14_method_10_code 14 = .ok (.tableswitch (211) 1 12 #[62, 81, 88, 211, 88, 107, 88, 211, 150, 172, 183, 195], 62) by decide +kernel) (by rw [q61]; decide) (by rw [q61]; decide) (by rw [q61]; rfl) rfl ?_
                        refine xv_b E [.iload_n 2, .bipush 8] (pc' := 200) (lv' := [(3, .inl q_1.1), (0, .inr (.inr (some a0))), (1, .inl v1), (2, .inl v2)]) (st' := [.inl (8 : Int32), .inl v2]) (by decide +kernel) rfl rfl ?_
                        by_cases q62 : v2 = (8 : Int32)
                        · rw [if_pos q62] at h
                          refine xv_icmp_ne E 207 (show decode prog_14_method_10_code 200 = .ok (.if_icmp .ne (7), 3) by decide +kernel) rfl (fun z => absurd q62 z) (fun _ => ?_)
                          refine xv_b E [.iconst 1] (pc' := 204) (lv' := [(3, .inl q_1.1), (0, .inr (.inr (some a0))), (1, .inl v1), (2, .inl v2)]) (st' := [.inl (1 : Int32)]) (by decide +kernel) rfl rfl ?_
                          refine xv_goto E 208 (show decode prog_14_method_10_code 204 = .ok (.goto (4), 3) by decide +kernel) rfl ?_
                          exact xv_w (sb173_208 E B (1 : Int32) q_5.2 h hN) rfl
                        · rw [if_neg q62] at h
                          refine xv_icmp_ne E 207 (show decode prog_14_method_10_code 200 = .ok (.if_icmp .ne (7), 3) by decide +kernel) rfl (fun _ => ?_) (fun z => absurd z q62)
                          refine xv_b E [.iconst 0] (pc' := 208) (lv' := [(3, .inl q_1.1), (0, .inr (.inr (some a0))), (1, .inl v1), (2, .inl v2)]) (st' := [.inl (0 : Int32)]) (by decide +kernel) rfl rfl ?_
                          exact xv_w (sb173_208 E B (0 : Int32) q_5.2 h hN) rfl
                      · rw [if_neg q61] at h
                        by_cases q63 : q_5.1 = 12
                        · rw [if_pos q63] at h
                          refine xv_tabIn E (off := 195) 209 (show decode prog_14_method_10_code 14 = .ok (.tableswitch (211) 1 12 #[62, 81, 88, 211, 88, 107, 88, 211, 150, 172, 183, 195], 62) by decide +kernel) (by rw [q63]; decide) (by rw [q63]; decide) (by rw [q63]; rfl) rfl ?_
                          refine xv_b E [.iload_n 2, .iconst 1] (pc' := 211) (lv' := [(3, .inl q_1.1), (0, .inr (.inr (some a0))), (1, .inl v1), (2, .inl v2)]) (st' := [.inl (1 : Int32), .inl v2]) (by decide +kernel) rfl rfl ?_
                          by_cases q65 : v2 = (1 : Int32)
                          · rw [if_pos q65] at h
                            refine xv_icmp_ne E 223 (show decode prog_14_method_10_code 211 = .ok (.if_icmp .ne (12), 3) by decide +kernel) rfl (fun z => absurd q65 z) (fun _ => ?_)
                            refine xv_b E [.iload_n 3, .iconst 2] (pc' := 216) (lv' := [(3, .inl q_1.1), (0, .inr (.inr (some a0))), (1, .inl v1), (2, .inl v2)]) (st' := [.inl (2 : Int32), .inl q_1.1]) (by decide +kernel) rfl rfl ?_
                            by_cases q64 : (2 : Int32) ≤ q_1.1
                            · rw [if_pos q64] at h
                              refine xv_icmp_ge E 223 (show decode prog_14_method_10_code 216 = .ok (.if_icmp .ge (7), 3) by decide +kernel) rfl (fun _ => ?_) (fun z => absurd q64 z)
                              exact xv_w (sb173_223 E B  q_5.2 h hN) rfl
                            · rw [if_neg q64] at h
                              refine xv_icmp_ge E 223 (show decode prog_14_method_10_code 216 = .ok (.if_icmp .ge (7), 3) by decide +kernel) rfl (fun z => absurd z q64) (fun _ => ?_)
                              refine xv_b E [.iconst 1] (pc' := 220) (lv' := [(3, .inl q_1.1), (0, .inr (.inr (some a0))), (1, .inl v1), (2, .inl v2)]) (st' := [.inl (1 : Int32)]) (by decide +kernel) rfl rfl ?_
                              refine xv_goto E 224 (show decode prog_14_method_10_code 220 = .ok (.goto (4), 3) by decide +kernel) rfl ?_
                              exact xv_w (sb173_224 E B (1 : Int32) q_5.2 h hN) rfl
                          · rw [if_neg q65] at h
                            refine xv_icmp_ne E 223 (show decode prog_14_method_10_code 211 = .ok (.if_icmp .ne (12), 3) by decide +kernel) rfl (fun _ => ?_) (fun z => absurd z q65)
                            exact xv_w (sb173_223 E B  q_5.2 h hN) rfl
                        · rw [if_neg q63] at h
                          refine xv_tabOut E 225 (show decode prog_14_method_10_code 14 = .ok (.tableswitch (211) 1 12 #[62, 81, 88, 211, 88, 107, 88, 211, 150, 172, 183, 195], 62) by decide +kernel) (sw_out (lo := 1) (hi := 12) (by decide) (by decide) (fun k h1 h2 => ?_)) rfl ?_
                          · rcases (show k = 1 ∨ k = 2 ∨ k = 3 ∨ k = 4 ∨ k = 5 ∨ k = 6 ∨ k = 7 ∨ k = 8 ∨ k = 9 ∨ k = 10 ∨ k = 11 ∨ k = 12 by omega) with rfl | rfl | rfl | rfl | rfl | rfl | rfl | rfl | rfl | rfl | rfl | rfl
                            · exact q9
                            · exact q14
                            · exact q20
                            · exact q25
                            · exact q26
                            · exact q31
                            · exact q46
                            · exact q51
                            · exact q52
                            · exact q59
                            · exact q61
                            · exact q63
                          · refine xv_b E [.iconst 1] (pc' := 226) (lv' := [(3, .inl q_1.1), (0, .inr (.inr (some a0))), (1, .inl v1), (2, .inl v2)]) (st' := [.inl (1 : Int32)]) (by decide +kernel) rfl rfl ?_
                            obtain rfl := Option.some.inj h
                            obtain ⟨rfl, rfl⟩ := Prod.mk.inj (show ((some (.inl (1 : Int32)) : Option aV), q_5.2) = (r, M') from hN)
                            exact xv_ri E B.1 rfl B.2.1 (show decode prog_14_method_10_code 226 = .ok (.ireturn, 1) by decide +kernel) rfl rfl
end
theorem t173 (G : gX) (l : Launch) {as : List aV} {M : hM} {r : Option aV} {M' : hM} (h : f173 as M = some (r, M')) : xM G l ym173 prog_14_method_10_code 4 (some FieldType.boolean) 2 as M r M' := by
  unfold f173 at h
  split at h
  · have h := x_out_ok h
    refine xM_of (by decide) (Nat.le_of_ble_eq_true rfl) (lb173_0 G l _ _ _ M h) ?_
    intro p e s m args below meth c E B
    exact sb173_0 E B _ _ _ M h rfl
  · cases h
/-! ZFModel.isTrue(I)Z -/
def ym174 : MethodName := ⟨"ZonedFabricModel", "isTrue", "(I)Z"⟩
theorem cd174 : xCd ym174 prog_14_method_9_code 3 (some FieldType.boolean) 1 := ⟨mw950, mw864, by decide, by decide, by decide +kernel⟩
def b174_65 (si0 : Int32) (M : hM) : Option xRes :=
  if si0 = 0 ∨ si0 = 1 then
    (some (.inl (some (.inl si0), M)))
  else
    none
def b174_64  (M : hM) : Option xRes :=
  b174_65 (0 : Int32) M
def b174_0 (a0 : Nat) (v1 : Int32) (M : hM) : Option xRes :=
  Option.bind (g_r M 12 7 (some a0)) fun o_1 =>
  Option.bind (al_i M 20 o_1 v1) fun v_3 =>
  Option.bind (g_r M 12 7 (some a0)) fun o_5 =>
  Option.bind (al_i M 20 o_5 v1) fun v_7 =>
  Option.bind (g_o M 12 (some a0)) fun b_11 =>
  Option.bind (c_I (f166 [.inr (.inr (some b_11)), .inl v1, .inl (v_7 - (4 : Int32)), .inl (4 : Int32)] M)) fun q_9 =>
  Option.bind (g_r q_9.2 12 7 (some a0)) fun o_13 =>
  Option.bind (al_i q_9.2 20 o_13 v1) fun v_15 =>
  Option.bind (g_o q_9.2 12 (some a0)) fun b_19 =>
  Option.bind (c_I (f169 [.inr (.inr (some b_19)), .inl v1, .inl (v_15 - (4 : Int32))] q_9.2)) fun q_17 =>
  if q_9.1 = q_17.1 then
    (Option.bind (g_o q_17.2 12 (some a0)) fun b_23 =>
    Option.bind (c_I (f165 [.inr (.inr (some b_23)), .inl v1, .inl (12 : Int32)] q_17.2)) fun q_21 =>
    if q_21.1 = (v_3 - (17 : Int32)) then
      (Option.bind (g_o q_21.2 12 (some a0)) fun b_27 =>
      Option.bind (c_I (f173 [.inr (.inr (some b_27)), .inl v1, .inl (v_3 - (17 : Int32))] q_21.2)) fun q_25 =>
      if q_25.1 = 0 then
        (b174_64  q_25.2)
      else
        (b174_65 (1 : Int32) q_25.2))
    else
      (b174_64  q_21.2))
  else
    (b174_64  q_17.2)
def f174 (as : List aV) (M : hM) : xO := match as with
  | [.inr (.inr (some a0)), .inl v1] => x_out (b174_0 a0 v1 M)
  | _ => none
theorem lb174_65 (G : gX) (l : Launch) (si0 : Int32) (M : hM) {res : xRes} (h : b174_65 si0 M = some res) : h_sz M ≤ r_sz res ∧ h_sl M ≤ r_sl res := by
  unfold b174_65 at h
  by_cases q32 : si0 = 0 ∨ si0 = 1
  · rw [if_pos q32] at h
    obtain rfl := Option.some.inj h
    show h_sz M ≤ h_sz M ∧ h_sl M ≤ h_sl M
    omega
  · rw [if_neg q32] at h
    cases h
theorem lb174_64 (G : gX) (l : Launch)  (M : hM) {res : xRes} (h : b174_64  M = some res) : h_sz M ≤ r_sz res ∧ h_sl M ≤ r_sl res := by
  unfold b174_64 at h
  have e := lb174_65 G l (0 : Int32) M h
  omega
theorem lb174_0 (G : gX) (l : Launch) (a0 : Nat) (v1 : Int32) (M : hM) {res : xRes} (h : b174_0 a0 v1 M = some res) : h_sz M ≤ r_sz res ∧ h_sl M ≤ r_sl res := by
  unfold b174_0 at h
  obtain ⟨o_1, h2, h⟩ := bd h
  obtain ⟨v_3, h4, h⟩ := bd h
  obtain ⟨o_5, h6, h⟩ := bd h
  obtain ⟨v_7, h8, h⟩ := bd h
  obtain ⟨b_11, h12, h⟩ := bd h
  obtain ⟨q_9, h10, h⟩ := bd h
  have eh10 := (t166 G l (c_I_some h10)).1
  obtain ⟨o_13, h14, h⟩ := bd h
  obtain ⟨v_15, h16, h⟩ := bd h
  obtain ⟨b_19, h20, h⟩ := bd h
  obtain ⟨q_17, h18, h⟩ := bd h
  have eh18 := (t169 G l (c_I_some h18)).1
  by_cases q31 : q_9.1 = q_17.1
  · rw [if_pos q31] at h
    obtain ⟨b_23, h24, h⟩ := bd h
    obtain ⟨q_21, h22, h⟩ := bd h
    have eh22 := (t165 G l (c_I_some h22)).1
    by_cases q30 : q_21.1 = (v_3 - (17 : Int32))
    · rw [if_pos q30] at h
      obtain ⟨b_27, h28, h⟩ := bd h
      obtain ⟨q_25, h26, h⟩ := bd h
      have eh26 := (t173 G l (c_I_some h26)).1
      by_cases q29 : q_25.1 = 0
      · rw [if_pos q29] at h
        have e := lb174_64 G l  q_25.2 h
        omega
      · rw [if_neg q29] at h
        have e := lb174_65 G l (1 : Int32) q_25.2 h
        omega
    · rw [if_neg q30] at h
      have e := lb174_64 G l  q_21.2 h
      omega
  · rw [if_neg q31] at h
    have e := lb174_64 G l  q_17.2 h
    omega
section
variable {p : Program} {l : Launch} {e : Env} {s : State} {m : MethodId} {args : Array Value} {below : List Frame} {meth : Method} {c : Code} {G : gX} {z0 y0 : Nat} {r : Option aV} {M' : hM}
theorem sb174_65 (E : xE G p (xRm 3 (h_sz M' - z0) (h_sl M' - y0)) s m args c prog_14_method_9_code "ZonedFabricModel" z0 y0 (h_sz M') (h_sl M') 3) (B : xB ym174 (some FieldType.boolean) meth) (si0 : Int32) (M : hM) {res : xRes} (h : b174_65 si0 M = some res) (hN : xN (fun _ _ _ => False) r M' res) : xV G p l e (xRm 3 (h_sz M' - z0) (h_sl M' - y0)) s m args below meth c z0 y0 (h_sz M') (h_sl M') 3 (MQ below (xQc G r M') args s (h_sz M' - z0) (h_sl M' - y0) (xFr G)) 65 [] [.inl si0] M := by
  unfold b174_65 at h
  by_cases q32 : si0 = 0 ∨ si0 = 1
  · rw [if_pos q32] at h
    obtain rfl := Option.some.inj h
    obtain ⟨rfl, rfl⟩ := Prod.mk.inj (show ((some (.inl si0) : Option aV), M) = (r, M') from hN)
    exact xv_ri E B.1 (by rcases q32 with z | z <;> rw [z] <;> rfl) B.2.1 (show decode prog_14_method_9_code 65 = .ok (.ireturn, 1) by decide +kernel) rfl rfl
  · rw [if_neg q32] at h
    cases h
theorem sb174_64 (E : xE G p (xRm 3 (h_sz M' - z0) (h_sl M' - y0)) s m args c prog_14_method_9_code "ZonedFabricModel" z0 y0 (h_sz M') (h_sl M') 3) (B : xB ym174 (some FieldType.boolean) meth)  (M : hM) {res : xRes} (h : b174_64  M = some res) (hN : xN (fun _ _ _ => False) r M' res) : xV G p l e (xRm 3 (h_sz M' - z0) (h_sl M' - y0)) s m args below meth c z0 y0 (h_sz M') (h_sl M') 3 (MQ below (xQc G r M') args s (h_sz M' - z0) (h_sl M' - y0) (xFr G)) 64 [] [] M := by
  unfold b174_64 at h
  refine xv_b E [.iconst 0] (pc' := 65) (lv' := []) (st' := [.inl (0 : Int32)]) (by decide +kernel) rfl rfl ?_
  exact xv_w (sb174_65 E B (0 : Int32) M h hN) rfl
theorem sb174_0 (E : xE G p (xRm 3 (h_sz M' - z0) (h_sl M' - y0)) s m args c prog_14_method_9_code "ZonedFabricModel" z0 y0 (h_sz M') (h_sl M') 3) (B : xB ym174 (some FieldType.boolean) meth) (a0 : Nat) (v1 : Int32) (M : hM) {res : xRes} (h : b174_0 a0 v1 M = some res) (hN : xN (fun _ _ _ => False) r M' res) : xV G p l e (xRm 3 (h_sz M' - z0) (h_sl M' - y0)) s m args below meth c z0 y0 (h_sz M') (h_sl M') 3 (MQ below (xQc G r M') args s (h_sz M' - z0) (h_sl M' - y0) (xFr G)) 0 [(0, .inr (.inr (some a0))), (1, .inl v1)] [] M := by
  unfold b174_0 at h
  refine xv_b E [.aload_n 0] (pc' := 1) (lv' := [(0, .inr (.inr (some a0))), (1, .inl v1)]) (st' := [.inr (.inr (some a0))]) (by decide +kernel) rfl rfl ?_
  obtain ⟨o_1, h2, h⟩ := bd h
  refine xg_r E 12 7 h2 mw868 (show decode prog_14_method_9_code 1 = .ok (.getfield 21, 3) by decide +kernel) ?_
  refine xv_b E [.iload_n 1] (pc' := 5) (lv' := [(0, .inr (.inr (some a0))), (1, .inl v1)]) (st' := [.inl v1, .inr (.inr o_1)]) (by decide +kernel) rfl rfl ?_
  obtain ⟨v_3, h4, h⟩ := bd h
  refine xa_i E h4 (show decode prog_14_method_9_code 5 = .ok (.iaload, 1) by decide +kernel) ?_
  refine xv_b E [.bipush 17, .isub, .istore_n 2, .aload_n 0, .iload_n 1, .aload_n 0] (pc' := 13) (lv' := [(2, .inl (v_3 - (17 : Int32))), (0, .inr (.inr (some a0))), (1, .inl v1)]) (st' := [.inr (.inr (some a0)), .inl v1, .inr (.inr (some a0))]) (by decide +kernel) rfl rfl ?_
  obtain ⟨o_5, h6, h⟩ := bd h
  refine xg_r E 12 7 h6 mw868 (show decode prog_14_method_9_code 13 = .ok (.getfield 21, 3) by decide +kernel) ?_
  refine xv_b E [.iload_n 1] (pc' := 17) (lv' := [(2, .inl (v_3 - (17 : Int32))), (0, .inr (.inr (some a0))), (1, .inl v1)]) (st' := [.inl v1, .inr (.inr o_5), .inl v1, .inr (.inr (some a0))]) (by decide +kernel) rfl rfl ?_
  obtain ⟨v_7, h8, h⟩ := bd h
  refine xa_i E h8 (show decode prog_14_method_9_code 17 = .ok (.iaload, 1) by decide +kernel) ?_
  refine xv_b E [.iconst 4, .isub, .iconst 4] (pc' := 21) (lv' := [(2, .inl (v_3 - (17 : Int32))), (0, .inr (.inr (some a0))), (1, .inl v1)]) (st' := [.inl (4 : Int32), .inl (v_7 - (4 : Int32)), .inl v1, .inr (.inr (some a0))]) (by decide +kernel) rfl rfl ?_
  obtain ⟨b_11, h12, h⟩ := bd h
  obtain ⟨eh12, th12⟩ := g_o_some h12
  obtain ⟨q_9, h10, h⟩ := bd h
  refine xv_cvo E eh12 12 (as := [.inl v1, .inl (v_7 - (4 : Int32)), .inl (4 : Int32)]) (t166 G l (c_I_some h10)) cd166 mw947 mw948 mw949 (show decode prog_14_method_9_code 21 = .ok (.invokevirtual 198, 3) by decide +kernel) th12 rfl rfl (Nat.le_of_ble_eq_true rfl) ⟨Nat.le_of_ble_eq_true rfl, Nat.le_of_ble_eq_true rfl⟩ ?_
  refine xv_b E [.aload_n 0, .iload_n 1, .aload_n 0] (pc' := 27) (lv' := [(2, .inl (v_3 - (17 : Int32))), (0, .inr (.inr (some a0))), (1, .inl v1)]) (st' := [.inr (.inr (some a0)), .inl v1, .inr (.inr (some a0)), .inl q_9.1]) (by decide +kernel) rfl rfl ?_
  obtain ⟨o_13, h14, h⟩ := bd h
  refine xg_r E 12 7 h14 mw868 (show decode prog_14_method_9_code 27 = .ok (.getfield 21, 3) by decide +kernel) ?_
  refine xv_b E [.iload_n 1] (pc' := 31) (lv' := [(2, .inl (v_3 - (17 : Int32))), (0, .inr (.inr (some a0))), (1, .inl v1)]) (st' := [.inl v1, .inr (.inr o_13), .inl v1, .inr (.inr (some a0)), .inl q_9.1]) (by decide +kernel) rfl rfl ?_
  obtain ⟨v_15, h16, h⟩ := bd h
  refine xa_i E h16 (show decode prog_14_method_9_code 31 = .ok (.iaload, 1) by decide +kernel) ?_
  refine xv_b E [.iconst 4, .isub] (pc' := 34) (lv' := [(2, .inl (v_3 - (17 : Int32))), (0, .inr (.inr (some a0))), (1, .inl v1)]) (st' := [.inl (v_15 - (4 : Int32)), .inl v1, .inr (.inr (some a0)), .inl q_9.1]) (by decide +kernel) rfl rfl ?_
  obtain ⟨b_19, h20, h⟩ := bd h
  obtain ⟨eh20, th20⟩ := g_o_some h20
  obtain ⟨q_17, h18, h⟩ := bd h
  refine xv_cvo E eh20 12 (as := [.inl v1, .inl (v_15 - (4 : Int32))]) (t169 G l (c_I_some h18)) cd169 mw938 mw939 mw940 (show decode prog_14_method_9_code 34 = .ok (.invokevirtual 194, 3) by decide +kernel) th20 rfl rfl (Nat.le_of_ble_eq_true rfl) ⟨Nat.le_of_ble_eq_true rfl, Nat.le_of_ble_eq_true rfl⟩ ?_
  by_cases q31 : q_9.1 = q_17.1
  · rw [if_pos q31] at h
    refine xv_icmp_ne E 64 (show decode prog_14_method_9_code 37 = .ok (.if_icmp .ne (27), 3) by decide +kernel) rfl (fun z => absurd q31 z) (fun _ => ?_)
    refine xv_b E [.aload_n 0, .iload_n 1, .bipush 12] (pc' := 44) (lv' := [(2, .inl (v_3 - (17 : Int32))), (0, .inr (.inr (some a0))), (1, .inl v1)]) (st' := [.inl (12 : Int32), .inl v1, .inr (.inr (some a0))]) (by decide +kernel) rfl rfl ?_
    obtain ⟨b_23, h24, h⟩ := bd h
    obtain ⟨eh24, th24⟩ := g_o_some h24
    obtain ⟨q_21, h22, h⟩ := bd h
    refine xv_cvo E eh24 12 (as := [.inl v1, .inl (12 : Int32)]) (t165 G l (c_I_some h22)) cd165 mw927 mw928 mw929 (show decode prog_14_method_9_code 44 = .ok (.invokevirtual 186, 3) by decide +kernel) th24 rfl rfl (Nat.le_of_ble_eq_true rfl) ⟨Nat.le_of_ble_eq_true rfl, Nat.le_of_ble_eq_true rfl⟩ ?_
    refine xv_b E [.iload_n 2] (pc' := 48) (lv' := [(2, .inl (v_3 - (17 : Int32))), (0, .inr (.inr (some a0))), (1, .inl v1)]) (st' := [.inl (v_3 - (17 : Int32)), .inl q_21.1]) (by decide +kernel) rfl rfl ?_
    by_cases q30 : q_21.1 = (v_3 - (17 : Int32))
    · rw [if_pos q30] at h
      refine xv_icmp_ne E 64 (show decode prog_14_method_9_code 48 = .ok (.if_icmp .ne (16), 3) by decide +kernel) rfl (fun z => absurd q30 z) (fun _ => ?_)
      refine xv_b E [.aload_n 0, .iload_n 1, .iload_n 2] (pc' := 54) (lv' := [(2, .inl (v_3 - (17 : Int32))), (0, .inr (.inr (some a0))), (1, .inl v1)]) (st' := [.inl (v_3 - (17 : Int32)), .inl v1, .inr (.inr (some a0))]) (by decide +kernel) rfl rfl ?_
      obtain ⟨b_27, h28, h⟩ := bd h
      obtain ⟨eh28, th28⟩ := g_o_some h28
      obtain ⟨q_25, h26, h⟩ := bd h
      refine xv_cvo E eh28 12 (as := [.inl v1, .inl (v_3 - (17 : Int32))]) (t173 G l (c_I_some h26)) cd173 mw951 mw952 mw953 (show decode prog_14_method_9_code 54 = .ok (.invokevirtual 202, 3) by decide +kernel) th28 rfl rfl (Nat.le_of_ble_eq_true rfl) ⟨Nat.le_of_ble_eq_true rfl, Nat.le_of_ble_eq_true rfl⟩ ?_
      by_cases q29 : q_25.1 = 0
      · rw [if_pos q29] at h
        refine xv_if_eq E 64 (show decode prog_14_method_9_code 57 = .ok (.ifCond .eq (7), 3) by decide +kernel) rfl (fun _ => ?_) (fun z => absurd q29 z)
        exact xv_w (sb174_64 E B  q_25.2 h hN) rfl
      · rw [if_neg q29] at h
        refine xv_if_eq E 64 (show decode prog_14_method_9_code 57 = .ok (.ifCond .eq (7), 3) by decide +kernel) rfl (fun z => absurd z q29) (fun _ => ?_)
        refine xv_b E [.iconst 1] (pc' := 61) (lv' := [(2, .inl (v_3 - (17 : Int32))), (0, .inr (.inr (some a0))), (1, .inl v1)]) (st' := [.inl (1 : Int32)]) (by decide +kernel) rfl rfl ?_
        refine xv_goto E 65 (show decode prog_14_method_9_code 61 = .ok (.goto (4), 3) by decide +kernel) rfl ?_
        exact xv_w (sb174_65 E B (1 : Int32) q_25.2 h hN) rfl
    · rw [if_neg q30] at h
      refine xv_icmp_ne E 64 (show decode prog_14_method_9_code 48 = .ok (.if_icmp .ne (16), 3) by decide +kernel) rfl (fun _ => ?_) (fun z => absurd z q30)
      exact xv_w (sb174_64 E B  q_21.2 h hN) rfl
  · rw [if_neg q31] at h
    refine xv_icmp_ne E 64 (show decode prog_14_method_9_code 37 = .ok (.if_icmp .ne (27), 3) by decide +kernel) rfl (fun _ => ?_) (fun z => absurd z q31)
    exact xv_w (sb174_64 E B  q_17.2 h hN) rfl
end
theorem t174 (G : gX) (l : Launch) {as : List aV} {M : hM} {r : Option aV} {M' : hM} (h : f174 as M = some (r, M')) : xM G l ym174 prog_14_method_9_code 3 (some FieldType.boolean) 3 as M r M' := by
  unfold f174 at h
  split at h
  · have h := x_out_ok h
    refine xM_of (by decide) (Nat.le_of_ble_eq_true rfl) (lb174_0 G l _ _ M h) ?_
    intro p e s m args below meth c E B
    exact sb174_0 E B _ _ M h rfl
  · cases h
/-! ZFModel.side(II)I -/
def ym175 : MethodName := ⟨"ZonedFabricModel", "side", "(II)I"⟩
theorem cd175 : xCd ym175 prog_14_method_12_code 3 (some FieldType.int) 2 := ⟨mw954, mw864, by decide, by decide, by decide +kernel⟩
def b175_0 (a0 : Nat) (v1 : Int32) (v2 : Int32) (M : hM) : Option xRes :=
  some (.inl (some (.inl (((8 : Int32) * v1) + v2)), M))
def f175 (as : List aV) (M : hM) : xO := match as with
  | [.inr (.inr (some a0)), .inl v1, .inl v2] => x_out (b175_0 a0 v1 v2 M)
  | _ => none
theorem lb175_0 (G : gX) (l : Launch) (a0 : Nat) (v1 : Int32) (v2 : Int32) (M : hM) {res : xRes} (h : b175_0 a0 v1 v2 M = some res) : h_sz M ≤ r_sz res ∧ h_sl M ≤ r_sl res := by
  unfold b175_0 at h
  obtain rfl := Option.some.inj h
  show h_sz M ≤ h_sz M ∧ h_sl M ≤ h_sl M
  omega
section
variable {p : Program} {l : Launch} {e : Env} {s : State} {m : MethodId} {args : Array Value} {below : List Frame} {meth : Method} {c : Code} {G : gX} {z0 y0 : Nat} {r : Option aV} {M' : hM}
theorem sb175_0 (E : xE G p (xRm 0 (h_sz M' - z0) (h_sl M' - y0)) s m args c prog_14_method_12_code "ZonedFabricModel" z0 y0 (h_sz M') (h_sl M') 3) (B : xB ym175 (some FieldType.int) meth) (a0 : Nat) (v1 : Int32) (v2 : Int32) (M : hM) {res : xRes} (h : b175_0 a0 v1 v2 M = some res) (hN : xN (fun _ _ _ => False) r M' res) : xV G p l e (xRm 0 (h_sz M' - z0) (h_sl M' - y0)) s m args below meth c z0 y0 (h_sz M') (h_sl M') 3 (MQ below (xQc G r M') args s (h_sz M' - z0) (h_sl M' - y0) (xFr G)) 0 [(0, .inr (.inr (some a0))), (1, .inl v1), (2, .inl v2)] [] M := by
  unfold b175_0 at h
  refine xv_b E [.bipush 8, .iload_n 1, .imul, .iload_n 2, .iadd] (pc' := 6) (lv' := [(0, .inr (.inr (some a0))), (1, .inl v1), (2, .inl v2)]) (st' := [.inl (((8 : Int32) * v1) + v2)]) (by decide +kernel) rfl rfl ?_
  obtain rfl := Option.some.inj h
  obtain ⟨rfl, rfl⟩ := Prod.mk.inj (show ((some (.inl (((8 : Int32) * v1) + v2)) : Option aV), M) = (r, M') from hN)
  exact xv_ri E B.1 rfl B.2.1 (show decode prog_14_method_12_code 6 = .ok (.ireturn, 1) by decide +kernel) rfl rfl
end
theorem t175 (G : gX) (l : Launch) {as : List aV} {M : hM} {r : Option aV} {M' : hM} (h : f175 as M = some (r, M')) : xM G l ym175 prog_14_method_12_code 3 (some FieldType.int) 0 as M r M' := by
  unfold f175 at h
  split at h
  · have h := x_out_ok h
    refine xM_of (by decide) (Nat.le_of_ble_eq_true rfl) (lb175_0 G l _ _ _ M h) ?_
    intro p e s m args below meth c E B
    exact sb175_0 E B _ _ _ M h rfl
  · cases h
/-! ZFModel.nodeSide(I)I -/
def ym176 : MethodName := ⟨"ZonedFabricModel", "nodeSide", "(I)I"⟩
theorem cd176 : xCd ym176 prog_14_method_13_code 2 (some FieldType.int) 1 := ⟨mw955, mw864, by decide, by decide, by decide +kernel⟩
def b176_0 (a0 : Nat) (v1 : Int32) (M : hM) : Option xRes :=
  some (.inl (some (.inl ((40 : Int32) + v1)), M))
def f176 (as : List aV) (M : hM) : xO := match as with
  | [.inr (.inr (some a0)), .inl v1] => x_out (b176_0 a0 v1 M)
  | _ => none
theorem lb176_0 (G : gX) (l : Launch) (a0 : Nat) (v1 : Int32) (M : hM) {res : xRes} (h : b176_0 a0 v1 M = some res) : h_sz M ≤ r_sz res ∧ h_sl M ≤ r_sl res := by
  unfold b176_0 at h
  obtain rfl := Option.some.inj h
  show h_sz M ≤ h_sz M ∧ h_sl M ≤ h_sl M
  omega
section
variable {p : Program} {l : Launch} {e : Env} {s : State} {m : MethodId} {args : Array Value} {below : List Frame} {meth : Method} {c : Code} {G : gX} {z0 y0 : Nat} {r : Option aV} {M' : hM}
theorem sb176_0 (E : xE G p (xRm 0 (h_sz M' - z0) (h_sl M' - y0)) s m args c prog_14_method_13_code "ZonedFabricModel" z0 y0 (h_sz M') (h_sl M') 2) (B : xB ym176 (some FieldType.int) meth) (a0 : Nat) (v1 : Int32) (M : hM) {res : xRes} (h : b176_0 a0 v1 M = some res) (hN : xN (fun _ _ _ => False) r M' res) : xV G p l e (xRm 0 (h_sz M' - z0) (h_sl M' - y0)) s m args below meth c z0 y0 (h_sz M') (h_sl M') 2 (MQ below (xQc G r M') args s (h_sz M' - z0) (h_sl M' - y0) (xFr G)) 0 [(0, .inr (.inr (some a0))), (1, .inl v1)] [] M := by
  unfold b176_0 at h
  refine xv_b E [.bipush 40, .iload_n 1, .iadd] (pc' := 4) (lv' := [(0, .inr (.inr (some a0))), (1, .inl v1)]) (st' := [.inl ((40 : Int32) + v1)]) (by decide +kernel) rfl rfl ?_
  obtain rfl := Option.some.inj h
  obtain ⟨rfl, rfl⟩ := Prod.mk.inj (show ((some (.inl ((40 : Int32) + v1)) : Option aV), M) = (r, M') from hN)
  exact xv_ri E B.1 rfl B.2.1 (show decode prog_14_method_13_code 4 = .ok (.ireturn, 1) by decide +kernel) rfl rfl
end
theorem t176 (G : gX) (l : Launch) {as : List aV} {M : hM} {r : Option aV} {M' : hM} (h : f176 as M = some (r, M')) : xM G l ym176 prog_14_method_13_code 2 (some FieldType.int) 0 as M r M' := by
  unfold f176 at h
  split at h
  · have h := x_out_ok h
    refine xM_of (by decide) (Nat.le_of_ble_eq_true rfl) (lb176_0 G l _ _ M h) ?_
    intro p e s m args below meth c E B
    exact sb176_0 E B _ _ M h rfl
  · cases h
/-! ZFModel.isUp(I)Z -/
def ym177 : MethodName := ⟨"ZonedFabricModel", "isUp", "(I)Z"⟩
theorem cd177 : xCd ym177 prog_14_method_14_code 2 (some FieldType.boolean) 1 := ⟨mw956, mw864, by decide, by decide, by decide +kernel⟩
def b177_29 (si0 : Int32) (M : hM) : Option xRes :=
  if si0 = 0 ∨ si0 = 1 then
    (some (.inl (some (.inl si0), M)))
  else
    none
def b177_28  (M : hM) : Option xRes :=
  b177_29 (0 : Int32) M
def b177_0 (a0 : Nat) (v1 : Int32) (M : hM) : Option xRes :=
  Option.bind (g_r M 12 14 (some a0)) fun o_1 =>
  Option.bind (al_i M 20 o_1 v1) fun v_3 =>
  if v_3 = (-1 : Int32) then
    (b177_28  M)
  else
    (Option.bind (g_r M 12 12 (some a0)) fun o_5 =>
    Option.bind (g_r M 12 14 (some a0)) fun o_7 =>
    Option.bind (al_i M 20 o_7 v1) fun v_9 =>
    Option.bind (al_i M 22 o_5 v_9) fun v_11 =>
    if v_11 = 0 then
      (b177_28  M)
    else
      (b177_29 (1 : Int32) M))
def f177 (as : List aV) (M : hM) : xO := match as with
  | [.inr (.inr (some a0)), .inl v1] => x_out (b177_0 a0 v1 M)
  | _ => none
theorem lb177_29 (G : gX) (l : Launch) (si0 : Int32) (M : hM) {res : xRes} (h : b177_29 si0 M = some res) : h_sz M ≤ r_sz res ∧ h_sl M ≤ r_sl res := by
  unfold b177_29 at h
  by_cases q15 : si0 = 0 ∨ si0 = 1
  · rw [if_pos q15] at h
    obtain rfl := Option.some.inj h
    show h_sz M ≤ h_sz M ∧ h_sl M ≤ h_sl M
    omega
  · rw [if_neg q15] at h
    cases h
theorem lb177_28 (G : gX) (l : Launch)  (M : hM) {res : xRes} (h : b177_28  M = some res) : h_sz M ≤ r_sz res ∧ h_sl M ≤ r_sl res := by
  unfold b177_28 at h
  have e := lb177_29 G l (0 : Int32) M h
  omega
theorem lb177_0 (G : gX) (l : Launch) (a0 : Nat) (v1 : Int32) (M : hM) {res : xRes} (h : b177_0 a0 v1 M = some res) : h_sz M ≤ r_sz res ∧ h_sl M ≤ r_sl res := by
  unfold b177_0 at h
  obtain ⟨o_1, h2, h⟩ := bd h
  obtain ⟨v_3, h4, h⟩ := bd h
  by_cases q14 : v_3 = (-1 : Int32)
  · rw [if_pos q14] at h
    have e := lb177_28 G l  M h
    omega
  · rw [if_neg q14] at h
    obtain ⟨o_5, h6, h⟩ := bd h
    obtain ⟨o_7, h8, h⟩ := bd h
    obtain ⟨v_9, h10, h⟩ := bd h
    obtain ⟨v_11, h12, h⟩ := bd h
    by_cases q13 : v_11 = 0
    · rw [if_pos q13] at h
      have e := lb177_28 G l  M h
      omega
    · rw [if_neg q13] at h
      have e := lb177_29 G l (1 : Int32) M h
      omega
section
variable {p : Program} {l : Launch} {e : Env} {s : State} {m : MethodId} {args : Array Value} {below : List Frame} {meth : Method} {c : Code} {G : gX} {z0 y0 : Nat} {r : Option aV} {M' : hM}
theorem sb177_29 (E : xE G p (xRm 0 (h_sz M' - z0) (h_sl M' - y0)) s m args c prog_14_method_14_code "ZonedFabricModel" z0 y0 (h_sz M') (h_sl M') 2) (B : xB ym177 (some FieldType.boolean) meth) (si0 : Int32) (M : hM) {res : xRes} (h : b177_29 si0 M = some res) (hN : xN (fun _ _ _ => False) r M' res) : xV G p l e (xRm 0 (h_sz M' - z0) (h_sl M' - y0)) s m args below meth c z0 y0 (h_sz M') (h_sl M') 2 (MQ below (xQc G r M') args s (h_sz M' - z0) (h_sl M' - y0) (xFr G)) 29 [] [.inl si0] M := by
  unfold b177_29 at h
  by_cases q15 : si0 = 0 ∨ si0 = 1
  · rw [if_pos q15] at h
    obtain rfl := Option.some.inj h
    obtain ⟨rfl, rfl⟩ := Prod.mk.inj (show ((some (.inl si0) : Option aV), M) = (r, M') from hN)
    exact xv_ri E B.1 (by rcases q15 with z | z <;> rw [z] <;> rfl) B.2.1 (show decode prog_14_method_14_code 29 = .ok (.ireturn, 1) by decide +kernel) rfl rfl
  · rw [if_neg q15] at h
    cases h
theorem sb177_28 (E : xE G p (xRm 0 (h_sz M' - z0) (h_sl M' - y0)) s m args c prog_14_method_14_code "ZonedFabricModel" z0 y0 (h_sz M') (h_sl M') 2) (B : xB ym177 (some FieldType.boolean) meth)  (M : hM) {res : xRes} (h : b177_28  M = some res) (hN : xN (fun _ _ _ => False) r M' res) : xV G p l e (xRm 0 (h_sz M' - z0) (h_sl M' - y0)) s m args below meth c z0 y0 (h_sz M') (h_sl M') 2 (MQ below (xQc G r M') args s (h_sz M' - z0) (h_sl M' - y0) (xFr G)) 28 [] [] M := by
  unfold b177_28 at h
  refine xv_b E [.iconst 0] (pc' := 29) (lv' := []) (st' := [.inl (0 : Int32)]) (by decide +kernel) rfl rfl ?_
  exact xv_w (sb177_29 E B (0 : Int32) M h hN) rfl
theorem sb177_0 (E : xE G p (xRm 0 (h_sz M' - z0) (h_sl M' - y0)) s m args c prog_14_method_14_code "ZonedFabricModel" z0 y0 (h_sz M') (h_sl M') 2) (B : xB ym177 (some FieldType.boolean) meth) (a0 : Nat) (v1 : Int32) (M : hM) {res : xRes} (h : b177_0 a0 v1 M = some res) (hN : xN (fun _ _ _ => False) r M' res) : xV G p l e (xRm 0 (h_sz M' - z0) (h_sl M' - y0)) s m args below meth c z0 y0 (h_sz M') (h_sl M') 2 (MQ below (xQc G r M') args s (h_sz M' - z0) (h_sl M' - y0) (xFr G)) 0 [(0, .inr (.inr (some a0))), (1, .inl v1)] [] M := by
  unfold b177_0 at h
  refine xv_b E [.aload_n 0] (pc' := 1) (lv' := [(0, .inr (.inr (some a0))), (1, .inl v1)]) (st' := [.inr (.inr (some a0))]) (by decide +kernel) rfl rfl ?_
  obtain ⟨o_1, h2, h⟩ := bd h
  refine xg_r E 12 14 h2 mw874 (show decode prog_14_method_14_code 1 = .ok (.getfield 37, 3) by decide +kernel) ?_
  refine xv_b E [.iload_n 1] (pc' := 5) (lv' := [(0, .inr (.inr (some a0))), (1, .inl v1)]) (st' := [.inl v1, .inr (.inr o_1)]) (by decide +kernel) rfl rfl ?_
  obtain ⟨v_3, h4, h⟩ := bd h
  refine xa_i E h4 (show decode prog_14_method_14_code 5 = .ok (.iaload, 1) by decide +kernel) ?_
  refine xv_b E [.iconst (-1)] (pc' := 7) (lv' := [(0, .inr (.inr (some a0))), (1, .inl v1)]) (st' := [.inl (-1 : Int32), .inl v_3]) (by decide +kernel) rfl rfl ?_
  by_cases q14 : v_3 = (-1 : Int32)
  · rw [if_pos q14] at h
    refine xv_icmp_eq E 28 (show decode prog_14_method_14_code 7 = .ok (.if_icmp .eq (21), 3) by decide +kernel) rfl (fun _ => ?_) (fun z => absurd q14 z)
    exact xv_w (sb177_28 E B  M h hN) rfl
  · rw [if_neg q14] at h
    refine xv_icmp_eq E 28 (show decode prog_14_method_14_code 7 = .ok (.if_icmp .eq (21), 3) by decide +kernel) rfl (fun z => absurd z q14) (fun _ => ?_)
    refine xv_b E [.aload_n 0] (pc' := 11) (lv' := [(0, .inr (.inr (some a0))), (1, .inl v1)]) (st' := [.inr (.inr (some a0))]) (by decide +kernel) rfl rfl ?_
    obtain ⟨o_5, h6, h⟩ := bd h
    refine xg_r E 12 12 h6 mw873 (show decode prog_14_method_14_code 11 = .ok (.getfield 33, 3) by decide +kernel) ?_
    refine xv_b E [.aload_n 0] (pc' := 15) (lv' := [(0, .inr (.inr (some a0))), (1, .inl v1)]) (st' := [.inr (.inr (some a0)), .inr (.inr o_5)]) (by decide +kernel) rfl rfl ?_
    obtain ⟨o_7, h8, h⟩ := bd h
    refine xg_r E 12 14 h8 mw874 (show decode prog_14_method_14_code 15 = .ok (.getfield 37, 3) by decide +kernel) ?_
    refine xv_b E [.iload_n 1] (pc' := 19) (lv' := [(0, .inr (.inr (some a0))), (1, .inl v1)]) (st' := [.inl v1, .inr (.inr o_7), .inr (.inr o_5)]) (by decide +kernel) rfl rfl ?_
    obtain ⟨v_9, h10, h⟩ := bd h
    refine xa_i E h10 (show decode prog_14_method_14_code 19 = .ok (.iaload, 1) by decide +kernel) ?_
    obtain ⟨v_11, h12, h⟩ := bd h
    refine xa_z E h12 (show decode prog_14_method_14_code 20 = .ok (.baload, 1) by decide +kernel) ?_
    by_cases q13 : v_11 = 0
    · rw [if_pos q13] at h
      refine xv_if_eq E 28 (show decode prog_14_method_14_code 21 = .ok (.ifCond .eq (7), 3) by decide +kernel) rfl (fun _ => ?_) (fun z => absurd q13 z)
      exact xv_w (sb177_28 E B  M h hN) rfl
    · rw [if_neg q13] at h
      refine xv_if_eq E 28 (show decode prog_14_method_14_code 21 = .ok (.ifCond .eq (7), 3) by decide +kernel) rfl (fun z => absurd z q13) (fun _ => ?_)
      refine xv_b E [.iconst 1] (pc' := 25) (lv' := [(0, .inr (.inr (some a0))), (1, .inl v1)]) (st' := [.inl (1 : Int32)]) (by decide +kernel) rfl rfl ?_
      refine xv_goto E 29 (show decode prog_14_method_14_code 25 = .ok (.goto (4), 3) by decide +kernel) rfl ?_
      exact xv_w (sb177_29 E B (1 : Int32) M h hN) rfl
end
theorem t177 (G : gX) (l : Launch) {as : List aV} {M : hM} {r : Option aV} {M' : hM} (h : f177 as M = some (r, M')) : xM G l ym177 prog_14_method_14_code 2 (some FieldType.boolean) 0 as M r M' := by
  unfold f177 at h
  split at h
  · have h := x_out_ok h
    refine xM_of (by decide) (Nat.le_of_ble_eq_true rfl) (lb177_0 G l _ _ M h) ?_
    intro p e s m args below meth c E B
    exact sb177_0 E B _ _ M h rfl
  · cases h
/-! ZFModel.other(I)I -/
def ym178 : MethodName := ⟨"ZonedFabricModel", "other", "(I)I"⟩
theorem cd178 : xCd ym178 prog_14_method_15_code 3 (some FieldType.int) 1 := ⟨mw957, mw864, by decide, by decide, by decide +kernel⟩
def b178_40 (si0 : Int32) (M : hM) : Option xRes :=
  some (.inl (some (.inl si0), M))
def b178_0 (a0 : Nat) (v1 : Int32) (M : hM) : Option xRes :=
  Option.bind (g_r M 12 14 (some a0)) fun o_1 =>
  Option.bind (al_i M 20 o_1 v1) fun v_3 =>
  Option.bind (g_r M 12 10 (some a0)) fun o_5 =>
  Option.bind (al_i M 20 o_5 ((2 : Int32) * v_3)) fun v_7 =>
  if v_7 = v1 then
    (Option.bind (g_r M 12 10 (some a0)) fun o_13 =>
    Option.bind (al_i M 20 o_13 (((2 : Int32) * v_3) + (1 : Int32))) fun v_15 =>
    b178_40 v_15 M)
  else
    (Option.bind (g_r M 12 10 (some a0)) fun o_9 =>
    Option.bind (al_i M 20 o_9 ((2 : Int32) * v_3)) fun v_11 =>
    b178_40 v_11 M)
def f178 (as : List aV) (M : hM) : xO := match as with
  | [.inr (.inr (some a0)), .inl v1] => x_out (b178_0 a0 v1 M)
  | _ => none
theorem lb178_40 (G : gX) (l : Launch) (si0 : Int32) (M : hM) {res : xRes} (h : b178_40 si0 M = some res) : h_sz M ≤ r_sz res ∧ h_sl M ≤ r_sl res := by
  unfold b178_40 at h
  obtain rfl := Option.some.inj h
  show h_sz M ≤ h_sz M ∧ h_sl M ≤ h_sl M
  omega
theorem lb178_0 (G : gX) (l : Launch) (a0 : Nat) (v1 : Int32) (M : hM) {res : xRes} (h : b178_0 a0 v1 M = some res) : h_sz M ≤ r_sz res ∧ h_sl M ≤ r_sl res := by
  unfold b178_0 at h
  obtain ⟨o_1, h2, h⟩ := bd h
  obtain ⟨v_3, h4, h⟩ := bd h
  obtain ⟨o_5, h6, h⟩ := bd h
  obtain ⟨v_7, h8, h⟩ := bd h
  by_cases q17 : v_7 = v1
  · rw [if_pos q17] at h
    obtain ⟨o_13, h14, h⟩ := bd h
    obtain ⟨v_15, h16, h⟩ := bd h
    have e := lb178_40 G l v_15 M h
    omega
  · rw [if_neg q17] at h
    obtain ⟨o_9, h10, h⟩ := bd h
    obtain ⟨v_11, h12, h⟩ := bd h
    have e := lb178_40 G l v_11 M h
    omega
section
variable {p : Program} {l : Launch} {e : Env} {s : State} {m : MethodId} {args : Array Value} {below : List Frame} {meth : Method} {c : Code} {G : gX} {z0 y0 : Nat} {r : Option aV} {M' : hM}
theorem sb178_40 (E : xE G p (xRm 0 (h_sz M' - z0) (h_sl M' - y0)) s m args c prog_14_method_15_code "ZonedFabricModel" z0 y0 (h_sz M') (h_sl M') 3) (B : xB ym178 (some FieldType.int) meth) (si0 : Int32) (M : hM) {res : xRes} (h : b178_40 si0 M = some res) (hN : xN (fun _ _ _ => False) r M' res) : xV G p l e (xRm 0 (h_sz M' - z0) (h_sl M' - y0)) s m args below meth c z0 y0 (h_sz M') (h_sl M') 3 (MQ below (xQc G r M') args s (h_sz M' - z0) (h_sl M' - y0) (xFr G)) 40 [] [.inl si0] M := by
  unfold b178_40 at h
  obtain rfl := Option.some.inj h
  obtain ⟨rfl, rfl⟩ := Prod.mk.inj (show ((some (.inl si0) : Option aV), M) = (r, M') from hN)
  exact xv_ri E B.1 rfl B.2.1 (show decode prog_14_method_15_code 40 = .ok (.ireturn, 1) by decide +kernel) rfl rfl
theorem sb178_0 (E : xE G p (xRm 0 (h_sz M' - z0) (h_sl M' - y0)) s m args c prog_14_method_15_code "ZonedFabricModel" z0 y0 (h_sz M') (h_sl M') 3) (B : xB ym178 (some FieldType.int) meth) (a0 : Nat) (v1 : Int32) (M : hM) {res : xRes} (h : b178_0 a0 v1 M = some res) (hN : xN (fun _ _ _ => False) r M' res) : xV G p l e (xRm 0 (h_sz M' - z0) (h_sl M' - y0)) s m args below meth c z0 y0 (h_sz M') (h_sl M') 3 (MQ below (xQc G r M') args s (h_sz M' - z0) (h_sl M' - y0) (xFr G)) 0 [(0, .inr (.inr (some a0))), (1, .inl v1)] [] M := by
  unfold b178_0 at h
  refine xv_b E [.aload_n 0] (pc' := 1) (lv' := [(0, .inr (.inr (some a0))), (1, .inl v1)]) (st' := [.inr (.inr (some a0))]) (by decide +kernel) rfl rfl ?_
  obtain ⟨o_1, h2, h⟩ := bd h
  refine xg_r E 12 14 h2 mw874 (show decode prog_14_method_15_code 1 = .ok (.getfield 37, 3) by decide +kernel) ?_
  refine xv_b E [.iload_n 1] (pc' := 5) (lv' := [(0, .inr (.inr (some a0))), (1, .inl v1)]) (st' := [.inl v1, .inr (.inr o_1)]) (by decide +kernel) rfl rfl ?_
  obtain ⟨v_3, h4, h⟩ := bd h
  refine xa_i E h4 (show decode prog_14_method_15_code 5 = .ok (.iaload, 1) by decide +kernel) ?_
  refine xv_b E [.istore_n 2, .aload_n 0] (pc' := 8) (lv' := [(2, .inl v_3), (0, .inr (.inr (some a0))), (1, .inl v1)]) (st' := [.inr (.inr (some a0))]) (by decide +kernel) rfl rfl ?_
  obtain ⟨o_5, h6, h⟩ := bd h
  refine xg_r E 12 10 h6 mw870 (show decode prog_14_method_15_code 8 = .ok (.getfield 27, 3) by decide +kernel) ?_
  refine xv_b E [.iconst 2, .iload_n 2, .imul] (pc' := 14) (lv' := [(2, .inl v_3), (0, .inr (.inr (some a0))), (1, .inl v1)]) (st' := [.inl ((2 : Int32) * v_3), .inr (.inr o_5)]) (by decide +kernel) rfl rfl ?_
  obtain ⟨v_7, h8, h⟩ := bd h
  refine xa_i E h8 (show decode prog_14_method_15_code 14 = .ok (.iaload, 1) by decide +kernel) ?_
  refine xv_b E [.iload_n 1] (pc' := 16) (lv' := [(2, .inl v_3), (0, .inr (.inr (some a0))), (1, .inl v1)]) (st' := [.inl v1, .inl v_7]) (by decide +kernel) rfl rfl ?_
  by_cases q17 : v_7 = v1
  · rw [if_pos q17] at h
    refine xv_icmp_ne E 32 (show decode prog_14_method_15_code 16 = .ok (.if_icmp .ne (16), 3) by decide +kernel) rfl (fun z => absurd q17 z) (fun _ => ?_)
    refine xv_b E [.aload_n 0] (pc' := 20) (lv' := [(2, .inl v_3), (0, .inr (.inr (some a0))), (1, .inl v1)]) (st' := [.inr (.inr (some a0))]) (by decide +kernel) rfl rfl ?_
    obtain ⟨o_13, h14, h⟩ := bd h
    refine xg_r E 12 10 h14 mw870 (show decode prog_14_method_15_code 20 = .ok (.getfield 27, 3) by decide +kernel) ?_
    refine xv_b E [.iconst 2, .iload_n 2, .imul, .iconst 1, .iadd] (pc' := 28) (lv' := [(2, .inl v_3), (0, .inr (.inr (some a0))), (1, .inl v1)]) (st' := [.inl (((2 : Int32) * v_3) + (1 : Int32)), .inr (.inr o_13)]) (by decide +kernel) rfl rfl ?_
    obtain ⟨v_15, h16, h⟩ := bd h
    refine xa_i E h16 (show decode prog_14_method_15_code 28 = .ok (.iaload, 1) by decide +kernel) ?_
    refine xv_goto E 40 (show decode prog_14_method_15_code 29 = .ok (.goto (11), 3) by decide +kernel) rfl ?_
    exact xv_w (sb178_40 E B v_15 M h hN) rfl
  · rw [if_neg q17] at h
    refine xv_icmp_ne E 32 (show decode prog_14_method_15_code 16 = .ok (.if_icmp .ne (16), 3) by decide +kernel) rfl (fun _ => ?_) (fun z => absurd z q17)
    refine xv_b E [.aload_n 0] (pc' := 33) (lv' := [(2, .inl v_3), (0, .inr (.inr (some a0))), (1, .inl v1)]) (st' := [.inr (.inr (some a0))]) (by decide +kernel) rfl rfl ?_
    obtain ⟨o_9, h10, h⟩ := bd h
    refine xg_r E 12 10 h10 mw870 (show decode prog_14_method_15_code 33 = .ok (.getfield 27, 3) by decide +kernel) ?_
    refine xv_b E [.iconst 2, .iload_n 2, .imul] (pc' := 39) (lv' := [(2, .inl v_3), (0, .inr (.inr (some a0))), (1, .inl v1)]) (st' := [.inl ((2 : Int32) * v_3), .inr (.inr o_9)]) (by decide +kernel) rfl rfl ?_
    obtain ⟨v_11, h12, h⟩ := bd h
    refine xa_i E h12 (show decode prog_14_method_15_code 39 = .ok (.iaload, 1) by decide +kernel) ?_
    exact xv_w (sb178_40 E B v_11 M h hN) rfl
end
theorem t178 (G : gX) (l : Launch) {as : List aV} {M : hM} {r : Option aV} {M' : hM} (h : f178 as M = some (r, M')) : xM G l ym178 prog_14_method_15_code 3 (some FieldType.int) 0 as M r M' := by
  unfold f178 at h
  split at h
  · have h := x_out_ok h
    refine xM_of (by decide) (Nat.le_of_ble_eq_true rfl) (lb178_0 G l _ _ M h) ?_
    intro p e s m args below meth c E B
    exact sb178_0 E B _ _ M h rfl
  · cases h
