theorem mw1217 : Cond.code ⟨"ZonedFabricModel", "tick", "(I)I"⟩ prog_14_method_79_code 4 (some FieldType.int) ∈ xTs := xTs_in (tk6 (List.mem_of_getElem? (i := 210) rfl)) rfl
theorem mw1218 : Cond.methodLink "ZonedFabricModel" 426 ⟨"ZonedFabricModel", "ticks", "()I"⟩ ∈ xTs := xTs_in (tk6 (List.mem_of_getElem? (i := 211) (by decide +kernel))) rfl
theorem mw1219 : Cond.instanceMethod ⟨"ZonedFabricModel", "ticks", "()I"⟩ ∈ xTs := xTs_in (tk6 (List.mem_of_getElem? (i := 213) (by decide +kernel))) rfl
theorem mw1220 : Cond.selects "ZonedFabricModel" ⟨"ZonedFabricModel", "ticks", "()I"⟩ ⟨"ZonedFabricModel", "ticks", "()I"⟩ ∈ xTs := xTs_in (List.mem_append_left _ (List.mem_of_getElem? (i := 65) (by decide +kernel))) rfl
theorem mw1221 : Cond.code ⟨"ZonedFabricModel", "begin", "(IIIIIZ)I"⟩ prog_14_method_80_code 9 (some FieldType.int) ∈ xTs := xTs_in (tk7 (List.mem_of_getElem? (i := 233) rfl)) rfl
theorem mw1222 : Cond.code ⟨"ZonedFabricModel", "read", "(IIIII)I"⟩ prog_14_method_81_code 7 (some FieldType.int) ∈ xTs := xTs_in (tk7 (List.mem_of_getElem? (i := 229) rfl)) rfl
theorem mw1223 : Cond.methodLink "ZonedFabricModel" 430 ⟨"ZonedFabricModel", "begin", "(IIIIIZ)I"⟩ ∈ xTs := xTs_in (tk7 (List.mem_of_getElem? (i := 230) (by decide +kernel))) rfl
theorem mw1224 : Cond.instanceMethod ⟨"ZonedFabricModel", "begin", "(IIIIIZ)I"⟩ ∈ xTs := xTs_in (tk7 (List.mem_of_getElem? (i := 232) (by decide +kernel))) rfl
theorem mw1225 : Cond.selects "ZonedFabricModel" ⟨"ZonedFabricModel", "begin", "(IIIIIZ)I"⟩ ⟨"ZonedFabricModel", "begin", "(IIIIIZ)I"⟩ ∈ xTs := xTs_in (List.mem_append_left _ (List.mem_of_getElem? (i := 127) (by decide +kernel))) rfl
theorem mw1226 : Cond.code ⟨"ZonedFabricModel", "write", "(IIIIIJ)I"⟩ prog_14_method_82_code 10 (some FieldType.int) ∈ xTs := xTs_in (tk7 (List.mem_of_getElem? (i := 237) rfl)) rfl
theorem mw1227 : Cond.code ⟨"ZonedFabricModel", "isCommand", "(I)Z"⟩ prog_14_method_83_code 2 (some FieldType.boolean) ∈ xTs := xTs_in (tk8 (List.mem_of_getElem? (i := 5) rfl)) rfl
theorem mw1228 : Cond.code ⟨"ZonedFabricModel", "status", "(I)I"⟩ prog_14_method_84_code 2 (some FieldType.int) ∈ xTs := xTs_in (tk8 (List.mem_of_getElem? (i := 1) rfl)) rfl
theorem mw1229 : Cond.methodLink "ZonedFabricModel" 434 ⟨"ZonedFabricModel", "isCommand", "(I)Z"⟩ ∈ xTs := xTs_in (tk8 (List.mem_of_getElem? (i := 2) (by decide +kernel))) rfl
theorem mw1230 : Cond.instanceMethod ⟨"ZonedFabricModel", "isCommand", "(I)Z"⟩ ∈ xTs := xTs_in (tk8 (List.mem_of_getElem? (i := 4) (by decide +kernel))) rfl
theorem mw1231 : Cond.selects "ZonedFabricModel" ⟨"ZonedFabricModel", "isCommand", "(I)Z"⟩ ⟨"ZonedFabricModel", "isCommand", "(I)Z"⟩ ∈ xTs := xTs_in (List.mem_append_left _ (List.mem_of_getElem? (i := 128) (by decide +kernel))) rfl
theorem mw1232 : Cond.code ⟨"ZonedFabricModel", "got", "(II)J"⟩ prog_14_method_85_code 3 (some FieldType.long) ∈ xTs := xTs_in (tk8 (List.mem_of_getElem? (i := 9) rfl)) rfl
theorem mw1233 : Cond.code ⟨"ZonedFabricModel", "when", "(II)I"⟩ prog_14_method_86_code 3 (some FieldType.int) ∈ xTs := xTs_in (tk8 (List.mem_of_getElem? (i := 13) rfl)) rfl
theorem mw1234 : Cond.code ⟨"ZonedFabricModel", "block", "(III)J"⟩ prog_14_method_87_code 4 (some FieldType.long) ∈ xTs := xTs_in (tk8 (List.mem_of_getElem? (i := 17) rfl)) rfl
theorem mw1235 : Cond.constantLong "ZonedFabricModel" 439 (-9223372036854775808) ∈ xTs := xTs_in (tk8 (List.mem_of_getElem? (i := 18) (by decide +kernel))) rfl
theorem mw1236 : Cond.code ⟨"ZonedFabricModel", "way", "(II)I"⟩ prog_14_method_88_code 3 (some FieldType.int) ∈ xTs := xTs_in (tk8 (List.mem_of_getElem? (i := 22) rfl)) rfl
theorem mw1237 : Cond.code ⟨"ZonedFabricModel", "record", "(III)I"⟩ prog_14_method_89_code 4 (some FieldType.int) ∈ xTs := xTs_in (tk8 (List.mem_of_getElem? (i := 26) rfl)) rfl
theorem mw1238 : Cond.code ⟨"ZonedFabricModel", "port", "(III)I"⟩ prog_14_method_90_code 6 (some FieldType.int) ∈ xTs := xTs_in (tk8 (List.mem_of_getElem? (i := 30) rfl)) rfl
theorem mw1239 : Cond.code ⟨"ZonedFabricModel", "address", "(I)I"⟩ prog_14_method_91_code 2 (some FieldType.int) ∈ xTs := xTs_in (tk8 (List.mem_of_getElem? (i := 34) rfl)) rfl
theorem mw1240 : Cond.code ⟨"ZonedFabricModel", "frame", "(III)J"⟩ prog_14_method_92_code 8 (some FieldType.long) ∈ xTs := xTs_in (tk8 (List.mem_of_getElem? (i := 38) rfl)) rfl
theorem mw1241 : Cond.code ⟨"ZonedFabricModel", "count", "(I)I"⟩ prog_14_method_93_code 2 (some FieldType.int) ∈ xTs := xTs_in (tk8 (List.mem_of_getElem? (i := 42) rfl)) rfl
/-! ZFModel.tick(I)I -/
def ym242 : MethodName := ⟨"ZonedFabricModel", "tick", "(I)I"⟩
theorem cd242 : xCd ym242 prog_14_method_79_code 4 (some FieldType.int) 1 := ⟨mw1217, mw864, by decide, by decide, by decide +kernel⟩
def b242_11  (M : hM) : Option xRes :=
  some (.inl (some (.inl (-1 : Int32)), M))
def b242_0 (a0 : Nat) (v1 : Int32) (M : hM) : Option xRes :=
  if v1 < 0 then
    (b242_11  M)
  else
    (if v1 ≤ (300 : Int32) then
      (some (.inr (17, [.inr (.inr (some a0)), .inl v1, .inl (0 : Int32), .inl (0 : Int32)], M)))
    else
      (b242_11  M))
def b242_17 (a0 : Nat) (v1 : Int32) (v2 : Int32) (v3 : Int32) (M : hM) : Option xRes :=
  if v1 ≤ v3 then
    (some (.inl (some (.inl v2), M)))
  else
    (Option.bind (g_o M 12 (some a0)) fun b_5 =>
    Option.bind (c_I (f231 [.inr (.inr (some b_5))] M)) fun q_3 =>
    some (.inr (17, [.inr (.inr (some a0)), .inl v1, .inl (v2 + q_3.1), .inl (v3 + (1 : Int32))], q_3.2)))
def k242 (h : Nat) (as : List aV) (M : hM) : Option xRes :=
  if h = 17 then (match as with | [.inr (.inr (some a0)), .inl v1, .inl v2, .inl v3] => b242_17 a0 v1 v2 v3 M | _ => none) else
  none
def f242 (as : List aV) (M : hM) : xO := match as with
  | [.inr (.inr (some a0)), .inl v1] => x_go k242 (b242_0 a0 v1 M)
  | _ => none
theorem lb242_11 (G : gX) (l : Launch)  (M : hM) {res : xRes} (h : b242_11  M = some res) : h_sz M ≤ r_sz res ∧ h_sl M ≤ r_sl res := by
  unfold b242_11 at h
  obtain rfl := Option.some.inj h
  show h_sz M ≤ h_sz M ∧ h_sl M ≤ h_sl M
  omega
theorem lb242_0 (G : gX) (l : Launch) (a0 : Nat) (v1 : Int32) (M : hM) {res : xRes} (h : b242_0 a0 v1 M = some res) : h_sz M ≤ r_sz res ∧ h_sl M ≤ r_sl res := by
  unfold b242_0 at h
  by_cases q2 : v1 < 0
  · rw [if_pos q2] at h
    have e := lb242_11 G l  M h
    omega
  · rw [if_neg q2] at h
    by_cases q1 : v1 ≤ (300 : Int32)
    · rw [if_pos q1] at h
      obtain rfl := Option.some.inj h
      show h_sz M ≤ h_sz M ∧ h_sl M ≤ h_sl M
      omega
    · rw [if_neg q1] at h
      have e := lb242_11 G l  M h
      omega
theorem lb242_17 (G : gX) (l : Launch) (a0 : Nat) (v1 : Int32) (v2 : Int32) (v3 : Int32) (M : hM) {res : xRes} (h : b242_17 a0 v1 v2 v3 M = some res) : h_sz M ≤ r_sz res ∧ h_sl M ≤ r_sl res := by
  unfold b242_17 at h
  by_cases q7 : v1 ≤ v3
  · rw [if_pos q7] at h
    obtain rfl := Option.some.inj h
    show h_sz M ≤ h_sz M ∧ h_sl M ≤ h_sl M
    omega
  · rw [if_neg q7] at h
    obtain ⟨b_5, h6, h⟩ := bd h
    obtain ⟨q_3, h4, h⟩ := bd h
    have eh4 := (t231 G l (c_I_some h4)).1
    obtain rfl := Option.some.inj h
    show h_sz M ≤ h_sz q_3.2 ∧ h_sl M ≤ h_sl q_3.2
    omega
section
variable {p : Program} {l : Launch} {e : Env} {s : State} {m : MethodId} {args : Array Value} {below : List Frame} {meth : Method} {c : Code} {G : gX} {z0 y0 : Nat} {r : Option aV} {M' : hM}
def pg242 (p : Program) (l : Launch) (e : Env) (s : State) (m : MethodId) (args : Array Value) (below : List Frame) (meth : Method) (c : Code) (G : gX) (z0 y0 : Nat) (r : Option aV) (M' : hM) (h : Nat) (as : List aV) (M : hM) : Prop :=
  if h = 17 then (match as with | [.inr (.inr (some a0)), .inl v1, .inl v2, .inl v3] => xV G p l e (xRm 12 (h_sz M' - z0) (h_sl M' - y0)) s m args below meth c z0 y0 (h_sz M') (h_sl M') 4 (MQ below (xQc G r M') args s (h_sz M' - z0) (h_sl M' - y0) (xFr G)) 17 [(0, .inr (.inr (some a0))), (1, .inl v1), (2, .inl v2), (3, .inl v3)] [] M | _ => False) else
  False
theorem sb242_11 (E : xE G p (xRm 12 (h_sz M' - z0) (h_sl M' - y0)) s m args c prog_14_method_79_code "ZonedFabricModel" z0 y0 (h_sz M') (h_sl M') 4) (B : xB ym242 (some FieldType.int) meth)  (M : hM) {res : xRes} (h : b242_11  M = some res) (hN : xN (pg242 p l e s m args below meth c G z0 y0 r M') r M' res) : xV G p l e (xRm 12 (h_sz M' - z0) (h_sl M' - y0)) s m args below meth c z0 y0 (h_sz M') (h_sl M') 4 (MQ below (xQc G r M') args s (h_sz M' - z0) (h_sl M' - y0) (xFr G)) 11 [] [] M := by
  unfold b242_11 at h
  refine xv_b E [.iconst (-1)] (pc' := 12) (lv' := []) (st' := [.inl (-1 : Int32)]) (by decide +kernel) rfl rfl ?_
  obtain rfl := Option.some.inj h
  obtain ⟨rfl, rfl⟩ := Prod.mk.inj (show ((some (.inl (-1 : Int32)) : Option aV), M) = (r, M') from hN)
  exact xv_ri E B.1 rfl B.2.1 (show decode prog_14_method_79_code 12 = .ok (.ireturn, 1) by decide +kernel) rfl rfl
theorem sb242_0 (E : xE G p (xRm 12 (h_sz M' - z0) (h_sl M' - y0)) s m args c prog_14_method_79_code "ZonedFabricModel" z0 y0 (h_sz M') (h_sl M') 4) (B : xB ym242 (some FieldType.int) meth) (a0 : Nat) (v1 : Int32) (M : hM) {res : xRes} (h : b242_0 a0 v1 M = some res) (hN : xN (pg242 p l e s m args below meth c G z0 y0 r M') r M' res) : xV G p l e (xRm 12 (h_sz M' - z0) (h_sl M' - y0)) s m args below meth c z0 y0 (h_sz M') (h_sl M') 4 (MQ below (xQc G r M') args s (h_sz M' - z0) (h_sl M' - y0) (xFr G)) 0 [(0, .inr (.inr (some a0))), (1, .inl v1)] [] M := by
  unfold b242_0 at h
  refine xv_b E [.iload_n 1] (pc' := 1) (lv' := [(0, .inr (.inr (some a0))), (1, .inl v1)]) (st' := [.inl v1]) (by decide +kernel) rfl rfl ?_
  by_cases q2 : v1 < 0
  · rw [if_pos q2] at h
    refine xv_if_lt E 11 (show decode prog_14_method_79_code 1 = .ok (.ifCond .lt (10), 3) by decide +kernel) rfl (fun _ => ?_) (fun z => absurd q2 z)
    exact xv_w (sb242_11 E B  M h hN) rfl
  · rw [if_neg q2] at h
    refine xv_if_lt E 11 (show decode prog_14_method_79_code 1 = .ok (.ifCond .lt (10), 3) by decide +kernel) rfl (fun z => absurd z q2) (fun _ => ?_)
    refine xv_b E [.iload_n 1, .sipush 300] (pc' := 8) (lv' := [(0, .inr (.inr (some a0))), (1, .inl v1)]) (st' := [.inl (300 : Int32), .inl v1]) (by decide +kernel) rfl rfl ?_
    by_cases q1 : v1 ≤ (300 : Int32)
    · rw [if_pos q1] at h
      refine xv_icmp_le E 13 (show decode prog_14_method_79_code 8 = .ok (.if_icmp .le (5), 3) by decide +kernel) rfl (fun _ => ?_) (fun z => absurd q1 z)
      refine xv_b E [.iconst 0, .istore_n 2, .iconst 0, .istore_n 3] (pc' := 17) (lv' := [(3, .inl (0 : Int32)), (2, .inl (0 : Int32)), (0, .inr (.inr (some a0))), (1, .inl v1)]) (st' := []) (by decide +kernel) rfl rfl ?_
      obtain rfl := Option.some.inj h
      exact xv_w hN rfl
    · rw [if_neg q1] at h
      refine xv_icmp_le E 13 (show decode prog_14_method_79_code 8 = .ok (.if_icmp .le (5), 3) by decide +kernel) rfl (fun z => absurd z q1) (fun _ => ?_)
      exact xv_w (sb242_11 E B  M h hN) rfl
theorem sb242_17 (E : xE G p (xRm 12 (h_sz M' - z0) (h_sl M' - y0)) s m args c prog_14_method_79_code "ZonedFabricModel" z0 y0 (h_sz M') (h_sl M') 4) (B : xB ym242 (some FieldType.int) meth) (a0 : Nat) (v1 : Int32) (v2 : Int32) (v3 : Int32) (M : hM) {res : xRes} (h : b242_17 a0 v1 v2 v3 M = some res) (hN : xN (pg242 p l e s m args below meth c G z0 y0 r M') r M' res) : xV G p l e (xRm 12 (h_sz M' - z0) (h_sl M' - y0)) s m args below meth c z0 y0 (h_sz M') (h_sl M') 4 (MQ below (xQc G r M') args s (h_sz M' - z0) (h_sl M' - y0) (xFr G)) 17 [(0, .inr (.inr (some a0))), (1, .inl v1), (2, .inl v2), (3, .inl v3)] [] M := by
  unfold b242_17 at h
  refine xv_b E [.iload_n 3, .iload_n 1] (pc' := 19) (lv' := [(0, .inr (.inr (some a0))), (1, .inl v1), (2, .inl v2), (3, .inl v3)]) (st' := [.inl v1, .inl v3]) (by decide +kernel) rfl rfl ?_
  by_cases q7 : v1 ≤ v3
  · rw [if_pos q7] at h
    refine xv_icmp_ge E 35 (show decode prog_14_method_79_code 19 = .ok (.if_icmp .ge (16), 3) by decide +kernel) rfl (fun _ => ?_) (fun z => absurd q7 z)
    refine xv_b E [.iload_n 2] (pc' := 36) (lv' := [(0, .inr (.inr (some a0))), (1, .inl v1), (2, .inl v2), (3, .inl v3)]) (st' := [.inl v2]) (by decide +kernel) rfl rfl ?_
    obtain rfl := Option.some.inj h
    obtain ⟨rfl, rfl⟩ := Prod.mk.inj (show ((some (.inl v2) : Option aV), M) = (r, M') from hN)
    exact xv_ri E B.1 rfl B.2.1 (show decode prog_14_method_79_code 36 = .ok (.ireturn, 1) by decide +kernel) rfl rfl
  · rw [if_neg q7] at h
    refine xv_icmp_ge E 35 (show decode prog_14_method_79_code 19 = .ok (.if_icmp .ge (16), 3) by decide +kernel) rfl (fun z => absurd z q7) (fun _ => ?_)
    refine xv_b E [.iload_n 2, .aload_n 0] (pc' := 24) (lv' := [(0, .inr (.inr (some a0))), (1, .inl v1), (2, .inl v2), (3, .inl v3)]) (st' := [.inr (.inr (some a0)), .inl v2]) (by decide +kernel) rfl rfl ?_
    obtain ⟨b_5, h6, h⟩ := bd h
    obtain ⟨eh6, th6⟩ := g_o_some h6
    obtain ⟨q_3, h4, h⟩ := bd h
    refine xv_cvo E eh6 12 (as := []) (t231 G l (c_I_some h4)) cd231 mw1218 mw1219 mw1220 (show decode prog_14_method_79_code 24 = .ok (.invokevirtual 426, 3) by decide +kernel) th6 rfl rfl (Nat.le_of_ble_eq_true rfl) ⟨Nat.le_of_ble_eq_true rfl, Nat.le_of_ble_eq_true rfl⟩ ?_
    refine xv_b E [.iadd, .istore_n 2, .iinc 3 1] (pc' := 32) (lv' := [(3, .inl (v3 + (1 : Int32))), (2, .inl (v2 + q_3.1)), (0, .inr (.inr (some a0))), (1, .inl v1)]) (st' := []) (by decide +kernel) rfl rfl ?_
    refine xv_goto E 17 (show decode prog_14_method_79_code 32 = .ok (.goto (-15), 3) by decide +kernel) rfl ?_
    obtain rfl := Option.some.inj h
    exact xv_w hN rfl
end
theorem t242 (G : gX) (l : Launch) {as : List aV} {M : hM} {r : Option aV} {M' : hM} (h : f242 as M = some (r, M')) : xM G l ym242 prog_14_method_79_code 4 (some FieldType.int) 12 as M r M' := by
  unfold f242 at h
  split at h
  · have hle : ∀ h as M res, k242 h as M = some res → h_sz M ≤ r_sz res ∧ h_sl M ≤ r_sl res := by
      intro h as M res hb
      unfold k242 at hb
      by_cases e0 : h = 17
      · rw [if_pos e0] at hb
        split at hb
        · exact lb242_17 G l _ _ _ _ M hb
        · cases hb
      · rw [if_neg e0] at hb
        cases hb
    obtain ⟨res, hx, hres⟩ := x_go_ok h
    refine xM_of (by decide) (Nat.le_of_ble_eq_true rfl) ?_ ?_
    · have e1 := lb242_0 G l _ _ M hx
      have e2 := x_go_le hle hres
      omega
    · intro p e s m args below meth c E B
      refine sb242_0 E B _ _ M hx (hres _ ?_)
      intro h as M res hb hN
      unfold k242 at hb
      unfold pg242
      by_cases e0 : h = 17
      · rw [if_pos e0] at hb ⊢
        split at hb
        · exact sb242_17 E B _ _ _ _ M hb hN
        · cases hb
      · rw [if_neg e0] at hb ⊢
        cases hb
  · cases h
/-! ZFModel.begin(IIIIIZ)I -/
def ym243 : MethodName := ⟨"ZonedFabricModel", "begin", "(IIIIIZ)I"⟩
theorem cd243 : xCd ym243 prog_14_method_80_code 9 (some FieldType.int) 6 := ⟨mw1221, mw864, by decide, by decide, by decide +kernel⟩
def b243_95  (M : hM) : Option xRes :=
  some (.inl (some (.inl (-1 : Int32)), M))
def b243_0 (a0 : Nat) (v1 : Int32) (v2 : Int32) (v3 : Int32) (v4 : Int32) (v5 : Int32) (v6 : Int32) (M : hM) : Option xRes :=
  if v1 < 0 then
    (b243_95  M)
  else
    (Option.bind (g_i M 12 1 (some a0)) fun v_1 =>
    if v_1 ≤ v1 then
      (b243_95  M)
    else
      (if v2 < 0 then
        (b243_95  M)
      else
        (Option.bind (g_i M 12 1 (some a0)) fun v_3 =>
        if v_3 ≤ v2 then
          (b243_95  M)
        else
          (Option.bind (g_r M 12 33 (some a0)) fun o_5 =>
          Option.bind (al_i M 22 o_5 v1) fun v_7 =>
          if v_7 = 0 then
            (Option.bind (g_r M 12 33 (some a0)) fun o_9 =>
            Option.bind (al_i M 22 o_9 v2) fun v_11 =>
            if v_11 = 0 then
              (b243_95  M)
            else
              (if v3 < 0 then
                (b243_95  M)
              else
                (if (1 : Int32) < v3 then
                  (b243_95  M)
                else
                  (if v4 < 0 then
                    (b243_95  M)
                  else
                    (if (15 : Int32) < v4 then
                      (b243_95  M)
                    else
                      (if v5 < (1 : Int32) then
                        (b243_95  M)
                      else
                        (if (4 : Int32) < v5 then
                          (b243_95  M)
                        else
                          (if (16 : Int32) < (v4 + v5) then
                            (b243_95  M)
                          else
                            (Option.bind (g_i M 12 47 (some a0)) fun v_13 =>
                            if v_13 = (300 : Int32) then
                              (b243_95  M)
                            else
                              (some (.inr (103, [.inr (.inr (some a0)), .inl v1, .inl v2, .inl v3, .inl v4, .inl v5, .inl v6, .inl (0 : Int32), .inl (0 : Int32)], M))))))))))))
          else
            (b243_95  M)))))
def b243_137 (a0 : Nat) (v1 : Int32) (v2 : Int32) (v3 : Int32) (v4 : Int32) (v5 : Int32) (v6 : Int32) (v7 : Int32) (v8 : Int32) (M : hM) : Option xRes :=
  some (.inr (103, [.inr (.inr (some a0)), .inl v1, .inl v2, .inl v3, .inl v4, .inl v5, .inl v6, .inl v7, .inl (v8 + (1 : Int32))], M))
def b243_103 (a0 : Nat) (v1 : Int32) (v2 : Int32) (v3 : Int32) (v4 : Int32) (v5 : Int32) (v6 : Int32) (v7 : Int32) (v8 : Int32) (M : hM) : Option xRes :=
  Option.bind (g_i M 12 47 (some a0)) fun v_29 =>
  if v_29 ≤ v8 then
    (if v7 = (4 : Int32) then
      (some (.inl (some (.inl (-1 : Int32)), M)))
    else
      (Option.bind (g_i M 12 47 (some a0)) fun v_31 =>
      Option.bind (g_i M 12 47 (some a0)) fun v_33 =>
      Option.bind (p_i M 12 47 (some a0) (v_33 + (1 : Int32))) fun M35 =>
      Option.bind (g_r M35 12 34 (some a0)) fun o_37 =>
      Option.bind (as_z M35 22 o_37 v1 (1 : Int32)) fun M39 =>
      Option.bind (g_r M39 12 48 (some a0)) fun o_41 =>
      Option.bind (as_i M39 20 o_41 v_31 v1) fun M43 =>
      Option.bind (g_r M43 12 49 (some a0)) fun o_45 =>
      Option.bind (as_i M43 20 o_45 v_31 v2) fun M47 =>
      Option.bind (g_r M47 12 50 (some a0)) fun o_49 =>
      Option.bind (as_z M47 22 o_49 v_31 v6) fun M51 =>
      Option.bind (g_r M51 12 51 (some a0)) fun o_53 =>
      Option.bind (as_i M51 20 o_53 v_31 v3) fun M55 =>
      Option.bind (g_r M55 12 52 (some a0)) fun o_57 =>
      Option.bind (as_i M55 20 o_57 v_31 v4) fun M59 =>
      Option.bind (g_r M59 12 53 (some a0)) fun o_61 =>
      Option.bind (as_i M59 20 o_61 v_31 v5) fun M63 =>
      Option.bind (g_r M63 12 55 (some a0)) fun o_65 =>
      Option.bind (as_i M63 20 o_65 v_31 (0 : Int32)) fun M67 =>
      Option.bind (g_r M67 12 58 (some a0)) fun o_69 =>
      Option.bind (g_i M67 12 3 (some a0)) fun v_71 =>
      Option.bind (as_i M67 20 o_69 v_31 v_71) fun M73 =>
      Option.bind (g_r M73 12 59 (some a0)) fun o_75 =>
      Option.bind (as_i M73 20 o_75 v_31 (-1 : Int32)) fun M77 =>
      Option.bind (g_r M77 12 60 (some a0)) fun o_79 =>
      Option.bind (as_i M77 20 o_79 v_31 (-1 : Int32)) fun M81 =>
      some (.inl (some (.inl v_31), M81))))
  else
    (Option.bind (g_r M 12 48 (some a0)) fun o_84 =>
    Option.bind (al_i M 20 o_84 v8) fun v_86 =>
    if v_86 = v1 then
      (Option.bind (g_r M 12 59 (some a0)) fun o_88 =>
      Option.bind (al_i M 20 o_88 v8) fun v_90 =>
      if v_90 = (-1 : Int32) then
        (b243_137 a0 v1 v2 v3 v4 v5 v6 (v7 + (1 : Int32)) v8 M)
      else
        (b243_137 a0 v1 v2 v3 v4 v5 v6 v7 v8 M))
    else
      (b243_137 a0 v1 v2 v3 v4 v5 v6 v7 v8 M))
def k243 (h : Nat) (as : List aV) (M : hM) : Option xRes :=
  if h = 103 then (match as with | [.inr (.inr (some a0)), .inl v1, .inl v2, .inl v3, .inl v4, .inl v5, .inl v6, .inl v7, .inl v8] => b243_103 a0 v1 v2 v3 v4 v5 v6 v7 v8 M | _ => none) else
  none
def f243 (as : List aV) (M : hM) : xO := match as with
  | [.inr (.inr (some a0)), .inl v1, .inl v2, .inl v3, .inl v4, .inl v5, .inl v6] => x_go k243 (b243_0 a0 v1 v2 v3 v4 v5 v6 M)
  | _ => none
theorem lb243_95 (G : gX) (l : Launch)  (M : hM) {res : xRes} (h : b243_95  M = some res) : h_sz M ≤ r_sz res ∧ h_sl M ≤ r_sl res := by
  unfold b243_95 at h
  obtain rfl := Option.some.inj h
  show h_sz M ≤ h_sz M ∧ h_sl M ≤ h_sl M
  omega
theorem lb243_0 (G : gX) (l : Launch) (a0 : Nat) (v1 : Int32) (v2 : Int32) (v3 : Int32) (v4 : Int32) (v5 : Int32) (v6 : Int32) (M : hM) {res : xRes} (h : b243_0 a0 v1 v2 v3 v4 v5 v6 M = some res) : h_sz M ≤ r_sz res ∧ h_sl M ≤ r_sl res := by
  unfold b243_0 at h
  by_cases q28 : v1 < 0
  · rw [if_pos q28] at h
    have e := lb243_95 G l  M h
    omega
  · rw [if_neg q28] at h
    obtain ⟨v_1, h2, h⟩ := bd h
    by_cases q27 : v_1 ≤ v1
    · rw [if_pos q27] at h
      have e := lb243_95 G l  M h
      omega
    · rw [if_neg q27] at h
      by_cases q26 : v2 < 0
      · rw [if_pos q26] at h
        have e := lb243_95 G l  M h
        omega
      · rw [if_neg q26] at h
        obtain ⟨v_3, h4, h⟩ := bd h
        by_cases q25 : v_3 ≤ v2
        · rw [if_pos q25] at h
          have e := lb243_95 G l  M h
          omega
        · rw [if_neg q25] at h
          obtain ⟨o_5, h6, h⟩ := bd h
          obtain ⟨v_7, h8, h⟩ := bd h
          by_cases q24 : v_7 = 0
          · rw [if_pos q24] at h
            obtain ⟨o_9, h10, h⟩ := bd h
            obtain ⟨v_11, h12, h⟩ := bd h
            by_cases q23 : v_11 = 0
            · rw [if_pos q23] at h
              have e := lb243_95 G l  M h
              omega
            · rw [if_neg q23] at h
              by_cases q22 : v3 < 0
              · rw [if_pos q22] at h
                have e := lb243_95 G l  M h
                omega
              · rw [if_neg q22] at h
                by_cases q21 : (1 : Int32) < v3
                · rw [if_pos q21] at h
                  have e := lb243_95 G l  M h
                  omega
                · rw [if_neg q21] at h
                  by_cases q20 : v4 < 0
                  · rw [if_pos q20] at h
                    have e := lb243_95 G l  M h
                    omega
                  · rw [if_neg q20] at h
                    by_cases q19 : (15 : Int32) < v4
                    · rw [if_pos q19] at h
                      have e := lb243_95 G l  M h
                      omega
                    · rw [if_neg q19] at h
                      by_cases q18 : v5 < (1 : Int32)
                      · rw [if_pos q18] at h
                        have e := lb243_95 G l  M h
                        omega
                      · rw [if_neg q18] at h
                        by_cases q17 : (4 : Int32) < v5
                        · rw [if_pos q17] at h
                          have e := lb243_95 G l  M h
                          omega
                        · rw [if_neg q17] at h
                          by_cases q16 : (16 : Int32) < (v4 + v5)
                          · rw [if_pos q16] at h
                            have e := lb243_95 G l  M h
                            omega
                          · rw [if_neg q16] at h
                            obtain ⟨v_13, h14, h⟩ := bd h
                            by_cases q15 : v_13 = (300 : Int32)
                            · rw [if_pos q15] at h
                              have e := lb243_95 G l  M h
                              omega
                            · rw [if_neg q15] at h
                              obtain rfl := Option.some.inj h
                              show h_sz M ≤ h_sz M ∧ h_sl M ≤ h_sl M
                              omega
          · rw [if_neg q24] at h
            have e := lb243_95 G l  M h
            omega
theorem lb243_137 (G : gX) (l : Launch) (a0 : Nat) (v1 : Int32) (v2 : Int32) (v3 : Int32) (v4 : Int32) (v5 : Int32) (v6 : Int32) (v7 : Int32) (v8 : Int32) (M : hM) {res : xRes} (h : b243_137 a0 v1 v2 v3 v4 v5 v6 v7 v8 M = some res) : h_sz M ≤ r_sz res ∧ h_sl M ≤ r_sl res := by
  unfold b243_137 at h
  obtain rfl := Option.some.inj h
  show h_sz M ≤ h_sz M ∧ h_sl M ≤ h_sl M
  omega
theorem lb243_103 (G : gX) (l : Launch) (a0 : Nat) (v1 : Int32) (v2 : Int32) (v3 : Int32) (v4 : Int32) (v5 : Int32) (v6 : Int32) (v7 : Int32) (v8 : Int32) (M : hM) {res : xRes} (h : b243_103 a0 v1 v2 v3 v4 v5 v6 v7 v8 M = some res) : h_sz M ≤ r_sz res ∧ h_sl M ≤ r_sl res := by
  unfold b243_103 at h
  obtain ⟨v_29, h30, h⟩ := bd h
  by_cases q94 : v_29 ≤ v8
  · rw [if_pos q94] at h
    by_cases q83 : v7 = (4 : Int32)
    · rw [if_pos q83] at h
      obtain rfl := Option.some.inj h
      show h_sz M ≤ h_sz M ∧ h_sl M ≤ h_sl M
      omega
    · rw [if_neg q83] at h
      obtain ⟨v_31, h32, h⟩ := bd h
      obtain ⟨v_33, h34, h⟩ := bd h
      obtain ⟨M35, h36, h⟩ := bd h
      have eh36 := p_i_sz h36
      obtain ⟨o_37, h38, h⟩ := bd h
      obtain ⟨M39, h40, h⟩ := bd h
      have eh40 := as_z_sz h40
      obtain ⟨o_41, h42, h⟩ := bd h
      obtain ⟨M43, h44, h⟩ := bd h
      have eh44 := as_i_sz h44
      obtain ⟨o_45, h46, h⟩ := bd h
      obtain ⟨M47, h48, h⟩ := bd h
      have eh48 := as_i_sz h48
      obtain ⟨o_49, h50, h⟩ := bd h
      obtain ⟨M51, h52, h⟩ := bd h
      have eh52 := as_z_sz h52
      obtain ⟨o_53, h54, h⟩ := bd h
      obtain ⟨M55, h56, h⟩ := bd h
      have eh56 := as_i_sz h56
      obtain ⟨o_57, h58, h⟩ := bd h
      obtain ⟨M59, h60, h⟩ := bd h
      have eh60 := as_i_sz h60
      obtain ⟨o_61, h62, h⟩ := bd h
      obtain ⟨M63, h64, h⟩ := bd h
      have eh64 := as_i_sz h64
      obtain ⟨o_65, h66, h⟩ := bd h
      obtain ⟨M67, h68, h⟩ := bd h
      have eh68 := as_i_sz h68
      obtain ⟨o_69, h70, h⟩ := bd h
      obtain ⟨v_71, h72, h⟩ := bd h
      obtain ⟨M73, h74, h⟩ := bd h
      have eh74 := as_i_sz h74
      obtain ⟨o_75, h76, h⟩ := bd h
      obtain ⟨M77, h78, h⟩ := bd h
      have eh78 := as_i_sz h78
      obtain ⟨o_79, h80, h⟩ := bd h
      obtain ⟨M81, h82, h⟩ := bd h
      have eh82 := as_i_sz h82
      obtain rfl := Option.some.inj h
      show h_sz M ≤ h_sz M81 ∧ h_sl M ≤ h_sl M81
      omega
  · rw [if_neg q94] at h
    obtain ⟨o_84, h85, h⟩ := bd h
    obtain ⟨v_86, h87, h⟩ := bd h
    by_cases q93 : v_86 = v1
    · rw [if_pos q93] at h
      obtain ⟨o_88, h89, h⟩ := bd h
      obtain ⟨v_90, h91, h⟩ := bd h
      by_cases q92 : v_90 = (-1 : Int32)
      · rw [if_pos q92] at h
        have e := lb243_137 G l a0 v1 v2 v3 v4 v5 v6 (v7 + (1 : Int32)) v8 M h
        omega
      · rw [if_neg q92] at h
        have e := lb243_137 G l a0 v1 v2 v3 v4 v5 v6 v7 v8 M h
        omega
    · rw [if_neg q93] at h
      have e := lb243_137 G l a0 v1 v2 v3 v4 v5 v6 v7 v8 M h
      omega
section
variable {p : Program} {l : Launch} {e : Env} {s : State} {m : MethodId} {args : Array Value} {below : List Frame} {meth : Method} {c : Code} {G : gX} {z0 y0 : Nat} {r : Option aV} {M' : hM}
def pg243 (p : Program) (l : Launch) (e : Env) (s : State) (m : MethodId) (args : Array Value) (below : List Frame) (meth : Method) (c : Code) (G : gX) (z0 y0 : Nat) (r : Option aV) (M' : hM) (h : Nat) (as : List aV) (M : hM) : Prop :=
  if h = 103 then (match as with | [.inr (.inr (some a0)), .inl v1, .inl v2, .inl v3, .inl v4, .inl v5, .inl v6, .inl v7, .inl v8] => xV G p l e (xRm 0 (h_sz M' - z0) (h_sl M' - y0)) s m args below meth c z0 y0 (h_sz M') (h_sl M') 9 (MQ below (xQc G r M') args s (h_sz M' - z0) (h_sl M' - y0) (xFr G)) 103 [(0, .inr (.inr (some a0))), (1, .inl v1), (2, .inl v2), (3, .inl v3), (4, .inl v4), (5, .inl v5), (6, .inl v6), (7, .inl v7), (8, .inl v8)] [] M | _ => False) else
  False
theorem sb243_95 (E : xE G p (xRm 0 (h_sz M' - z0) (h_sl M' - y0)) s m args c prog_14_method_80_code "ZonedFabricModel" z0 y0 (h_sz M') (h_sl M') 9) (B : xB ym243 (some FieldType.int) meth)  (M : hM) {res : xRes} (h : b243_95  M = some res) (hN : xN (pg243 p l e s m args below meth c G z0 y0 r M') r M' res) : xV G p l e (xRm 0 (h_sz M' - z0) (h_sl M' - y0)) s m args below meth c z0 y0 (h_sz M') (h_sl M') 9 (MQ below (xQc G r M') args s (h_sz M' - z0) (h_sl M' - y0) (xFr G)) 95 [] [] M := by
  unfold b243_95 at h
  refine xv_b E [.iconst (-1)] (pc' := 96) (lv' := []) (st' := [.inl (-1 : Int32)]) (by decide +kernel) rfl rfl ?_
  obtain rfl := Option.some.inj h
  obtain ⟨rfl, rfl⟩ := Prod.mk.inj (show ((some (.inl (-1 : Int32)) : Option aV), M) = (r, M') from hN)
  exact xv_ri E B.1 rfl B.2.1 (show decode prog_14_method_80_code 96 = .ok (.ireturn, 1) by decide +kernel) rfl rfl
theorem sb243_0 (E : xE G p (xRm 0 (h_sz M' - z0) (h_sl M' - y0)) s m args c prog_14_method_80_code "ZonedFabricModel" z0 y0 (h_sz M') (h_sl M') 9) (B : xB ym243 (some FieldType.int) meth) (a0 : Nat) (v1 : Int32) (v2 : Int32) (v3 : Int32) (v4 : Int32) (v5 : Int32) (v6 : Int32) (M : hM) {res : xRes} (h : b243_0 a0 v1 v2 v3 v4 v5 v6 M = some res) (hN : xN (pg243 p l e s m args below meth c G z0 y0 r M') r M' res) : xV G p l e (xRm 0 (h_sz M' - z0) (h_sl M' - y0)) s m args below meth c z0 y0 (h_sz M') (h_sl M') 9 (MQ below (xQc G r M') args s (h_sz M' - z0) (h_sl M' - y0) (xFr G)) 0 [(0, .inr (.inr (some a0))), (1, .inl v1), (2, .inl v2), (3, .inl v3), (4, .inl v4), (5, .inl v5), (6, .inl v6)] [] M := by
  unfold b243_0 at h
  refine xv_b E [.iload_n 1] (pc' := 1) (lv' := [(0, .inr (.inr (some a0))), (1, .inl v1), (2, .inl v2), (3, .inl v3), (4, .inl v4), (5, .inl v5), (6, .inl v6)]) (st' := [.inl v1]) (by decide +kernel) rfl rfl ?_
  by_cases q28 : v1 < 0
  · rw [if_pos q28] at h
    refine xv_if_lt E 95 (show decode prog_14_method_80_code 1 = .ok (.ifCond .lt (94), 3) by decide +kernel) rfl (fun _ => ?_) (fun z => absurd q28 z)
    exact xv_w (sb243_95 E B  M h hN) rfl
  · rw [if_neg q28] at h
    refine xv_if_lt E 95 (show decode prog_14_method_80_code 1 = .ok (.ifCond .lt (94), 3) by decide +kernel) rfl (fun z => absurd z q28) (fun _ => ?_)
    refine xv_b E [.iload_n 1, .aload_n 0] (pc' := 6) (lv' := [(0, .inr (.inr (some a0))), (1, .inl v1), (2, .inl v2), (3, .inl v3), (4, .inl v4), (5, .inl v5), (6, .inl v6)]) (st' := [.inr (.inr (some a0)), .inl v1]) (by decide +kernel) rfl rfl ?_
    obtain ⟨v_1, h2, h⟩ := bd h
    refine xg_i E 12 1 h2 mw922 (show decode prog_14_method_80_code 6 = .ok (.getfield 177, 3) by decide +kernel) ?_
    by_cases q27 : v_1 ≤ v1
    · rw [if_pos q27] at h
      refine xv_icmp_ge E 95 (show decode prog_14_method_80_code 9 = .ok (.if_icmp .ge (86), 3) by decide +kernel) rfl (fun _ => ?_) (fun z => absurd q27 z)
      exact xv_w (sb243_95 E B  M h hN) rfl
    · rw [if_neg q27] at h
      refine xv_icmp_ge E 95 (show decode prog_14_method_80_code 9 = .ok (.if_icmp .ge (86), 3) by decide +kernel) rfl (fun z => absurd z q27) (fun _ => ?_)
      refine xv_b E [.iload_n 2] (pc' := 13) (lv' := [(0, .inr (.inr (some a0))), (1, .inl v1), (2, .inl v2), (3, .inl v3), (4, .inl v4), (5, .inl v5), (6, .inl v6)]) (st' := [.inl v2]) (by decide +kernel) rfl rfl ?_
      by_cases q26 : v2 < 0
      · rw [if_pos q26] at h
        refine xv_if_lt E 95 (show decode prog_14_method_80_code 13 = .ok (.ifCond .lt (82), 3) by decide +kernel) rfl (fun _ => ?_) (fun z => absurd q26 z)
        exact xv_w (sb243_95 E B  M h hN) rfl
      · rw [if_neg q26] at h
        refine xv_if_lt E 95 (show decode prog_14_method_80_code 13 = .ok (.ifCond .lt (82), 3) by decide +kernel) rfl (fun z => absurd z q26) (fun _ => ?_)
        refine xv_b E [.iload_n 2, .aload_n 0] (pc' := 18) (lv' := [(0, .inr (.inr (some a0))), (1, .inl v1), (2, .inl v2), (3, .inl v3), (4, .inl v4), (5, .inl v5), (6, .inl v6)]) (st' := [.inr (.inr (some a0)), .inl v2]) (by decide +kernel) rfl rfl ?_
        obtain ⟨v_3, h4, h⟩ := bd h
        refine xg_i E 12 1 h4 mw922 (show decode prog_14_method_80_code 18 = .ok (.getfield 177, 3) by decide +kernel) ?_
        by_cases q25 : v_3 ≤ v2
        · rw [if_pos q25] at h
          refine xv_icmp_ge E 95 (show decode prog_14_method_80_code 21 = .ok (.if_icmp .ge (74), 3) by decide +kernel) rfl (fun _ => ?_) (fun z => absurd q25 z)
          exact xv_w (sb243_95 E B  M h hN) rfl
        · rw [if_neg q25] at h
          refine xv_icmp_ge E 95 (show decode prog_14_method_80_code 21 = .ok (.if_icmp .ge (74), 3) by decide +kernel) rfl (fun z => absurd z q25) (fun _ => ?_)
          refine xv_b E [.aload_n 0] (pc' := 25) (lv' := [(0, .inr (.inr (some a0))), (1, .inl v1), (2, .inl v2), (3, .inl v3), (4, .inl v4), (5, .inl v5), (6, .inl v6)]) (st' := [.inr (.inr (some a0))]) (by decide +kernel) rfl rfl ?_
          obtain ⟨o_5, h6, h⟩ := bd h
          refine xg_r E 12 33 h6 mw893 (show decode prog_14_method_80_code 25 = .ok (.getfield 94, 3) by decide +kernel) ?_
          refine xv_b E [.iload_n 1] (pc' := 29) (lv' := [(0, .inr (.inr (some a0))), (1, .inl v1), (2, .inl v2), (3, .inl v3), (4, .inl v4), (5, .inl v5), (6, .inl v6)]) (st' := [.inl v1, .inr (.inr o_5)]) (by decide +kernel) rfl rfl ?_
          obtain ⟨v_7, h8, h⟩ := bd h
          refine xa_z E h8 (show decode prog_14_method_80_code 29 = .ok (.baload, 1) by decide +kernel) ?_
          by_cases q24 : v_7 = 0
          · rw [if_pos q24] at h
            refine xv_if_ne E 95 (show decode prog_14_method_80_code 30 = .ok (.ifCond .ne (65), 3) by decide +kernel) rfl (fun z => absurd q24 z) (fun _ => ?_)
            refine xv_b E [.aload_n 0] (pc' := 34) (lv' := [(0, .inr (.inr (some a0))), (1, .inl v1), (2, .inl v2), (3, .inl v3), (4, .inl v4), (5, .inl v5), (6, .inl v6)]) (st' := [.inr (.inr (some a0))]) (by decide +kernel) rfl rfl ?_
            obtain ⟨o_9, h10, h⟩ := bd h
            refine xg_r E 12 33 h10 mw893 (show decode prog_14_method_80_code 34 = .ok (.getfield 94, 3) by decide +kernel) ?_
            refine xv_b E [.iload_n 2] (pc' := 38) (lv' := [(0, .inr (.inr (some a0))), (1, .inl v1), (2, .inl v2), (3, .inl v3), (4, .inl v4), (5, .inl v5), (6, .inl v6)]) (st' := [.inl v2, .inr (.inr o_9)]) (by decide +kernel) rfl rfl ?_
            obtain ⟨v_11, h12, h⟩ := bd h
            refine xa_z E h12 (show decode prog_14_method_80_code 38 = .ok (.baload, 1) by decide +kernel) ?_
            by_cases q23 : v_11 = 0
            · rw [if_pos q23] at h
              refine xv_if_eq E 95 (show decode prog_14_method_80_code 39 = .ok (.ifCond .eq (56), 3) by decide +kernel) rfl (fun _ => ?_) (fun z => absurd q23 z)
              exact xv_w (sb243_95 E B  M h hN) rfl
            · rw [if_neg q23] at h
              refine xv_if_eq E 95 (show decode prog_14_method_80_code 39 = .ok (.ifCond .eq (56), 3) by decide +kernel) rfl (fun z => absurd z q23) (fun _ => ?_)
              refine xv_b E [.iload_n 3] (pc' := 43) (lv' := [(0, .inr (.inr (some a0))), (1, .inl v1), (2, .inl v2), (3, .inl v3), (4, .inl v4), (5, .inl v5), (6, .inl v6)]) (st' := [.inl v3]) (by decide +kernel) rfl rfl ?_
              by_cases q22 : v3 < 0
              · rw [if_pos q22] at h
                refine xv_if_lt E 95 (show decode prog_14_method_80_code 43 = .ok (.ifCond .lt (52), 3) by decide +kernel) rfl (fun _ => ?_) (fun z => absurd q22 z)
                exact xv_w (sb243_95 E B  M h hN) rfl
              · rw [if_neg q22] at h
                refine xv_if_lt E 95 (show decode prog_14_method_80_code 43 = .ok (.ifCond .lt (52), 3) by decide +kernel) rfl (fun z => absurd z q22) (fun _ => ?_)
                refine xv_b E [.iload_n 3, .iconst 1] (pc' := 48) (lv' := [(0, .inr (.inr (some a0))), (1, .inl v1), (2, .inl v2), (3, .inl v3), (4, .inl v4), (5, .inl v5), (6, .inl v6)]) (st' := [.inl (1 : Int32), .inl v3]) (by decide +kernel) rfl rfl ?_
                by_cases q21 : (1 : Int32) < v3
                · rw [if_pos q21] at h
                  refine xv_icmp_gt E 95 (show decode prog_14_method_80_code 48 = .ok (.if_icmp .gt (47), 3) by decide +kernel) rfl (fun _ => ?_) (fun z => absurd q21 z)
                  exact xv_w (sb243_95 E B  M h hN) rfl
                · rw [if_neg q21] at h
                  refine xv_icmp_gt E 95 (show decode prog_14_method_80_code 48 = .ok (.if_icmp .gt (47), 3) by decide +kernel) rfl (fun z => absurd z q21) (fun _ => ?_)
                  refine xv_b E [.iload 4] (pc' := 53) (lv' := [(0, .inr (.inr (some a0))), (1, .inl v1), (2, .inl v2), (3, .inl v3), (4, .inl v4), (5, .inl v5), (6, .inl v6)]) (st' := [.inl v4]) (by decide +kernel) rfl rfl ?_
                  by_cases q20 : v4 < 0
                  · rw [if_pos q20] at h
                    refine xv_if_lt E 95 (show decode prog_14_method_80_code 53 = .ok (.ifCond .lt (42), 3) by decide +kernel) rfl (fun _ => ?_) (fun z => absurd q20 z)
                    exact xv_w (sb243_95 E B  M h hN) rfl
                  · rw [if_neg q20] at h
                    refine xv_if_lt E 95 (show decode prog_14_method_80_code 53 = .ok (.ifCond .lt (42), 3) by decide +kernel) rfl (fun z => absurd z q20) (fun _ => ?_)
                    refine xv_b E [.iload 4, .bipush 15] (pc' := 60) (lv' := [(0, .inr (.inr (some a0))), (1, .inl v1), (2, .inl v2), (3, .inl v3), (4, .inl v4), (5, .inl v5), (6, .inl v6)]) (st' := [.inl (15 : Int32), .inl v4]) (by decide +kernel) rfl rfl ?_
                    by_cases q19 : (15 : Int32) < v4
                    · rw [if_pos q19] at h
                      refine xv_icmp_gt E 95 (show decode prog_14_method_80_code 60 = .ok (.if_icmp .gt (35), 3) by decide +kernel) rfl (fun _ => ?_) (fun z => absurd q19 z)
                      exact xv_w (sb243_95 E B  M h hN) rfl
                    · rw [if_neg q19] at h
                      refine xv_icmp_gt E 95 (show decode prog_14_method_80_code 60 = .ok (.if_icmp .gt (35), 3) by decide +kernel) rfl (fun z => absurd z q19) (fun _ => ?_)
                      refine xv_b E [.iload 5, .iconst 1] (pc' := 66) (lv' := [(0, .inr (.inr (some a0))), (1, .inl v1), (2, .inl v2), (3, .inl v3), (4, .inl v4), (5, .inl v5), (6, .inl v6)]) (st' := [.inl (1 : Int32), .inl v5]) (by decide +kernel) rfl rfl ?_
                      by_cases q18 : v5 < (1 : Int32)
                      · rw [if_pos q18] at h
                        refine xv_icmp_lt E 95 (show decode prog_14_method_80_code 66 = .ok (.if_icmp .lt (29), 3) by decide +kernel) rfl (fun _ => ?_) (fun z => absurd q18 z)
                        exact xv_w (sb243_95 E B  M h hN) rfl
                      · rw [if_neg q18] at h
                        refine xv_icmp_lt E 95 (show decode prog_14_method_80_code 66 = .ok (.if_icmp .lt (29), 3) by decide +kernel) rfl (fun z => absurd z q18) (fun _ => ?_)
                        refine xv_b E [.iload 5, .iconst 4] (pc' := 72) (lv' := [(0, .inr (.inr (some a0))), (1, .inl v1), (2, .inl v2), (3, .inl v3), (4, .inl v4), (5, .inl v5), (6, .inl v6)]) (st' := [.inl (4 : Int32), .inl v5]) (by decide +kernel) rfl rfl ?_
                        by_cases q17 : (4 : Int32) < v5
                        · rw [if_pos q17] at h
                          refine xv_icmp_gt E 95 (show decode prog_14_method_80_code 72 = .ok (.if_icmp .gt (23), 3) by decide +kernel) rfl (fun _ => ?_) (fun z => absurd q17 z)
                          exact xv_w (sb243_95 E B  M h hN) rfl
                        · rw [if_neg q17] at h
                          refine xv_icmp_gt E 95 (show decode prog_14_method_80_code 72 = .ok (.if_icmp .gt (23), 3) by decide +kernel) rfl (fun z => absurd z q17) (fun _ => ?_)
                          refine xv_b E [.iload 4, .iload 5, .iadd, .bipush 16] (pc' := 82) (lv' := [(0, .inr (.inr (some a0))), (1, .inl v1), (2, .inl v2), (3, .inl v3), (4, .inl v4), (5, .inl v5), (6, .inl v6)]) (st' := [.inl (16 : Int32), .inl (v4 + v5)]) (by decide +kernel) rfl rfl ?_
                          by_cases q16 : (16 : Int32) < (v4 + v5)
                          · rw [if_pos q16] at h
                            refine xv_icmp_gt E 95 (show decode prog_14_method_80_code 82 = .ok (.if_icmp .gt (13), 3) by decide +kernel) rfl (fun _ => ?_) (fun z => absurd q16 z)
                            exact xv_w (sb243_95 E B  M h hN) rfl
                          · rw [if_neg q16] at h
                            refine xv_icmp_gt E 95 (show decode prog_14_method_80_code 82 = .ok (.if_icmp .gt (13), 3) by decide +kernel) rfl (fun z => absurd z q16) (fun _ => ?_)
                            refine xv_b E [.aload_n 0] (pc' := 86) (lv' := [(0, .inr (.inr (some a0))), (1, .inl v1), (2, .inl v2), (3, .inl v3), (4, .inl v4), (5, .inl v5), (6, .inl v6)]) (st' := [.inr (.inr (some a0))]) (by decide +kernel) rfl rfl ?_
                            obtain ⟨v_13, h14, h⟩ := bd h
                            refine xg_i E 12 47 h14 mw1061 (show decode prog_14_method_80_code 86 = .ok (.getfield 364, 3) by decide +kernel) ?_
                            refine xv_b E [.sipush 300] (pc' := 92) (lv' := [(0, .inr (.inr (some a0))), (1, .inl v1), (2, .inl v2), (3, .inl v3), (4, .inl v4), (5, .inl v5), (6, .inl v6)]) (st' := [.inl (300 : Int32), .inl v_13]) (by decide +kernel) rfl rfl ?_
                            by_cases q15 : v_13 = (300 : Int32)
                            · rw [if_pos q15] at h
                              refine xv_icmp_ne E 97 (show decode prog_14_method_80_code 92 = .ok (.if_icmp .ne (5), 3) by decide +kernel) rfl (fun z => absurd q15 z) (fun _ => ?_)
                              exact xv_w (sb243_95 E B  M h hN) rfl
                            · rw [if_neg q15] at h
                              refine xv_icmp_ne E 97 (show decode prog_14_method_80_code 92 = .ok (.if_icmp .ne (5), 3) by decide +kernel) rfl (fun _ => ?_) (fun z => absurd z q15)
                              refine xv_b E [.iconst 0, .istore 7, .iconst 0, .istore 8] (pc' := 103) (lv' := [(8, .inl (0 : Int32)), (7, .inl (0 : Int32)), (0, .inr (.inr (some a0))), (1, .inl v1), (2, .inl v2), (3, .inl v3), (4, .inl v4), (5, .inl v5), (6, .inl v6)]) (st' := []) (by decide +kernel) rfl rfl ?_
                              obtain rfl := Option.some.inj h
                              exact xv_w hN rfl
          · rw [if_neg q24] at h
            refine xv_if_ne E 95 (show decode prog_14_method_80_code 30 = .ok (.ifCond .ne (65), 3) by decide +kernel) rfl (fun _ => ?_) (fun z => absurd z q24)
            exact xv_w (sb243_95 E B  M h hN) rfl
theorem sb243_137 (E : xE G p (xRm 0 (h_sz M' - z0) (h_sl M' - y0)) s m args c prog_14_method_80_code "ZonedFabricModel" z0 y0 (h_sz M') (h_sl M') 9) (B : xB ym243 (some FieldType.int) meth) (a0 : Nat) (v1 : Int32) (v2 : Int32) (v3 : Int32) (v4 : Int32) (v5 : Int32) (v6 : Int32) (v7 : Int32) (v8 : Int32) (M : hM) {res : xRes} (h : b243_137 a0 v1 v2 v3 v4 v5 v6 v7 v8 M = some res) (hN : xN (pg243 p l e s m args below meth c G z0 y0 r M') r M' res) : xV G p l e (xRm 0 (h_sz M' - z0) (h_sl M' - y0)) s m args below meth c z0 y0 (h_sz M') (h_sl M') 9 (MQ below (xQc G r M') args s (h_sz M' - z0) (h_sl M' - y0) (xFr G)) 137 [(0, .inr (.inr (some a0))), (1, .inl v1), (2, .inl v2), (3, .inl v3), (4, .inl v4), (5, .inl v5), (6, .inl v6), (7, .inl v7), (8, .inl v8)] [] M := by
  unfold b243_137 at h
  refine xv_b E [.iinc 8 1] (pc' := 140) (lv' := [(8, .inl (v8 + (1 : Int32))), (0, .inr (.inr (some a0))), (1, .inl v1), (2, .inl v2), (3, .inl v3), (4, .inl v4), (5, .inl v5), (6, .inl v6), (7, .inl v7)]) (st' := []) (by decide +kernel) rfl rfl ?_
  refine xv_goto E 103 (show decode prog_14_method_80_code 140 = .ok (.goto (-37), 3) by decide +kernel) rfl ?_
  obtain rfl := Option.some.inj h
  exact xv_w hN rfl
theorem sb243_103 (E : xE G p (xRm 0 (h_sz M' - z0) (h_sl M' - y0)) s m args c prog_14_method_80_code "ZonedFabricModel" z0 y0 (h_sz M') (h_sl M') 9) (B : xB ym243 (some FieldType.int) meth) (a0 : Nat) (v1 : Int32) (v2 : Int32) (v3 : Int32) (v4 : Int32) (v5 : Int32) (v6 : Int32) (v7 : Int32) (v8 : Int32) (M : hM) {res : xRes} (h : b243_103 a0 v1 v2 v3 v4 v5 v6 v7 v8 M = some res) (hN : xN (pg243 p l e s m args below meth c G z0 y0 r M') r M' res) : xV G p l e (xRm 0 (h_sz M' - z0) (h_sl M' - y0)) s m args below meth c z0 y0 (h_sz M') (h_sl M') 9 (MQ below (xQc G r M') args s (h_sz M' - z0) (h_sl M' - y0) (xFr G)) 103 [(0, .inr (.inr (some a0))), (1, .inl v1), (2, .inl v2), (3, .inl v3), (4, .inl v4), (5, .inl v5), (6, .inl v6), (7, .inl v7), (8, .inl v8)] [] M := by
  unfold b243_103 at h
  refine xv_b E [.iload 8, .aload_n 0] (pc' := 106) (lv' := [(0, .inr (.inr (some a0))), (1, .inl v1), (2, .inl v2), (3, .inl v3), (4, .inl v4), (5, .inl v5), (6, .inl v6), (7, .inl v7), (8, .inl v8)]) (st' := [.inr (.inr (some a0)), .inl v8]) (by decide +kernel) rfl rfl ?_
  obtain ⟨v_29, h30, h⟩ := bd h
  refine xg_i E 12 47 h30 mw1061 (show decode prog_14_method_80_code 106 = .ok (.getfield 364, 3) by decide +kernel) ?_
  by_cases q94 : v_29 ≤ v8
  · rw [if_pos q94] at h
    refine xv_icmp_ge E 143 (show decode prog_14_method_80_code 109 = .ok (.if_icmp .ge (34), 3) by decide +kernel) rfl (fun _ => ?_) (fun z => absurd q94 z)
    refine xv_b E [.iload 7, .iconst 4] (pc' := 146) (lv' := [(0, .inr (.inr (some a0))), (1, .inl v1), (2, .inl v2), (3, .inl v3), (4, .inl v4), (5, .inl v5), (6, .inl v6), (7, .inl v7), (8, .inl v8)]) (st' := [.inl (4 : Int32), .inl v7]) (by decide +kernel) rfl rfl ?_
    by_cases q83 : v7 = (4 : Int32)
    · rw [if_pos q83] at h
      refine xv_icmp_ne E 151 (show decode prog_14_method_80_code 146 = .ok (.if_icmp .ne (5), 3) by decide +kernel) rfl (fun z => absurd q83 z) (fun _ => ?_)
      refine xv_b E [.iconst (-1)] (pc' := 150) (lv' := [(0, .inr (.inr (some a0))), (1, .inl v1), (2, .inl v2), (3, .inl v3), (4, .inl v4), (5, .inl v5), (6, .inl v6), (7, .inl v7), (8, .inl v8)]) (st' := [.inl (-1 : Int32)]) (by decide +kernel) rfl rfl ?_
      obtain rfl := Option.some.inj h
      obtain ⟨rfl, rfl⟩ := Prod.mk.inj (show ((some (.inl (-1 : Int32)) : Option aV), M) = (r, M') from hN)
      exact xv_ri E B.1 rfl B.2.1 (show decode prog_14_method_80_code 150 = .ok (.ireturn, 1) by decide +kernel) rfl rfl
    · rw [if_neg q83] at h
      refine xv_icmp_ne E 151 (show decode prog_14_method_80_code 146 = .ok (.if_icmp .ne (5), 3) by decide +kernel) rfl (fun _ => ?_) (fun z => absurd z q83)
      refine xv_b E [.aload_n 0] (pc' := 152) (lv' := [(0, .inr (.inr (some a0))), (1, .inl v1), (2, .inl v2), (3, .inl v3), (4, .inl v4), (5, .inl v5), (6, .inl v6), (7, .inl v7), (8, .inl v8)]) (st' := [.inr (.inr (some a0))]) (by decide +kernel) rfl rfl ?_
      obtain ⟨v_31, h32, h⟩ := bd h
      refine xg_i E 12 47 h32 mw1061 (show decode prog_14_method_80_code 152 = .ok (.getfield 364, 3) by decide +kernel) ?_
      refine xv_b E [.istore 8, .aload_n 0, .dup] (pc' := 159) (lv' := [(8, .inl v_31), (0, .inr (.inr (some a0))), (1, .inl v1), (2, .inl v2), (3, .inl v3), (4, .inl v4), (5, .inl v5), (6, .inl v6), (7, .inl v7)]) (st' := [.inr (.inr (some a0)), .inr (.inr (some a0))]) (by decide +kernel) rfl rfl ?_
      obtain ⟨v_33, h34, h⟩ := bd h
      refine xg_i E 12 47 h34 mw1061 (show decode prog_14_method_80_code 159 = .ok (.getfield 364, 3) by decide +kernel) ?_
      refine xv_b E [.iconst 1, .iadd] (pc' := 164) (lv' := [(8, .inl v_31), (0, .inr (.inr (some a0))), (1, .inl v1), (2, .inl v2), (3, .inl v3), (4, .inl v4), (5, .inl v5), (6, .inl v6), (7, .inl v7)]) (st' := [.inl (v_33 + (1 : Int32)), .inr (.inr (some a0))]) (by decide +kernel) rfl rfl ?_
      obtain ⟨M35, h36, h⟩ := bd h
      refine xp_i E 12 47 h36 mw1061 (show decode prog_14_method_80_code 164 = .ok (.putfield 364, 3) by decide +kernel) (Or.inl rfl) ?_
      refine xv_b E [.aload_n 0] (pc' := 168) (lv' := [(8, .inl v_31), (0, .inr (.inr (some a0))), (1, .inl v1), (2, .inl v2), (3, .inl v3), (4, .inl v4), (5, .inl v5), (6, .inl v6), (7, .inl v7)]) (st' := [.inr (.inr (some a0))]) (by decide +kernel) rfl rfl ?_
      obtain ⟨o_37, h38, h⟩ := bd h
      refine xg_r E 12 34 h38 mw894 (show decode prog_14_method_80_code 168 = .ok (.getfield 97, 3) by decide +kernel) ?_
      refine xv_b E [.iload_n 1, .iconst 1] (pc' := 173) (lv' := [(8, .inl v_31), (0, .inr (.inr (some a0))), (1, .inl v1), (2, .inl v2), (3, .inl v3), (4, .inl v4), (5, .inl v5), (6, .inl v6), (7, .inl v7)]) (st' := [.inl (1 : Int32), .inl v1, .inr (.inr o_37)]) (by decide +kernel) rfl rfl ?_
      obtain ⟨M39, h40, h⟩ := bd h
      refine xs_z E h40 (show decode prog_14_method_80_code 173 = .ok (.bastore, 1) by decide +kernel) ?_
      refine xv_b E [.aload_n 0] (pc' := 175) (lv' := [(8, .inl v_31), (0, .inr (.inr (some a0))), (1, .inl v1), (2, .inl v2), (3, .inl v3), (4, .inl v4), (5, .inl v5), (6, .inl v6), (7, .inl v7)]) (st' := [.inr (.inr (some a0))]) (by decide +kernel) rfl rfl ?_
      obtain ⟨o_41, h42, h⟩ := bd h
      refine xg_r E 12 48 h42 mw906 (show decode prog_14_method_80_code 175 = .ok (.getfield 134, 3) by decide +kernel) ?_
      refine xv_b E [.iload 8, .iload_n 1] (pc' := 181) (lv' := [(8, .inl v_31), (0, .inr (.inr (some a0))), (1, .inl v1), (2, .inl v2), (3, .inl v3), (4, .inl v4), (5, .inl v5), (6, .inl v6), (7, .inl v7)]) (st' := [.inl v1, .inl v_31, .inr (.inr o_41)]) (by decide +kernel) rfl rfl ?_
      obtain ⟨M43, h44, h⟩ := bd h
      refine xs_i E h44 (show decode prog_14_method_80_code 181 = .ok (.iastore, 1) by decide +kernel) ?_
      refine xv_b E [.aload_n 0] (pc' := 183) (lv' := [(8, .inl v_31), (0, .inr (.inr (some a0))), (1, .inl v1), (2, .inl v2), (3, .inl v3), (4, .inl v4), (5, .inl v5), (6, .inl v6), (7, .inl v7)]) (st' := [.inr (.inr (some a0))]) (by decide +kernel) rfl rfl ?_
      obtain ⟨o_45, h46, h⟩ := bd h
      refine xg_r E 12 49 h46 mw907 (show decode prog_14_method_80_code 183 = .ok (.getfield 137, 3) by decide +kernel) ?_
      refine xv_b E [.iload 8, .iload_n 2] (pc' := 189) (lv' := [(8, .inl v_31), (0, .inr (.inr (some a0))), (1, .inl v1), (2, .inl v2), (3, .inl v3), (4, .inl v4), (5, .inl v5), (6, .inl v6), (7, .inl v7)]) (st' := [.inl v2, .inl v_31, .inr (.inr o_45)]) (by decide +kernel) rfl rfl ?_
      obtain ⟨M47, h48, h⟩ := bd h
      refine xs_i E h48 (show decode prog_14_method_80_code 189 = .ok (.iastore, 1) by decide +kernel) ?_
      refine xv_b E [.aload_n 0] (pc' := 191) (lv' := [(8, .inl v_31), (0, .inr (.inr (some a0))), (1, .inl v1), (2, .inl v2), (3, .inl v3), (4, .inl v4), (5, .inl v5), (6, .inl v6), (7, .inl v7)]) (st' := [.inr (.inr (some a0))]) (by decide +kernel) rfl rfl ?_
      obtain ⟨o_49, h50, h⟩ := bd h
      refine xg_r E 12 50 h50 mw908 (show decode prog_14_method_80_code 191 = .ok (.getfield 140, 3) by decide +kernel) ?_
      refine xv_b E [.iload 8, .iload 6] (pc' := 198) (lv' := [(8, .inl v_31), (0, .inr (.inr (some a0))), (1, .inl v1), (2, .inl v2), (3, .inl v3), (4, .inl v4), (5, .inl v5), (6, .inl v6), (7, .inl v7)]) (st' := [.inl v6, .inl v_31, .inr (.inr o_49)]) (by decide +kernel) rfl rfl ?_
      obtain ⟨M51, h52, h⟩ := bd h
      refine xs_z E h52 (show decode prog_14_method_80_code 198 = .ok (.bastore, 1) by decide +kernel) ?_
      refine xv_b E [.aload_n 0] (pc' := 200) (lv' := [(8, .inl v_31), (0, .inr (.inr (some a0))), (1, .inl v1), (2, .inl v2), (3, .inl v3), (4, .inl v4), (5, .inl v5), (6, .inl v6), (7, .inl v7)]) (st' := [.inr (.inr (some a0))]) (by decide +kernel) rfl rfl ?_
      obtain ⟨o_53, h54, h⟩ := bd h
      refine xg_r E 12 51 h54 mw909 (show decode prog_14_method_80_code 200 = .ok (.getfield 143, 3) by decide +kernel) ?_
      refine xv_b E [.iload 8, .iload_n 3] (pc' := 206) (lv' := [(8, .inl v_31), (0, .inr (.inr (some a0))), (1, .inl v1), (2, .inl v2), (3, .inl v3), (4, .inl v4), (5, .inl v5), (6, .inl v6), (7, .inl v7)]) (st' := [.inl v3, .inl v_31, .inr (.inr o_53)]) (by decide +kernel) rfl rfl ?_
      obtain ⟨M55, h56, h⟩ := bd h
      refine xs_i E h56 (show decode prog_14_method_80_code 206 = .ok (.iastore, 1) by decide +kernel) ?_
      refine xv_b E [.aload_n 0] (pc' := 208) (lv' := [(8, .inl v_31), (0, .inr (.inr (some a0))), (1, .inl v1), (2, .inl v2), (3, .inl v3), (4, .inl v4), (5, .inl v5), (6, .inl v6), (7, .inl v7)]) (st' := [.inr (.inr (some a0))]) (by decide +kernel) rfl rfl ?_
      obtain ⟨o_57, h58, h⟩ := bd h
      refine xg_r E 12 52 h58 mw910 (show decode prog_14_method_80_code 208 = .ok (.getfield 146, 3) by decide +kernel) ?_
      refine xv_b E [.iload 8, .iload 4] (pc' := 215) (lv' := [(8, .inl v_31), (0, .inr (.inr (some a0))), (1, .inl v1), (2, .inl v2), (3, .inl v3), (4, .inl v4), (5, .inl v5), (6, .inl v6), (7, .inl v7)]) (st' := [.inl v4, .inl v_31, .inr (.inr o_57)]) (by decide +kernel) rfl rfl ?_
      obtain ⟨M59, h60, h⟩ := bd h
      refine xs_i E h60 (show decode prog_14_method_80_code 215 = .ok (.iastore, 1) by decide +kernel) ?_
      refine xv_b E [.aload_n 0] (pc' := 217) (lv' := [(8, .inl v_31), (0, .inr (.inr (some a0))), (1, .inl v1), (2, .inl v2), (3, .inl v3), (4, .inl v4), (5, .inl v5), (6, .inl v6), (7, .inl v7)]) (st' := [.inr (.inr (some a0))]) (by decide +kernel) rfl rfl ?_
      obtain ⟨o_61, h62, h⟩ := bd h
      refine xg_r E 12 53 h62 mw911 (show decode prog_14_method_80_code 217 = .ok (.getfield 149, 3) by decide +kernel) ?_
      refine xv_b E [.iload 8, .iload 5] (pc' := 224) (lv' := [(8, .inl v_31), (0, .inr (.inr (some a0))), (1, .inl v1), (2, .inl v2), (3, .inl v3), (4, .inl v4), (5, .inl v5), (6, .inl v6), (7, .inl v7)]) (st' := [.inl v5, .inl v_31, .inr (.inr o_61)]) (by decide +kernel) rfl rfl ?_
      obtain ⟨M63, h64, h⟩ := bd h
      refine xs_i E h64 (show decode prog_14_method_80_code 224 = .ok (.iastore, 1) by decide +kernel) ?_
      refine xv_b E [.aload_n 0] (pc' := 226) (lv' := [(8, .inl v_31), (0, .inr (.inr (some a0))), (1, .inl v1), (2, .inl v2), (3, .inl v3), (4, .inl v4), (5, .inl v5), (6, .inl v6), (7, .inl v7)]) (st' := [.inr (.inr (some a0))]) (by decide +kernel) rfl rfl ?_
      obtain ⟨o_65, h66, h⟩ := bd h
      refine xg_r E 12 55 h66 mw913 (show decode prog_14_method_80_code 226 = .ok (.getfield 155, 3) by decide +kernel) ?_
      refine xv_b E [.iload 8, .iconst 0] (pc' := 232) (lv' := [(8, .inl v_31), (0, .inr (.inr (some a0))), (1, .inl v1), (2, .inl v2), (3, .inl v3), (4, .inl v4), (5, .inl v5), (6, .inl v6), (7, .inl v7)]) (st' := [.inl (0 : Int32), .inl v_31, .inr (.inr o_65)]) (by decide +kernel) rfl rfl ?_
      obtain ⟨M67, h68, h⟩ := bd h
      refine xs_i E h68 (show decode prog_14_method_80_code 232 = .ok (.iastore, 1) by decide +kernel) ?_
      refine xv_b E [.aload_n 0] (pc' := 234) (lv' := [(8, .inl v_31), (0, .inr (.inr (some a0))), (1, .inl v1), (2, .inl v2), (3, .inl v3), (4, .inl v4), (5, .inl v5), (6, .inl v6), (7, .inl v7)]) (st' := [.inr (.inr (some a0))]) (by decide +kernel) rfl rfl ?_
      obtain ⟨o_69, h70, h⟩ := bd h
      refine xg_r E 12 58 h70 mw916 (show decode prog_14_method_80_code 234 = .ok (.getfield 164, 3) by decide +kernel) ?_
      refine xv_b E [.iload 8, .aload_n 0] (pc' := 240) (lv' := [(8, .inl v_31), (0, .inr (.inr (some a0))), (1, .inl v1), (2, .inl v2), (3, .inl v3), (4, .inl v4), (5, .inl v5), (6, .inl v6), (7, .inl v7)]) (st' := [.inr (.inr (some a0)), .inl v_31, .inr (.inr o_69)]) (by decide +kernel) rfl rfl ?_
      obtain ⟨v_71, h72, h⟩ := bd h
      refine xg_i E 12 3 h72 mw1047 (show decode prog_14_method_80_code 240 = .ok (.getfield 276, 3) by decide +kernel) ?_
      obtain ⟨M73, h74, h⟩ := bd h
      refine xs_i E h74 (show decode prog_14_method_80_code 243 = .ok (.iastore, 1) by decide +kernel) ?_
      refine xv_b E [.aload_n 0] (pc' := 245) (lv' := [(8, .inl v_31), (0, .inr (.inr (some a0))), (1, .inl v1), (2, .inl v2), (3, .inl v3), (4, .inl v4), (5, .inl v5), (6, .inl v6), (7, .inl v7)]) (st' := [.inr (.inr (some a0))]) (by decide +kernel) rfl rfl ?_
      obtain ⟨o_75, h76, h⟩ := bd h
      refine xg_r E 12 59 h76 mw917 (show decode prog_14_method_80_code 245 = .ok (.getfield 167, 3) by decide +kernel) ?_
      refine xv_b E [.iload 8, .iconst (-1)] (pc' := 251) (lv' := [(8, .inl v_31), (0, .inr (.inr (some a0))), (1, .inl v1), (2, .inl v2), (3, .inl v3), (4, .inl v4), (5, .inl v5), (6, .inl v6), (7, .inl v7)]) (st' := [.inl (-1 : Int32), .inl v_31, .inr (.inr o_75)]) (by decide +kernel) rfl rfl ?_
      obtain ⟨M77, h78, h⟩ := bd h
      refine xs_i E h78 (show decode prog_14_method_80_code 251 = .ok (.iastore, 1) by decide +kernel) ?_
      refine xv_b E [.aload_n 0] (pc' := 253) (lv' := [(8, .inl v_31), (0, .inr (.inr (some a0))), (1, .inl v1), (2, .inl v2), (3, .inl v3), (4, .inl v4), (5, .inl v5), (6, .inl v6), (7, .inl v7)]) (st' := [.inr (.inr (some a0))]) (by decide +kernel) rfl rfl ?_
      obtain ⟨o_79, h80, h⟩ := bd h
      refine xg_r E 12 60 h80 mw918 (show decode prog_14_method_80_code 253 = .ok (.getfield 170, 3) by decide +kernel) ?_
      refine xv_b E [.iload 8, .iconst (-1)] (pc' := 259) (lv' := [(8, .inl v_31), (0, .inr (.inr (some a0))), (1, .inl v1), (2, .inl v2), (3, .inl v3), (4, .inl v4), (5, .inl v5), (6, .inl v6), (7, .inl v7)]) (st' := [.inl (-1 : Int32), .inl v_31, .inr (.inr o_79)]) (by decide +kernel) rfl rfl ?_
      obtain ⟨M81, h82, h⟩ := bd h
      refine xs_i E h82 (show decode prog_14_method_80_code 259 = .ok (.iastore, 1) by decide +kernel) ?_
      refine xv_b E [.iload 8] (pc' := 262) (lv' := [(8, .inl v_31), (0, .inr (.inr (some a0))), (1, .inl v1), (2, .inl v2), (3, .inl v3), (4, .inl v4), (5, .inl v5), (6, .inl v6), (7, .inl v7)]) (st' := [.inl v_31]) (by decide +kernel) rfl rfl ?_
      obtain rfl := Option.some.inj h
      obtain ⟨rfl, rfl⟩ := Prod.mk.inj (show ((some (.inl v_31) : Option aV), M81) = (r, M') from hN)
      exact xv_ri E B.1 rfl B.2.1 (show decode prog_14_method_80_code 262 = .ok (.ireturn, 1) by decide +kernel) rfl rfl
  · rw [if_neg q94] at h
    refine xv_icmp_ge E 143 (show decode prog_14_method_80_code 109 = .ok (.if_icmp .ge (34), 3) by decide +kernel) rfl (fun z => absurd z q94) (fun _ => ?_)
    refine xv_b E [.aload_n 0] (pc' := 113) (lv' := [(0, .inr (.inr (some a0))), (1, .inl v1), (2, .inl v2), (3, .inl v3), (4, .inl v4), (5, .inl v5), (6, .inl v6), (7, .inl v7), (8, .inl v8)]) (st' := [.inr (.inr (some a0))]) (by decide +kernel) rfl rfl ?_
    obtain ⟨o_84, h85, h⟩ := bd h
    refine xg_r E 12 48 h85 mw906 (show decode prog_14_method_80_code 113 = .ok (.getfield 134, 3) by decide +kernel) ?_
    refine xv_b E [.iload 8] (pc' := 118) (lv' := [(0, .inr (.inr (some a0))), (1, .inl v1), (2, .inl v2), (3, .inl v3), (4, .inl v4), (5, .inl v5), (6, .inl v6), (7, .inl v7), (8, .inl v8)]) (st' := [.inl v8, .inr (.inr o_84)]) (by decide +kernel) rfl rfl ?_
    obtain ⟨v_86, h87, h⟩ := bd h
    refine xa_i E h87 (show decode prog_14_method_80_code 118 = .ok (.iaload, 1) by decide +kernel) ?_
    refine xv_b E [.iload_n 1] (pc' := 120) (lv' := [(0, .inr (.inr (some a0))), (1, .inl v1), (2, .inl v2), (3, .inl v3), (4, .inl v4), (5, .inl v5), (6, .inl v6), (7, .inl v7), (8, .inl v8)]) (st' := [.inl v1, .inl v_86]) (by decide +kernel) rfl rfl ?_
    by_cases q93 : v_86 = v1
    · rw [if_pos q93] at h
      refine xv_icmp_ne E 137 (show decode prog_14_method_80_code 120 = .ok (.if_icmp .ne (17), 3) by decide +kernel) rfl (fun z => absurd q93 z) (fun _ => ?_)
      refine xv_b E [.aload_n 0] (pc' := 124) (lv' := [(0, .inr (.inr (some a0))), (1, .inl v1), (2, .inl v2), (3, .inl v3), (4, .inl v4), (5, .inl v5), (6, .inl v6), (7, .inl v7), (8, .inl v8)]) (st' := [.inr (.inr (some a0))]) (by decide +kernel) rfl rfl ?_
      obtain ⟨o_88, h89, h⟩ := bd h
      refine xg_r E 12 59 h89 mw917 (show decode prog_14_method_80_code 124 = .ok (.getfield 167, 3) by decide +kernel) ?_
      refine xv_b E [.iload 8] (pc' := 129) (lv' := [(0, .inr (.inr (some a0))), (1, .inl v1), (2, .inl v2), (3, .inl v3), (4, .inl v4), (5, .inl v5), (6, .inl v6), (7, .inl v7), (8, .inl v8)]) (st' := [.inl v8, .inr (.inr o_88)]) (by decide +kernel) rfl rfl ?_
      obtain ⟨v_90, h91, h⟩ := bd h
      refine xa_i E h91 (show decode prog_14_method_80_code 129 = .ok (.iaload, 1) by decide +kernel) ?_
      refine xv_b E [.iconst (-1)] (pc' := 131) (lv' := [(0, .inr (.inr (some a0))), (1, .inl v1), (2, .inl v2), (3, .inl v3), (4, .inl v4), (5, .inl v5), (6, .inl v6), (7, .inl v7), (8, .inl v8)]) (st' := [.inl (-1 : Int32), .inl v_90]) (by decide +kernel) rfl rfl ?_
      by_cases q92 : v_90 = (-1 : Int32)
      · rw [if_pos q92] at h
        refine xv_icmp_ne E 137 (show decode prog_14_method_80_code 131 = .ok (.if_icmp .ne (6), 3) by decide +kernel) rfl (fun z => absurd q92 z) (fun _ => ?_)
        refine xv_b E [.iinc 7 1] (pc' := 137) (lv' := [(7, .inl (v7 + (1 : Int32))), (0, .inr (.inr (some a0))), (1, .inl v1), (2, .inl v2), (3, .inl v3), (4, .inl v4), (5, .inl v5), (6, .inl v6), (8, .inl v8)]) (st' := []) (by decide +kernel) rfl rfl ?_
        exact xv_w (sb243_137 E B a0 v1 v2 v3 v4 v5 v6 (v7 + (1 : Int32)) v8 M h hN) rfl
      · rw [if_neg q92] at h
        refine xv_icmp_ne E 137 (show decode prog_14_method_80_code 131 = .ok (.if_icmp .ne (6), 3) by decide +kernel) rfl (fun _ => ?_) (fun z => absurd z q92)
        exact xv_w (sb243_137 E B a0 v1 v2 v3 v4 v5 v6 v7 v8 M h hN) rfl
    · rw [if_neg q93] at h
      refine xv_icmp_ne E 137 (show decode prog_14_method_80_code 120 = .ok (.if_icmp .ne (17), 3) by decide +kernel) rfl (fun _ => ?_) (fun z => absurd z q93)
      exact xv_w (sb243_137 E B a0 v1 v2 v3 v4 v5 v6 v7 v8 M h hN) rfl
end
theorem t243 (G : gX) (l : Launch) {as : List aV} {M : hM} {r : Option aV} {M' : hM} (h : f243 as M = some (r, M')) : xM G l ym243 prog_14_method_80_code 9 (some FieldType.int) 0 as M r M' := by
  unfold f243 at h
  split at h
  · have hle : ∀ h as M res, k243 h as M = some res → h_sz M ≤ r_sz res ∧ h_sl M ≤ r_sl res := by
      intro h as M res hb
      unfold k243 at hb
      by_cases e0 : h = 103
      · rw [if_pos e0] at hb
        split at hb
        · exact lb243_103 G l _ _ _ _ _ _ _ _ _ M hb
        · cases hb
      · rw [if_neg e0] at hb
        cases hb
    obtain ⟨res, hx, hres⟩ := x_go_ok h
    refine xM_of (by decide) (Nat.le_of_ble_eq_true rfl) ?_ ?_
    · have e1 := lb243_0 G l _ _ _ _ _ _ _ M hx
      have e2 := x_go_le hle hres
      omega
    · intro p e s m args below meth c E B
      refine sb243_0 E B _ _ _ _ _ _ _ M hx (hres _ ?_)
      intro h as M res hb hN
      unfold k243 at hb
      unfold pg243
      by_cases e0 : h = 103
      · rw [if_pos e0] at hb ⊢
        split at hb
        · exact sb243_103 E B _ _ _ _ _ _ _ _ _ M hb hN
        · cases hb
      · rw [if_neg e0] at hb ⊢
        cases hb
  · cases h
/-! ZFModel.read(IIIII)I -/
def ym244 : MethodName := ⟨"ZonedFabricModel", "read", "(IIIII)I"⟩
theorem cd244 : xCd ym244 prog_14_method_81_code 7 (some FieldType.int) 5 := ⟨mw1222, mw864, by decide, by decide, by decide +kernel⟩
def b244_27 (v6 : Int32) (M : hM) : Option xRes :=
  some (.inl (some (.inl v6), M))
def b244_0 (a0 : Nat) (v1 : Int32) (v2 : Int32) (v3 : Int32) (v4 : Int32) (v5 : Int32) (M : hM) : Option xRes :=
  Option.bind (g_o M 12 (some a0)) fun b_3 =>
  Option.bind (c_I (f243 [.inr (.inr (some b_3)), .inl v1, .inl v2, .inl v3, .inl v4, .inl v5, .inl (0 : Int32)] M)) fun q_1 =>
  if q_1.1 = (-1 : Int32) then
    (b244_27 q_1.1 q_1.2)
  else
    (Option.bind (g_o q_1.2 12 (some a0)) fun b_7 =>
    Option.bind (c_V (f206 [.inr (.inr (some b_7)), .inl q_1.1, .inl (0 : Int32)] q_1.2)) fun q_5 =>
    b244_27 q_1.1 q_5)
def f244 (as : List aV) (M : hM) : xO := match as with
  | [.inr (.inr (some a0)), .inl v1, .inl v2, .inl v3, .inl v4, .inl v5] => x_out (b244_0 a0 v1 v2 v3 v4 v5 M)
  | _ => none
theorem lb244_27 (G : gX) (l : Launch) (v6 : Int32) (M : hM) {res : xRes} (h : b244_27 v6 M = some res) : h_sz M ≤ r_sz res ∧ h_sl M ≤ r_sl res := by
  unfold b244_27 at h
  obtain rfl := Option.some.inj h
  show h_sz M ≤ h_sz M ∧ h_sl M ≤ h_sl M
  omega
theorem lb244_0 (G : gX) (l : Launch) (a0 : Nat) (v1 : Int32) (v2 : Int32) (v3 : Int32) (v4 : Int32) (v5 : Int32) (M : hM) {res : xRes} (h : b244_0 a0 v1 v2 v3 v4 v5 M = some res) : h_sz M ≤ r_sz res ∧ h_sl M ≤ r_sl res := by
  unfold b244_0 at h
  obtain ⟨b_3, h4, h⟩ := bd h
  obtain ⟨q_1, h2, h⟩ := bd h
  have eh2 := (t243 G l (c_I_some h2)).1
  by_cases q9 : q_1.1 = (-1 : Int32)
  · rw [if_pos q9] at h
    have e := lb244_27 G l q_1.1 q_1.2 h
    omega
  · rw [if_neg q9] at h
    obtain ⟨b_7, h8, h⟩ := bd h
    obtain ⟨q_5, h6, h⟩ := bd h
    have eh6 := (t206 G l (c_V_some h6)).1
    have e := lb244_27 G l q_1.1 q_5 h
    omega
section
variable {p : Program} {l : Launch} {e : Env} {s : State} {m : MethodId} {args : Array Value} {below : List Frame} {meth : Method} {c : Code} {G : gX} {z0 y0 : Nat} {r : Option aV} {M' : hM}
theorem sb244_27 (E : xE G p (xRm 6 (h_sz M' - z0) (h_sl M' - y0)) s m args c prog_14_method_81_code "ZonedFabricModel" z0 y0 (h_sz M') (h_sl M') 7) (B : xB ym244 (some FieldType.int) meth) (v6 : Int32) (M : hM) {res : xRes} (h : b244_27 v6 M = some res) (hN : xN (fun _ _ _ => False) r M' res) : xV G p l e (xRm 6 (h_sz M' - z0) (h_sl M' - y0)) s m args below meth c z0 y0 (h_sz M') (h_sl M') 7 (MQ below (xQc G r M') args s (h_sz M' - z0) (h_sl M' - y0) (xFr G)) 27 [(6, .inl v6)] [] M := by
  unfold b244_27 at h
  refine xv_b E [.iload 6] (pc' := 29) (lv' := [(6, .inl v6)]) (st' := [.inl v6]) (by decide +kernel) rfl rfl ?_
  obtain rfl := Option.some.inj h
  obtain ⟨rfl, rfl⟩ := Prod.mk.inj (show ((some (.inl v6) : Option aV), M) = (r, M') from hN)
  exact xv_ri E B.1 rfl B.2.1 (show decode prog_14_method_81_code 29 = .ok (.ireturn, 1) by decide +kernel) rfl rfl
theorem sb244_0 (E : xE G p (xRm 6 (h_sz M' - z0) (h_sl M' - y0)) s m args c prog_14_method_81_code "ZonedFabricModel" z0 y0 (h_sz M') (h_sl M') 7) (B : xB ym244 (some FieldType.int) meth) (a0 : Nat) (v1 : Int32) (v2 : Int32) (v3 : Int32) (v4 : Int32) (v5 : Int32) (M : hM) {res : xRes} (h : b244_0 a0 v1 v2 v3 v4 v5 M = some res) (hN : xN (fun _ _ _ => False) r M' res) : xV G p l e (xRm 6 (h_sz M' - z0) (h_sl M' - y0)) s m args below meth c z0 y0 (h_sz M') (h_sl M') 7 (MQ below (xQc G r M') args s (h_sz M' - z0) (h_sl M' - y0) (xFr G)) 0 [(0, .inr (.inr (some a0))), (1, .inl v1), (2, .inl v2), (3, .inl v3), (4, .inl v4), (5, .inl v5)] [] M := by
  unfold b244_0 at h
  refine xv_b E [.aload_n 0, .iload_n 1, .iload_n 2, .iload_n 3, .iload 4, .iload 5, .iconst 0] (pc' := 9) (lv' := [(0, .inr (.inr (some a0))), (1, .inl v1), (2, .inl v2), (3, .inl v3), (4, .inl v4), (5, .inl v5)]) (st' := [.inl (0 : Int32), .inl v5, .inl v4, .inl v3, .inl v2, .inl v1, .inr (.inr (some a0))]) (by decide +kernel) rfl rfl ?_
  obtain ⟨b_3, h4, h⟩ := bd h
  obtain ⟨eh4, th4⟩ := g_o_some h4
  obtain ⟨q_1, h2, h⟩ := bd h
  refine xv_cvo E eh4 12 (as := [.inl v1, .inl v2, .inl v3, .inl v4, .inl v5, .inl (0 : Int32)]) (t243 G l (c_I_some h2)) cd243 mw1223 mw1224 mw1225 (show decode prog_14_method_81_code 9 = .ok (.invokevirtual 430, 3) by decide +kernel) th4 rfl rfl (Nat.le_of_ble_eq_true rfl) ⟨Nat.le_of_ble_eq_true rfl, Nat.le_of_ble_eq_true rfl⟩ ?_
  refine xv_b E [.istore 6, .iload 6, .iconst (-1)] (pc' := 17) (lv' := [(6, .inl q_1.1), (0, .inr (.inr (some a0))), (1, .inl v1), (2, .inl v2), (3, .inl v3), (4, .inl v4), (5, .inl v5)]) (st' := [.inl (-1 : Int32), .inl q_1.1]) (by decide +kernel) rfl rfl ?_
  by_cases q9 : q_1.1 = (-1 : Int32)
  · rw [if_pos q9] at h
    refine xv_icmp_eq E 27 (show decode prog_14_method_81_code 17 = .ok (.if_icmp .eq (10), 3) by decide +kernel) rfl (fun _ => ?_) (fun z => absurd q9 z)
    exact xv_w (sb244_27 E B q_1.1 q_1.2 h hN) rfl
  · rw [if_neg q9] at h
    refine xv_icmp_eq E 27 (show decode prog_14_method_81_code 17 = .ok (.if_icmp .eq (10), 3) by decide +kernel) rfl (fun z => absurd z q9) (fun _ => ?_)
    refine xv_b E [.aload_n 0, .iload 6, .iconst 0] (pc' := 24) (lv' := [(6, .inl q_1.1), (0, .inr (.inr (some a0))), (1, .inl v1), (2, .inl v2), (3, .inl v3), (4, .inl v4), (5, .inl v5)]) (st' := [.inl (0 : Int32), .inl q_1.1, .inr (.inr (some a0))]) (by decide +kernel) rfl rfl ?_
    obtain ⟨b_7, h8, h⟩ := bd h
    obtain ⟨eh8, th8⟩ := g_o_some h8
    obtain ⟨q_5, h6, h⟩ := bd h
    refine xv_cvo E eh8 12 (as := [.inl q_1.1, .inl (0 : Int32)]) (t206 G l (c_V_some h6)) cd206 mw1056 mw1057 mw1058 (show decode prog_14_method_81_code 24 = .ok (.invokevirtual 375, 3) by decide +kernel) th8 rfl rfl (Nat.le_of_ble_eq_true rfl) ⟨Nat.le_of_ble_eq_true rfl, Nat.le_of_ble_eq_true rfl⟩ ?_
    exact xv_w (sb244_27 E B q_1.1 q_5 h hN) rfl
end
theorem t244 (G : gX) (l : Launch) {as : List aV} {M : hM} {r : Option aV} {M' : hM} (h : f244 as M = some (r, M')) : xM G l ym244 prog_14_method_81_code 7 (some FieldType.int) 6 as M r M' := by
  unfold f244 at h
  split at h
  · have h := x_out_ok h
    refine xM_of (by decide) (Nat.le_of_ble_eq_true rfl) (lb244_0 G l _ _ _ _ _ _ M h) ?_
    intro p e s m args below meth c E B
    exact sb244_0 E B _ _ _ _ _ _ M h rfl
  · cases h
/-! ZFModel.write(IIIIIJ)I -/
def ym245 : MethodName := ⟨"ZonedFabricModel", "write", "(IIIIIJ)I"⟩
theorem cd245 : xCd ym245 prog_14_method_82_code 10 (some FieldType.int) 6 := ⟨mw1226, mw864, by decide, by decide, by decide +kernel⟩
def b245_0 (a0 : Nat) (v1 : Int32) (v2 : Int32) (v3 : Int32) (v4 : Int32) (v5 : Int32) (w6 : Int64) (M : hM) : Option xRes :=
  Option.bind (g_o M 12 (some a0)) fun b_3 =>
  Option.bind (c_I (f243 [.inr (.inr (some b_3)), .inl v1, .inl v2, .inl v3, .inl v4, .inl v5, .inl (1 : Int32)] M)) fun q_1 =>
  if q_1.1 = (-1 : Int32) then
    (some (.inl (some (.inl q_1.1), q_1.2)))
  else
    (some (.inr (26, [.inr (.inr (some a0)), .inl v5, .inr (.inl w6), .inl q_1.1, .inl (0 : Int32)], q_1.2)))
def b245_26 (a0 : Nat) (v5 : Int32) (w6 : Int64) (v8 : Int32) (v9 : Int32) (M : hM) : Option xRes :=
  if v5 ≤ v9 then
    (Option.bind (g_o M 12 (some a0)) fun b_8 =>
    Option.bind (c_V (f206 [.inr (.inr (some b_8)), .inl v8, .inl (0 : Int32)] M)) fun q_6 =>
    some (.inl (some (.inl v8), q_6)))
  else
    (Option.bind (g_r M 12 54 (some a0)) fun o_10 =>
    Option.bind (as_l M 23 o_10 (((4 : Int32) * v8) + v9) (w6 + (Int32.toInt64 v9))) fun M12 =>
    some (.inr (26, [.inr (.inr (some a0)), .inl v5, .inr (.inl w6), .inl v8, .inl (v9 + (1 : Int32))], M12)))
def k245 (h : Nat) (as : List aV) (M : hM) : Option xRes :=
  if h = 26 then (match as with | [.inr (.inr (some a0)), .inl v5, .inr (.inl w6), .inl v8, .inl v9] => b245_26 a0 v5 w6 v8 v9 M | _ => none) else
  none
def f245 (as : List aV) (M : hM) : xO := match as with
  | [.inr (.inr (some a0)), .inl v1, .inl v2, .inl v3, .inl v4, .inl v5, .inr (.inl w6)] => x_go k245 (b245_0 a0 v1 v2 v3 v4 v5 w6 M)
  | _ => none
theorem lb245_0 (G : gX) (l : Launch) (a0 : Nat) (v1 : Int32) (v2 : Int32) (v3 : Int32) (v4 : Int32) (v5 : Int32) (w6 : Int64) (M : hM) {res : xRes} (h : b245_0 a0 v1 v2 v3 v4 v5 w6 M = some res) : h_sz M ≤ r_sz res ∧ h_sl M ≤ r_sl res := by
  unfold b245_0 at h
  obtain ⟨b_3, h4, h⟩ := bd h
  obtain ⟨q_1, h2, h⟩ := bd h
  have eh2 := (t243 G l (c_I_some h2)).1
  by_cases q5 : q_1.1 = (-1 : Int32)
  · rw [if_pos q5] at h
    obtain rfl := Option.some.inj h
    show h_sz M ≤ h_sz q_1.2 ∧ h_sl M ≤ h_sl q_1.2
    omega
  · rw [if_neg q5] at h
    obtain rfl := Option.some.inj h
    show h_sz M ≤ h_sz q_1.2 ∧ h_sl M ≤ h_sl q_1.2
    omega
theorem lb245_26 (G : gX) (l : Launch) (a0 : Nat) (v5 : Int32) (w6 : Int64) (v8 : Int32) (v9 : Int32) (M : hM) {res : xRes} (h : b245_26 a0 v5 w6 v8 v9 M = some res) : h_sz M ≤ r_sz res ∧ h_sl M ≤ r_sl res := by
  unfold b245_26 at h
  by_cases q14 : v5 ≤ v9
  · rw [if_pos q14] at h
    obtain ⟨b_8, h9, h⟩ := bd h
    obtain ⟨q_6, h7, h⟩ := bd h
    have eh7 := (t206 G l (c_V_some h7)).1
    obtain rfl := Option.some.inj h
    show h_sz M ≤ h_sz q_6 ∧ h_sl M ≤ h_sl q_6
    omega
  · rw [if_neg q14] at h
    obtain ⟨o_10, h11, h⟩ := bd h
    obtain ⟨M12, h13, h⟩ := bd h
    have eh13 := as_l_sz h13
    obtain rfl := Option.some.inj h
    show h_sz M ≤ h_sz M12 ∧ h_sl M ≤ h_sl M12
    omega
section
variable {p : Program} {l : Launch} {e : Env} {s : State} {m : MethodId} {args : Array Value} {below : List Frame} {meth : Method} {c : Code} {G : gX} {z0 y0 : Nat} {r : Option aV} {M' : hM}
def pg245 (p : Program) (l : Launch) (e : Env) (s : State) (m : MethodId) (args : Array Value) (below : List Frame) (meth : Method) (c : Code) (G : gX) (z0 y0 : Nat) (r : Option aV) (M' : hM) (h : Nat) (as : List aV) (M : hM) : Prop :=
  if h = 26 then (match as with | [.inr (.inr (some a0)), .inl v5, .inr (.inl w6), .inl v8, .inl v9] => xV G p l e (xRm 6 (h_sz M' - z0) (h_sl M' - y0)) s m args below meth c z0 y0 (h_sz M') (h_sl M') 10 (MQ below (xQc G r M') args s (h_sz M' - z0) (h_sl M' - y0) (xFr G)) 26 [(0, .inr (.inr (some a0))), (5, .inl v5), (6, .inr (.inl w6)), (8, .inl v8), (9, .inl v9)] [] M | _ => False) else
  False
theorem sb245_0 (E : xE G p (xRm 6 (h_sz M' - z0) (h_sl M' - y0)) s m args c prog_14_method_82_code "ZonedFabricModel" z0 y0 (h_sz M') (h_sl M') 10) (B : xB ym245 (some FieldType.int) meth) (a0 : Nat) (v1 : Int32) (v2 : Int32) (v3 : Int32) (v4 : Int32) (v5 : Int32) (w6 : Int64) (M : hM) {res : xRes} (h : b245_0 a0 v1 v2 v3 v4 v5 w6 M = some res) (hN : xN (pg245 p l e s m args below meth c G z0 y0 r M') r M' res) : xV G p l e (xRm 6 (h_sz M' - z0) (h_sl M' - y0)) s m args below meth c z0 y0 (h_sz M') (h_sl M') 10 (MQ below (xQc G r M') args s (h_sz M' - z0) (h_sl M' - y0) (xFr G)) 0 [(0, .inr (.inr (some a0))), (1, .inl v1), (2, .inl v2), (3, .inl v3), (4, .inl v4), (5, .inl v5), (6, .inr (.inl w6))] [] M := by
  unfold b245_0 at h
  refine xv_b E [.aload_n 0, .iload_n 1, .iload_n 2, .iload_n 3, .iload 4, .iload 5, .iconst 1] (pc' := 9) (lv' := [(0, .inr (.inr (some a0))), (1, .inl v1), (2, .inl v2), (3, .inl v3), (4, .inl v4), (5, .inl v5), (6, .inr (.inl w6))]) (st' := [.inl (1 : Int32), .inl v5, .inl v4, .inl v3, .inl v2, .inl v1, .inr (.inr (some a0))]) (by decide +kernel) rfl rfl ?_
  obtain ⟨b_3, h4, h⟩ := bd h
  obtain ⟨eh4, th4⟩ := g_o_some h4
  obtain ⟨q_1, h2, h⟩ := bd h
  refine xv_cvo E eh4 12 (as := [.inl v1, .inl v2, .inl v3, .inl v4, .inl v5, .inl (1 : Int32)]) (t243 G l (c_I_some h2)) cd243 mw1223 mw1224 mw1225 (show decode prog_14_method_82_code 9 = .ok (.invokevirtual 430, 3) by decide +kernel) th4 rfl rfl (Nat.le_of_ble_eq_true rfl) ⟨Nat.le_of_ble_eq_true rfl, Nat.le_of_ble_eq_true rfl⟩ ?_
  refine xv_b E [.istore 8, .iload 8, .iconst (-1)] (pc' := 17) (lv' := [(8, .inl q_1.1), (0, .inr (.inr (some a0))), (1, .inl v1), (2, .inl v2), (3, .inl v3), (4, .inl v4), (5, .inl v5), (6, .inr (.inl w6))]) (st' := [.inl (-1 : Int32), .inl q_1.1]) (by decide +kernel) rfl rfl ?_
  by_cases q5 : q_1.1 = (-1 : Int32)
  · rw [if_pos q5] at h
    refine xv_icmp_ne E 23 (show decode prog_14_method_82_code 17 = .ok (.if_icmp .ne (6), 3) by decide +kernel) rfl (fun z => absurd q5 z) (fun _ => ?_)
    refine xv_b E [.iload 8] (pc' := 22) (lv' := [(8, .inl q_1.1), (0, .inr (.inr (some a0))), (1, .inl v1), (2, .inl v2), (3, .inl v3), (4, .inl v4), (5, .inl v5), (6, .inr (.inl w6))]) (st' := [.inl q_1.1]) (by decide +kernel) rfl rfl ?_
    obtain rfl := Option.some.inj h
    obtain ⟨rfl, rfl⟩ := Prod.mk.inj (show ((some (.inl q_1.1) : Option aV), q_1.2) = (r, M') from hN)
    exact xv_ri E B.1 rfl B.2.1 (show decode prog_14_method_82_code 22 = .ok (.ireturn, 1) by decide +kernel) rfl rfl
  · rw [if_neg q5] at h
    refine xv_icmp_ne E 23 (show decode prog_14_method_82_code 17 = .ok (.if_icmp .ne (6), 3) by decide +kernel) rfl (fun _ => ?_) (fun z => absurd z q5)
    refine xv_b E [.iconst 0, .istore 9] (pc' := 26) (lv' := [(9, .inl (0 : Int32)), (8, .inl q_1.1), (0, .inr (.inr (some a0))), (1, .inl v1), (2, .inl v2), (3, .inl v3), (4, .inl v4), (5, .inl v5), (6, .inr (.inl w6))]) (st' := []) (by decide +kernel) rfl rfl ?_
    obtain rfl := Option.some.inj h
    exact xv_w hN rfl
theorem sb245_26 (E : xE G p (xRm 6 (h_sz M' - z0) (h_sl M' - y0)) s m args c prog_14_method_82_code "ZonedFabricModel" z0 y0 (h_sz M') (h_sl M') 10) (B : xB ym245 (some FieldType.int) meth) (a0 : Nat) (v5 : Int32) (w6 : Int64) (v8 : Int32) (v9 : Int32) (M : hM) {res : xRes} (h : b245_26 a0 v5 w6 v8 v9 M = some res) (hN : xN (pg245 p l e s m args below meth c G z0 y0 r M') r M' res) : xV G p l e (xRm 6 (h_sz M' - z0) (h_sl M' - y0)) s m args below meth c z0 y0 (h_sz M') (h_sl M') 10 (MQ below (xQc G r M') args s (h_sz M' - z0) (h_sl M' - y0) (xFr G)) 26 [(0, .inr (.inr (some a0))), (5, .inl v5), (6, .inr (.inl w6)), (8, .inl v8), (9, .inl v9)] [] M := by
  unfold b245_26 at h
  refine xv_b E [.iload 9, .iload 5] (pc' := 30) (lv' := [(0, .inr (.inr (some a0))), (5, .inl v5), (6, .inr (.inl w6)), (8, .inl v8), (9, .inl v9)]) (st' := [.inl v5, .inl v9]) (by decide +kernel) rfl rfl ?_
  by_cases q14 : v5 ≤ v9
  · rw [if_pos q14] at h
    refine xv_icmp_ge E 57 (show decode prog_14_method_82_code 30 = .ok (.if_icmp .ge (27), 3) by decide +kernel) rfl (fun _ => ?_) (fun z => absurd q14 z)
    refine xv_b E [.aload_n 0, .iload 8, .iconst 0] (pc' := 61) (lv' := [(0, .inr (.inr (some a0))), (5, .inl v5), (6, .inr (.inl w6)), (8, .inl v8), (9, .inl v9)]) (st' := [.inl (0 : Int32), .inl v8, .inr (.inr (some a0))]) (by decide +kernel) rfl rfl ?_
    obtain ⟨b_8, h9, h⟩ := bd h
    obtain ⟨eh9, th9⟩ := g_o_some h9
    obtain ⟨q_6, h7, h⟩ := bd h
    refine xv_cvo E eh9 12 (as := [.inl v8, .inl (0 : Int32)]) (t206 G l (c_V_some h7)) cd206 mw1056 mw1057 mw1058 (show decode prog_14_method_82_code 61 = .ok (.invokevirtual 375, 3) by decide +kernel) th9 rfl rfl (Nat.le_of_ble_eq_true rfl) ⟨Nat.le_of_ble_eq_true rfl, Nat.le_of_ble_eq_true rfl⟩ ?_
    refine xv_b E [.iload 8] (pc' := 66) (lv' := [(0, .inr (.inr (some a0))), (5, .inl v5), (6, .inr (.inl w6)), (8, .inl v8), (9, .inl v9)]) (st' := [.inl v8]) (by decide +kernel) rfl rfl ?_
    obtain rfl := Option.some.inj h
    obtain ⟨rfl, rfl⟩ := Prod.mk.inj (show ((some (.inl v8) : Option aV), q_6) = (r, M') from hN)
    exact xv_ri E B.1 rfl B.2.1 (show decode prog_14_method_82_code 66 = .ok (.ireturn, 1) by decide +kernel) rfl rfl
  · rw [if_neg q14] at h
    refine xv_icmp_ge E 57 (show decode prog_14_method_82_code 30 = .ok (.if_icmp .ge (27), 3) by decide +kernel) rfl (fun z => absurd z q14) (fun _ => ?_)
    refine xv_b E [.aload_n 0] (pc' := 34) (lv' := [(0, .inr (.inr (some a0))), (5, .inl v5), (6, .inr (.inl w6)), (8, .inl v8), (9, .inl v9)]) (st' := [.inr (.inr (some a0))]) (by decide +kernel) rfl rfl ?_
    obtain ⟨o_10, h11, h⟩ := bd h
    refine xg_r E 12 54 h11 mw912 (show decode prog_14_method_82_code 34 = .ok (.getfield 152, 3) by decide +kernel) ?_
    refine xv_b E [.iconst 4, .iload 8, .imul, .iload 9, .iadd, .lload 6, .iload 9, .i2l, .ladd] (pc' := 50) (lv' := [(0, .inr (.inr (some a0))), (5, .inl v5), (6, .inr (.inl w6)), (8, .inl v8), (9, .inl v9)]) (st' := [.inr (.inl (w6 + (Int32.toInt64 v9))), .inl (((4 : Int32) * v8) + v9), .inr (.inr o_10)]) (by decide +kernel) rfl rfl ?_
    obtain ⟨M12, h13, h⟩ := bd h
    refine xs_l E h13 (show decode prog_14_method_82_code 50 = .ok (.lastore, 1) by decide +kernel) ?_
    refine xv_b E [.iinc 9 1] (pc' := 54) (lv' := [(9, .inl (v9 + (1 : Int32))), (0, .inr (.inr (some a0))), (5, .inl v5), (6, .inr (.inl w6)), (8, .inl v8)]) (st' := []) (by decide +kernel) rfl rfl ?_
    refine xv_goto E 26 (show decode prog_14_method_82_code 54 = .ok (.goto (-28), 3) by decide +kernel) rfl ?_
    obtain rfl := Option.some.inj h
    exact xv_w hN rfl
end
theorem t245 (G : gX) (l : Launch) {as : List aV} {M : hM} {r : Option aV} {M' : hM} (h : f245 as M = some (r, M')) : xM G l ym245 prog_14_method_82_code 10 (some FieldType.int) 6 as M r M' := by
  unfold f245 at h
  split at h
  · have hle : ∀ h as M res, k245 h as M = some res → h_sz M ≤ r_sz res ∧ h_sl M ≤ r_sl res := by
      intro h as M res hb
      unfold k245 at hb
      by_cases e0 : h = 26
      · rw [if_pos e0] at hb
        split at hb
        · exact lb245_26 G l _ _ _ _ _ M hb
        · cases hb
      · rw [if_neg e0] at hb
        cases hb
    obtain ⟨res, hx, hres⟩ := x_go_ok h
    refine xM_of (by decide) (Nat.le_of_ble_eq_true rfl) ?_ ?_
    · have e1 := lb245_0 G l _ _ _ _ _ _ _ M hx
      have e2 := x_go_le hle hres
      omega
    · intro p e s m args below meth c E B
      refine sb245_0 E B _ _ _ _ _ _ _ M hx (hres _ ?_)
      intro h as M res hb hN
      unfold k245 at hb
      unfold pg245
      by_cases e0 : h = 26
      · rw [if_pos e0] at hb ⊢
        split at hb
        · exact sb245_26 E B _ _ _ _ _ M hb hN
        · cases hb
      · rw [if_neg e0] at hb ⊢
        cases hb
  · cases h
/-! ZFModel.isCommand(I)Z -/
def ym246 : MethodName := ⟨"ZonedFabricModel", "isCommand", "(I)Z"⟩
theorem cd246 : xCd ym246 prog_14_method_83_code 2 (some FieldType.boolean) 1 := ⟨mw1227, mw864, by decide, by decide, by decide +kernel⟩
def b246_17 (si0 : Int32) (M : hM) : Option xRes :=
  if si0 = 0 ∨ si0 = 1 then
    (some (.inl (some (.inl si0), M)))
  else
    none
def b246_16  (M : hM) : Option xRes :=
  b246_17 (0 : Int32) M
def b246_0 (a0 : Nat) (v1 : Int32) (M : hM) : Option xRes :=
  if v1 < 0 then
    (b246_16  M)
  else
    (Option.bind (g_i M 12 47 (some a0)) fun v_1 =>
    if v_1 ≤ v1 then
      (b246_16  M)
    else
      (b246_17 (1 : Int32) M))
def f246 (as : List aV) (M : hM) : xO := match as with
  | [.inr (.inr (some a0)), .inl v1] => x_out (b246_0 a0 v1 M)
  | _ => none
theorem lb246_17 (G : gX) (l : Launch) (si0 : Int32) (M : hM) {res : xRes} (h : b246_17 si0 M = some res) : h_sz M ≤ r_sz res ∧ h_sl M ≤ r_sl res := by
  unfold b246_17 at h
  by_cases q5 : si0 = 0 ∨ si0 = 1
  · rw [if_pos q5] at h
    obtain rfl := Option.some.inj h
    show h_sz M ≤ h_sz M ∧ h_sl M ≤ h_sl M
    omega
  · rw [if_neg q5] at h
    cases h
theorem lb246_16 (G : gX) (l : Launch)  (M : hM) {res : xRes} (h : b246_16  M = some res) : h_sz M ≤ r_sz res ∧ h_sl M ≤ r_sl res := by
  unfold b246_16 at h
  have e := lb246_17 G l (0 : Int32) M h
  omega
theorem lb246_0 (G : gX) (l : Launch) (a0 : Nat) (v1 : Int32) (M : hM) {res : xRes} (h : b246_0 a0 v1 M = some res) : h_sz M ≤ r_sz res ∧ h_sl M ≤ r_sl res := by
  unfold b246_0 at h
  by_cases q4 : v1 < 0
  · rw [if_pos q4] at h
    have e := lb246_16 G l  M h
    omega
  · rw [if_neg q4] at h
    obtain ⟨v_1, h2, h⟩ := bd h
    by_cases q3 : v_1 ≤ v1
    · rw [if_pos q3] at h
      have e := lb246_16 G l  M h
      omega
    · rw [if_neg q3] at h
      have e := lb246_17 G l (1 : Int32) M h
      omega
section
variable {p : Program} {l : Launch} {e : Env} {s : State} {m : MethodId} {args : Array Value} {below : List Frame} {meth : Method} {c : Code} {G : gX} {z0 y0 : Nat} {r : Option aV} {M' : hM}
theorem sb246_17 (E : xE G p (xRm 0 (h_sz M' - z0) (h_sl M' - y0)) s m args c prog_14_method_83_code "ZonedFabricModel" z0 y0 (h_sz M') (h_sl M') 2) (B : xB ym246 (some FieldType.boolean) meth) (si0 : Int32) (M : hM) {res : xRes} (h : b246_17 si0 M = some res) (hN : xN (fun _ _ _ => False) r M' res) : xV G p l e (xRm 0 (h_sz M' - z0) (h_sl M' - y0)) s m args below meth c z0 y0 (h_sz M') (h_sl M') 2 (MQ below (xQc G r M') args s (h_sz M' - z0) (h_sl M' - y0) (xFr G)) 17 [] [.inl si0] M := by
  unfold b246_17 at h
  by_cases q5 : si0 = 0 ∨ si0 = 1
  · rw [if_pos q5] at h
    obtain rfl := Option.some.inj h
    obtain ⟨rfl, rfl⟩ := Prod.mk.inj (show ((some (.inl si0) : Option aV), M) = (r, M') from hN)
    exact xv_ri E B.1 (by rcases q5 with z | z <;> rw [z] <;> rfl) B.2.1 (show decode prog_14_method_83_code 17 = .ok (.ireturn, 1) by decide +kernel) rfl rfl
  · rw [if_neg q5] at h
    cases h
theorem sb246_16 (E : xE G p (xRm 0 (h_sz M' - z0) (h_sl M' - y0)) s m args c prog_14_method_83_code "ZonedFabricModel" z0 y0 (h_sz M') (h_sl M') 2) (B : xB ym246 (some FieldType.boolean) meth)  (M : hM) {res : xRes} (h : b246_16  M = some res) (hN : xN (fun _ _ _ => False) r M' res) : xV G p l e (xRm 0 (h_sz M' - z0) (h_sl M' - y0)) s m args below meth c z0 y0 (h_sz M') (h_sl M') 2 (MQ below (xQc G r M') args s (h_sz M' - z0) (h_sl M' - y0) (xFr G)) 16 [] [] M := by
  unfold b246_16 at h
  refine xv_b E [.iconst 0] (pc' := 17) (lv' := []) (st' := [.inl (0 : Int32)]) (by decide +kernel) rfl rfl ?_
  exact xv_w (sb246_17 E B (0 : Int32) M h hN) rfl
theorem sb246_0 (E : xE G p (xRm 0 (h_sz M' - z0) (h_sl M' - y0)) s m args c prog_14_method_83_code "ZonedFabricModel" z0 y0 (h_sz M') (h_sl M') 2) (B : xB ym246 (some FieldType.boolean) meth) (a0 : Nat) (v1 : Int32) (M : hM) {res : xRes} (h : b246_0 a0 v1 M = some res) (hN : xN (fun _ _ _ => False) r M' res) : xV G p l e (xRm 0 (h_sz M' - z0) (h_sl M' - y0)) s m args below meth c z0 y0 (h_sz M') (h_sl M') 2 (MQ below (xQc G r M') args s (h_sz M' - z0) (h_sl M' - y0) (xFr G)) 0 [(0, .inr (.inr (some a0))), (1, .inl v1)] [] M := by
  unfold b246_0 at h
  refine xv_b E [.iload_n 1] (pc' := 1) (lv' := [(0, .inr (.inr (some a0))), (1, .inl v1)]) (st' := [.inl v1]) (by decide +kernel) rfl rfl ?_
  by_cases q4 : v1 < 0
  · rw [if_pos q4] at h
    refine xv_if_lt E 16 (show decode prog_14_method_83_code 1 = .ok (.ifCond .lt (15), 3) by decide +kernel) rfl (fun _ => ?_) (fun z => absurd q4 z)
    exact xv_w (sb246_16 E B  M h hN) rfl
  · rw [if_neg q4] at h
    refine xv_if_lt E 16 (show decode prog_14_method_83_code 1 = .ok (.ifCond .lt (15), 3) by decide +kernel) rfl (fun z => absurd z q4) (fun _ => ?_)
    refine xv_b E [.iload_n 1, .aload_n 0] (pc' := 6) (lv' := [(0, .inr (.inr (some a0))), (1, .inl v1)]) (st' := [.inr (.inr (some a0)), .inl v1]) (by decide +kernel) rfl rfl ?_
    obtain ⟨v_1, h2, h⟩ := bd h
    refine xg_i E 12 47 h2 mw1061 (show decode prog_14_method_83_code 6 = .ok (.getfield 364, 3) by decide +kernel) ?_
    by_cases q3 : v_1 ≤ v1
    · rw [if_pos q3] at h
      refine xv_icmp_ge E 16 (show decode prog_14_method_83_code 9 = .ok (.if_icmp .ge (7), 3) by decide +kernel) rfl (fun _ => ?_) (fun z => absurd q3 z)
      exact xv_w (sb246_16 E B  M h hN) rfl
    · rw [if_neg q3] at h
      refine xv_icmp_ge E 16 (show decode prog_14_method_83_code 9 = .ok (.if_icmp .ge (7), 3) by decide +kernel) rfl (fun z => absurd z q3) (fun _ => ?_)
      refine xv_b E [.iconst 1] (pc' := 13) (lv' := [(0, .inr (.inr (some a0))), (1, .inl v1)]) (st' := [.inl (1 : Int32)]) (by decide +kernel) rfl rfl ?_
      refine xv_goto E 17 (show decode prog_14_method_83_code 13 = .ok (.goto (4), 3) by decide +kernel) rfl ?_
      exact xv_w (sb246_17 E B (1 : Int32) M h hN) rfl
end
theorem t246 (G : gX) (l : Launch) {as : List aV} {M : hM} {r : Option aV} {M' : hM} (h : f246 as M = some (r, M')) : xM G l ym246 prog_14_method_83_code 2 (some FieldType.boolean) 0 as M r M' := by
  unfold f246 at h
  split at h
  · have h := x_out_ok h
    refine xM_of (by decide) (Nat.le_of_ble_eq_true rfl) (lb246_0 G l _ _ M h) ?_
    intro p e s m args below meth c E B
    exact sb246_0 E B _ _ M h rfl
  · cases h
/-! ZFModel.status(I)I -/
def ym247 : MethodName := ⟨"ZonedFabricModel", "status", "(I)I"⟩
theorem cd247 : xCd ym247 prog_14_method_84_code 2 (some FieldType.int) 1 := ⟨mw1228, mw864, by decide, by decide, by decide +kernel⟩
def b247_18 (si0 : Int32) (M : hM) : Option xRes :=
  some (.inl (some (.inl si0), M))
def b247_0 (a0 : Nat) (v1 : Int32) (M : hM) : Option xRes :=
  Option.bind (g_o M 12 (some a0)) fun b_3 =>
  Option.bind (c_I (f246 [.inr (.inr (some b_3)), .inl v1] M)) fun q_1 =>
  if q_1.1 = 0 then
    (b247_18 (-1 : Int32) q_1.2)
  else
    (Option.bind (g_r q_1.2 12 56 (some a0)) fun o_5 =>
    Option.bind (al_i q_1.2 20 o_5 v1) fun v_7 =>
    b247_18 v_7 q_1.2)
def f247 (as : List aV) (M : hM) : xO := match as with
  | [.inr (.inr (some a0)), .inl v1] => x_out (b247_0 a0 v1 M)
  | _ => none
theorem lb247_18 (G : gX) (l : Launch) (si0 : Int32) (M : hM) {res : xRes} (h : b247_18 si0 M = some res) : h_sz M ≤ r_sz res ∧ h_sl M ≤ r_sl res := by
  unfold b247_18 at h
  obtain rfl := Option.some.inj h
  show h_sz M ≤ h_sz M ∧ h_sl M ≤ h_sl M
  omega
theorem lb247_0 (G : gX) (l : Launch) (a0 : Nat) (v1 : Int32) (M : hM) {res : xRes} (h : b247_0 a0 v1 M = some res) : h_sz M ≤ r_sz res ∧ h_sl M ≤ r_sl res := by
  unfold b247_0 at h
  obtain ⟨b_3, h4, h⟩ := bd h
  obtain ⟨q_1, h2, h⟩ := bd h
  have eh2 := (t246 G l (c_I_some h2)).1
  by_cases q9 : q_1.1 = 0
  · rw [if_pos q9] at h
    have e := lb247_18 G l (-1 : Int32) q_1.2 h
    omega
  · rw [if_neg q9] at h
    obtain ⟨o_5, h6, h⟩ := bd h
    obtain ⟨v_7, h8, h⟩ := bd h
    have e := lb247_18 G l v_7 q_1.2 h
    omega
section
variable {p : Program} {l : Launch} {e : Env} {s : State} {m : MethodId} {args : Array Value} {below : List Frame} {meth : Method} {c : Code} {G : gX} {z0 y0 : Nat} {r : Option aV} {M' : hM}
theorem sb247_18 (E : xE G p (xRm 1 (h_sz M' - z0) (h_sl M' - y0)) s m args c prog_14_method_84_code "ZonedFabricModel" z0 y0 (h_sz M') (h_sl M') 2) (B : xB ym247 (some FieldType.int) meth) (si0 : Int32) (M : hM) {res : xRes} (h : b247_18 si0 M = some res) (hN : xN (fun _ _ _ => False) r M' res) : xV G p l e (xRm 1 (h_sz M' - z0) (h_sl M' - y0)) s m args below meth c z0 y0 (h_sz M') (h_sl M') 2 (MQ below (xQc G r M') args s (h_sz M' - z0) (h_sl M' - y0) (xFr G)) 18 [] [.inl si0] M := by
  unfold b247_18 at h
  obtain rfl := Option.some.inj h
  obtain ⟨rfl, rfl⟩ := Prod.mk.inj (show ((some (.inl si0) : Option aV), M) = (r, M') from hN)
  exact xv_ri E B.1 rfl B.2.1 (show decode prog_14_method_84_code 18 = .ok (.ireturn, 1) by decide +kernel) rfl rfl
theorem sb247_0 (E : xE G p (xRm 1 (h_sz M' - z0) (h_sl M' - y0)) s m args c prog_14_method_84_code "ZonedFabricModel" z0 y0 (h_sz M') (h_sl M') 2) (B : xB ym247 (some FieldType.int) meth) (a0 : Nat) (v1 : Int32) (M : hM) {res : xRes} (h : b247_0 a0 v1 M = some res) (hN : xN (fun _ _ _ => False) r M' res) : xV G p l e (xRm 1 (h_sz M' - z0) (h_sl M' - y0)) s m args below meth c z0 y0 (h_sz M') (h_sl M') 2 (MQ below (xQc G r M') args s (h_sz M' - z0) (h_sl M' - y0) (xFr G)) 0 [(0, .inr (.inr (some a0))), (1, .inl v1)] [] M := by
  unfold b247_0 at h
  refine xv_b E [.aload_n 0, .iload_n 1] (pc' := 2) (lv' := [(0, .inr (.inr (some a0))), (1, .inl v1)]) (st' := [.inl v1, .inr (.inr (some a0))]) (by decide +kernel) rfl rfl ?_
  obtain ⟨b_3, h4, h⟩ := bd h
  obtain ⟨eh4, th4⟩ := g_o_some h4
  obtain ⟨q_1, h2, h⟩ := bd h
  refine xv_cvo E eh4 12 (as := [.inl v1]) (t246 G l (c_I_some h2)) cd246 mw1229 mw1230 mw1231 (show decode prog_14_method_84_code 2 = .ok (.invokevirtual 434, 3) by decide +kernel) th4 rfl rfl (Nat.le_of_ble_eq_true rfl) ⟨Nat.le_of_ble_eq_true rfl, Nat.le_of_ble_eq_true rfl⟩ ?_
  by_cases q9 : q_1.1 = 0
  · rw [if_pos q9] at h
    refine xv_if_eq E 17 (show decode prog_14_method_84_code 5 = .ok (.ifCond .eq (12), 3) by decide +kernel) rfl (fun _ => ?_) (fun z => absurd q9 z)
    refine xv_b E [.iconst (-1)] (pc' := 18) (lv' := [(0, .inr (.inr (some a0))), (1, .inl v1)]) (st' := [.inl (-1 : Int32)]) (by decide +kernel) rfl rfl ?_
    exact xv_w (sb247_18 E B (-1 : Int32) q_1.2 h hN) rfl
  · rw [if_neg q9] at h
    refine xv_if_eq E 17 (show decode prog_14_method_84_code 5 = .ok (.ifCond .eq (12), 3) by decide +kernel) rfl (fun z => absurd z q9) (fun _ => ?_)
    refine xv_b E [.aload_n 0] (pc' := 9) (lv' := [(0, .inr (.inr (some a0))), (1, .inl v1)]) (st' := [.inr (.inr (some a0))]) (by decide +kernel) rfl rfl ?_
    obtain ⟨o_5, h6, h⟩ := bd h
    refine xg_r E 12 56 h6 mw914 (show decode prog_14_method_84_code 9 = .ok (.getfield 158, 3) by decide +kernel) ?_
    refine xv_b E [.iload_n 1] (pc' := 13) (lv' := [(0, .inr (.inr (some a0))), (1, .inl v1)]) (st' := [.inl v1, .inr (.inr o_5)]) (by decide +kernel) rfl rfl ?_
    obtain ⟨v_7, h8, h⟩ := bd h
    refine xa_i E h8 (show decode prog_14_method_84_code 13 = .ok (.iaload, 1) by decide +kernel) ?_
    refine xv_goto E 18 (show decode prog_14_method_84_code 14 = .ok (.goto (4), 3) by decide +kernel) rfl ?_
    exact xv_w (sb247_18 E B v_7 q_1.2 h hN) rfl
end
theorem t247 (G : gX) (l : Launch) {as : List aV} {M : hM} {r : Option aV} {M' : hM} (h : f247 as M = some (r, M')) : xM G l ym247 prog_14_method_84_code 2 (some FieldType.int) 1 as M r M' := by
  unfold f247 at h
  split at h
  · have h := x_out_ok h
    refine xM_of (by decide) (Nat.le_of_ble_eq_true rfl) (lb247_0 G l _ _ M h) ?_
    intro p e s m args below meth c E B
    exact sb247_0 E B _ _ M h rfl
  · cases h
/-! ZFModel.got(II)J -/
def ym248 : MethodName := ⟨"ZonedFabricModel", "got", "(II)J"⟩
theorem cd248 : xCd ym248 prog_14_method_85_code 3 (some FieldType.long) 2 := ⟨mw1232, mw864, by decide, by decide, by decide +kernel⟩
def b248_40 (sl0 : Int64) (M : hM) : Option xRes :=
  some (.inl (some (.inr (.inl sl0)), M))
def b248_39  (M : hM) : Option xRes :=
  b248_40 (0 : Int64) M
def b248_0 (a0 : Nat) (v1 : Int32) (v2 : Int32) (M : hM) : Option xRes :=
  Option.bind (g_o M 12 (some a0)) fun b_3 =>
  Option.bind (c_I (f246 [.inr (.inr (some b_3)), .inl v1] M)) fun q_1 =>
  if q_1.1 = 0 then
    (b248_39  q_1.2)
  else
    (Option.bind (g_r q_1.2 12 50 (some a0)) fun o_5 =>
    Option.bind (al_i q_1.2 22 o_5 v1) fun v_7 =>
    if v_7 = 0 then
      (if v2 < 0 then
        (b248_39  q_1.2)
      else
        (if (4 : Int32) ≤ v2 then
          (b248_39  q_1.2)
        else
          (Option.bind (g_r q_1.2 12 54 (some a0)) fun o_9 =>
          Option.bind (al_l q_1.2 23 o_9 (((4 : Int32) * v1) + v2)) fun w_11 =>
          b248_40 w_11 q_1.2)))
    else
      (b248_39  q_1.2))
def f248 (as : List aV) (M : hM) : xO := match as with
  | [.inr (.inr (some a0)), .inl v1, .inl v2] => x_out (b248_0 a0 v1 v2 M)
  | _ => none
theorem lb248_40 (G : gX) (l : Launch) (sl0 : Int64) (M : hM) {res : xRes} (h : b248_40 sl0 M = some res) : h_sz M ≤ r_sz res ∧ h_sl M ≤ r_sl res := by
  unfold b248_40 at h
  obtain rfl := Option.some.inj h
  show h_sz M ≤ h_sz M ∧ h_sl M ≤ h_sl M
  omega
theorem lb248_39 (G : gX) (l : Launch)  (M : hM) {res : xRes} (h : b248_39  M = some res) : h_sz M ≤ r_sz res ∧ h_sl M ≤ r_sl res := by
  unfold b248_39 at h
  have e := lb248_40 G l (0 : Int64) M h
  omega
theorem lb248_0 (G : gX) (l : Launch) (a0 : Nat) (v1 : Int32) (v2 : Int32) (M : hM) {res : xRes} (h : b248_0 a0 v1 v2 M = some res) : h_sz M ≤ r_sz res ∧ h_sl M ≤ r_sl res := by
  unfold b248_0 at h
  obtain ⟨b_3, h4, h⟩ := bd h
  obtain ⟨q_1, h2, h⟩ := bd h
  have eh2 := (t246 G l (c_I_some h2)).1
  by_cases q16 : q_1.1 = 0
  · rw [if_pos q16] at h
    have e := lb248_39 G l  q_1.2 h
    omega
  · rw [if_neg q16] at h
    obtain ⟨o_5, h6, h⟩ := bd h
    obtain ⟨v_7, h8, h⟩ := bd h
    by_cases q15 : v_7 = 0
    · rw [if_pos q15] at h
      by_cases q14 : v2 < 0
      · rw [if_pos q14] at h
        have e := lb248_39 G l  q_1.2 h
        omega
      · rw [if_neg q14] at h
        by_cases q13 : (4 : Int32) ≤ v2
        · rw [if_pos q13] at h
          have e := lb248_39 G l  q_1.2 h
          omega
        · rw [if_neg q13] at h
          obtain ⟨o_9, h10, h⟩ := bd h
          obtain ⟨w_11, h12, h⟩ := bd h
          have e := lb248_40 G l w_11 q_1.2 h
          omega
    · rw [if_neg q15] at h
      have e := lb248_39 G l  q_1.2 h
      omega
section
variable {p : Program} {l : Launch} {e : Env} {s : State} {m : MethodId} {args : Array Value} {below : List Frame} {meth : Method} {c : Code} {G : gX} {z0 y0 : Nat} {r : Option aV} {M' : hM}
theorem sb248_40 (E : xE G p (xRm 1 (h_sz M' - z0) (h_sl M' - y0)) s m args c prog_14_method_85_code "ZonedFabricModel" z0 y0 (h_sz M') (h_sl M') 3) (B : xB ym248 (some FieldType.long) meth) (sl0 : Int64) (M : hM) {res : xRes} (h : b248_40 sl0 M = some res) (hN : xN (fun _ _ _ => False) r M' res) : xV G p l e (xRm 1 (h_sz M' - z0) (h_sl M' - y0)) s m args below meth c z0 y0 (h_sz M') (h_sl M') 3 (MQ below (xQc G r M') args s (h_sz M' - z0) (h_sl M' - y0) (xFr G)) 40 [] [.inr (.inl sl0)] M := by
  unfold b248_40 at h
  obtain rfl := Option.some.inj h
  obtain ⟨rfl, rfl⟩ := Prod.mk.inj (show ((some (.inr (.inl sl0)) : Option aV), M) = (r, M') from hN)
  exact xv_rl E B.1 B.2.1 (show decode prog_14_method_85_code 40 = .ok (.lreturn, 1) by decide +kernel) rfl rfl
theorem sb248_39 (E : xE G p (xRm 1 (h_sz M' - z0) (h_sl M' - y0)) s m args c prog_14_method_85_code "ZonedFabricModel" z0 y0 (h_sz M') (h_sl M') 3) (B : xB ym248 (some FieldType.long) meth)  (M : hM) {res : xRes} (h : b248_39  M = some res) (hN : xN (fun _ _ _ => False) r M' res) : xV G p l e (xRm 1 (h_sz M' - z0) (h_sl M' - y0)) s m args below meth c z0 y0 (h_sz M') (h_sl M') 3 (MQ below (xQc G r M') args s (h_sz M' - z0) (h_sl M' - y0) (xFr G)) 39 [] [] M := by
  unfold b248_39 at h
  refine xv_b E [.lconst 0] (pc' := 40) (lv' := []) (st' := [.inr (.inl (0 : Int64))]) (by decide +kernel) rfl rfl ?_
  exact xv_w (sb248_40 E B (0 : Int64) M h hN) rfl
theorem sb248_0 (E : xE G p (xRm 1 (h_sz M' - z0) (h_sl M' - y0)) s m args c prog_14_method_85_code "ZonedFabricModel" z0 y0 (h_sz M') (h_sl M') 3) (B : xB ym248 (some FieldType.long) meth) (a0 : Nat) (v1 : Int32) (v2 : Int32) (M : hM) {res : xRes} (h : b248_0 a0 v1 v2 M = some res) (hN : xN (fun _ _ _ => False) r M' res) : xV G p l e (xRm 1 (h_sz M' - z0) (h_sl M' - y0)) s m args below meth c z0 y0 (h_sz M') (h_sl M') 3 (MQ below (xQc G r M') args s (h_sz M' - z0) (h_sl M' - y0) (xFr G)) 0 [(0, .inr (.inr (some a0))), (1, .inl v1), (2, .inl v2)] [] M := by
  unfold b248_0 at h
  refine xv_b E [.aload_n 0, .iload_n 1] (pc' := 2) (lv' := [(0, .inr (.inr (some a0))), (1, .inl v1), (2, .inl v2)]) (st' := [.inl v1, .inr (.inr (some a0))]) (by decide +kernel) rfl rfl ?_
  obtain ⟨b_3, h4, h⟩ := bd h
  obtain ⟨eh4, th4⟩ := g_o_some h4
  obtain ⟨q_1, h2, h⟩ := bd h
  refine xv_cvo E eh4 12 (as := [.inl v1]) (t246 G l (c_I_some h2)) cd246 mw1229 mw1230 mw1231 (show decode prog_14_method_85_code 2 = .ok (.invokevirtual 434, 3) by decide +kernel) th4 rfl rfl (Nat.le_of_ble_eq_true rfl) ⟨Nat.le_of_ble_eq_true rfl, Nat.le_of_ble_eq_true rfl⟩ ?_
  by_cases q16 : q_1.1 = 0
  · rw [if_pos q16] at h
    refine xv_if_eq E 39 (show decode prog_14_method_85_code 5 = .ok (.ifCond .eq (34), 3) by decide +kernel) rfl (fun _ => ?_) (fun z => absurd q16 z)
    exact xv_w (sb248_39 E B  q_1.2 h hN) rfl
  · rw [if_neg q16] at h
    refine xv_if_eq E 39 (show decode prog_14_method_85_code 5 = .ok (.ifCond .eq (34), 3) by decide +kernel) rfl (fun z => absurd z q16) (fun _ => ?_)
    refine xv_b E [.aload_n 0] (pc' := 9) (lv' := [(0, .inr (.inr (some a0))), (1, .inl v1), (2, .inl v2)]) (st' := [.inr (.inr (some a0))]) (by decide +kernel) rfl rfl ?_
    obtain ⟨o_5, h6, h⟩ := bd h
    refine xg_r E 12 50 h6 mw908 (show decode prog_14_method_85_code 9 = .ok (.getfield 140, 3) by decide +kernel) ?_
    refine xv_b E [.iload_n 1] (pc' := 13) (lv' := [(0, .inr (.inr (some a0))), (1, .inl v1), (2, .inl v2)]) (st' := [.inl v1, .inr (.inr o_5)]) (by decide +kernel) rfl rfl ?_
    obtain ⟨v_7, h8, h⟩ := bd h
    refine xa_z E h8 (show decode prog_14_method_85_code 13 = .ok (.baload, 1) by decide +kernel) ?_
    by_cases q15 : v_7 = 0
    · rw [if_pos q15] at h
      refine xv_if_ne E 39 (show decode prog_14_method_85_code 14 = .ok (.ifCond .ne (25), 3) by decide +kernel) rfl (fun z => absurd q15 z) (fun _ => ?_)
      refine xv_b E [.iload_n 2] (pc' := 18) (lv' := [(0, .inr (.inr (some a0))), (1, .inl v1), (2, .inl v2)]) (st' := [.inl v2]) (by decide +kernel) rfl rfl ?_
      by_cases q14 : v2 < 0
      · rw [if_pos q14] at h
        refine xv_if_lt E 39 (show decode prog_14_method_85_code 18 = .ok (.ifCond .lt (21), 3) by decide +kernel) rfl (fun _ => ?_) (fun z => absurd q14 z)
        exact xv_w (sb248_39 E B  q_1.2 h hN) rfl
      · rw [if_neg q14] at h
        refine xv_if_lt E 39 (show decode prog_14_method_85_code 18 = .ok (.ifCond .lt (21), 3) by decide +kernel) rfl (fun z => absurd z q14) (fun _ => ?_)
        refine xv_b E [.iload_n 2, .iconst 4] (pc' := 23) (lv' := [(0, .inr (.inr (some a0))), (1, .inl v1), (2, .inl v2)]) (st' := [.inl (4 : Int32), .inl v2]) (by decide +kernel) rfl rfl ?_
        by_cases q13 : (4 : Int32) ≤ v2
        · rw [if_pos q13] at h
          refine xv_icmp_ge E 39 (show decode prog_14_method_85_code 23 = .ok (.if_icmp .ge (16), 3) by decide +kernel) rfl (fun _ => ?_) (fun z => absurd q13 z)
          exact xv_w (sb248_39 E B  q_1.2 h hN) rfl
        · rw [if_neg q13] at h
          refine xv_icmp_ge E 39 (show decode prog_14_method_85_code 23 = .ok (.if_icmp .ge (16), 3) by decide +kernel) rfl (fun z => absurd z q13) (fun _ => ?_)
          refine xv_b E [.aload_n 0] (pc' := 27) (lv' := [(0, .inr (.inr (some a0))), (1, .inl v1), (2, .inl v2)]) (st' := [.inr (.inr (some a0))]) (by decide +kernel) rfl rfl ?_
          obtain ⟨o_9, h10, h⟩ := bd h
          refine xg_r E 12 54 h10 mw912 (show decode prog_14_method_85_code 27 = .ok (.getfield 152, 3) by decide +kernel) ?_
          refine xv_b E [.iconst 4, .iload_n 1, .imul, .iload_n 2, .iadd] (pc' := 35) (lv' := [(0, .inr (.inr (some a0))), (1, .inl v1), (2, .inl v2)]) (st' := [.inl (((4 : Int32) * v1) + v2), .inr (.inr o_9)]) (by decide +kernel) rfl rfl ?_
          obtain ⟨w_11, h12, h⟩ := bd h
          refine xa_l E h12 (show decode prog_14_method_85_code 35 = .ok (.laload, 1) by decide +kernel) ?_
          refine xv_goto E 40 (show decode prog_14_method_85_code 36 = .ok (.goto (4), 3) by decide +kernel) rfl ?_
          exact xv_w (sb248_40 E B w_11 q_1.2 h hN) rfl
    · rw [if_neg q15] at h
      refine xv_if_ne E 39 (show decode prog_14_method_85_code 14 = .ok (.ifCond .ne (25), 3) by decide +kernel) rfl (fun _ => ?_) (fun z => absurd z q15)
      exact xv_w (sb248_39 E B  q_1.2 h hN) rfl
end
theorem t248 (G : gX) (l : Launch) {as : List aV} {M : hM} {r : Option aV} {M' : hM} (h : f248 as M = some (r, M')) : xM G l ym248 prog_14_method_85_code 3 (some FieldType.long) 1 as M r M' := by
  unfold f248 at h
  split at h
  · have h := x_out_ok h
    refine xM_of (by decide) (Nat.le_of_ble_eq_true rfl) (lb248_0 G l _ _ _ M h) ?_
    intro p e s m args below meth c E B
    exact sb248_0 E B _ _ _ M h rfl
  · cases h
/-! ZFModel.when(II)I -/
def ym249 : MethodName := ⟨"ZonedFabricModel", "when", "(II)I"⟩
theorem cd249 : xCd ym249 prog_14_method_86_code 3 (some FieldType.int) 2 := ⟨mw1233, mw864, by decide, by decide, by decide +kernel⟩
def b249_52 (si0 : Int32) (M : hM) : Option xRes :=
  some (.inl (some (.inl si0), M))
def b249_0 (a0 : Nat) (v1 : Int32) (v2 : Int32) (M : hM) : Option xRes :=
  Option.bind (g_o M 12 (some a0)) fun b_3 =>
  Option.bind (c_I (f246 [.inr (.inr (some b_3)), .inl v1] M)) fun q_1 =>
  if q_1.1 = 0 then
    (some (.inl (some (.inl (-1 : Int32)), q_1.2)))
  else
    (if v2 = 0 then
      (Option.bind (g_r q_1.2 12 58 (some a0)) fun o_15 =>
      Option.bind (al_i q_1.2 20 o_15 v1) fun v_17 =>
      b249_52 v_17 q_1.2)
    else
      (if v2 = (1 : Int32) then
        (Option.bind (g_r q_1.2 12 59 (some a0)) fun o_10 =>
        Option.bind (al_i q_1.2 20 o_10 v1) fun v_12 =>
        b249_52 v_12 q_1.2)
      else
        (if v2 = (2 : Int32) then
          (Option.bind (g_r q_1.2 12 57 (some a0)) fun o_5 =>
          Option.bind (al_i q_1.2 20 o_5 v1) fun v_7 =>
          b249_52 v_7 q_1.2)
        else
          (b249_52 (-1 : Int32) q_1.2))))
def f249 (as : List aV) (M : hM) : xO := match as with
  | [.inr (.inr (some a0)), .inl v1, .inl v2] => x_out (b249_0 a0 v1 v2 M)
  | _ => none
theorem lb249_52 (G : gX) (l : Launch) (si0 : Int32) (M : hM) {res : xRes} (h : b249_52 si0 M = some res) : h_sz M ≤ r_sz res ∧ h_sl M ≤ r_sl res := by
  unfold b249_52 at h
  obtain rfl := Option.some.inj h
  show h_sz M ≤ h_sz M ∧ h_sl M ≤ h_sl M
  omega
theorem lb249_0 (G : gX) (l : Launch) (a0 : Nat) (v1 : Int32) (v2 : Int32) (M : hM) {res : xRes} (h : b249_0 a0 v1 v2 M = some res) : h_sz M ≤ r_sz res ∧ h_sl M ≤ r_sl res := by
  unfold b249_0 at h
  obtain ⟨b_3, h4, h⟩ := bd h
  obtain ⟨q_1, h2, h⟩ := bd h
  have eh2 := (t246 G l (c_I_some h2)).1
  by_cases q20 : q_1.1 = 0
  · rw [if_pos q20] at h
    obtain rfl := Option.some.inj h
    show h_sz M ≤ h_sz q_1.2 ∧ h_sl M ≤ h_sl q_1.2
    omega
  · rw [if_neg q20] at h
    by_cases q19 : v2 = 0
    · rw [if_pos q19] at h
      obtain ⟨o_15, h16, h⟩ := bd h
      obtain ⟨v_17, h18, h⟩ := bd h
      have e := lb249_52 G l v_17 q_1.2 h
      omega
    · rw [if_neg q19] at h
      by_cases q14 : v2 = (1 : Int32)
      · rw [if_pos q14] at h
        obtain ⟨o_10, h11, h⟩ := bd h
        obtain ⟨v_12, h13, h⟩ := bd h
        have e := lb249_52 G l v_12 q_1.2 h
        omega
      · rw [if_neg q14] at h
        by_cases q9 : v2 = (2 : Int32)
        · rw [if_pos q9] at h
          obtain ⟨o_5, h6, h⟩ := bd h
          obtain ⟨v_7, h8, h⟩ := bd h
          have e := lb249_52 G l v_7 q_1.2 h
          omega
        · rw [if_neg q9] at h
          have e := lb249_52 G l (-1 : Int32) q_1.2 h
          omega
section
variable {p : Program} {l : Launch} {e : Env} {s : State} {m : MethodId} {args : Array Value} {below : List Frame} {meth : Method} {c : Code} {G : gX} {z0 y0 : Nat} {r : Option aV} {M' : hM}
theorem sb249_52 (E : xE G p (xRm 1 (h_sz M' - z0) (h_sl M' - y0)) s m args c prog_14_method_86_code "ZonedFabricModel" z0 y0 (h_sz M') (h_sl M') 3) (B : xB ym249 (some FieldType.int) meth) (si0 : Int32) (M : hM) {res : xRes} (h : b249_52 si0 M = some res) (hN : xN (fun _ _ _ => False) r M' res) : xV G p l e (xRm 1 (h_sz M' - z0) (h_sl M' - y0)) s m args below meth c z0 y0 (h_sz M') (h_sl M') 3 (MQ below (xQc G r M') args s (h_sz M' - z0) (h_sl M' - y0) (xFr G)) 52 [] [.inl si0] M := by
  unfold b249_52 at h
  obtain rfl := Option.some.inj h
  obtain ⟨rfl, rfl⟩ := Prod.mk.inj (show ((some (.inl si0) : Option aV), M) = (r, M') from hN)
  exact xv_ri E B.1 rfl B.2.1 (show decode prog_14_method_86_code 52 = .ok (.ireturn, 1) by decide +kernel) rfl rfl
theorem sb249_0 (E : xE G p (xRm 1 (h_sz M' - z0) (h_sl M' - y0)) s m args c prog_14_method_86_code "ZonedFabricModel" z0 y0 (h_sz M') (h_sl M') 3) (B : xB ym249 (some FieldType.int) meth) (a0 : Nat) (v1 : Int32) (v2 : Int32) (M : hM) {res : xRes} (h : b249_0 a0 v1 v2 M = some res) (hN : xN (fun _ _ _ => False) r M' res) : xV G p l e (xRm 1 (h_sz M' - z0) (h_sl M' - y0)) s m args below meth c z0 y0 (h_sz M') (h_sl M') 3 (MQ below (xQc G r M') args s (h_sz M' - z0) (h_sl M' - y0) (xFr G)) 0 [(0, .inr (.inr (some a0))), (1, .inl v1), (2, .inl v2)] [] M := by
  unfold b249_0 at h
  refine xv_b E [.aload_n 0, .iload_n 1] (pc' := 2) (lv' := [(0, .inr (.inr (some a0))), (1, .inl v1), (2, .inl v2)]) (st' := [.inl v1, .inr (.inr (some a0))]) (by decide +kernel) rfl rfl ?_
  obtain ⟨b_3, h4, h⟩ := bd h
  obtain ⟨eh4, th4⟩ := g_o_some h4
  obtain ⟨q_1, h2, h⟩ := bd h
  refine xv_cvo E eh4 12 (as := [.inl v1]) (t246 G l (c_I_some h2)) cd246 mw1229 mw1230 mw1231 (show decode prog_14_method_86_code 2 = .ok (.invokevirtual 434, 3) by decide +kernel) th4 rfl rfl (Nat.le_of_ble_eq_true rfl) ⟨Nat.le_of_ble_eq_true rfl, Nat.le_of_ble_eq_true rfl⟩ ?_
  by_cases q20 : q_1.1 = 0
  · rw [if_pos q20] at h
    refine xv_if_ne E 10 (show decode prog_14_method_86_code 5 = .ok (.ifCond .ne (5), 3) by decide +kernel) rfl (fun z => absurd q20 z) (fun _ => ?_)
    refine xv_b E [.iconst (-1)] (pc' := 9) (lv' := [(0, .inr (.inr (some a0))), (1, .inl v1), (2, .inl v2)]) (st' := [.inl (-1 : Int32)]) (by decide +kernel) rfl rfl ?_
    obtain rfl := Option.some.inj h
    obtain ⟨rfl, rfl⟩ := Prod.mk.inj (show ((some (.inl (-1 : Int32)) : Option aV), q_1.2) = (r, M') from hN)
    exact xv_ri E B.1 rfl B.2.1 (show decode prog_14_method_86_code 9 = .ok (.ireturn, 1) by decide +kernel) rfl rfl
  · rw [if_neg q20] at h
    refine xv_if_ne E 10 (show decode prog_14_method_86_code 5 = .ok (.ifCond .ne (5), 3) by decide +kernel) rfl (fun _ => ?_) (fun z => absurd z q20)
    refine xv_b E [.iload_n 2] (pc' := 11) (lv' := [(0, .inr (.inr (some a0))), (1, .inl v1), (2, .inl v2)]) (st' := [.inl v2]) (by decide +kernel) rfl rfl ?_
    by_cases q19 : v2 = 0
    · rw [if_pos q19] at h
      refine xv_if_ne E 23 (show decode prog_14_method_86_code 11 = .ok (.ifCond .ne (12), 3) by decide +kernel) rfl (fun z => absurd q19 z) (fun _ => ?_)
      refine xv_b E [.aload_n 0] (pc' := 15) (lv' := [(0, .inr (.inr (some a0))), (1, .inl v1), (2, .inl v2)]) (st' := [.inr (.inr (some a0))]) (by decide +kernel) rfl rfl ?_
      obtain ⟨o_15, h16, h⟩ := bd h
      refine xg_r E 12 58 h16 mw916 (show decode prog_14_method_86_code 15 = .ok (.getfield 164, 3) by decide +kernel) ?_
      refine xv_b E [.iload_n 1] (pc' := 19) (lv' := [(0, .inr (.inr (some a0))), (1, .inl v1), (2, .inl v2)]) (st' := [.inl v1, .inr (.inr o_15)]) (by decide +kernel) rfl rfl ?_
      obtain ⟨v_17, h18, h⟩ := bd h
      refine xa_i E h18 (show decode prog_14_method_86_code 19 = .ok (.iaload, 1) by decide +kernel) ?_
      refine xv_goto E 52 (show decode prog_14_method_86_code 20 = .ok (.goto (32), 3) by decide +kernel) rfl ?_
      exact xv_w (sb249_52 E B v_17 q_1.2 h hN) rfl
    · rw [if_neg q19] at h
      refine xv_if_ne E 23 (show decode prog_14_method_86_code 11 = .ok (.ifCond .ne (12), 3) by decide +kernel) rfl (fun _ => ?_) (fun z => absurd z q19)
      refine xv_b E [.iload_n 2, .iconst 1] (pc' := 25) (lv' := [(0, .inr (.inr (some a0))), (1, .inl v1), (2, .inl v2)]) (st' := [.inl (1 : Int32), .inl v2]) (by decide +kernel) rfl rfl ?_
      by_cases q14 : v2 = (1 : Int32)
      · rw [if_pos q14] at h
        refine xv_icmp_ne E 37 (show decode prog_14_method_86_code 25 = .ok (.if_icmp .ne (12), 3) by decide +kernel) rfl (fun z => absurd q14 z) (fun _ => ?_)
        refine xv_b E [.aload_n 0] (pc' := 29) (lv' := [(0, .inr (.inr (some a0))), (1, .inl v1), (2, .inl v2)]) (st' := [.inr (.inr (some a0))]) (by decide +kernel) rfl rfl ?_
        obtain ⟨o_10, h11, h⟩ := bd h
        refine xg_r E 12 59 h11 mw917 (show decode prog_14_method_86_code 29 = .ok (.getfield 167, 3) by decide +kernel) ?_
        refine xv_b E [.iload_n 1] (pc' := 33) (lv' := [(0, .inr (.inr (some a0))), (1, .inl v1), (2, .inl v2)]) (st' := [.inl v1, .inr (.inr o_10)]) (by decide +kernel) rfl rfl ?_
        obtain ⟨v_12, h13, h⟩ := bd h
        refine xa_i E h13 (show decode prog_14_method_86_code 33 = .ok (.iaload, 1) by decide +kernel) ?_
        refine xv_goto E 52 (show decode prog_14_method_86_code 34 = .ok (.goto (18), 3) by decide +kernel) rfl ?_
        exact xv_w (sb249_52 E B v_12 q_1.2 h hN) rfl
      · rw [if_neg q14] at h
        refine xv_icmp_ne E 37 (show decode prog_14_method_86_code 25 = .ok (.if_icmp .ne (12), 3) by decide +kernel) rfl (fun _ => ?_) (fun z => absurd z q14)
        refine xv_b E [.iload_n 2, .iconst 2] (pc' := 39) (lv' := [(0, .inr (.inr (some a0))), (1, .inl v1), (2, .inl v2)]) (st' := [.inl (2 : Int32), .inl v2]) (by decide +kernel) rfl rfl ?_
        by_cases q9 : v2 = (2 : Int32)
        · rw [if_pos q9] at h
          refine xv_icmp_ne E 51 (show decode prog_14_method_86_code 39 = .ok (.if_icmp .ne (12), 3) by decide +kernel) rfl (fun z => absurd q9 z) (fun _ => ?_)
          refine xv_b E [.aload_n 0] (pc' := 43) (lv' := [(0, .inr (.inr (some a0))), (1, .inl v1), (2, .inl v2)]) (st' := [.inr (.inr (some a0))]) (by decide +kernel) rfl rfl ?_
          obtain ⟨o_5, h6, h⟩ := bd h
          refine xg_r E 12 57 h6 mw915 (show decode prog_14_method_86_code 43 = .ok (.getfield 161, 3) by decide +kernel) ?_
          refine xv_b E [.iload_n 1] (pc' := 47) (lv' := [(0, .inr (.inr (some a0))), (1, .inl v1), (2, .inl v2)]) (st' := [.inl v1, .inr (.inr o_5)]) (by decide +kernel) rfl rfl ?_
          obtain ⟨v_7, h8, h⟩ := bd h
          refine xa_i E h8 (show decode prog_14_method_86_code 47 = .ok (.iaload, 1) by decide +kernel) ?_
          refine xv_goto E 52 (show decode prog_14_method_86_code 48 = .ok (.goto (4), 3) by decide +kernel) rfl ?_
          exact xv_w (sb249_52 E B v_7 q_1.2 h hN) rfl
        · rw [if_neg q9] at h
          refine xv_icmp_ne E 51 (show decode prog_14_method_86_code 39 = .ok (.if_icmp .ne (12), 3) by decide +kernel) rfl (fun _ => ?_) (fun z => absurd z q9)
          refine xv_b E [.iconst (-1)] (pc' := 52) (lv' := [(0, .inr (.inr (some a0))), (1, .inl v1), (2, .inl v2)]) (st' := [.inl (-1 : Int32)]) (by decide +kernel) rfl rfl ?_
          exact xv_w (sb249_52 E B (-1 : Int32) q_1.2 h hN) rfl
end
theorem t249 (G : gX) (l : Launch) {as : List aV} {M : hM} {r : Option aV} {M' : hM} (h : f249 as M = some (r, M')) : xM G l ym249 prog_14_method_86_code 3 (some FieldType.int) 1 as M r M' := by
  unfold f249 at h
  split at h
  · have h := x_out_ok h
    refine xM_of (by decide) (Nat.le_of_ble_eq_true rfl) (lb249_0 G l _ _ _ M h) ?_
    intro p e s m args below meth c E B
    exact sb249_0 E B _ _ _ M h rfl
  · cases h
/-! ZFModel.block(III)J -/
def ym250 : MethodName := ⟨"ZonedFabricModel", "block", "(III)J"⟩
theorem cd250 : xCd ym250 prog_14_method_87_code 4 (some FieldType.long) 3 := ⟨mw1234, mw864, by decide, by decide, by decide +kernel⟩
def b250_40  (M : hM) : Option xRes :=
  some (.inl (some (.inr (.inl (-9223372036854775808 : Int64))), M))
def b250_0 (a0 : Nat) (v1 : Int32) (v2 : Int32) (v3 : Int32) (M : hM) : Option xRes :=
  if v1 < 0 then
    (b250_40  M)
  else
    (Option.bind (g_i M 12 1 (some a0)) fun v_1 =>
    if v_1 ≤ v1 then
      (b250_40  M)
    else
      (Option.bind (g_r M 12 33 (some a0)) fun o_3 =>
      Option.bind (al_i M 22 o_3 v1) fun v_5 =>
      if v_5 = 0 then
        (b250_40  M)
      else
        (if v2 < 0 then
          (b250_40  M)
        else
          (if (1 : Int32) < v2 then
            (b250_40  M)
          else
            (if v3 < 0 then
              (b250_40  M)
            else
              (if v3 ≤ (15 : Int32) then
                (Option.bind (g_r M 12 42 (some a0)) fun o_7 =>
                Option.bind (al_l M 23 o_7 ((((32 : Int32) * v1) + ((16 : Int32) * v2)) + v3)) fun w_9 =>
                some (.inl (some (.inr (.inl w_9)), M)))
              else
                (b250_40  M)))))))
def f250 (as : List aV) (M : hM) : xO := match as with
  | [.inr (.inr (some a0)), .inl v1, .inl v2, .inl v3] => x_out (b250_0 a0 v1 v2 v3 M)
  | _ => none
theorem lb250_40 (G : gX) (l : Launch)  (M : hM) {res : xRes} (h : b250_40  M = some res) : h_sz M ≤ r_sz res ∧ h_sl M ≤ r_sl res := by
  unfold b250_40 at h
  obtain rfl := Option.some.inj h
  show h_sz M ≤ h_sz M ∧ h_sl M ≤ h_sl M
  omega
theorem lb250_0 (G : gX) (l : Launch) (a0 : Nat) (v1 : Int32) (v2 : Int32) (v3 : Int32) (M : hM) {res : xRes} (h : b250_0 a0 v1 v2 v3 M = some res) : h_sz M ≤ r_sz res ∧ h_sl M ≤ r_sl res := by
  unfold b250_0 at h
  by_cases q17 : v1 < 0
  · rw [if_pos q17] at h
    have e := lb250_40 G l  M h
    omega
  · rw [if_neg q17] at h
    obtain ⟨v_1, h2, h⟩ := bd h
    by_cases q16 : v_1 ≤ v1
    · rw [if_pos q16] at h
      have e := lb250_40 G l  M h
      omega
    · rw [if_neg q16] at h
      obtain ⟨o_3, h4, h⟩ := bd h
      obtain ⟨v_5, h6, h⟩ := bd h
      by_cases q15 : v_5 = 0
      · rw [if_pos q15] at h
        have e := lb250_40 G l  M h
        omega
      · rw [if_neg q15] at h
        by_cases q14 : v2 < 0
        · rw [if_pos q14] at h
          have e := lb250_40 G l  M h
          omega
        · rw [if_neg q14] at h
          by_cases q13 : (1 : Int32) < v2
          · rw [if_pos q13] at h
            have e := lb250_40 G l  M h
            omega
          · rw [if_neg q13] at h
            by_cases q12 : v3 < 0
            · rw [if_pos q12] at h
              have e := lb250_40 G l  M h
              omega
            · rw [if_neg q12] at h
              by_cases q11 : v3 ≤ (15 : Int32)
              · rw [if_pos q11] at h
                obtain ⟨o_7, h8, h⟩ := bd h
                obtain ⟨w_9, h10, h⟩ := bd h
                obtain rfl := Option.some.inj h
                show h_sz M ≤ h_sz M ∧ h_sl M ≤ h_sl M
                omega
              · rw [if_neg q11] at h
                have e := lb250_40 G l  M h
                omega
section
variable {p : Program} {l : Launch} {e : Env} {s : State} {m : MethodId} {args : Array Value} {below : List Frame} {meth : Method} {c : Code} {G : gX} {z0 y0 : Nat} {r : Option aV} {M' : hM}
theorem sb250_40 (E : xE G p (xRm 0 (h_sz M' - z0) (h_sl M' - y0)) s m args c prog_14_method_87_code "ZonedFabricModel" z0 y0 (h_sz M') (h_sl M') 4) (B : xB ym250 (some FieldType.long) meth)  (M : hM) {res : xRes} (h : b250_40  M = some res) (hN : xN (fun _ _ _ => False) r M' res) : xV G p l e (xRm 0 (h_sz M' - z0) (h_sl M' - y0)) s m args below meth c z0 y0 (h_sz M') (h_sl M') 4 (MQ below (xQc G r M') args s (h_sz M' - z0) (h_sl M' - y0) (xFr G)) 40 [] [] M := by
  unfold b250_40 at h
  refine xv_ldc2 E (-9223372036854775808 : Int64) mw1235 (show decode prog_14_method_87_code 40 = .ok (.ldc2_w 439, 3) by decide +kernel) ?_
  obtain rfl := Option.some.inj h
  obtain ⟨rfl, rfl⟩ := Prod.mk.inj (show ((some (.inr (.inl (-9223372036854775808 : Int64))) : Option aV), M) = (r, M') from hN)
  exact xv_rl E B.1 B.2.1 (show decode prog_14_method_87_code 43 = .ok (.lreturn, 1) by decide +kernel) rfl rfl
theorem sb250_0 (E : xE G p (xRm 0 (h_sz M' - z0) (h_sl M' - y0)) s m args c prog_14_method_87_code "ZonedFabricModel" z0 y0 (h_sz M') (h_sl M') 4) (B : xB ym250 (some FieldType.long) meth) (a0 : Nat) (v1 : Int32) (v2 : Int32) (v3 : Int32) (M : hM) {res : xRes} (h : b250_0 a0 v1 v2 v3 M = some res) (hN : xN (fun _ _ _ => False) r M' res) : xV G p l e (xRm 0 (h_sz M' - z0) (h_sl M' - y0)) s m args below meth c z0 y0 (h_sz M') (h_sl M') 4 (MQ below (xQc G r M') args s (h_sz M' - z0) (h_sl M' - y0) (xFr G)) 0 [(0, .inr (.inr (some a0))), (1, .inl v1), (2, .inl v2), (3, .inl v3)] [] M := by
  unfold b250_0 at h
  refine xv_b E [.iload_n 1] (pc' := 1) (lv' := [(0, .inr (.inr (some a0))), (1, .inl v1), (2, .inl v2), (3, .inl v3)]) (st' := [.inl v1]) (by decide +kernel) rfl rfl ?_
  by_cases q17 : v1 < 0
  · rw [if_pos q17] at h
    refine xv_if_lt E 40 (show decode prog_14_method_87_code 1 = .ok (.ifCond .lt (39), 3) by decide +kernel) rfl (fun _ => ?_) (fun z => absurd q17 z)
    exact xv_w (sb250_40 E B  M h hN) rfl
  · rw [if_neg q17] at h
    refine xv_if_lt E 40 (show decode prog_14_method_87_code 1 = .ok (.ifCond .lt (39), 3) by decide +kernel) rfl (fun z => absurd z q17) (fun _ => ?_)
    refine xv_b E [.iload_n 1, .aload_n 0] (pc' := 6) (lv' := [(0, .inr (.inr (some a0))), (1, .inl v1), (2, .inl v2), (3, .inl v3)]) (st' := [.inr (.inr (some a0)), .inl v1]) (by decide +kernel) rfl rfl ?_
    obtain ⟨v_1, h2, h⟩ := bd h
    refine xg_i E 12 1 h2 mw922 (show decode prog_14_method_87_code 6 = .ok (.getfield 177, 3) by decide +kernel) ?_
    by_cases q16 : v_1 ≤ v1
    · rw [if_pos q16] at h
      refine xv_icmp_ge E 40 (show decode prog_14_method_87_code 9 = .ok (.if_icmp .ge (31), 3) by decide +kernel) rfl (fun _ => ?_) (fun z => absurd q16 z)
      exact xv_w (sb250_40 E B  M h hN) rfl
    · rw [if_neg q16] at h
      refine xv_icmp_ge E 40 (show decode prog_14_method_87_code 9 = .ok (.if_icmp .ge (31), 3) by decide +kernel) rfl (fun z => absurd z q16) (fun _ => ?_)
      refine xv_b E [.aload_n 0] (pc' := 13) (lv' := [(0, .inr (.inr (some a0))), (1, .inl v1), (2, .inl v2), (3, .inl v3)]) (st' := [.inr (.inr (some a0))]) (by decide +kernel) rfl rfl ?_
      obtain ⟨o_3, h4, h⟩ := bd h
      refine xg_r E 12 33 h4 mw893 (show decode prog_14_method_87_code 13 = .ok (.getfield 94, 3) by decide +kernel) ?_
      refine xv_b E [.iload_n 1] (pc' := 17) (lv' := [(0, .inr (.inr (some a0))), (1, .inl v1), (2, .inl v2), (3, .inl v3)]) (st' := [.inl v1, .inr (.inr o_3)]) (by decide +kernel) rfl rfl ?_
      obtain ⟨v_5, h6, h⟩ := bd h
      refine xa_z E h6 (show decode prog_14_method_87_code 17 = .ok (.baload, 1) by decide +kernel) ?_
      by_cases q15 : v_5 = 0
      · rw [if_pos q15] at h
        refine xv_if_eq E 40 (show decode prog_14_method_87_code 18 = .ok (.ifCond .eq (22), 3) by decide +kernel) rfl (fun _ => ?_) (fun z => absurd q15 z)
        exact xv_w (sb250_40 E B  M h hN) rfl
      · rw [if_neg q15] at h
        refine xv_if_eq E 40 (show decode prog_14_method_87_code 18 = .ok (.ifCond .eq (22), 3) by decide +kernel) rfl (fun z => absurd z q15) (fun _ => ?_)
        refine xv_b E [.iload_n 2] (pc' := 22) (lv' := [(0, .inr (.inr (some a0))), (1, .inl v1), (2, .inl v2), (3, .inl v3)]) (st' := [.inl v2]) (by decide +kernel) rfl rfl ?_
        by_cases q14 : v2 < 0
        · rw [if_pos q14] at h
          refine xv_if_lt E 40 (show decode prog_14_method_87_code 22 = .ok (.ifCond .lt (18), 3) by decide +kernel) rfl (fun _ => ?_) (fun z => absurd q14 z)
          exact xv_w (sb250_40 E B  M h hN) rfl
        · rw [if_neg q14] at h
          refine xv_if_lt E 40 (show decode prog_14_method_87_code 22 = .ok (.ifCond .lt (18), 3) by decide +kernel) rfl (fun z => absurd z q14) (fun _ => ?_)
          refine xv_b E [.iload_n 2, .iconst 1] (pc' := 27) (lv' := [(0, .inr (.inr (some a0))), (1, .inl v1), (2, .inl v2), (3, .inl v3)]) (st' := [.inl (1 : Int32), .inl v2]) (by decide +kernel) rfl rfl ?_
          by_cases q13 : (1 : Int32) < v2
          · rw [if_pos q13] at h
            refine xv_icmp_gt E 40 (show decode prog_14_method_87_code 27 = .ok (.if_icmp .gt (13), 3) by decide +kernel) rfl (fun _ => ?_) (fun z => absurd q13 z)
            exact xv_w (sb250_40 E B  M h hN) rfl
          · rw [if_neg q13] at h
            refine xv_icmp_gt E 40 (show decode prog_14_method_87_code 27 = .ok (.if_icmp .gt (13), 3) by decide +kernel) rfl (fun z => absurd z q13) (fun _ => ?_)
            refine xv_b E [.iload_n 3] (pc' := 31) (lv' := [(0, .inr (.inr (some a0))), (1, .inl v1), (2, .inl v2), (3, .inl v3)]) (st' := [.inl v3]) (by decide +kernel) rfl rfl ?_
            by_cases q12 : v3 < 0
            · rw [if_pos q12] at h
              refine xv_if_lt E 40 (show decode prog_14_method_87_code 31 = .ok (.ifCond .lt (9), 3) by decide +kernel) rfl (fun _ => ?_) (fun z => absurd q12 z)
              exact xv_w (sb250_40 E B  M h hN) rfl
            · rw [if_neg q12] at h
              refine xv_if_lt E 40 (show decode prog_14_method_87_code 31 = .ok (.ifCond .lt (9), 3) by decide +kernel) rfl (fun z => absurd z q12) (fun _ => ?_)
              refine xv_b E [.iload_n 3, .bipush 15] (pc' := 37) (lv' := [(0, .inr (.inr (some a0))), (1, .inl v1), (2, .inl v2), (3, .inl v3)]) (st' := [.inl (15 : Int32), .inl v3]) (by decide +kernel) rfl rfl ?_
              by_cases q11 : v3 ≤ (15 : Int32)
              · rw [if_pos q11] at h
                refine xv_icmp_le E 44 (show decode prog_14_method_87_code 37 = .ok (.if_icmp .le (7), 3) by decide +kernel) rfl (fun _ => ?_) (fun z => absurd q11 z)
                refine xv_b E [.aload_n 0] (pc' := 45) (lv' := [(0, .inr (.inr (some a0))), (1, .inl v1), (2, .inl v2), (3, .inl v3)]) (st' := [.inr (.inr (some a0))]) (by decide +kernel) rfl rfl ?_
                obtain ⟨o_7, h8, h⟩ := bd h
                refine xg_r E 12 42 h8 mw901 (show decode prog_14_method_87_code 45 = .ok (.getfield 118, 3) by decide +kernel) ?_
                refine xv_b E [.bipush 32, .iload_n 1, .imul, .bipush 16, .iload_n 2, .imul, .iadd, .iload_n 3, .iadd] (pc' := 59) (lv' := [(0, .inr (.inr (some a0))), (1, .inl v1), (2, .inl v2), (3, .inl v3)]) (st' := [.inl ((((32 : Int32) * v1) + ((16 : Int32) * v2)) + v3), .inr (.inr o_7)]) (by decide +kernel) rfl rfl ?_
                obtain ⟨w_9, h10, h⟩ := bd h
                refine xa_l E h10 (show decode prog_14_method_87_code 59 = .ok (.laload, 1) by decide +kernel) ?_
                obtain rfl := Option.some.inj h
                obtain ⟨rfl, rfl⟩ := Prod.mk.inj (show ((some (.inr (.inl w_9)) : Option aV), M) = (r, M') from hN)
                exact xv_rl E B.1 B.2.1 (show decode prog_14_method_87_code 60 = .ok (.lreturn, 1) by decide +kernel) rfl rfl
              · rw [if_neg q11] at h
                refine xv_icmp_le E 44 (show decode prog_14_method_87_code 37 = .ok (.if_icmp .le (7), 3) by decide +kernel) rfl (fun z => absurd z q11) (fun _ => ?_)
                exact xv_w (sb250_40 E B  M h hN) rfl
end
theorem t250 (G : gX) (l : Launch) {as : List aV} {M : hM} {r : Option aV} {M' : hM} (h : f250 as M = some (r, M')) : xM G l ym250 prog_14_method_87_code 4 (some FieldType.long) 0 as M r M' := by
  unfold f250 at h
  split at h
  · have h := x_out_ok h
    refine xM_of (by decide) (Nat.le_of_ble_eq_true rfl) (lb250_0 G l _ _ _ _ M h) ?_
    intro p e s m args below meth c E B
    exact sb250_0 E B _ _ _ _ M h rfl
  · cases h
/-! ZFModel.way(II)I -/
def ym251 : MethodName := ⟨"ZonedFabricModel", "way", "(II)I"⟩
theorem cd251 : xCd ym251 prog_14_method_88_code 3 (some FieldType.int) 2 := ⟨mw1236, mw864, by decide, by decide, by decide +kernel⟩
def b251_23  (M : hM) : Option xRes :=
  some (.inl (some (.inl (-1 : Int32)), M))
def b251_54 (si0 : Int32) (M : hM) : Option xRes :=
  some (.inl (some (.inl si0), M))
def b251_48 (a0 : Nat) (v1 : Int32) (v2 : Int32) (M : hM) : Option xRes :=
  Option.bind (g_o M 12 (some a0)) fun b_19 =>
  Option.bind (c_I (f201 [.inr (.inr (some b_19)), .inl v1, .inl v2] M)) fun q_17 =>
  b251_54 q_17.1 q_17.2
def b251_0 (a0 : Nat) (v1 : Int32) (v2 : Int32) (M : hM) : Option xRes :=
  if v1 < 0 then
    (b251_23  M)
  else
    (Option.bind (g_i M 12 0 (some a0)) fun v_1 =>
    if v_1 ≤ v1 then
      (b251_23  M)
    else
      (if v2 < (1 : Int32) then
        (b251_23  M)
      else
        (if v2 ≤ (15 : Int32) then
          (Option.bind (g_r M 12 26 (some a0)) fun o_3 =>
          Option.bind (al_i M 20 o_3 v1) fun v_5 =>
          if v2 = v_5 then
            (Option.bind (g_o M 12 (some a0)) fun b_9 =>
            Option.bind (c_I (f200 [.inr (.inr (some b_9)), .inl v1] M)) fun q_7 =>
            if q_7.1 = 0 then
              (b251_54 (8 : Int32) q_7.2)
            else
              (b251_48 a0 v1 v2 q_7.2))
          else
            (b251_48 a0 v1 v2 M))
        else
          (b251_23  M))))
def f251 (as : List aV) (M : hM) : xO := match as with
  | [.inr (.inr (some a0)), .inl v1, .inl v2] => x_out (b251_0 a0 v1 v2 M)
  | _ => none
theorem lb251_23 (G : gX) (l : Launch)  (M : hM) {res : xRes} (h : b251_23  M = some res) : h_sz M ≤ r_sz res ∧ h_sl M ≤ r_sl res := by
  unfold b251_23 at h
  obtain rfl := Option.some.inj h
  show h_sz M ≤ h_sz M ∧ h_sl M ≤ h_sl M
  omega
theorem lb251_54 (G : gX) (l : Launch) (si0 : Int32) (M : hM) {res : xRes} (h : b251_54 si0 M = some res) : h_sz M ≤ r_sz res ∧ h_sl M ≤ r_sl res := by
  unfold b251_54 at h
  obtain rfl := Option.some.inj h
  show h_sz M ≤ h_sz M ∧ h_sl M ≤ h_sl M
  omega
theorem lb251_48 (G : gX) (l : Launch) (a0 : Nat) (v1 : Int32) (v2 : Int32) (M : hM) {res : xRes} (h : b251_48 a0 v1 v2 M = some res) : h_sz M ≤ r_sz res ∧ h_sl M ≤ r_sl res := by
  unfold b251_48 at h
  obtain ⟨b_19, h20, h⟩ := bd h
  obtain ⟨q_17, h18, h⟩ := bd h
  have eh18 := (t201 G l (c_I_some h18)).1
  have e := lb251_54 G l q_17.1 q_17.2 h
  omega
theorem lb251_0 (G : gX) (l : Launch) (a0 : Nat) (v1 : Int32) (v2 : Int32) (M : hM) {res : xRes} (h : b251_0 a0 v1 v2 M = some res) : h_sz M ≤ r_sz res ∧ h_sl M ≤ r_sl res := by
  unfold b251_0 at h
  by_cases q16 : v1 < 0
  · rw [if_pos q16] at h
    have e := lb251_23 G l  M h
    omega
  · rw [if_neg q16] at h
    obtain ⟨v_1, h2, h⟩ := bd h
    by_cases q15 : v_1 ≤ v1
    · rw [if_pos q15] at h
      have e := lb251_23 G l  M h
      omega
    · rw [if_neg q15] at h
      by_cases q14 : v2 < (1 : Int32)
      · rw [if_pos q14] at h
        have e := lb251_23 G l  M h
        omega
      · rw [if_neg q14] at h
        by_cases q13 : v2 ≤ (15 : Int32)
        · rw [if_pos q13] at h
          obtain ⟨o_3, h4, h⟩ := bd h
          obtain ⟨v_5, h6, h⟩ := bd h
          by_cases q12 : v2 = v_5
          · rw [if_pos q12] at h
            obtain ⟨b_9, h10, h⟩ := bd h
            obtain ⟨q_7, h8, h⟩ := bd h
            have eh8 := (t200 G l (c_I_some h8)).1
            by_cases q11 : q_7.1 = 0
            · rw [if_pos q11] at h
              have e := lb251_54 G l (8 : Int32) q_7.2 h
              omega
            · rw [if_neg q11] at h
              have e := lb251_48 G l a0 v1 v2 q_7.2 h
              omega
          · rw [if_neg q12] at h
            have e := lb251_48 G l a0 v1 v2 M h
            omega
        · rw [if_neg q13] at h
          have e := lb251_23 G l  M h
          omega
section
variable {p : Program} {l : Launch} {e : Env} {s : State} {m : MethodId} {args : Array Value} {below : List Frame} {meth : Method} {c : Code} {G : gX} {z0 y0 : Nat} {r : Option aV} {M' : hM}
theorem sb251_23 (E : xE G p (xRm 7 (h_sz M' - z0) (h_sl M' - y0)) s m args c prog_14_method_88_code "ZonedFabricModel" z0 y0 (h_sz M') (h_sl M') 3) (B : xB ym251 (some FieldType.int) meth)  (M : hM) {res : xRes} (h : b251_23  M = some res) (hN : xN (fun _ _ _ => False) r M' res) : xV G p l e (xRm 7 (h_sz M' - z0) (h_sl M' - y0)) s m args below meth c z0 y0 (h_sz M') (h_sl M') 3 (MQ below (xQc G r M') args s (h_sz M' - z0) (h_sl M' - y0) (xFr G)) 23 [] [] M := by
  unfold b251_23 at h
  refine xv_b E [.iconst (-1)] (pc' := 24) (lv' := []) (st' := [.inl (-1 : Int32)]) (by decide +kernel) rfl rfl ?_
  obtain rfl := Option.some.inj h
  obtain ⟨rfl, rfl⟩ := Prod.mk.inj (show ((some (.inl (-1 : Int32)) : Option aV), M) = (r, M') from hN)
  exact xv_ri E B.1 rfl B.2.1 (show decode prog_14_method_88_code 24 = .ok (.ireturn, 1) by decide +kernel) rfl rfl
theorem sb251_54 (E : xE G p (xRm 7 (h_sz M' - z0) (h_sl M' - y0)) s m args c prog_14_method_88_code "ZonedFabricModel" z0 y0 (h_sz M') (h_sl M') 3) (B : xB ym251 (some FieldType.int) meth) (si0 : Int32) (M : hM) {res : xRes} (h : b251_54 si0 M = some res) (hN : xN (fun _ _ _ => False) r M' res) : xV G p l e (xRm 7 (h_sz M' - z0) (h_sl M' - y0)) s m args below meth c z0 y0 (h_sz M') (h_sl M') 3 (MQ below (xQc G r M') args s (h_sz M' - z0) (h_sl M' - y0) (xFr G)) 54 [] [.inl si0] M := by
  unfold b251_54 at h
  obtain rfl := Option.some.inj h
  obtain ⟨rfl, rfl⟩ := Prod.mk.inj (show ((some (.inl si0) : Option aV), M) = (r, M') from hN)
  exact xv_ri E B.1 rfl B.2.1 (show decode prog_14_method_88_code 54 = .ok (.ireturn, 1) by decide +kernel) rfl rfl
theorem sb251_48 (E : xE G p (xRm 7 (h_sz M' - z0) (h_sl M' - y0)) s m args c prog_14_method_88_code "ZonedFabricModel" z0 y0 (h_sz M') (h_sl M') 3) (B : xB ym251 (some FieldType.int) meth) (a0 : Nat) (v1 : Int32) (v2 : Int32) (M : hM) {res : xRes} (h : b251_48 a0 v1 v2 M = some res) (hN : xN (fun _ _ _ => False) r M' res) : xV G p l e (xRm 7 (h_sz M' - z0) (h_sl M' - y0)) s m args below meth c z0 y0 (h_sz M') (h_sl M') 3 (MQ below (xQc G r M') args s (h_sz M' - z0) (h_sl M' - y0) (xFr G)) 48 [(0, .inr (.inr (some a0))), (1, .inl v1), (2, .inl v2)] [] M := by
  unfold b251_48 at h
  refine xv_b E [.aload_n 0, .iload_n 1, .iload_n 2] (pc' := 51) (lv' := [(0, .inr (.inr (some a0))), (1, .inl v1), (2, .inl v2)]) (st' := [.inl v2, .inl v1, .inr (.inr (some a0))]) (by decide +kernel) rfl rfl ?_
  obtain ⟨b_19, h20, h⟩ := bd h
  obtain ⟨eh20, th20⟩ := g_o_some h20
  obtain ⟨q_17, h18, h⟩ := bd h
  refine xv_cvo E eh20 12 (as := [.inl v1, .inl v2]) (t201 G l (c_I_some h18)) cd201 mw1161 mw1162 mw1163 (show decode prog_14_method_88_code 51 = .ok (.invokevirtual 339, 3) by decide +kernel) th20 rfl rfl (Nat.le_of_ble_eq_true rfl) ⟨Nat.le_of_ble_eq_true rfl, Nat.le_of_ble_eq_true rfl⟩ ?_
  exact xv_w (sb251_54 E B q_17.1 q_17.2 h hN) rfl
theorem sb251_0 (E : xE G p (xRm 7 (h_sz M' - z0) (h_sl M' - y0)) s m args c prog_14_method_88_code "ZonedFabricModel" z0 y0 (h_sz M') (h_sl M') 3) (B : xB ym251 (some FieldType.int) meth) (a0 : Nat) (v1 : Int32) (v2 : Int32) (M : hM) {res : xRes} (h : b251_0 a0 v1 v2 M = some res) (hN : xN (fun _ _ _ => False) r M' res) : xV G p l e (xRm 7 (h_sz M' - z0) (h_sl M' - y0)) s m args below meth c z0 y0 (h_sz M') (h_sl M') 3 (MQ below (xQc G r M') args s (h_sz M' - z0) (h_sl M' - y0) (xFr G)) 0 [(0, .inr (.inr (some a0))), (1, .inl v1), (2, .inl v2)] [] M := by
  unfold b251_0 at h
  refine xv_b E [.iload_n 1] (pc' := 1) (lv' := [(0, .inr (.inr (some a0))), (1, .inl v1), (2, .inl v2)]) (st' := [.inl v1]) (by decide +kernel) rfl rfl ?_
  by_cases q16 : v1 < 0
  · rw [if_pos q16] at h
    refine xv_if_lt E 23 (show decode prog_14_method_88_code 1 = .ok (.ifCond .lt (22), 3) by decide +kernel) rfl (fun _ => ?_) (fun z => absurd q16 z)
    exact xv_w (sb251_23 E B  M h hN) rfl
  · rw [if_neg q16] at h
    refine xv_if_lt E 23 (show decode prog_14_method_88_code 1 = .ok (.ifCond .lt (22), 3) by decide +kernel) rfl (fun z => absurd z q16) (fun _ => ?_)
    refine xv_b E [.iload_n 1, .aload_n 0] (pc' := 6) (lv' := [(0, .inr (.inr (some a0))), (1, .inl v1), (2, .inl v2)]) (st' := [.inr (.inr (some a0)), .inl v1]) (by decide +kernel) rfl rfl ?_
    obtain ⟨v_1, h2, h⟩ := bd h
    refine xg_i E 12 0 h2 mw921 (show decode prog_14_method_88_code 6 = .ok (.getfield 173, 3) by decide +kernel) ?_
    by_cases q15 : v_1 ≤ v1
    · rw [if_pos q15] at h
      refine xv_icmp_ge E 23 (show decode prog_14_method_88_code 9 = .ok (.if_icmp .ge (14), 3) by decide +kernel) rfl (fun _ => ?_) (fun z => absurd q15 z)
      exact xv_w (sb251_23 E B  M h hN) rfl
    · rw [if_neg q15] at h
      refine xv_icmp_ge E 23 (show decode prog_14_method_88_code 9 = .ok (.if_icmp .ge (14), 3) by decide +kernel) rfl (fun z => absurd z q15) (fun _ => ?_)
      refine xv_b E [.iload_n 2, .iconst 1] (pc' := 14) (lv' := [(0, .inr (.inr (some a0))), (1, .inl v1), (2, .inl v2)]) (st' := [.inl (1 : Int32), .inl v2]) (by decide +kernel) rfl rfl ?_
      by_cases q14 : v2 < (1 : Int32)
      · rw [if_pos q14] at h
        refine xv_icmp_lt E 23 (show decode prog_14_method_88_code 14 = .ok (.if_icmp .lt (9), 3) by decide +kernel) rfl (fun _ => ?_) (fun z => absurd q14 z)
        exact xv_w (sb251_23 E B  M h hN) rfl
      · rw [if_neg q14] at h
        refine xv_icmp_lt E 23 (show decode prog_14_method_88_code 14 = .ok (.if_icmp .lt (9), 3) by decide +kernel) rfl (fun z => absurd z q14) (fun _ => ?_)
        refine xv_b E [.iload_n 2, .bipush 15] (pc' := 20) (lv' := [(0, .inr (.inr (some a0))), (1, .inl v1), (2, .inl v2)]) (st' := [.inl (15 : Int32), .inl v2]) (by decide +kernel) rfl rfl ?_
        by_cases q13 : v2 ≤ (15 : Int32)
        · rw [if_pos q13] at h
          refine xv_icmp_le E 25 (show decode prog_14_method_88_code 20 = .ok (.if_icmp .le (5), 3) by decide +kernel) rfl (fun _ => ?_) (fun z => absurd q13 z)
          refine xv_b E [.iload_n 2, .aload_n 0] (pc' := 27) (lv' := [(0, .inr (.inr (some a0))), (1, .inl v1), (2, .inl v2)]) (st' := [.inr (.inr (some a0)), .inl v2]) (by decide +kernel) rfl rfl ?_
          obtain ⟨o_3, h4, h⟩ := bd h
          refine xg_r E 12 26 h4 mw886 (show decode prog_14_method_88_code 27 = .ok (.getfield 73, 3) by decide +kernel) ?_
          refine xv_b E [.iload_n 1] (pc' := 31) (lv' := [(0, .inr (.inr (some a0))), (1, .inl v1), (2, .inl v2)]) (st' := [.inl v1, .inr (.inr o_3), .inl v2]) (by decide +kernel) rfl rfl ?_
          obtain ⟨v_5, h6, h⟩ := bd h
          refine xa_i E h6 (show decode prog_14_method_88_code 31 = .ok (.iaload, 1) by decide +kernel) ?_
          by_cases q12 : v2 = v_5
          · rw [if_pos q12] at h
            refine xv_icmp_ne E 48 (show decode prog_14_method_88_code 32 = .ok (.if_icmp .ne (16), 3) by decide +kernel) rfl (fun z => absurd q12 z) (fun _ => ?_)
            refine xv_b E [.aload_n 0, .iload_n 1] (pc' := 37) (lv' := [(0, .inr (.inr (some a0))), (1, .inl v1), (2, .inl v2)]) (st' := [.inl v1, .inr (.inr (some a0))]) (by decide +kernel) rfl rfl ?_
            obtain ⟨b_9, h10, h⟩ := bd h
            obtain ⟨eh10, th10⟩ := g_o_some h10
            obtain ⟨q_7, h8, h⟩ := bd h
            refine xv_cvo E eh10 12 (as := [.inl v1]) (t200 G l (c_I_some h8)) cd200 mw1148 mw1149 mw1150 (show decode prog_14_method_88_code 37 = .ok (.invokevirtual 297, 3) by decide +kernel) th10 rfl rfl (Nat.le_of_ble_eq_true rfl) ⟨Nat.le_of_ble_eq_true rfl, Nat.le_of_ble_eq_true rfl⟩ ?_
            by_cases q11 : q_7.1 = 0
            · rw [if_pos q11] at h
              refine xv_if_ne E 48 (show decode prog_14_method_88_code 40 = .ok (.ifCond .ne (8), 3) by decide +kernel) rfl (fun z => absurd q11 z) (fun _ => ?_)
              refine xv_b E [.bipush 8] (pc' := 45) (lv' := [(0, .inr (.inr (some a0))), (1, .inl v1), (2, .inl v2)]) (st' := [.inl (8 : Int32)]) (by decide +kernel) rfl rfl ?_
              refine xv_goto E 54 (show decode prog_14_method_88_code 45 = .ok (.goto (9), 3) by decide +kernel) rfl ?_
              exact xv_w (sb251_54 E B (8 : Int32) q_7.2 h hN) rfl
            · rw [if_neg q11] at h
              refine xv_if_ne E 48 (show decode prog_14_method_88_code 40 = .ok (.ifCond .ne (8), 3) by decide +kernel) rfl (fun _ => ?_) (fun z => absurd z q11)
              exact xv_w (sb251_48 E B a0 v1 v2 q_7.2 h hN) rfl
          · rw [if_neg q12] at h
            refine xv_icmp_ne E 48 (show decode prog_14_method_88_code 32 = .ok (.if_icmp .ne (16), 3) by decide +kernel) rfl (fun _ => ?_) (fun z => absurd z q12)
            exact xv_w (sb251_48 E B a0 v1 v2 M h hN) rfl
        · rw [if_neg q13] at h
          refine xv_icmp_le E 25 (show decode prog_14_method_88_code 20 = .ok (.if_icmp .le (5), 3) by decide +kernel) rfl (fun z => absurd z q13) (fun _ => ?_)
          exact xv_w (sb251_23 E B  M h hN) rfl
end
theorem t251 (G : gX) (l : Launch) {as : List aV} {M : hM} {r : Option aV} {M' : hM} (h : f251 as M = some (r, M')) : xM G l ym251 prog_14_method_88_code 3 (some FieldType.int) 7 as M r M' := by
  unfold f251 at h
  split at h
  · have h := x_out_ok h
    refine xM_of (by decide) (Nat.le_of_ble_eq_true rfl) (lb251_0 G l _ _ _ M h) ?_
    intro p e s m args below meth c E B
    exact sb251_0 E B _ _ _ M h rfl
  · cases h
/-! ZFModel.record(III)I -/
def ym252 : MethodName := ⟨"ZonedFabricModel", "record", "(III)I"⟩
theorem cd252 : xCd ym252 prog_14_method_89_code 4 (some FieldType.int) 3 := ⟨mw1237, mw864, by decide, by decide, by decide +kernel⟩
def b252_37  (M : hM) : Option xRes :=
  some (.inl (some (.inl (-1 : Int32)), M))
def b252_0 (a0 : Nat) (v1 : Int32) (v2 : Int32) (v3 : Int32) (M : hM) : Option xRes :=
  if v1 < 0 then
    (b252_37  M)
  else
    (Option.bind (g_i M 12 0 (some a0)) fun v_1 =>
    if v_1 ≤ v1 then
      (b252_37  M)
    else
      (if v2 < 0 then
        (b252_37  M)
      else
        (Option.bind (g_i M 12 0 (some a0)) fun v_3 =>
        if v_3 ≤ v2 then
          (b252_37  M)
        else
          (Option.bind (g_r M 12 27 (some a0)) fun o_5 =>
          Option.bind (al_i M 22 o_5 (((5 : Int32) * v1) + v2)) fun v_7 =>
          if v_7 = 0 then
            (b252_37  M)
          else
            (if v3 = 0 then
              (Option.bind (g_o M 12 (some a0)) fun b_12 =>
              Option.bind (c_I (f191 [.inr (.inr (some b_12)), .inl v1, .inl v2] M)) fun q_10 =>
              some (.inl (some (.inl q_10.1), q_10.2)))
            else
              (if v3 = 1 then
                (Option.bind (g_o M 12 (some a0)) fun b_17 =>
                Option.bind (c_I (f190 [.inr (.inr (some b_17)), .inl v1, .inl v2, .inl (4 : Int32)] M)) fun q_15 =>
                some (.inl (some (.inl q_15.1), q_15.2)))
              else
                (if v3 = 2 then
                  (Option.bind (g_o M 12 (some a0)) fun b_22 =>
                  Option.bind (c_I (f190 [.inr (.inr (some b_22)), .inl v1, .inl v2, .inl (5 : Int32)] M)) fun q_20 =>
                  some (.inl (some (.inl q_20.1), q_20.2)))
                else
                  (if v3 = 3 then
                    (Option.bind (g_o M 12 (some a0)) fun b_27 =>
                    Option.bind (c_I (f192 [.inr (.inr (some b_27)), .inl v1, .inl v2] M)) fun q_25 =>
                    Option.bind (g_o q_25.2 12 (some a0)) fun b_31 =>
                    Option.bind (c_I (f190 [.inr (.inr (some b_31)), .inl v1, .inl v2, .inl (q_25.1 - (1 : Int32))] q_25.2)) fun q_29 =>
                    some (.inl (some (.inl q_29.1), q_29.2)))
                  else
                    (if v3 = 4 then
                      (Option.bind (g_r M 12 28 (some a0)) fun o_34 =>
                      Option.bind (al_i M 20 o_34 (((5 : Int32) * v1) + v2)) fun v_36 =>
                      some (.inl (some (.inl v_36), M)))
                    else
                      (some (.inl (some (.inl (-1 : Int32)), M))))))))))))
def f252 (as : List aV) (M : hM) : xO := match as with
  | [.inr (.inr (some a0)), .inl v1, .inl v2, .inl v3] => x_out (b252_0 a0 v1 v2 v3 M)
  | _ => none
theorem lb252_37 (G : gX) (l : Launch)  (M : hM) {res : xRes} (h : b252_37  M = some res) : h_sz M ≤ r_sz res ∧ h_sl M ≤ r_sl res := by
  unfold b252_37 at h
  obtain rfl := Option.some.inj h
  show h_sz M ≤ h_sz M ∧ h_sl M ≤ h_sl M
  omega
theorem lb252_0 (G : gX) (l : Launch) (a0 : Nat) (v1 : Int32) (v2 : Int32) (v3 : Int32) (M : hM) {res : xRes} (h : b252_0 a0 v1 v2 v3 M = some res) : h_sz M ≤ r_sz res ∧ h_sl M ≤ r_sl res := by
  unfold b252_0 at h
  by_cases q42 : v1 < 0
  · rw [if_pos q42] at h
    have e := lb252_37 G l  M h
    omega
  · rw [if_neg q42] at h
    obtain ⟨v_1, h2, h⟩ := bd h
    by_cases q41 : v_1 ≤ v1
    · rw [if_pos q41] at h
      have e := lb252_37 G l  M h
      omega
    · rw [if_neg q41] at h
      by_cases q40 : v2 < 0
      · rw [if_pos q40] at h
        have e := lb252_37 G l  M h
        omega
      · rw [if_neg q40] at h
        obtain ⟨v_3, h4, h⟩ := bd h
        by_cases q39 : v_3 ≤ v2
        · rw [if_pos q39] at h
          have e := lb252_37 G l  M h
          omega
        · rw [if_neg q39] at h
          obtain ⟨o_5, h6, h⟩ := bd h
          obtain ⟨v_7, h8, h⟩ := bd h
          by_cases q38 : v_7 = 0
          · rw [if_pos q38] at h
            have e := lb252_37 G l  M h
            omega
          · rw [if_neg q38] at h
            by_cases q9 : v3 = 0
            · rw [if_pos q9] at h
              obtain ⟨b_12, h13, h⟩ := bd h
              obtain ⟨q_10, h11, h⟩ := bd h
              have eh11 := (t191 G l (c_I_some h11)).1
              obtain rfl := Option.some.inj h
              show h_sz M ≤ h_sz q_10.2 ∧ h_sl M ≤ h_sl q_10.2
              omega
            · rw [if_neg q9] at h
              by_cases q14 : v3 = 1
              · rw [if_pos q14] at h
                obtain ⟨b_17, h18, h⟩ := bd h
                obtain ⟨q_15, h16, h⟩ := bd h
                have eh16 := (t190 G l (c_I_some h16)).1
                obtain rfl := Option.some.inj h
                show h_sz M ≤ h_sz q_15.2 ∧ h_sl M ≤ h_sl q_15.2
                omega
              · rw [if_neg q14] at h
                by_cases q19 : v3 = 2
                · rw [if_pos q19] at h
                  obtain ⟨b_22, h23, h⟩ := bd h
                  obtain ⟨q_20, h21, h⟩ := bd h
                  have eh21 := (t190 G l (c_I_some h21)).1
                  obtain rfl := Option.some.inj h
                  show h_sz M ≤ h_sz q_20.2 ∧ h_sl M ≤ h_sl q_20.2
                  omega
                · rw [if_neg q19] at h
                  by_cases q24 : v3 = 3
                  · rw [if_pos q24] at h
                    obtain ⟨b_27, h28, h⟩ := bd h
                    obtain ⟨q_25, h26, h⟩ := bd h
                    have eh26 := (t192 G l (c_I_some h26)).1
                    obtain ⟨b_31, h32, h⟩ := bd h
                    obtain ⟨q_29, h30, h⟩ := bd h
                    have eh30 := (t190 G l (c_I_some h30)).1
                    obtain rfl := Option.some.inj h
                    show h_sz M ≤ h_sz q_29.2 ∧ h_sl M ≤ h_sl q_29.2
                    omega
                  · rw [if_neg q24] at h
                    by_cases q33 : v3 = 4
                    · rw [if_pos q33] at h
                      obtain ⟨o_34, h35, h⟩ := bd h
                      obtain ⟨v_36, h37, h⟩ := bd h
                      obtain rfl := Option.some.inj h
                      show h_sz M ≤ h_sz M ∧ h_sl M ≤ h_sl M
                      omega
                    · rw [if_neg q33] at h
                      obtain rfl := Option.some.inj h
                      show h_sz M ≤ h_sz M ∧ h_sl M ≤ h_sl M
                      omega
section
variable {p : Program} {l : Launch} {e : Env} {s : State} {m : MethodId} {args : Array Value} {below : List Frame} {meth : Method} {c : Code} {G : gX} {z0 y0 : Nat} {r : Option aV} {M' : hM}
theorem sb252_37 (E : xE G p (xRm 2 (h_sz M' - z0) (h_sl M' - y0)) s m args c prog_14_method_89_code "ZonedFabricModel" z0 y0 (h_sz M') (h_sl M') 4) (B : xB ym252 (some FieldType.int) meth)  (M : hM) {res : xRes} (h : b252_37  M = some res) (hN : xN (fun _ _ _ => False) r M' res) : xV G p l e (xRm 2 (h_sz M' - z0) (h_sl M' - y0)) s m args below meth c z0 y0 (h_sz M') (h_sl M') 4 (MQ below (xQc G r M') args s (h_sz M' - z0) (h_sl M' - y0) (xFr G)) 37 [] [] M := by
  unfold b252_37 at h
  refine xv_b E [.iconst (-1)] (pc' := 38) (lv' := []) (st' := [.inl (-1 : Int32)]) (by decide +kernel) rfl rfl ?_
  obtain rfl := Option.some.inj h
  obtain ⟨rfl, rfl⟩ := Prod.mk.inj (show ((some (.inl (-1 : Int32)) : Option aV), M) = (r, M') from hN)
  exact xv_ri E B.1 rfl B.2.1 (show decode prog_14_method_89_code 38 = .ok (.ireturn, 1) by decide +kernel) rfl rfl
theorem sb252_0 (E : xE G p (xRm 2 (h_sz M' - z0) (h_sl M' - y0)) s m args c prog_14_method_89_code "ZonedFabricModel" z0 y0 (h_sz M') (h_sl M') 4) (B : xB ym252 (some FieldType.int) meth) (a0 : Nat) (v1 : Int32) (v2 : Int32) (v3 : Int32) (M : hM) {res : xRes} (h : b252_0 a0 v1 v2 v3 M = some res) (hN : xN (fun _ _ _ => False) r M' res) : xV G p l e (xRm 2 (h_sz M' - z0) (h_sl M' - y0)) s m args below meth c z0 y0 (h_sz M') (h_sl M') 4 (MQ below (xQc G r M') args s (h_sz M' - z0) (h_sl M' - y0) (xFr G)) 0 [(0, .inr (.inr (some a0))), (1, .inl v1), (2, .inl v2), (3, .inl v3)] [] M := by
  unfold b252_0 at h
  refine xv_b E [.iload_n 1] (pc' := 1) (lv' := [(0, .inr (.inr (some a0))), (1, .inl v1), (2, .inl v2), (3, .inl v3)]) (st' := [.inl v1]) (by decide +kernel) rfl rfl ?_
  by_cases q42 : v1 < 0
  · rw [if_pos q42] at h
    refine xv_if_lt E 37 (show decode prog_14_method_89_code 1 = .ok (.ifCond .lt (36), 3) by decide +kernel) rfl (fun _ => ?_) (fun z => absurd q42 z)
    exact xv_w (sb252_37 E B  M h hN) rfl
  · rw [if_neg q42] at h
    refine xv_if_lt E 37 (show decode prog_14_method_89_code 1 = .ok (.ifCond .lt (36), 3) by decide +kernel) rfl (fun z => absurd z q42) (fun _ => ?_)
    refine xv_b E [.iload_n 1, .aload_n 0] (pc' := 6) (lv' := [(0, .inr (.inr (some a0))), (1, .inl v1), (2, .inl v2), (3, .inl v3)]) (st' := [.inr (.inr (some a0)), .inl v1]) (by decide +kernel) rfl rfl ?_
    obtain ⟨v_1, h2, h⟩ := bd h
    refine xg_i E 12 0 h2 mw921 (show decode prog_14_method_89_code 6 = .ok (.getfield 173, 3) by decide +kernel) ?_
    by_cases q41 : v_1 ≤ v1
    · rw [if_pos q41] at h
      refine xv_icmp_ge E 37 (show decode prog_14_method_89_code 9 = .ok (.if_icmp .ge (28), 3) by decide +kernel) rfl (fun _ => ?_) (fun z => absurd q41 z)
      exact xv_w (sb252_37 E B  M h hN) rfl
    · rw [if_neg q41] at h
      refine xv_icmp_ge E 37 (show decode prog_14_method_89_code 9 = .ok (.if_icmp .ge (28), 3) by decide +kernel) rfl (fun z => absurd z q41) (fun _ => ?_)
      refine xv_b E [.iload_n 2] (pc' := 13) (lv' := [(0, .inr (.inr (some a0))), (1, .inl v1), (2, .inl v2), (3, .inl v3)]) (st' := [.inl v2]) (by decide +kernel) rfl rfl ?_
      by_cases q40 : v2 < 0
      · rw [if_pos q40] at h
        refine xv_if_lt E 37 (show decode prog_14_method_89_code 13 = .ok (.ifCond .lt (24), 3) by decide +kernel) rfl (fun _ => ?_) (fun z => absurd q40 z)
        exact xv_w (sb252_37 E B  M h hN) rfl
      · rw [if_neg q40] at h
        refine xv_if_lt E 37 (show decode prog_14_method_89_code 13 = .ok (.ifCond .lt (24), 3) by decide +kernel) rfl (fun z => absurd z q40) (fun _ => ?_)
        refine xv_b E [.iload_n 2, .aload_n 0] (pc' := 18) (lv' := [(0, .inr (.inr (some a0))), (1, .inl v1), (2, .inl v2), (3, .inl v3)]) (st' := [.inr (.inr (some a0)), .inl v2]) (by decide +kernel) rfl rfl ?_
        obtain ⟨v_3, h4, h⟩ := bd h
        refine xg_i E 12 0 h4 mw921 (show decode prog_14_method_89_code 18 = .ok (.getfield 173, 3) by decide +kernel) ?_
        by_cases q39 : v_3 ≤ v2
        · rw [if_pos q39] at h
          refine xv_icmp_ge E 37 (show decode prog_14_method_89_code 21 = .ok (.if_icmp .ge (16), 3) by decide +kernel) rfl (fun _ => ?_) (fun z => absurd q39 z)
          exact xv_w (sb252_37 E B  M h hN) rfl
        · rw [if_neg q39] at h
          refine xv_icmp_ge E 37 (show decode prog_14_method_89_code 21 = .ok (.if_icmp .ge (16), 3) by decide +kernel) rfl (fun z => absurd z q39) (fun _ => ?_)
          refine xv_b E [.aload_n 0] (pc' := 25) (lv' := [(0, .inr (.inr (some a0))), (1, .inl v1), (2, .inl v2), (3, .inl v3)]) (st' := [.inr (.inr (some a0))]) (by decide +kernel) rfl rfl ?_
          obtain ⟨o_5, h6, h⟩ := bd h
          refine xg_r E 12 27 h6 mw887 (show decode prog_14_method_89_code 25 = .ok (.getfield 76, 3) by decide +kernel) ?_
          refine xv_b E [.iconst 5, .iload_n 1, .imul, .iload_n 2, .iadd] (pc' := 33) (lv' := [(0, .inr (.inr (some a0))), (1, .inl v1), (2, .inl v2), (3, .inl v3)]) (st' := [.inl (((5 : Int32) * v1) + v2), .inr (.inr o_5)]) (by decide +kernel) rfl rfl ?_
          obtain ⟨v_7, h8, h⟩ := bd h
          refine xa_z E h8 (show decode prog_14_method_89_code 33 = .ok (.baload, 1) by decide +kernel) ?_
          by_cases q38 : v_7 = 0
          · rw [if_pos q38] at h
            refine xv_if_ne E 39 (show decode prog_14_method_89_code 34 = .ok (.ifCond .ne (5), 3) by decide +kernel) rfl (fun z => absurd q38 z) (fun _ => ?_)
            exact xv_w (sb252_37 E B  M h hN) rfl
          · rw [if_neg q38] at h
            refine xv_if_ne E 39 (show decode prog_14_method_89_code 34 = .ok (.ifCond .ne (5), 3) by decide +kernel) rfl (fun _ => ?_) (fun z => absurd z q38)
            refine xv_b E [.iload_n 3] (pc' := 40) (lv' := [(0, .inr (.inr (some a0))), (1, .inl v1), (2, .inl v2), (3, .inl v3)]) (st' := [.inl v3]) (by decide +kernel) rfl rfl ?_
            by_cases q9 : v3 = 0
            · rw [if_pos q9] at h
              refine xv_tabIn E (off := 36) 76 (show decode prog_14_method_89_code 40 = .ok (.tableswitch (85) 0 4 #[36, 43, 51, 59, 74], 36) by decide +kernel) (by rw [q9]; decide) (by rw [q9]; decide) (by rw [q9]; rfl) rfl ?_
              refine xv_b E [.aload_n 0, .iload_n 1, .iload_n 2] (pc' := 79) (lv' := [(0, .inr (.inr (some a0))), (1, .inl v1), (2, .inl v2), (3, .inl v3)]) (st' := [.inl v2, .inl v1, .inr (.inr (some a0))]) (by decide +kernel) rfl rfl ?_
              obtain ⟨b_12, h13, h⟩ := bd h
              obtain ⟨eh13, th13⟩ := g_o_some h13
              obtain ⟨q_10, h11, h⟩ := bd h
              refine xv_cvo E eh13 12 (as := [.inl v1, .inl v2]) (t191 G l (c_I_some h11)) cd191 mw1141 mw1142 mw1143 (show decode prog_14_method_89_code 79 = .ok (.invokevirtual 312, 3) by decide +kernel) th13 rfl rfl (Nat.le_of_ble_eq_true rfl) ⟨Nat.le_of_ble_eq_true rfl, Nat.le_of_ble_eq_true rfl⟩ ?_
              obtain rfl := Option.some.inj h
              obtain ⟨rfl, rfl⟩ := Prod.mk.inj (show ((some (.inl q_10.1) : Option aV), q_10.2) = (r, M') from hN)
              exact xv_ri E B.1 rfl B.2.1 (show decode prog_14_method_89_code 82 = .ok (.ireturn, 1) by decide +kernel) rfl rfl
            · rw [if_neg q9] at h
              by_cases q14 : v3 = 1
              · rw [if_pos q14] at h
                refine xv_tabIn E (off := 43) 83 (show decode prog_14_method_89_code 40 = .ok (.tableswitch (85) 0 4 #[36, 43, 51, 59, 74], 36) by decide +kernel) (by rw [q14]; decide) (by rw [q14]; decide) (by rw [q14]; rfl) rfl ?_
                refine xv_b E [.aload_n 0, .iload_n 1, .iload_n 2, .iconst 4] (pc' := 87) (lv' := [(0, .inr (.inr (some a0))), (1, .inl v1), (2, .inl v2), (3, .inl v3)]) (st' := [.inl (4 : Int32), .inl v2, .inl v1, .inr (.inr (some a0))]) (by decide +kernel) rfl rfl ?_
                obtain ⟨b_17, h18, h⟩ := bd h
                obtain ⟨eh18, th18⟩ := g_o_some h18
                obtain ⟨q_15, h16, h⟩ := bd h
                refine xv_cvo E eh18 12 (as := [.inl v1, .inl v2, .inl (4 : Int32)]) (t190 G l (c_I_some h16)) cd190 mw996 mw997 mw998 (show decode prog_14_method_89_code 87 = .ok (.invokevirtual 241, 3) by decide +kernel) th18 rfl rfl (Nat.le_of_ble_eq_true rfl) ⟨Nat.le_of_ble_eq_true rfl, Nat.le_of_ble_eq_true rfl⟩ ?_
                obtain rfl := Option.some.inj h
                obtain ⟨rfl, rfl⟩ := Prod.mk.inj (show ((some (.inl q_15.1) : Option aV), q_15.2) = (r, M') from hN)
                exact xv_ri E B.1 rfl B.2.1 (show decode prog_14_method_89_code 90 = .ok (.ireturn, 1) by decide +kernel) rfl rfl
              · rw [if_neg q14] at h
                by_cases q19 : v3 = 2
                · rw [if_pos q19] at h
                  refine xv_tabIn E (off := 51) 91 (show decode prog_14_method_89_code 40 = .ok (.tableswitch (85) 0 4 #[36, 43, 51, 59, 74], 36) by decide +kernel) (by rw [q19]; decide) (by rw [q19]; decide) (by rw [q19]; rfl) rfl ?_
                  refine xv_b E [.aload_n 0, .iload_n 1, .iload_n 2, .iconst 5] (pc' := 95) (lv' := [(0, .inr (.inr (some a0))), (1, .inl v1), (2, .inl v2), (3, .inl v3)]) (st' := [.inl (5 : Int32), .inl v2, .inl v1, .inr (.inr (some a0))]) (by decide +kernel) rfl rfl ?_
                  obtain ⟨b_22, h23, h⟩ := bd h
                  obtain ⟨eh23, th23⟩ := g_o_some h23
                  obtain ⟨q_20, h21, h⟩ := bd h
                  refine xv_cvo E eh23 12 (as := [.inl v1, .inl v2, .inl (5 : Int32)]) (t190 G l (c_I_some h21)) cd190 mw996 mw997 mw998 (show decode prog_14_method_89_code 95 = .ok (.invokevirtual 241, 3) by decide +kernel) th23 rfl rfl (Nat.le_of_ble_eq_true rfl) ⟨Nat.le_of_ble_eq_true rfl, Nat.le_of_ble_eq_true rfl⟩ ?_
                  obtain rfl := Option.some.inj h
                  obtain ⟨rfl, rfl⟩ := Prod.mk.inj (show ((some (.inl q_20.1) : Option aV), q_20.2) = (r, M') from hN)
                  exact xv_ri E B.1 rfl B.2.1 (show decode prog_14_method_89_code 98 = .ok (.ireturn, 1) by decide +kernel) rfl rfl
                · rw [if_neg q19] at h
                  by_cases q24 : v3 = 3
                  · rw [if_pos q24] at h
                    refine xv_tabIn E (off := 59) 99 (show decode prog_14_method_89_code 40 = .ok (.tableswitch (85) 0 4 #[36, 43, 51, 59, 74], 36) by decide +kernel) (by rw [q24]; decide) (by rw [q24]; decide) (by rw [q24]; rfl) rfl ?_
                    refine xv_b E [.aload_n 0, .iload_n 1, .iload_n 2, .aload_n 0, .iload_n 1, .iload_n 2] (pc' := 105) (lv' := [(0, .inr (.inr (some a0))), (1, .inl v1), (2, .inl v2), (3, .inl v3)]) (st' := [.inl v2, .inl v1, .inr (.inr (some a0)), .inl v2, .inl v1, .inr (.inr (some a0))]) (by decide +kernel) rfl rfl ?_
                    obtain ⟨b_27, h28, h⟩ := bd h
                    obtain ⟨eh28, th28⟩ := g_o_some h28
                    obtain ⟨q_25, h26, h⟩ := bd h
                    refine xv_cvo E eh28 12 (as := [.inl v1, .inl v2]) (t192 G l (c_I_some h26)) cd192 mw1169 mw1170 mw1171 (show decode prog_14_method_89_code 105 = .ok (.invokevirtual 349, 3) by decide +kernel) th28 rfl rfl (Nat.le_of_ble_eq_true rfl) ⟨Nat.le_of_ble_eq_true rfl, Nat.le_of_ble_eq_true rfl⟩ ?_
                    refine xv_b E [.iconst 1, .isub] (pc' := 110) (lv' := [(0, .inr (.inr (some a0))), (1, .inl v1), (2, .inl v2), (3, .inl v3)]) (st' := [.inl (q_25.1 - (1 : Int32)), .inl v2, .inl v1, .inr (.inr (some a0))]) (by decide +kernel) rfl rfl ?_
                    obtain ⟨b_31, h32, h⟩ := bd h
                    obtain ⟨eh32, th32⟩ := g_o_some h32
                    obtain ⟨q_29, h30, h⟩ := bd h
                    refine xv_cvo E eh32 12 (as := [.inl v1, .inl v2, .inl (q_25.1 - (1 : Int32))]) (t190 G l (c_I_some h30)) cd190 mw996 mw997 mw998 (show decode prog_14_method_89_code 110 = .ok (.invokevirtual 241, 3) by decide +kernel) th32 rfl rfl (Nat.le_of_ble_eq_true rfl) ⟨Nat.le_of_ble_eq_true rfl, Nat.le_of_ble_eq_true rfl⟩ ?_
                    obtain rfl := Option.some.inj h
                    obtain ⟨rfl, rfl⟩ := Prod.mk.inj (show ((some (.inl q_29.1) : Option aV), q_29.2) = (r, M') from hN)
                    exact xv_ri E B.1 rfl B.2.1 (show decode prog_14_method_89_code 113 = .ok (.ireturn, 1) by decide +kernel) rfl rfl
                  · rw [if_neg q24] at h
                    by_cases q33 : v3 = 4
                    · rw [if_pos q33] at h
                      refine xv_tabIn E (off := 74) 114 (show decode prog_14_method_89_code 40 = .ok (.tableswitch (85) 0 4 #[36, 43, 51, 59, 74], 36) by decide +kernel) (by rw [q33]; decide) (by rw [q33]; decide) (by rw [q33]; rfl) rfl ?_
                      refine xv_b E [.aload_n 0] (pc' := 115) (lv' := [(0, .inr (.inr (some a0))), (1, .inl v1), (2, .inl v2), (3, .inl v3)]) (st' := [.inr (.inr (some a0))]) (by decide +kernel) rfl rfl ?_
                      obtain ⟨o_34, h35, h⟩ := bd h
                      refine xg_r E 12 28 h35 mw888 (show decode prog_14_method_89_code 115 = .ok (.getfield 79, 3) by decide +kernel) ?_
                      refine xv_b E [.iconst 5, .iload_n 1, .imul, .iload_n 2, .iadd] (pc' := 123) (lv' := [(0, .inr (.inr (some a0))), (1, .inl v1), (2, .inl v2), (3, .inl v3)]) (st' := [.inl (((5 : Int32) * v1) + v2), .inr (.inr o_34)]) (by decide +kernel) rfl rfl ?_
                      obtain ⟨v_36, h37, h⟩ := bd h
                      refine xa_i E h37 (show decode prog_14_method_89_code 123 = .ok (.iaload, 1) by decide +kernel) ?_
                      obtain rfl := Option.some.inj h
                      obtain ⟨rfl, rfl⟩ := Prod.mk.inj (show ((some (.inl v_36) : Option aV), M) = (r, M') from hN)
                      exact xv_ri E B.1 rfl B.2.1 (show decode prog_14_method_89_code 124 = .ok (.ireturn, 1) by decide +kernel) rfl rfl
                    · rw [if_neg q33] at h
                      refine xv_tabOut E 125 (show decode prog_14_method_89_code 40 = .ok (.tableswitch (85) 0 4 #[36, 43, 51, 59, 74], 36) by decide +kernel) (sw_out (lo := 0) (hi := 4) (by decide) (by decide) (fun k h1 h2 => ?_)) rfl ?_
                      · rcases (show k = 0 ∨ k = 1 ∨ k = 2 ∨ k = 3 ∨ k = 4 by omega) with rfl | rfl | rfl | rfl | rfl
                        · exact q9
                        · exact q14
                        · exact q19
                        · exact q24
                        · exact q33
                      · refine xv_b E [.iconst (-1)] (pc' := 126) (lv' := [(0, .inr (.inr (some a0))), (1, .inl v1), (2, .inl v2), (3, .inl v3)]) (st' := [.inl (-1 : Int32)]) (by decide +kernel) rfl rfl ?_
                        obtain rfl := Option.some.inj h
                        obtain ⟨rfl, rfl⟩ := Prod.mk.inj (show ((some (.inl (-1 : Int32)) : Option aV), M) = (r, M') from hN)
                        exact xv_ri E B.1 rfl B.2.1 (show decode prog_14_method_89_code 126 = .ok (.ireturn, 1) by decide +kernel) rfl rfl
end
theorem t252 (G : gX) (l : Launch) {as : List aV} {M : hM} {r : Option aV} {M' : hM} (h : f252 as M = some (r, M')) : xM G l ym252 prog_14_method_89_code 4 (some FieldType.int) 2 as M r M' := by
  unfold f252 at h
  split at h
  · have h := x_out_ok h
    refine xM_of (by decide) (Nat.le_of_ble_eq_true rfl) (lb252_0 G l _ _ _ _ M h) ?_
    intro p e s m args below meth c E B
    exact sb252_0 E B _ _ _ _ M h rfl
  · cases h
/-! ZFModel.port(III)I -/
def ym253 : MethodName := ⟨"ZonedFabricModel", "port", "(III)I"⟩
theorem cd253 : xCd ym253 prog_14_method_90_code 6 (some FieldType.int) 3 := ⟨mw1238, mw864, by decide, by decide, by decide +kernel⟩
def b253_58  (M : hM) : Option xRes :=
  some (.inl (some (.inl (-1 : Int32)), M))
def b253_198 (si0 : Int32) (M : hM) : Option xRes :=
  some (.inl (some (.inl si0), M))
def b253_213 (si0 : Int32) (M : hM) : Option xRes :=
  some (.inl (some (.inl si0), M))
def b253_82 (a0 : Nat) (v3 : Int32) (v4 : Int32) (si0 : Int32) (M : hM) : Option xRes :=
  Option.bind (g_r M 12 14 (some a0)) fun o_22 =>
  Option.bind (al_i M 20 o_22 si0) fun v_24 =>
  if v_24 = (-1 : Int32) then
    (some (.inl (some (.inl (-1 : Int32)), M)))
  else
    (if v3 = 0 then
      (Option.bind (g_o M 12 (some a0)) fun b_29 =>
      Option.bind (c_I (f180 [.inr (.inr (some b_29)), .inl si0] M)) fun q_27 =>
      some (.inl (some (.inl q_27.1), q_27.2)))
    else
      (if v3 = 1 then
        (Option.bind (g_r M 12 17 (some a0)) fun o_32 =>
        Option.bind (al_i M 20 o_32 si0) fun v_34 =>
        some (.inl (some (.inl v_34), M)))
      else
        (if v3 = 2 then
          (Option.bind (g_r M 12 19 (some a0)) fun o_37 =>
          Option.bind (al_i M 20 o_37 si0) fun v_39 =>
          some (.inl (some (.inl v_39), M)))
        else
          (if v3 = 3 then
            (if v4 = 0 then
              (Option.bind (g_o M 12 (some a0)) fun b_44 =>
              Option.bind (c_I (f179 [.inr (.inr (some b_44)), .inl si0] M)) fun q_42 =>
              if q_42.1 = (-1 : Int32) then
                (Option.bind (g_r q_42.2 12 23 (some a0)) fun o_46 =>
                Option.bind (al_i q_42.2 20 o_46 si0) fun v_48 =>
                b253_198 v_48 q_42.2)
              else
                (Option.bind (g_o q_42.2 12 (some a0)) fun b_52 =>
                Option.bind (c_I (f179 [.inr (.inr (some b_52)), .inl si0] q_42.2)) fun q_50 =>
                b253_198 q_50.1 q_50.2))
            else
              (Option.bind (g_o M 12 (some a0)) fun b_57 =>
              Option.bind (c_I (f178 [.inr (.inr (some b_57)), .inl si0] M)) fun q_55 =>
              Option.bind (d_v q_55.1 (8 : Int32)) fun v_59 =>
              b253_198 v_59 q_55.2))
          else
            (if v3 = 4 then
              (Option.bind (g_o M 12 (some a0)) fun b_65 =>
              Option.bind (c_I (f177 [.inr (.inr (some b_65)), .inl si0] M)) fun q_63 =>
              if q_63.1 = 0 then
                (b253_213 (0 : Int32) q_63.2)
              else
                (b253_213 (1 : Int32) q_63.2))
            else
              (some (.inl (some (.inl (-1 : Int32)), M))))))))
def b253_60 (a0 : Nat) (v1 : Int32) (v2 : Int32) (v3 : Int32) (v4 : Int32) (M : hM) : Option xRes :=
  if v4 = 0 then
    (Option.bind (g_o M 12 (some a0)) fun b_15 =>
    Option.bind (c_I (f175 [.inr (.inr (some b_15)), .inl v1, .inl v2] M)) fun q_13 =>
    b253_82 a0 v3 v4 q_13.1 q_13.2)
  else
    (Option.bind (g_o M 12 (some a0)) fun b_19 =>
    Option.bind (c_I (f176 [.inr (.inr (some b_19)), .inl (v1 - (16 : Int32))] M)) fun q_17 =>
    b253_82 a0 v3 v4 q_17.1 q_17.2)
def b253_11 (a0 : Nat) (v1 : Int32) (v2 : Int32) (v3 : Int32) (si0 : Int32) (M : hM) : Option xRes :=
  if si0 = 0 then
    (if v1 < 0 then
      (b253_58  M)
    else
      (Option.bind (g_i M 12 0 (some a0)) fun v_2 =>
      if v_2 ≤ v1 then
        (b253_58  M)
      else
        (if v2 < 0 then
          (b253_58  M)
        else
          (if v2 ≤ (7 : Int32) then
            (b253_60 a0 v1 v2 v3 si0 M)
          else
            (b253_58  M)))))
  else
    (Option.bind (g_i M 12 1 (some a0)) fun v_8 =>
    if v_8 ≤ (v1 - (16 : Int32)) then
      (b253_58  M)
    else
      (if v2 = 0 then
        (b253_60 a0 v1 v2 v3 si0 M)
      else
        (b253_58  M)))
def b253_0 (a0 : Nat) (v1 : Int32) (v2 : Int32) (v3 : Int32) (M : hM) : Option xRes :=
  if v1 < (16 : Int32) then
    (b253_11 a0 v1 v2 v3 (0 : Int32) M)
  else
    (b253_11 a0 v1 v2 v3 (1 : Int32) M)
def f253 (as : List aV) (M : hM) : xO := match as with
  | [.inr (.inr (some a0)), .inl v1, .inl v2, .inl v3] => x_out (b253_0 a0 v1 v2 v3 M)
  | _ => none
theorem lb253_58 (G : gX) (l : Launch)  (M : hM) {res : xRes} (h : b253_58  M = some res) : h_sz M ≤ r_sz res ∧ h_sl M ≤ r_sl res := by
  unfold b253_58 at h
  obtain rfl := Option.some.inj h
  show h_sz M ≤ h_sz M ∧ h_sl M ≤ h_sl M
  omega
theorem lb253_198 (G : gX) (l : Launch) (si0 : Int32) (M : hM) {res : xRes} (h : b253_198 si0 M = some res) : h_sz M ≤ r_sz res ∧ h_sl M ≤ r_sl res := by
  unfold b253_198 at h
  obtain rfl := Option.some.inj h
  show h_sz M ≤ h_sz M ∧ h_sl M ≤ h_sl M
  omega
theorem lb253_213 (G : gX) (l : Launch) (si0 : Int32) (M : hM) {res : xRes} (h : b253_213 si0 M = some res) : h_sz M ≤ r_sz res ∧ h_sl M ≤ r_sl res := by
  unfold b253_213 at h
  obtain rfl := Option.some.inj h
  show h_sz M ≤ h_sz M ∧ h_sl M ≤ h_sl M
  omega
theorem lb253_82 (G : gX) (l : Launch) (a0 : Nat) (v3 : Int32) (v4 : Int32) (si0 : Int32) (M : hM) {res : xRes} (h : b253_82 a0 v3 v4 si0 M = some res) : h_sz M ≤ r_sz res ∧ h_sl M ≤ r_sl res := by
  unfold b253_82 at h
  obtain ⟨o_22, h23, h⟩ := bd h
  obtain ⟨v_24, h25, h⟩ := bd h
  by_cases q68 : v_24 = (-1 : Int32)
  · rw [if_pos q68] at h
    obtain rfl := Option.some.inj h
    show h_sz M ≤ h_sz M ∧ h_sl M ≤ h_sl M
    omega
  · rw [if_neg q68] at h
    by_cases q26 : v3 = 0
    · rw [if_pos q26] at h
      obtain ⟨b_29, h30, h⟩ := bd h
      obtain ⟨q_27, h28, h⟩ := bd h
      have eh28 := (t180 G l (c_I_some h28)).1
      obtain rfl := Option.some.inj h
      show h_sz M ≤ h_sz q_27.2 ∧ h_sl M ≤ h_sl q_27.2
      omega
    · rw [if_neg q26] at h
      by_cases q31 : v3 = 1
      · rw [if_pos q31] at h
        obtain ⟨o_32, h33, h⟩ := bd h
        obtain ⟨v_34, h35, h⟩ := bd h
        obtain rfl := Option.some.inj h
        show h_sz M ≤ h_sz M ∧ h_sl M ≤ h_sl M
        omega
      · rw [if_neg q31] at h
        by_cases q36 : v3 = 2
        · rw [if_pos q36] at h
          obtain ⟨o_37, h38, h⟩ := bd h
          obtain ⟨v_39, h40, h⟩ := bd h
          obtain rfl := Option.some.inj h
          show h_sz M ≤ h_sz M ∧ h_sl M ≤ h_sl M
          omega
        · rw [if_neg q36] at h
          by_cases q41 : v3 = 3
          · rw [if_pos q41] at h
            by_cases q61 : v4 = 0
            · rw [if_pos q61] at h
              obtain ⟨b_44, h45, h⟩ := bd h
              obtain ⟨q_42, h43, h⟩ := bd h
              have eh43 := (t179 G l (c_I_some h43)).1
              by_cases q54 : q_42.1 = (-1 : Int32)
              · rw [if_pos q54] at h
                obtain ⟨o_46, h47, h⟩ := bd h
                obtain ⟨v_48, h49, h⟩ := bd h
                have e := lb253_198 G l v_48 q_42.2 h
                omega
              · rw [if_neg q54] at h
                obtain ⟨b_52, h53, h⟩ := bd h
                obtain ⟨q_50, h51, h⟩ := bd h
                have eh51 := (t179 G l (c_I_some h51)).1
                have e := lb253_198 G l q_50.1 q_50.2 h
                omega
            · rw [if_neg q61] at h
              obtain ⟨b_57, h58, h⟩ := bd h
              obtain ⟨q_55, h56, h⟩ := bd h
              have eh56 := (t178 G l (c_I_some h56)).1
              obtain ⟨v_59, h60, h⟩ := bd h
              have e := lb253_198 G l v_59 q_55.2 h
              omega
          · rw [if_neg q41] at h
            by_cases q62 : v3 = 4
            · rw [if_pos q62] at h
              obtain ⟨b_65, h66, h⟩ := bd h
              obtain ⟨q_63, h64, h⟩ := bd h
              have eh64 := (t177 G l (c_I_some h64)).1
              by_cases q67 : q_63.1 = 0
              · rw [if_pos q67] at h
                have e := lb253_213 G l (0 : Int32) q_63.2 h
                omega
              · rw [if_neg q67] at h
                have e := lb253_213 G l (1 : Int32) q_63.2 h
                omega
            · rw [if_neg q62] at h
              obtain rfl := Option.some.inj h
              show h_sz M ≤ h_sz M ∧ h_sl M ≤ h_sl M
              omega
theorem lb253_60 (G : gX) (l : Launch) (a0 : Nat) (v1 : Int32) (v2 : Int32) (v3 : Int32) (v4 : Int32) (M : hM) {res : xRes} (h : b253_60 a0 v1 v2 v3 v4 M = some res) : h_sz M ≤ r_sz res ∧ h_sl M ≤ r_sl res := by
  unfold b253_60 at h
  by_cases q21 : v4 = 0
  · rw [if_pos q21] at h
    obtain ⟨b_15, h16, h⟩ := bd h
    obtain ⟨q_13, h14, h⟩ := bd h
    have eh14 := (t175 G l (c_I_some h14)).1
    have e := lb253_82 G l a0 v3 v4 q_13.1 q_13.2 h
    omega
  · rw [if_neg q21] at h
    obtain ⟨b_19, h20, h⟩ := bd h
    obtain ⟨q_17, h18, h⟩ := bd h
    have eh18 := (t176 G l (c_I_some h18)).1
    have e := lb253_82 G l a0 v3 v4 q_17.1 q_17.2 h
    omega
theorem lb253_11 (G : gX) (l : Launch) (a0 : Nat) (v1 : Int32) (v2 : Int32) (v3 : Int32) (si0 : Int32) (M : hM) {res : xRes} (h : b253_11 a0 v1 v2 v3 si0 M = some res) : h_sz M ≤ r_sz res ∧ h_sl M ≤ r_sl res := by
  unfold b253_11 at h
  by_cases q12 : si0 = 0
  · rw [if_pos q12] at h
    by_cases q7 : v1 < 0
    · rw [if_pos q7] at h
      have e := lb253_58 G l  M h
      omega
    · rw [if_neg q7] at h
      obtain ⟨v_2, h3, h⟩ := bd h
      by_cases q6 : v_2 ≤ v1
      · rw [if_pos q6] at h
        have e := lb253_58 G l  M h
        omega
      · rw [if_neg q6] at h
        by_cases q5 : v2 < 0
        · rw [if_pos q5] at h
          have e := lb253_58 G l  M h
          omega
        · rw [if_neg q5] at h
          by_cases q4 : v2 ≤ (7 : Int32)
          · rw [if_pos q4] at h
            have e := lb253_60 G l a0 v1 v2 v3 si0 M h
            omega
          · rw [if_neg q4] at h
            have e := lb253_58 G l  M h
            omega
  · rw [if_neg q12] at h
    obtain ⟨v_8, h9, h⟩ := bd h
    by_cases q11 : v_8 ≤ (v1 - (16 : Int32))
    · rw [if_pos q11] at h
      have e := lb253_58 G l  M h
      omega
    · rw [if_neg q11] at h
      by_cases q10 : v2 = 0
      · rw [if_pos q10] at h
        have e := lb253_60 G l a0 v1 v2 v3 si0 M h
        omega
      · rw [if_neg q10] at h
        have e := lb253_58 G l  M h
        omega
theorem lb253_0 (G : gX) (l : Launch) (a0 : Nat) (v1 : Int32) (v2 : Int32) (v3 : Int32) (M : hM) {res : xRes} (h : b253_0 a0 v1 v2 v3 M = some res) : h_sz M ≤ r_sz res ∧ h_sl M ≤ r_sl res := by
  unfold b253_0 at h
  by_cases q1 : v1 < (16 : Int32)
  · rw [if_pos q1] at h
    have e := lb253_11 G l a0 v1 v2 v3 (0 : Int32) M h
    omega
  · rw [if_neg q1] at h
    have e := lb253_11 G l a0 v1 v2 v3 (1 : Int32) M h
    omega
section
variable {p : Program} {l : Launch} {e : Env} {s : State} {m : MethodId} {args : Array Value} {below : List Frame} {meth : Method} {c : Code} {G : gX} {z0 y0 : Nat} {r : Option aV} {M' : hM}
theorem sb253_58 (E : xE G p (xRm 2 (h_sz M' - z0) (h_sl M' - y0)) s m args c prog_14_method_90_code "ZonedFabricModel" z0 y0 (h_sz M') (h_sl M') 6) (B : xB ym253 (some FieldType.int) meth)  (M : hM) {res : xRes} (h : b253_58  M = some res) (hN : xN (fun _ _ _ => False) r M' res) : xV G p l e (xRm 2 (h_sz M' - z0) (h_sl M' - y0)) s m args below meth c z0 y0 (h_sz M') (h_sl M') 6 (MQ below (xQc G r M') args s (h_sz M' - z0) (h_sl M' - y0) (xFr G)) 58 [] [] M := by
  unfold b253_58 at h
  refine xv_b E [.iconst (-1)] (pc' := 59) (lv' := []) (st' := [.inl (-1 : Int32)]) (by decide +kernel) rfl rfl ?_
  obtain rfl := Option.some.inj h
  obtain ⟨rfl, rfl⟩ := Prod.mk.inj (show ((some (.inl (-1 : Int32)) : Option aV), M) = (r, M') from hN)
  exact xv_ri E B.1 rfl B.2.1 (show decode prog_14_method_90_code 59 = .ok (.ireturn, 1) by decide +kernel) rfl rfl
theorem sb253_198 (E : xE G p (xRm 2 (h_sz M' - z0) (h_sl M' - y0)) s m args c prog_14_method_90_code "ZonedFabricModel" z0 y0 (h_sz M') (h_sl M') 6) (B : xB ym253 (some FieldType.int) meth) (si0 : Int32) (M : hM) {res : xRes} (h : b253_198 si0 M = some res) (hN : xN (fun _ _ _ => False) r M' res) : xV G p l e (xRm 2 (h_sz M' - z0) (h_sl M' - y0)) s m args below meth c z0 y0 (h_sz M') (h_sl M') 6 (MQ below (xQc G r M') args s (h_sz M' - z0) (h_sl M' - y0) (xFr G)) 198 [] [.inl si0] M := by
  unfold b253_198 at h
  obtain rfl := Option.some.inj h
  obtain ⟨rfl, rfl⟩ := Prod.mk.inj (show ((some (.inl si0) : Option aV), M) = (r, M') from hN)
  exact xv_ri E B.1 rfl B.2.1 (show decode prog_14_method_90_code 198 = .ok (.ireturn, 1) by decide +kernel) rfl rfl
theorem sb253_213 (E : xE G p (xRm 2 (h_sz M' - z0) (h_sl M' - y0)) s m args c prog_14_method_90_code "ZonedFabricModel" z0 y0 (h_sz M') (h_sl M') 6) (B : xB ym253 (some FieldType.int) meth) (si0 : Int32) (M : hM) {res : xRes} (h : b253_213 si0 M = some res) (hN : xN (fun _ _ _ => False) r M' res) : xV G p l e (xRm 2 (h_sz M' - z0) (h_sl M' - y0)) s m args below meth c z0 y0 (h_sz M') (h_sl M') 6 (MQ below (xQc G r M') args s (h_sz M' - z0) (h_sl M' - y0) (xFr G)) 213 [] [.inl si0] M := by
  unfold b253_213 at h
  obtain rfl := Option.some.inj h
  obtain ⟨rfl, rfl⟩ := Prod.mk.inj (show ((some (.inl si0) : Option aV), M) = (r, M') from hN)
  exact xv_ri E B.1 rfl B.2.1 (show decode prog_14_method_90_code 213 = .ok (.ireturn, 1) by decide +kernel) rfl rfl
theorem sb253_82 (E : xE G p (xRm 2 (h_sz M' - z0) (h_sl M' - y0)) s m args c prog_14_method_90_code "ZonedFabricModel" z0 y0 (h_sz M') (h_sl M') 6) (B : xB ym253 (some FieldType.int) meth) (a0 : Nat) (v3 : Int32) (v4 : Int32) (si0 : Int32) (M : hM) {res : xRes} (h : b253_82 a0 v3 v4 si0 M = some res) (hN : xN (fun _ _ _ => False) r M' res) : xV G p l e (xRm 2 (h_sz M' - z0) (h_sl M' - y0)) s m args below meth c z0 y0 (h_sz M') (h_sl M') 6 (MQ below (xQc G r M') args s (h_sz M' - z0) (h_sl M' - y0) (xFr G)) 82 [(0, .inr (.inr (some a0))), (3, .inl v3), (4, .inl v4)] [.inl si0] M := by
  unfold b253_82 at h
  refine xv_b E [.istore 5, .aload_n 0] (pc' := 85) (lv' := [(5, .inl si0), (0, .inr (.inr (some a0))), (3, .inl v3), (4, .inl v4)]) (st' := [.inr (.inr (some a0))]) (by decide +kernel) rfl rfl ?_
  obtain ⟨o_22, h23, h⟩ := bd h
  refine xg_r E 12 14 h23 mw874 (show decode prog_14_method_90_code 85 = .ok (.getfield 37, 3) by decide +kernel) ?_
  refine xv_b E [.iload 5] (pc' := 90) (lv' := [(5, .inl si0), (0, .inr (.inr (some a0))), (3, .inl v3), (4, .inl v4)]) (st' := [.inl si0, .inr (.inr o_22)]) (by decide +kernel) rfl rfl ?_
  obtain ⟨v_24, h25, h⟩ := bd h
  refine xa_i E h25 (show decode prog_14_method_90_code 90 = .ok (.iaload, 1) by decide +kernel) ?_
  refine xv_b E [.iconst (-1)] (pc' := 92) (lv' := [(5, .inl si0), (0, .inr (.inr (some a0))), (3, .inl v3), (4, .inl v4)]) (st' := [.inl (-1 : Int32), .inl v_24]) (by decide +kernel) rfl rfl ?_
  by_cases q68 : v_24 = (-1 : Int32)
  · rw [if_pos q68] at h
    refine xv_icmp_ne E 97 (show decode prog_14_method_90_code 92 = .ok (.if_icmp .ne (5), 3) by decide +kernel) rfl (fun z => absurd q68 z) (fun _ => ?_)
    refine xv_b E [.iconst (-1)] (pc' := 96) (lv' := [(5, .inl si0), (0, .inr (.inr (some a0))), (3, .inl v3), (4, .inl v4)]) (st' := [.inl (-1 : Int32)]) (by decide +kernel) rfl rfl ?_
    obtain rfl := Option.some.inj h
    obtain ⟨rfl, rfl⟩ := Prod.mk.inj (show ((some (.inl (-1 : Int32)) : Option aV), M) = (r, M') from hN)
    exact xv_ri E B.1 rfl B.2.1 (show decode prog_14_method_90_code 96 = .ok (.ireturn, 1) by decide +kernel) rfl rfl
  · rw [if_neg q68] at h
    refine xv_icmp_ne E 97 (show decode prog_14_method_90_code 92 = .ok (.if_icmp .ne (5), 3) by decide +kernel) rfl (fun _ => ?_) (fun z => absurd z q68)
    refine xv_b E [.iload_n 3] (pc' := 98) (lv' := [(5, .inl si0), (0, .inr (.inr (some a0))), (3, .inl v3), (4, .inl v4)]) (st' := [.inl v3]) (by decide +kernel) rfl rfl ?_
    by_cases q26 : v3 = 0
    · rw [if_pos q26] at h
      refine xv_tabIn E (off := 34) 132 (show decode prog_14_method_90_code 98 = .ok (.tableswitch (116) 0 4 #[34, 41, 49, 57, 101], 34) by decide +kernel) (by rw [q26]; decide) (by rw [q26]; decide) (by rw [q26]; rfl) rfl ?_
      refine xv_b E [.aload_n 0, .iload 5] (pc' := 135) (lv' := [(5, .inl si0), (0, .inr (.inr (some a0))), (3, .inl v3), (4, .inl v4)]) (st' := [.inl si0, .inr (.inr (some a0))]) (by decide +kernel) rfl rfl ?_
      obtain ⟨b_29, h30, h⟩ := bd h
      obtain ⟨eh30, th30⟩ := g_o_some h30
      obtain ⟨q_27, h28, h⟩ := bd h
      refine xv_cvo E eh30 12 (as := [.inl si0]) (t180 G l (c_I_some h28)) cd180 mw967 mw968 mw969 (show decode prog_14_method_90_code 135 = .ok (.invokevirtual 217, 3) by decide +kernel) th30 rfl rfl (Nat.le_of_ble_eq_true rfl) ⟨Nat.le_of_ble_eq_true rfl, Nat.le_of_ble_eq_true rfl⟩ ?_
      obtain rfl := Option.some.inj h
      obtain ⟨rfl, rfl⟩ := Prod.mk.inj (show ((some (.inl q_27.1) : Option aV), q_27.2) = (r, M') from hN)
      exact xv_ri E B.1 rfl B.2.1 (show decode prog_14_method_90_code 138 = .ok (.ireturn, 1) by decide +kernel) rfl rfl
    · rw [if_neg q26] at h
      by_cases q31 : v3 = 1
      · rw [if_pos q31] at h
        refine xv_tabIn E (off := 41) 139 (show decode prog_14_method_90_code 98 = .ok (.tableswitch (116) 0 4 #[34, 41, 49, 57, 101], 34) by decide +kernel) (by rw [q31]; decide) (by rw [q31]; decide) (by rw [q31]; rfl) rfl ?_
        refine xv_b E [.aload_n 0] (pc' := 140) (lv' := [(5, .inl si0), (0, .inr (.inr (some a0))), (3, .inl v3), (4, .inl v4)]) (st' := [.inr (.inr (some a0))]) (by decide +kernel) rfl rfl ?_
        obtain ⟨o_32, h33, h⟩ := bd h
        refine xg_r E 12 17 h33 mw877 (show decode prog_14_method_90_code 140 = .ok (.getfield 46, 3) by decide +kernel) ?_
        refine xv_b E [.iload 5] (pc' := 145) (lv' := [(5, .inl si0), (0, .inr (.inr (some a0))), (3, .inl v3), (4, .inl v4)]) (st' := [.inl si0, .inr (.inr o_32)]) (by decide +kernel) rfl rfl ?_
        obtain ⟨v_34, h35, h⟩ := bd h
        refine xa_i E h35 (show decode prog_14_method_90_code 145 = .ok (.iaload, 1) by decide +kernel) ?_
        obtain rfl := Option.some.inj h
        obtain ⟨rfl, rfl⟩ := Prod.mk.inj (show ((some (.inl v_34) : Option aV), M) = (r, M') from hN)
        exact xv_ri E B.1 rfl B.2.1 (show decode prog_14_method_90_code 146 = .ok (.ireturn, 1) by decide +kernel) rfl rfl
      · rw [if_neg q31] at h
        by_cases q36 : v3 = 2
        · rw [if_pos q36] at h
          refine xv_tabIn E (off := 49) 147 (show decode prog_14_method_90_code 98 = .ok (.tableswitch (116) 0 4 #[34, 41, 49, 57, 101], 34) by decide +kernel) (by rw [q36]; decide) (by rw [q36]; decide) (by rw [q36]; rfl) rfl ?_
          refine xv_b E [.aload_n 0] (pc' := 148) (lv' := [(5, .inl si0), (0, .inr (.inr (some a0))), (3, .inl v3), (4, .inl v4)]) (st' := [.inr (.inr (some a0))]) (by decide +kernel) rfl rfl ?_
          obtain ⟨o_37, h38, h⟩ := bd h
          refine xg_r E 12 19 h38 mw879 (show decode prog_14_method_90_code 148 = .ok (.getfield 52, 3) by decide +kernel) ?_
          refine xv_b E [.iload 5] (pc' := 153) (lv' := [(5, .inl si0), (0, .inr (.inr (some a0))), (3, .inl v3), (4, .inl v4)]) (st' := [.inl si0, .inr (.inr o_37)]) (by decide +kernel) rfl rfl ?_
          obtain ⟨v_39, h40, h⟩ := bd h
          refine xa_i E h40 (show decode prog_14_method_90_code 153 = .ok (.iaload, 1) by decide +kernel) ?_
          obtain rfl := Option.some.inj h
          obtain ⟨rfl, rfl⟩ := Prod.mk.inj (show ((some (.inl v_39) : Option aV), M) = (r, M') from hN)
          exact xv_ri E B.1 rfl B.2.1 (show decode prog_14_method_90_code 154 = .ok (.ireturn, 1) by decide +kernel) rfl rfl
        · rw [if_neg q36] at h
          by_cases q41 : v3 = 3
          · rw [if_pos q41] at h
            refine xv_tabIn E (off := 57) 155 (show decode prog_14_method_90_code 98 = .ok (.tableswitch (116) 0 4 #[34, 41, 49, 57, 101], 34) by decide +kernel) (by rw [q41]; decide) (by rw [q41]; decide) (by rw [q41]; rfl) rfl ?_
            refine xv_b E [.iload 4] (pc' := 157) (lv' := [(5, .inl si0), (0, .inr (.inr (some a0))), (3, .inl v3), (4, .inl v4)]) (st' := [.inl v4]) (by decide +kernel) rfl rfl ?_
            by_cases q61 : v4 = 0
            · rw [if_pos q61] at h
              refine xv_if_eq E 172 (show decode prog_14_method_90_code 157 = .ok (.ifCond .eq (15), 3) by decide +kernel) rfl (fun _ => ?_) (fun z => absurd q61 z)
              refine xv_b E [.aload_n 0, .iload 5] (pc' := 175) (lv' := [(5, .inl si0), (0, .inr (.inr (some a0))), (3, .inl v3), (4, .inl v4)]) (st' := [.inl si0, .inr (.inr (some a0))]) (by decide +kernel) rfl rfl ?_
              obtain ⟨b_44, h45, h⟩ := bd h
              obtain ⟨eh45, th45⟩ := g_o_some h45
              obtain ⟨q_42, h43, h⟩ := bd h
              refine xv_cvo E eh45 12 (as := [.inl si0]) (t179 G l (c_I_some h43)) cd179 mw1154 mw1155 mw1156 (show decode prog_14_method_90_code 175 = .ok (.invokevirtual 303, 3) by decide +kernel) th45 rfl rfl (Nat.le_of_ble_eq_true rfl) ⟨Nat.le_of_ble_eq_true rfl, Nat.le_of_ble_eq_true rfl⟩ ?_
              refine xv_b E [.iconst (-1)] (pc' := 179) (lv' := [(5, .inl si0), (0, .inr (.inr (some a0))), (3, .inl v3), (4, .inl v4)]) (st' := [.inl (-1 : Int32), .inl q_42.1]) (by decide +kernel) rfl rfl ?_
              by_cases q54 : q_42.1 = (-1 : Int32)
              · rw [if_pos q54] at h
                refine xv_icmp_eq E 191 (show decode prog_14_method_90_code 179 = .ok (.if_icmp .eq (12), 3) by decide +kernel) rfl (fun _ => ?_) (fun z => absurd q54 z)
                refine xv_b E [.aload_n 0] (pc' := 192) (lv' := [(5, .inl si0), (0, .inr (.inr (some a0))), (3, .inl v3), (4, .inl v4)]) (st' := [.inr (.inr (some a0))]) (by decide +kernel) rfl rfl ?_
                obtain ⟨o_46, h47, h⟩ := bd h
                refine xg_r E 12 23 h47 mw883 (show decode prog_14_method_90_code 192 = .ok (.getfield 64, 3) by decide +kernel) ?_
                refine xv_b E [.iload 5] (pc' := 197) (lv' := [(5, .inl si0), (0, .inr (.inr (some a0))), (3, .inl v3), (4, .inl v4)]) (st' := [.inl si0, .inr (.inr o_46)]) (by decide +kernel) rfl rfl ?_
                obtain ⟨v_48, h49, h⟩ := bd h
                refine xa_i E h49 (show decode prog_14_method_90_code 197 = .ok (.iaload, 1) by decide +kernel) ?_
                exact xv_w (sb253_198 E B v_48 q_42.2 h hN) rfl
              · rw [if_neg q54] at h
                refine xv_icmp_eq E 191 (show decode prog_14_method_90_code 179 = .ok (.if_icmp .eq (12), 3) by decide +kernel) rfl (fun z => absurd z q54) (fun _ => ?_)
                refine xv_b E [.aload_n 0, .iload 5] (pc' := 185) (lv' := [(5, .inl si0), (0, .inr (.inr (some a0))), (3, .inl v3), (4, .inl v4)]) (st' := [.inl si0, .inr (.inr (some a0))]) (by decide +kernel) rfl rfl ?_
                obtain ⟨b_52, h53, h⟩ := bd h
                obtain ⟨eh53, th53⟩ := g_o_some h53
                obtain ⟨q_50, h51, h⟩ := bd h
                refine xv_cvo E eh53 12 (as := [.inl si0]) (t179 G l (c_I_some h51)) cd179 mw1154 mw1155 mw1156 (show decode prog_14_method_90_code 185 = .ok (.invokevirtual 303, 3) by decide +kernel) th53 rfl rfl (Nat.le_of_ble_eq_true rfl) ⟨Nat.le_of_ble_eq_true rfl, Nat.le_of_ble_eq_true rfl⟩ ?_
                refine xv_goto E 198 (show decode prog_14_method_90_code 188 = .ok (.goto (10), 3) by decide +kernel) rfl ?_
                exact xv_w (sb253_198 E B q_50.1 q_50.2 h hN) rfl
            · rw [if_neg q61] at h
              refine xv_if_eq E 172 (show decode prog_14_method_90_code 157 = .ok (.ifCond .eq (15), 3) by decide +kernel) rfl (fun z => absurd z q61) (fun _ => ?_)
              refine xv_b E [.aload_n 0, .iload 5] (pc' := 163) (lv' := [(5, .inl si0), (0, .inr (.inr (some a0))), (3, .inl v3), (4, .inl v4)]) (st' := [.inl si0, .inr (.inr (some a0))]) (by decide +kernel) rfl rfl ?_
              obtain ⟨b_57, h58, h⟩ := bd h
              obtain ⟨eh58, th58⟩ := g_o_some h58
              obtain ⟨q_55, h56, h⟩ := bd h
              refine xv_cvo E eh58 12 (as := [.inl si0]) (t178 G l (c_I_some h56)) cd178 mw959 mw960 mw961 (show decode prog_14_method_90_code 163 = .ok (.invokevirtual 209, 3) by decide +kernel) th58 rfl rfl (Nat.le_of_ble_eq_true rfl) ⟨Nat.le_of_ble_eq_true rfl, Nat.le_of_ble_eq_true rfl⟩ ?_
              refine xv_b E [.bipush 8] (pc' := 168) (lv' := [(5, .inl si0), (0, .inr (.inr (some a0))), (3, .inl v3), (4, .inl v4)]) (st' := [.inl (8 : Int32), .inl q_55.1]) (by decide +kernel) rfl rfl ?_
              obtain ⟨v_59, h60, h⟩ := bd h
              refine xd_v E h60 (show decode prog_14_method_90_code 168 = .ok (.idiv, 1) by decide +kernel) ?_
              refine xv_goto E 198 (show decode prog_14_method_90_code 169 = .ok (.goto (29), 3) by decide +kernel) rfl ?_
              exact xv_w (sb253_198 E B v_59 q_55.2 h hN) rfl
          · rw [if_neg q41] at h
            by_cases q62 : v3 = 4
            · rw [if_pos q62] at h
              refine xv_tabIn E (off := 101) 199 (show decode prog_14_method_90_code 98 = .ok (.tableswitch (116) 0 4 #[34, 41, 49, 57, 101], 34) by decide +kernel) (by rw [q62]; decide) (by rw [q62]; decide) (by rw [q62]; rfl) rfl ?_
              refine xv_b E [.aload_n 0, .iload 5] (pc' := 202) (lv' := [(5, .inl si0), (0, .inr (.inr (some a0))), (3, .inl v3), (4, .inl v4)]) (st' := [.inl si0, .inr (.inr (some a0))]) (by decide +kernel) rfl rfl ?_
              obtain ⟨b_65, h66, h⟩ := bd h
              obtain ⟨eh66, th66⟩ := g_o_some h66
              obtain ⟨q_63, h64, h⟩ := bd h
              refine xv_cvo E eh66 12 (as := [.inl si0]) (t177 G l (c_I_some h64)) cd177 mw963 mw964 mw965 (show decode prog_14_method_90_code 202 = .ok (.invokevirtual 213, 3) by decide +kernel) th66 rfl rfl (Nat.le_of_ble_eq_true rfl) ⟨Nat.le_of_ble_eq_true rfl, Nat.le_of_ble_eq_true rfl⟩ ?_
              by_cases q67 : q_63.1 = 0
              · rw [if_pos q67] at h
                refine xv_if_eq E 212 (show decode prog_14_method_90_code 205 = .ok (.ifCond .eq (7), 3) by decide +kernel) rfl (fun _ => ?_) (fun z => absurd q67 z)
                refine xv_b E [.iconst 0] (pc' := 213) (lv' := [(5, .inl si0), (0, .inr (.inr (some a0))), (3, .inl v3), (4, .inl v4)]) (st' := [.inl (0 : Int32)]) (by decide +kernel) rfl rfl ?_
                exact xv_w (sb253_213 E B (0 : Int32) q_63.2 h hN) rfl
              · rw [if_neg q67] at h
                refine xv_if_eq E 212 (show decode prog_14_method_90_code 205 = .ok (.ifCond .eq (7), 3) by decide +kernel) rfl (fun z => absurd z q67) (fun _ => ?_)
                refine xv_b E [.iconst 1] (pc' := 209) (lv' := [(5, .inl si0), (0, .inr (.inr (some a0))), (3, .inl v3), (4, .inl v4)]) (st' := [.inl (1 : Int32)]) (by decide +kernel) rfl rfl ?_
                refine xv_goto E 213 (show decode prog_14_method_90_code 209 = .ok (.goto (4), 3) by decide +kernel) rfl ?_
                exact xv_w (sb253_213 E B (1 : Int32) q_63.2 h hN) rfl
            · rw [if_neg q62] at h
              refine xv_tabOut E 214 (show decode prog_14_method_90_code 98 = .ok (.tableswitch (116) 0 4 #[34, 41, 49, 57, 101], 34) by decide +kernel) (sw_out (lo := 0) (hi := 4) (by decide) (by decide) (fun k h1 h2 => ?_)) rfl ?_
              · rcases (show k = 0 ∨ k = 1 ∨ k = 2 ∨ k = 3 ∨ k = 4 by omega) with rfl | rfl | rfl | rfl | rfl
                · exact q26
                · exact q31
                · exact q36
                · exact q41
                · exact q62
              · refine xv_b E [.iconst (-1)] (pc' := 215) (lv' := [(5, .inl si0), (0, .inr (.inr (some a0))), (3, .inl v3), (4, .inl v4)]) (st' := [.inl (-1 : Int32)]) (by decide +kernel) rfl rfl ?_
                obtain rfl := Option.some.inj h
                obtain ⟨rfl, rfl⟩ := Prod.mk.inj (show ((some (.inl (-1 : Int32)) : Option aV), M) = (r, M') from hN)
                exact xv_ri E B.1 rfl B.2.1 (show decode prog_14_method_90_code 215 = .ok (.ireturn, 1) by decide +kernel) rfl rfl
theorem sb253_60 (E : xE G p (xRm 2 (h_sz M' - z0) (h_sl M' - y0)) s m args c prog_14_method_90_code "ZonedFabricModel" z0 y0 (h_sz M') (h_sl M') 6) (B : xB ym253 (some FieldType.int) meth) (a0 : Nat) (v1 : Int32) (v2 : Int32) (v3 : Int32) (v4 : Int32) (M : hM) {res : xRes} (h : b253_60 a0 v1 v2 v3 v4 M = some res) (hN : xN (fun _ _ _ => False) r M' res) : xV G p l e (xRm 2 (h_sz M' - z0) (h_sl M' - y0)) s m args below meth c z0 y0 (h_sz M') (h_sl M') 6 (MQ below (xQc G r M') args s (h_sz M' - z0) (h_sl M' - y0) (xFr G)) 60 [(0, .inr (.inr (some a0))), (1, .inl v1), (2, .inl v2), (3, .inl v3), (4, .inl v4)] [] M := by
  unfold b253_60 at h
  refine xv_b E [.iload 4] (pc' := 62) (lv' := [(0, .inr (.inr (some a0))), (1, .inl v1), (2, .inl v2), (3, .inl v3), (4, .inl v4)]) (st' := [.inl v4]) (by decide +kernel) rfl rfl ?_
  by_cases q21 : v4 = 0
  · rw [if_pos q21] at h
    refine xv_if_eq E 76 (show decode prog_14_method_90_code 62 = .ok (.ifCond .eq (14), 3) by decide +kernel) rfl (fun _ => ?_) (fun z => absurd q21 z)
    refine xv_b E [.aload_n 0, .iload_n 1, .iload_n 2] (pc' := 79) (lv' := [(0, .inr (.inr (some a0))), (1, .inl v1), (2, .inl v2), (3, .inl v3), (4, .inl v4)]) (st' := [.inl v2, .inl v1, .inr (.inr (some a0))]) (by decide +kernel) rfl rfl ?_
    obtain ⟨b_15, h16, h⟩ := bd h
    obtain ⟨eh16, th16⟩ := g_o_some h16
    obtain ⟨q_13, h14, h⟩ := bd h
    refine xv_cvo E eh16 12 (as := [.inl v1, .inl v2]) (t175 G l (c_I_some h14)) cd175 mw1134 mw1135 mw1136 (show decode prog_14_method_90_code 79 = .ok (.invokevirtual 288, 3) by decide +kernel) th16 rfl rfl (Nat.le_of_ble_eq_true rfl) ⟨Nat.le_of_ble_eq_true rfl, Nat.le_of_ble_eq_true rfl⟩ ?_
    exact xv_w (sb253_82 E B a0 v3 v4 q_13.1 q_13.2 h hN) rfl
  · rw [if_neg q21] at h
    refine xv_if_eq E 76 (show decode prog_14_method_90_code 62 = .ok (.ifCond .eq (14), 3) by decide +kernel) rfl (fun z => absurd z q21) (fun _ => ?_)
    refine xv_b E [.aload_n 0, .iload_n 1, .bipush 16, .isub] (pc' := 70) (lv' := [(0, .inr (.inr (some a0))), (1, .inl v1), (2, .inl v2), (3, .inl v3), (4, .inl v4)]) (st' := [.inl (v1 - (16 : Int32)), .inr (.inr (some a0))]) (by decide +kernel) rfl rfl ?_
    obtain ⟨b_19, h20, h⟩ := bd h
    obtain ⟨eh20, th20⟩ := g_o_some h20
    obtain ⟨q_17, h18, h⟩ := bd h
    refine xv_cvo E eh20 12 (as := [.inl (v1 - (16 : Int32))]) (t176 G l (c_I_some h18)) cd176 mw1040 mw1041 mw1042 (show decode prog_14_method_90_code 70 = .ok (.invokevirtual 352, 3) by decide +kernel) th20 rfl rfl (Nat.le_of_ble_eq_true rfl) ⟨Nat.le_of_ble_eq_true rfl, Nat.le_of_ble_eq_true rfl⟩ ?_
    refine xv_goto E 82 (show decode prog_14_method_90_code 73 = .ok (.goto (9), 3) by decide +kernel) rfl ?_
    exact xv_w (sb253_82 E B a0 v3 v4 q_17.1 q_17.2 h hN) rfl
theorem sb253_11 (E : xE G p (xRm 2 (h_sz M' - z0) (h_sl M' - y0)) s m args c prog_14_method_90_code "ZonedFabricModel" z0 y0 (h_sz M') (h_sl M') 6) (B : xB ym253 (some FieldType.int) meth) (a0 : Nat) (v1 : Int32) (v2 : Int32) (v3 : Int32) (si0 : Int32) (M : hM) {res : xRes} (h : b253_11 a0 v1 v2 v3 si0 M = some res) (hN : xN (fun _ _ _ => False) r M' res) : xV G p l e (xRm 2 (h_sz M' - z0) (h_sl M' - y0)) s m args below meth c z0 y0 (h_sz M') (h_sl M') 6 (MQ below (xQc G r M') args s (h_sz M' - z0) (h_sl M' - y0) (xFr G)) 11 [(0, .inr (.inr (some a0))), (1, .inl v1), (2, .inl v2), (3, .inl v3)] [.inl si0] M := by
  unfold b253_11 at h
  refine xv_b E [.istore 4, .iload 4] (pc' := 15) (lv' := [(4, .inl si0), (0, .inr (.inr (some a0))), (1, .inl v1), (2, .inl v2), (3, .inl v3)]) (st' := [.inl si0]) (by decide +kernel) rfl rfl ?_
  by_cases q12 : si0 = 0
  · rw [if_pos q12] at h
    refine xv_if_eq E 36 (show decode prog_14_method_90_code 15 = .ok (.ifCond .eq (21), 3) by decide +kernel) rfl (fun _ => ?_) (fun z => absurd q12 z)
    refine xv_b E [.iload_n 1] (pc' := 37) (lv' := [(4, .inl si0), (0, .inr (.inr (some a0))), (1, .inl v1), (2, .inl v2), (3, .inl v3)]) (st' := [.inl v1]) (by decide +kernel) rfl rfl ?_
    by_cases q7 : v1 < 0
    · rw [if_pos q7] at h
      refine xv_if_lt E 58 (show decode prog_14_method_90_code 37 = .ok (.ifCond .lt (21), 3) by decide +kernel) rfl (fun _ => ?_) (fun z => absurd q7 z)
      exact xv_w (sb253_58 E B  M h hN) rfl
    · rw [if_neg q7] at h
      refine xv_if_lt E 58 (show decode prog_14_method_90_code 37 = .ok (.ifCond .lt (21), 3) by decide +kernel) rfl (fun z => absurd z q7) (fun _ => ?_)
      refine xv_b E [.iload_n 1, .aload_n 0] (pc' := 42) (lv' := [(4, .inl si0), (0, .inr (.inr (some a0))), (1, .inl v1), (2, .inl v2), (3, .inl v3)]) (st' := [.inr (.inr (some a0)), .inl v1]) (by decide +kernel) rfl rfl ?_
      obtain ⟨v_2, h3, h⟩ := bd h
      refine xg_i E 12 0 h3 mw921 (show decode prog_14_method_90_code 42 = .ok (.getfield 173, 3) by decide +kernel) ?_
      by_cases q6 : v_2 ≤ v1
      · rw [if_pos q6] at h
        refine xv_icmp_ge E 58 (show decode prog_14_method_90_code 45 = .ok (.if_icmp .ge (13), 3) by decide +kernel) rfl (fun _ => ?_) (fun z => absurd q6 z)
        exact xv_w (sb253_58 E B  M h hN) rfl
      · rw [if_neg q6] at h
        refine xv_icmp_ge E 58 (show decode prog_14_method_90_code 45 = .ok (.if_icmp .ge (13), 3) by decide +kernel) rfl (fun z => absurd z q6) (fun _ => ?_)
        refine xv_b E [.iload_n 2] (pc' := 49) (lv' := [(4, .inl si0), (0, .inr (.inr (some a0))), (1, .inl v1), (2, .inl v2), (3, .inl v3)]) (st' := [.inl v2]) (by decide +kernel) rfl rfl ?_
        by_cases q5 : v2 < 0
        · rw [if_pos q5] at h
          refine xv_if_lt E 58 (show decode prog_14_method_90_code 49 = .ok (.ifCond .lt (9), 3) by decide +kernel) rfl (fun _ => ?_) (fun z => absurd q5 z)
          exact xv_w (sb253_58 E B  M h hN) rfl
        · rw [if_neg q5] at h
          refine xv_if_lt E 58 (show decode prog_14_method_90_code 49 = .ok (.ifCond .lt (9), 3) by decide +kernel) rfl (fun z => absurd z q5) (fun _ => ?_)
          refine xv_b E [.iload_n 2, .bipush 7] (pc' := 55) (lv' := [(4, .inl si0), (0, .inr (.inr (some a0))), (1, .inl v1), (2, .inl v2), (3, .inl v3)]) (st' := [.inl (7 : Int32), .inl v2]) (by decide +kernel) rfl rfl ?_
          by_cases q4 : v2 ≤ (7 : Int32)
          · rw [if_pos q4] at h
            refine xv_icmp_le E 60 (show decode prog_14_method_90_code 55 = .ok (.if_icmp .le (5), 3) by decide +kernel) rfl (fun _ => ?_) (fun z => absurd q4 z)
            exact xv_w (sb253_60 E B a0 v1 v2 v3 si0 M h hN) rfl
          · rw [if_neg q4] at h
            refine xv_icmp_le E 60 (show decode prog_14_method_90_code 55 = .ok (.if_icmp .le (5), 3) by decide +kernel) rfl (fun z => absurd z q4) (fun _ => ?_)
            exact xv_w (sb253_58 E B  M h hN) rfl
  · rw [if_neg q12] at h
    refine xv_if_eq E 36 (show decode prog_14_method_90_code 15 = .ok (.ifCond .eq (21), 3) by decide +kernel) rfl (fun z => absurd z q12) (fun _ => ?_)
    refine xv_b E [.iload_n 1, .bipush 16, .isub, .aload_n 0] (pc' := 23) (lv' := [(4, .inl si0), (0, .inr (.inr (some a0))), (1, .inl v1), (2, .inl v2), (3, .inl v3)]) (st' := [.inr (.inr (some a0)), .inl (v1 - (16 : Int32))]) (by decide +kernel) rfl rfl ?_
    obtain ⟨v_8, h9, h⟩ := bd h
    refine xg_i E 12 1 h9 mw922 (show decode prog_14_method_90_code 23 = .ok (.getfield 177, 3) by decide +kernel) ?_
    by_cases q11 : v_8 ≤ (v1 - (16 : Int32))
    · rw [if_pos q11] at h
      refine xv_icmp_ge E 58 (show decode prog_14_method_90_code 26 = .ok (.if_icmp .ge (32), 3) by decide +kernel) rfl (fun _ => ?_) (fun z => absurd q11 z)
      exact xv_w (sb253_58 E B  M h hN) rfl
    · rw [if_neg q11] at h
      refine xv_icmp_ge E 58 (show decode prog_14_method_90_code 26 = .ok (.if_icmp .ge (32), 3) by decide +kernel) rfl (fun z => absurd z q11) (fun _ => ?_)
      refine xv_b E [.iload_n 2] (pc' := 30) (lv' := [(4, .inl si0), (0, .inr (.inr (some a0))), (1, .inl v1), (2, .inl v2), (3, .inl v3)]) (st' := [.inl v2]) (by decide +kernel) rfl rfl ?_
      by_cases q10 : v2 = 0
      · rw [if_pos q10] at h
        refine xv_if_eq E 60 (show decode prog_14_method_90_code 30 = .ok (.ifCond .eq (30), 3) by decide +kernel) rfl (fun _ => ?_) (fun z => absurd q10 z)
        exact xv_w (sb253_60 E B a0 v1 v2 v3 si0 M h hN) rfl
      · rw [if_neg q10] at h
        refine xv_if_eq E 60 (show decode prog_14_method_90_code 30 = .ok (.ifCond .eq (30), 3) by decide +kernel) rfl (fun z => absurd z q10) (fun _ => ?_)
        refine xv_goto E 58 (show decode prog_14_method_90_code 33 = .ok (.goto (25), 3) by decide +kernel) rfl ?_
        exact xv_w (sb253_58 E B  M h hN) rfl
theorem sb253_0 (E : xE G p (xRm 2 (h_sz M' - z0) (h_sl M' - y0)) s m args c prog_14_method_90_code "ZonedFabricModel" z0 y0 (h_sz M') (h_sl M') 6) (B : xB ym253 (some FieldType.int) meth) (a0 : Nat) (v1 : Int32) (v2 : Int32) (v3 : Int32) (M : hM) {res : xRes} (h : b253_0 a0 v1 v2 v3 M = some res) (hN : xN (fun _ _ _ => False) r M' res) : xV G p l e (xRm 2 (h_sz M' - z0) (h_sl M' - y0)) s m args below meth c z0 y0 (h_sz M') (h_sl M') 6 (MQ below (xQc G r M') args s (h_sz M' - z0) (h_sl M' - y0) (xFr G)) 0 [(0, .inr (.inr (some a0))), (1, .inl v1), (2, .inl v2), (3, .inl v3)] [] M := by
  unfold b253_0 at h
  refine xv_b E [.iload_n 1, .bipush 16] (pc' := 3) (lv' := [(0, .inr (.inr (some a0))), (1, .inl v1), (2, .inl v2), (3, .inl v3)]) (st' := [.inl (16 : Int32), .inl v1]) (by decide +kernel) rfl rfl ?_
  by_cases q1 : v1 < (16 : Int32)
  · rw [if_pos q1] at h
    refine xv_icmp_lt E 10 (show decode prog_14_method_90_code 3 = .ok (.if_icmp .lt (7), 3) by decide +kernel) rfl (fun _ => ?_) (fun z => absurd q1 z)
    refine xv_b E [.iconst 0] (pc' := 11) (lv' := [(0, .inr (.inr (some a0))), (1, .inl v1), (2, .inl v2), (3, .inl v3)]) (st' := [.inl (0 : Int32)]) (by decide +kernel) rfl rfl ?_
    exact xv_w (sb253_11 E B a0 v1 v2 v3 (0 : Int32) M h hN) rfl
  · rw [if_neg q1] at h
    refine xv_icmp_lt E 10 (show decode prog_14_method_90_code 3 = .ok (.if_icmp .lt (7), 3) by decide +kernel) rfl (fun z => absurd z q1) (fun _ => ?_)
    refine xv_b E [.iconst 1] (pc' := 7) (lv' := [(0, .inr (.inr (some a0))), (1, .inl v1), (2, .inl v2), (3, .inl v3)]) (st' := [.inl (1 : Int32)]) (by decide +kernel) rfl rfl ?_
    refine xv_goto E 11 (show decode prog_14_method_90_code 7 = .ok (.goto (4), 3) by decide +kernel) rfl ?_
    exact xv_w (sb253_11 E B a0 v1 v2 v3 (1 : Int32) M h hN) rfl
end
theorem t253 (G : gX) (l : Launch) {as : List aV} {M : hM} {r : Option aV} {M' : hM} (h : f253 as M = some (r, M')) : xM G l ym253 prog_14_method_90_code 6 (some FieldType.int) 2 as M r M' := by
  unfold f253 at h
  split at h
  · have h := x_out_ok h
    refine xM_of (by decide) (Nat.le_of_ble_eq_true rfl) (lb253_0 G l _ _ _ _ M h) ?_
    intro p e s m args below meth c E B
    exact sb253_0 E B _ _ _ _ M h rfl
  · cases h
/-! ZFModel.address(I)I -/
def ym254 : MethodName := ⟨"ZonedFabricModel", "address", "(I)I"⟩
theorem cd254 : xCd ym254 prog_14_method_91_code 2 (some FieldType.int) 1 := ⟨mw1239, mw864, by decide, by decide, by decide +kernel⟩
def b254_22 (si0 : Int32) (M : hM) : Option xRes :=
  some (.inl (some (.inl si0), M))
def b254_12  (M : hM) : Option xRes :=
  b254_22 (-1 : Int32) M
def b254_0 (a0 : Nat) (v1 : Int32) (M : hM) : Option xRes :=
  if v1 < 0 then
    (b254_12  M)
  else
    (Option.bind (g_i M 12 1 (some a0)) fun v_1 =>
    if v1 < v_1 then
      (Option.bind (g_r M 12 35 (some a0)) fun o_3 =>
      Option.bind (al_i M 20 o_3 v1) fun v_5 =>
      b254_22 v_5 M)
    else
      (b254_12  M))
def f254 (as : List aV) (M : hM) : xO := match as with
  | [.inr (.inr (some a0)), .inl v1] => x_out (b254_0 a0 v1 M)
  | _ => none
theorem lb254_22 (G : gX) (l : Launch) (si0 : Int32) (M : hM) {res : xRes} (h : b254_22 si0 M = some res) : h_sz M ≤ r_sz res ∧ h_sl M ≤ r_sl res := by
  unfold b254_22 at h
  obtain rfl := Option.some.inj h
  show h_sz M ≤ h_sz M ∧ h_sl M ≤ h_sl M
  omega
theorem lb254_12 (G : gX) (l : Launch)  (M : hM) {res : xRes} (h : b254_12  M = some res) : h_sz M ≤ r_sz res ∧ h_sl M ≤ r_sl res := by
  unfold b254_12 at h
  have e := lb254_22 G l (-1 : Int32) M h
  omega
theorem lb254_0 (G : gX) (l : Launch) (a0 : Nat) (v1 : Int32) (M : hM) {res : xRes} (h : b254_0 a0 v1 M = some res) : h_sz M ≤ r_sz res ∧ h_sl M ≤ r_sl res := by
  unfold b254_0 at h
  by_cases q8 : v1 < 0
  · rw [if_pos q8] at h
    have e := lb254_12 G l  M h
    omega
  · rw [if_neg q8] at h
    obtain ⟨v_1, h2, h⟩ := bd h
    by_cases q7 : v1 < v_1
    · rw [if_pos q7] at h
      obtain ⟨o_3, h4, h⟩ := bd h
      obtain ⟨v_5, h6, h⟩ := bd h
      have e := lb254_22 G l v_5 M h
      omega
    · rw [if_neg q7] at h
      have e := lb254_12 G l  M h
      omega
section
variable {p : Program} {l : Launch} {e : Env} {s : State} {m : MethodId} {args : Array Value} {below : List Frame} {meth : Method} {c : Code} {G : gX} {z0 y0 : Nat} {r : Option aV} {M' : hM}
theorem sb254_22 (E : xE G p (xRm 0 (h_sz M' - z0) (h_sl M' - y0)) s m args c prog_14_method_91_code "ZonedFabricModel" z0 y0 (h_sz M') (h_sl M') 2) (B : xB ym254 (some FieldType.int) meth) (si0 : Int32) (M : hM) {res : xRes} (h : b254_22 si0 M = some res) (hN : xN (fun _ _ _ => False) r M' res) : xV G p l e (xRm 0 (h_sz M' - z0) (h_sl M' - y0)) s m args below meth c z0 y0 (h_sz M') (h_sl M') 2 (MQ below (xQc G r M') args s (h_sz M' - z0) (h_sl M' - y0) (xFr G)) 22 [] [.inl si0] M := by
  unfold b254_22 at h
  obtain rfl := Option.some.inj h
  obtain ⟨rfl, rfl⟩ := Prod.mk.inj (show ((some (.inl si0) : Option aV), M) = (r, M') from hN)
  exact xv_ri E B.1 rfl B.2.1 (show decode prog_14_method_91_code 22 = .ok (.ireturn, 1) by decide +kernel) rfl rfl
theorem sb254_12 (E : xE G p (xRm 0 (h_sz M' - z0) (h_sl M' - y0)) s m args c prog_14_method_91_code "ZonedFabricModel" z0 y0 (h_sz M') (h_sl M') 2) (B : xB ym254 (some FieldType.int) meth)  (M : hM) {res : xRes} (h : b254_12  M = some res) (hN : xN (fun _ _ _ => False) r M' res) : xV G p l e (xRm 0 (h_sz M' - z0) (h_sl M' - y0)) s m args below meth c z0 y0 (h_sz M') (h_sl M') 2 (MQ below (xQc G r M') args s (h_sz M' - z0) (h_sl M' - y0) (xFr G)) 12 [] [] M := by
  unfold b254_12 at h
  refine xv_b E [.iconst (-1)] (pc' := 13) (lv' := []) (st' := [.inl (-1 : Int32)]) (by decide +kernel) rfl rfl ?_
  refine xv_goto E 22 (show decode prog_14_method_91_code 13 = .ok (.goto (9), 3) by decide +kernel) rfl ?_
  exact xv_w (sb254_22 E B (-1 : Int32) M h hN) rfl
theorem sb254_0 (E : xE G p (xRm 0 (h_sz M' - z0) (h_sl M' - y0)) s m args c prog_14_method_91_code "ZonedFabricModel" z0 y0 (h_sz M') (h_sl M') 2) (B : xB ym254 (some FieldType.int) meth) (a0 : Nat) (v1 : Int32) (M : hM) {res : xRes} (h : b254_0 a0 v1 M = some res) (hN : xN (fun _ _ _ => False) r M' res) : xV G p l e (xRm 0 (h_sz M' - z0) (h_sl M' - y0)) s m args below meth c z0 y0 (h_sz M') (h_sl M') 2 (MQ below (xQc G r M') args s (h_sz M' - z0) (h_sl M' - y0) (xFr G)) 0 [(0, .inr (.inr (some a0))), (1, .inl v1)] [] M := by
  unfold b254_0 at h
  refine xv_b E [.iload_n 1] (pc' := 1) (lv' := [(0, .inr (.inr (some a0))), (1, .inl v1)]) (st' := [.inl v1]) (by decide +kernel) rfl rfl ?_
  by_cases q8 : v1 < 0
  · rw [if_pos q8] at h
    refine xv_if_lt E 12 (show decode prog_14_method_91_code 1 = .ok (.ifCond .lt (11), 3) by decide +kernel) rfl (fun _ => ?_) (fun z => absurd q8 z)
    exact xv_w (sb254_12 E B  M h hN) rfl
  · rw [if_neg q8] at h
    refine xv_if_lt E 12 (show decode prog_14_method_91_code 1 = .ok (.ifCond .lt (11), 3) by decide +kernel) rfl (fun z => absurd z q8) (fun _ => ?_)
    refine xv_b E [.iload_n 1, .aload_n 0] (pc' := 6) (lv' := [(0, .inr (.inr (some a0))), (1, .inl v1)]) (st' := [.inr (.inr (some a0)), .inl v1]) (by decide +kernel) rfl rfl ?_
    obtain ⟨v_1, h2, h⟩ := bd h
    refine xg_i E 12 1 h2 mw922 (show decode prog_14_method_91_code 6 = .ok (.getfield 177, 3) by decide +kernel) ?_
    by_cases q7 : v1 < v_1
    · rw [if_pos q7] at h
      refine xv_icmp_lt E 16 (show decode prog_14_method_91_code 9 = .ok (.if_icmp .lt (7), 3) by decide +kernel) rfl (fun _ => ?_) (fun z => absurd q7 z)
      refine xv_b E [.aload_n 0] (pc' := 17) (lv' := [(0, .inr (.inr (some a0))), (1, .inl v1)]) (st' := [.inr (.inr (some a0))]) (by decide +kernel) rfl rfl ?_
      obtain ⟨o_3, h4, h⟩ := bd h
      refine xg_r E 12 35 h4 mw895 (show decode prog_14_method_91_code 17 = .ok (.getfield 100, 3) by decide +kernel) ?_
      refine xv_b E [.iload_n 1] (pc' := 21) (lv' := [(0, .inr (.inr (some a0))), (1, .inl v1)]) (st' := [.inl v1, .inr (.inr o_3)]) (by decide +kernel) rfl rfl ?_
      obtain ⟨v_5, h6, h⟩ := bd h
      refine xa_i E h6 (show decode prog_14_method_91_code 21 = .ok (.iaload, 1) by decide +kernel) ?_
      exact xv_w (sb254_22 E B v_5 M h hN) rfl
    · rw [if_neg q7] at h
      refine xv_icmp_lt E 16 (show decode prog_14_method_91_code 9 = .ok (.if_icmp .lt (7), 3) by decide +kernel) rfl (fun z => absurd z q7) (fun _ => ?_)
      exact xv_w (sb254_12 E B  M h hN) rfl
end
theorem t254 (G : gX) (l : Launch) {as : List aV} {M : hM} {r : Option aV} {M' : hM} (h : f254 as M = some (r, M')) : xM G l ym254 prog_14_method_91_code 2 (some FieldType.int) 0 as M r M' := by
  unfold f254 at h
  split at h
  · have h := x_out_ok h
    refine xM_of (by decide) (Nat.le_of_ble_eq_true rfl) (lb254_0 G l _ _ M h) ?_
    intro p e s m args below meth c E B
    exact sb254_0 E B _ _ M h rfl
  · cases h
/-! ZFModel.frame(III)J -/
def ym255 : MethodName := ⟨"ZonedFabricModel", "frame", "(III)J"⟩
theorem cd255 : xCd ym255 prog_14_method_92_code 8 (some FieldType.long) 3 := ⟨mw1240, mw864, by decide, by decide, by decide +kernel⟩
def b255_29  (M : hM) : Option xRes :=
  some (.inl (some (.inr (.inl (0 : Int64))), M))
def b255_0 (a0 : Nat) (v1 : Int32) (v2 : Int32) (v3 : Int32) (M : hM) : Option xRes :=
  Option.bind (g_o M 12 (some a0)) fun b_3 =>
  Option.bind (c_I (f240 [.inr (.inr (some b_3)), .inl v1, .inl v2] M)) fun q_1 =>
  if q_1.1 = (-1 : Int32) then
    (b255_29  q_1.2)
  else
    (if v3 < 0 then
      (b255_29  q_1.2)
    else
      (Option.bind (g_r q_1.2 12 7 (some a0)) fun o_5 =>
      Option.bind (al_i q_1.2 20 o_5 q_1.1) fun v_7 =>
      if v3 < v_7 then
        (some (.inr (37, [.inr (.inr (some a0)), .inl v3, .inl q_1.1, .inr (.inl (0 : Int64)), .inl (0 : Int32)], q_1.2)))
      else
        (b255_29  q_1.2)))
def b255_77 (a0 : Nat) (v3 : Int32) (v4 : Int32) (v7 : Int32) (si0 : Int32) (sl1 : Int64) (M : hM) : Option xRes :=
  some (.inr (37, [.inr (.inr (some a0)), .inl v3, .inl v4, .inr (.inl (sl1 ||| (Int32.toInt64 si0))), .inl (v7 + (1 : Int32))], M))
def b255_37 (a0 : Nat) (v3 : Int32) (v4 : Int32) (w5 : Int64) (v7 : Int32) (M : hM) : Option xRes :=
  if (8 : Int32) ≤ v7 then
    (some (.inl (some (.inr (.inl w5)), M)))
  else
    (Option.bind (g_r M 12 7 (some a0)) fun o_12 =>
    Option.bind (al_i M 20 o_12 v4) fun v_14 =>
    if v_14 ≤ (v3 + v7) then
      (b255_77 a0 v3 v4 v7 (0 : Int32) (w5 <<< (Int32.toInt64 (8 : Int32) &&& 63)) M)
    else
      (Option.bind (g_o M 12 (some a0)) fun b_18 =>
      Option.bind (c_I (f165 [.inr (.inr (some b_18)), .inl v4, .inl (v3 + v7)] M)) fun q_16 =>
      b255_77 a0 v3 v4 v7 q_16.1 (w5 <<< (Int32.toInt64 (8 : Int32) &&& 63)) q_16.2))
def k255 (h : Nat) (as : List aV) (M : hM) : Option xRes :=
  if h = 37 then (match as with | [.inr (.inr (some a0)), .inl v3, .inl v4, .inr (.inl w5), .inl v7] => b255_37 a0 v3 v4 w5 v7 M | _ => none) else
  none
def f255 (as : List aV) (M : hM) : xO := match as with
  | [.inr (.inr (some a0)), .inl v1, .inl v2, .inl v3] => x_go k255 (b255_0 a0 v1 v2 v3 M)
  | _ => none
theorem lb255_29 (G : gX) (l : Launch)  (M : hM) {res : xRes} (h : b255_29  M = some res) : h_sz M ≤ r_sz res ∧ h_sl M ≤ r_sl res := by
  unfold b255_29 at h
  obtain rfl := Option.some.inj h
  show h_sz M ≤ h_sz M ∧ h_sl M ≤ h_sl M
  omega
theorem lb255_0 (G : gX) (l : Launch) (a0 : Nat) (v1 : Int32) (v2 : Int32) (v3 : Int32) (M : hM) {res : xRes} (h : b255_0 a0 v1 v2 v3 M = some res) : h_sz M ≤ r_sz res ∧ h_sl M ≤ r_sl res := by
  unfold b255_0 at h
  obtain ⟨b_3, h4, h⟩ := bd h
  obtain ⟨q_1, h2, h⟩ := bd h
  have eh2 := (t240 G l (c_I_some h2)).1
  by_cases q11 : q_1.1 = (-1 : Int32)
  · rw [if_pos q11] at h
    have e := lb255_29 G l  q_1.2 h
    omega
  · rw [if_neg q11] at h
    by_cases q10 : v3 < 0
    · rw [if_pos q10] at h
      have e := lb255_29 G l  q_1.2 h
      omega
    · rw [if_neg q10] at h
      obtain ⟨o_5, h6, h⟩ := bd h
      obtain ⟨v_7, h8, h⟩ := bd h
      by_cases q9 : v3 < v_7
      · rw [if_pos q9] at h
        obtain rfl := Option.some.inj h
        show h_sz M ≤ h_sz q_1.2 ∧ h_sl M ≤ h_sl q_1.2
        omega
      · rw [if_neg q9] at h
        have e := lb255_29 G l  q_1.2 h
        omega
theorem lb255_77 (G : gX) (l : Launch) (a0 : Nat) (v3 : Int32) (v4 : Int32) (v7 : Int32) (si0 : Int32) (sl1 : Int64) (M : hM) {res : xRes} (h : b255_77 a0 v3 v4 v7 si0 sl1 M = some res) : h_sz M ≤ r_sz res ∧ h_sl M ≤ r_sl res := by
  unfold b255_77 at h
  obtain rfl := Option.some.inj h
  show h_sz M ≤ h_sz M ∧ h_sl M ≤ h_sl M
  omega
theorem lb255_37 (G : gX) (l : Launch) (a0 : Nat) (v3 : Int32) (v4 : Int32) (w5 : Int64) (v7 : Int32) (M : hM) {res : xRes} (h : b255_37 a0 v3 v4 w5 v7 M = some res) : h_sz M ≤ r_sz res ∧ h_sl M ≤ r_sl res := by
  unfold b255_37 at h
  by_cases q21 : (8 : Int32) ≤ v7
  · rw [if_pos q21] at h
    obtain rfl := Option.some.inj h
    show h_sz M ≤ h_sz M ∧ h_sl M ≤ h_sl M
    omega
  · rw [if_neg q21] at h
    obtain ⟨o_12, h13, h⟩ := bd h
    obtain ⟨v_14, h15, h⟩ := bd h
    by_cases q20 : v_14 ≤ (v3 + v7)
    · rw [if_pos q20] at h
      have e := lb255_77 G l a0 v3 v4 v7 (0 : Int32) (w5 <<< (Int32.toInt64 (8 : Int32) &&& 63)) M h
      omega
    · rw [if_neg q20] at h
      obtain ⟨b_18, h19, h⟩ := bd h
      obtain ⟨q_16, h17, h⟩ := bd h
      have eh17 := (t165 G l (c_I_some h17)).1
      have e := lb255_77 G l a0 v3 v4 v7 q_16.1 (w5 <<< (Int32.toInt64 (8 : Int32) &&& 63)) q_16.2 h
      omega
section
variable {p : Program} {l : Launch} {e : Env} {s : State} {m : MethodId} {args : Array Value} {below : List Frame} {meth : Method} {c : Code} {G : gX} {z0 y0 : Nat} {r : Option aV} {M' : hM}
def pg255 (p : Program) (l : Launch) (e : Env) (s : State) (m : MethodId) (args : Array Value) (below : List Frame) (meth : Method) (c : Code) (G : gX) (z0 y0 : Nat) (r : Option aV) (M' : hM) (h : Nat) (as : List aV) (M : hM) : Prop :=
  if h = 37 then (match as with | [.inr (.inr (some a0)), .inl v3, .inl v4, .inr (.inl w5), .inl v7] => xV G p l e (xRm 2 (h_sz M' - z0) (h_sl M' - y0)) s m args below meth c z0 y0 (h_sz M') (h_sl M') 8 (MQ below (xQc G r M') args s (h_sz M' - z0) (h_sl M' - y0) (xFr G)) 37 [(0, .inr (.inr (some a0))), (3, .inl v3), (4, .inl v4), (5, .inr (.inl w5)), (7, .inl v7)] [] M | _ => False) else
  False
theorem sb255_29 (E : xE G p (xRm 2 (h_sz M' - z0) (h_sl M' - y0)) s m args c prog_14_method_92_code "ZonedFabricModel" z0 y0 (h_sz M') (h_sl M') 8) (B : xB ym255 (some FieldType.long) meth)  (M : hM) {res : xRes} (h : b255_29  M = some res) (hN : xN (pg255 p l e s m args below meth c G z0 y0 r M') r M' res) : xV G p l e (xRm 2 (h_sz M' - z0) (h_sl M' - y0)) s m args below meth c z0 y0 (h_sz M') (h_sl M') 8 (MQ below (xQc G r M') args s (h_sz M' - z0) (h_sl M' - y0) (xFr G)) 29 [] [] M := by
  unfold b255_29 at h
  refine xv_b E [.lconst 0] (pc' := 30) (lv' := []) (st' := [.inr (.inl (0 : Int64))]) (by decide +kernel) rfl rfl ?_
  obtain rfl := Option.some.inj h
  obtain ⟨rfl, rfl⟩ := Prod.mk.inj (show ((some (.inr (.inl (0 : Int64))) : Option aV), M) = (r, M') from hN)
  exact xv_rl E B.1 B.2.1 (show decode prog_14_method_92_code 30 = .ok (.lreturn, 1) by decide +kernel) rfl rfl
theorem sb255_0 (E : xE G p (xRm 2 (h_sz M' - z0) (h_sl M' - y0)) s m args c prog_14_method_92_code "ZonedFabricModel" z0 y0 (h_sz M') (h_sl M') 8) (B : xB ym255 (some FieldType.long) meth) (a0 : Nat) (v1 : Int32) (v2 : Int32) (v3 : Int32) (M : hM) {res : xRes} (h : b255_0 a0 v1 v2 v3 M = some res) (hN : xN (pg255 p l e s m args below meth c G z0 y0 r M') r M' res) : xV G p l e (xRm 2 (h_sz M' - z0) (h_sl M' - y0)) s m args below meth c z0 y0 (h_sz M') (h_sl M') 8 (MQ below (xQc G r M') args s (h_sz M' - z0) (h_sl M' - y0) (xFr G)) 0 [(0, .inr (.inr (some a0))), (1, .inl v1), (2, .inl v2), (3, .inl v3)] [] M := by
  unfold b255_0 at h
  refine xv_b E [.aload_n 0, .iload_n 1, .iload_n 2] (pc' := 3) (lv' := [(0, .inr (.inr (some a0))), (1, .inl v1), (2, .inl v2), (3, .inl v3)]) (st' := [.inl v2, .inl v1, .inr (.inr (some a0))]) (by decide +kernel) rfl rfl ?_
  obtain ⟨b_3, h4, h⟩ := bd h
  obtain ⟨eh4, th4⟩ := g_o_some h4
  obtain ⟨q_1, h2, h⟩ := bd h
  refine xv_cvo E eh4 12 (as := [.inl v1, .inl v2]) (t240 G l (c_I_some h2)) cd240 mw1214 mw1215 mw1216 (show decode prog_14_method_92_code 3 = .ok (.invokevirtual 423, 3) by decide +kernel) th4 rfl rfl (Nat.le_of_ble_eq_true rfl) ⟨Nat.le_of_ble_eq_true rfl, Nat.le_of_ble_eq_true rfl⟩ ?_
  refine xv_b E [.istore 4, .iload 4, .iconst (-1)] (pc' := 11) (lv' := [(4, .inl q_1.1), (0, .inr (.inr (some a0))), (1, .inl v1), (2, .inl v2), (3, .inl v3)]) (st' := [.inl (-1 : Int32), .inl q_1.1]) (by decide +kernel) rfl rfl ?_
  by_cases q11 : q_1.1 = (-1 : Int32)
  · rw [if_pos q11] at h
    refine xv_icmp_eq E 29 (show decode prog_14_method_92_code 11 = .ok (.if_icmp .eq (18), 3) by decide +kernel) rfl (fun _ => ?_) (fun z => absurd q11 z)
    exact xv_w (sb255_29 E B  q_1.2 h hN) rfl
  · rw [if_neg q11] at h
    refine xv_icmp_eq E 29 (show decode prog_14_method_92_code 11 = .ok (.if_icmp .eq (18), 3) by decide +kernel) rfl (fun z => absurd z q11) (fun _ => ?_)
    refine xv_b E [.iload_n 3] (pc' := 15) (lv' := [(4, .inl q_1.1), (0, .inr (.inr (some a0))), (1, .inl v1), (2, .inl v2), (3, .inl v3)]) (st' := [.inl v3]) (by decide +kernel) rfl rfl ?_
    by_cases q10 : v3 < 0
    · rw [if_pos q10] at h
      refine xv_if_lt E 29 (show decode prog_14_method_92_code 15 = .ok (.ifCond .lt (14), 3) by decide +kernel) rfl (fun _ => ?_) (fun z => absurd q10 z)
      exact xv_w (sb255_29 E B  q_1.2 h hN) rfl
    · rw [if_neg q10] at h
      refine xv_if_lt E 29 (show decode prog_14_method_92_code 15 = .ok (.ifCond .lt (14), 3) by decide +kernel) rfl (fun z => absurd z q10) (fun _ => ?_)
      refine xv_b E [.iload_n 3, .aload_n 0] (pc' := 20) (lv' := [(4, .inl q_1.1), (0, .inr (.inr (some a0))), (1, .inl v1), (2, .inl v2), (3, .inl v3)]) (st' := [.inr (.inr (some a0)), .inl v3]) (by decide +kernel) rfl rfl ?_
      obtain ⟨o_5, h6, h⟩ := bd h
      refine xg_r E 12 7 h6 mw868 (show decode prog_14_method_92_code 20 = .ok (.getfield 21, 3) by decide +kernel) ?_
      refine xv_b E [.iload 4] (pc' := 25) (lv' := [(4, .inl q_1.1), (0, .inr (.inr (some a0))), (1, .inl v1), (2, .inl v2), (3, .inl v3)]) (st' := [.inl q_1.1, .inr (.inr o_5), .inl v3]) (by decide +kernel) rfl rfl ?_
      obtain ⟨v_7, h8, h⟩ := bd h
      refine xa_i E h8 (show decode prog_14_method_92_code 25 = .ok (.iaload, 1) by decide +kernel) ?_
      by_cases q9 : v3 < v_7
      · rw [if_pos q9] at h
        refine xv_icmp_lt E 31 (show decode prog_14_method_92_code 26 = .ok (.if_icmp .lt (5), 3) by decide +kernel) rfl (fun _ => ?_) (fun z => absurd q9 z)
        refine xv_b E [.lconst 0, .lstore 5, .iconst 0, .istore 7] (pc' := 37) (lv' := [(7, .inl (0 : Int32)), (5, .inr (.inl (0 : Int64))), (4, .inl q_1.1), (0, .inr (.inr (some a0))), (1, .inl v1), (2, .inl v2), (3, .inl v3)]) (st' := []) (by decide +kernel) rfl rfl ?_
        obtain rfl := Option.some.inj h
        exact xv_w hN rfl
      · rw [if_neg q9] at h
        refine xv_icmp_lt E 31 (show decode prog_14_method_92_code 26 = .ok (.if_icmp .lt (5), 3) by decide +kernel) rfl (fun z => absurd z q9) (fun _ => ?_)
        exact xv_w (sb255_29 E B  q_1.2 h hN) rfl
theorem sb255_77 (E : xE G p (xRm 2 (h_sz M' - z0) (h_sl M' - y0)) s m args c prog_14_method_92_code "ZonedFabricModel" z0 y0 (h_sz M') (h_sl M') 8) (B : xB ym255 (some FieldType.long) meth) (a0 : Nat) (v3 : Int32) (v4 : Int32) (v7 : Int32) (si0 : Int32) (sl1 : Int64) (M : hM) {res : xRes} (h : b255_77 a0 v3 v4 v7 si0 sl1 M = some res) (hN : xN (pg255 p l e s m args below meth c G z0 y0 r M') r M' res) : xV G p l e (xRm 2 (h_sz M' - z0) (h_sl M' - y0)) s m args below meth c z0 y0 (h_sz M') (h_sl M') 8 (MQ below (xQc G r M') args s (h_sz M' - z0) (h_sl M' - y0) (xFr G)) 77 [(0, .inr (.inr (some a0))), (3, .inl v3), (4, .inl v4), (7, .inl v7)] [.inl si0, .inr (.inl sl1)] M := by
  unfold b255_77 at h
  refine xv_b E [.i2l, .lor, .lstore 5, .iinc 7 1] (pc' := 84) (lv' := [(7, .inl (v7 + (1 : Int32))), (5, .inr (.inl (sl1 ||| (Int32.toInt64 si0)))), (0, .inr (.inr (some a0))), (3, .inl v3), (4, .inl v4)]) (st' := []) (by decide +kernel) rfl rfl ?_
  refine xv_goto E 37 (show decode prog_14_method_92_code 84 = .ok (.goto (-47), 3) by decide +kernel) rfl ?_
  obtain rfl := Option.some.inj h
  exact xv_w hN rfl
theorem sb255_37 (E : xE G p (xRm 2 (h_sz M' - z0) (h_sl M' - y0)) s m args c prog_14_method_92_code "ZonedFabricModel" z0 y0 (h_sz M') (h_sl M') 8) (B : xB ym255 (some FieldType.long) meth) (a0 : Nat) (v3 : Int32) (v4 : Int32) (w5 : Int64) (v7 : Int32) (M : hM) {res : xRes} (h : b255_37 a0 v3 v4 w5 v7 M = some res) (hN : xN (pg255 p l e s m args below meth c G z0 y0 r M') r M' res) : xV G p l e (xRm 2 (h_sz M' - z0) (h_sl M' - y0)) s m args below meth c z0 y0 (h_sz M') (h_sl M') 8 (MQ below (xQc G r M') args s (h_sz M' - z0) (h_sl M' - y0) (xFr G)) 37 [(0, .inr (.inr (some a0))), (3, .inl v3), (4, .inl v4), (5, .inr (.inl w5)), (7, .inl v7)] [] M := by
  unfold b255_37 at h
  refine xv_b E [.iload 7, .bipush 8] (pc' := 41) (lv' := [(0, .inr (.inr (some a0))), (3, .inl v3), (4, .inl v4), (5, .inr (.inl w5)), (7, .inl v7)]) (st' := [.inl (8 : Int32), .inl v7]) (by decide +kernel) rfl rfl ?_
  by_cases q21 : (8 : Int32) ≤ v7
  · rw [if_pos q21] at h
    refine xv_icmp_ge E 87 (show decode prog_14_method_92_code 41 = .ok (.if_icmp .ge (46), 3) by decide +kernel) rfl (fun _ => ?_) (fun z => absurd q21 z)
    refine xv_b E [.lload 5] (pc' := 89) (lv' := [(0, .inr (.inr (some a0))), (3, .inl v3), (4, .inl v4), (5, .inr (.inl w5)), (7, .inl v7)]) (st' := [.inr (.inl w5)]) (by decide +kernel) rfl rfl ?_
    obtain rfl := Option.some.inj h
    obtain ⟨rfl, rfl⟩ := Prod.mk.inj (show ((some (.inr (.inl w5)) : Option aV), M) = (r, M') from hN)
    exact xv_rl E B.1 B.2.1 (show decode prog_14_method_92_code 89 = .ok (.lreturn, 1) by decide +kernel) rfl rfl
  · rw [if_neg q21] at h
    refine xv_icmp_ge E 87 (show decode prog_14_method_92_code 41 = .ok (.if_icmp .ge (46), 3) by decide +kernel) rfl (fun z => absurd z q21) (fun _ => ?_)
    refine xv_b E [.lload 5, .bipush 8, .lshl, .iload_n 3, .iload 7, .iadd, .aload_n 0] (pc' := 54) (lv' := [(0, .inr (.inr (some a0))), (3, .inl v3), (4, .inl v4), (5, .inr (.inl w5)), (7, .inl v7)]) (st' := [.inr (.inr (some a0)), .inl (v3 + v7), .inr (.inl (w5 <<< (Int32.toInt64 (8 : Int32) &&& 63)))]) (by decide +kernel) rfl rfl ?_
    obtain ⟨o_12, h13, h⟩ := bd h
    refine xg_r E 12 7 h13 mw868 (show decode prog_14_method_92_code 54 = .ok (.getfield 21, 3) by decide +kernel) ?_
    refine xv_b E [.iload 4] (pc' := 59) (lv' := [(0, .inr (.inr (some a0))), (3, .inl v3), (4, .inl v4), (5, .inr (.inl w5)), (7, .inl v7)]) (st' := [.inl v4, .inr (.inr o_12), .inl (v3 + v7), .inr (.inl (w5 <<< (Int32.toInt64 (8 : Int32) &&& 63)))]) (by decide +kernel) rfl rfl ?_
    obtain ⟨v_14, h15, h⟩ := bd h
    refine xa_i E h15 (show decode prog_14_method_92_code 59 = .ok (.iaload, 1) by decide +kernel) ?_
    by_cases q20 : v_14 ≤ (v3 + v7)
    · rw [if_pos q20] at h
      refine xv_icmp_ge E 76 (show decode prog_14_method_92_code 60 = .ok (.if_icmp .ge (16), 3) by decide +kernel) rfl (fun _ => ?_) (fun z => absurd q20 z)
      refine xv_b E [.iconst 0] (pc' := 77) (lv' := [(0, .inr (.inr (some a0))), (3, .inl v3), (4, .inl v4), (5, .inr (.inl w5)), (7, .inl v7)]) (st' := [.inl (0 : Int32), .inr (.inl (w5 <<< (Int32.toInt64 (8 : Int32) &&& 63)))]) (by decide +kernel) rfl rfl ?_
      exact xv_w (sb255_77 E B a0 v3 v4 v7 (0 : Int32) (w5 <<< (Int32.toInt64 (8 : Int32) &&& 63)) M h hN) rfl
    · rw [if_neg q20] at h
      refine xv_icmp_ge E 76 (show decode prog_14_method_92_code 60 = .ok (.if_icmp .ge (16), 3) by decide +kernel) rfl (fun z => absurd z q20) (fun _ => ?_)
      refine xv_b E [.aload_n 0, .iload 4, .iload_n 3, .iload 7, .iadd] (pc' := 70) (lv' := [(0, .inr (.inr (some a0))), (3, .inl v3), (4, .inl v4), (5, .inr (.inl w5)), (7, .inl v7)]) (st' := [.inl (v3 + v7), .inl v4, .inr (.inr (some a0)), .inr (.inl (w5 <<< (Int32.toInt64 (8 : Int32) &&& 63)))]) (by decide +kernel) rfl rfl ?_
      obtain ⟨b_18, h19, h⟩ := bd h
      obtain ⟨eh19, th19⟩ := g_o_some h19
      obtain ⟨q_16, h17, h⟩ := bd h
      refine xv_cvo E eh19 12 (as := [.inl v4, .inl (v3 + v7)]) (t165 G l (c_I_some h17)) cd165 mw927 mw928 mw929 (show decode prog_14_method_92_code 70 = .ok (.invokevirtual 186, 3) by decide +kernel) th19 rfl rfl (Nat.le_of_ble_eq_true rfl) ⟨Nat.le_of_ble_eq_true rfl, Nat.le_of_ble_eq_true rfl⟩ ?_
      refine xv_goto E 77 (show decode prog_14_method_92_code 73 = .ok (.goto (4), 3) by decide +kernel) rfl ?_
      exact xv_w (sb255_77 E B a0 v3 v4 v7 q_16.1 (w5 <<< (Int32.toInt64 (8 : Int32) &&& 63)) q_16.2 h hN) rfl
end
theorem t255 (G : gX) (l : Launch) {as : List aV} {M : hM} {r : Option aV} {M' : hM} (h : f255 as M = some (r, M')) : xM G l ym255 prog_14_method_92_code 8 (some FieldType.long) 2 as M r M' := by
  unfold f255 at h
  split at h
  · have hle : ∀ h as M res, k255 h as M = some res → h_sz M ≤ r_sz res ∧ h_sl M ≤ r_sl res := by
      intro h as M res hb
      unfold k255 at hb
      by_cases e0 : h = 37
      · rw [if_pos e0] at hb
        split at hb
        · exact lb255_37 G l _ _ _ _ _ M hb
        · cases hb
      · rw [if_neg e0] at hb
        cases hb
    obtain ⟨res, hx, hres⟩ := x_go_ok h
    refine xM_of (by decide) (Nat.le_of_ble_eq_true rfl) ?_ ?_
    · have e1 := lb255_0 G l _ _ _ _ M hx
      have e2 := x_go_le hle hres
      omega
    · intro p e s m args below meth c E B
      refine sb255_0 E B _ _ _ _ M hx (hres _ ?_)
      intro h as M res hb hN
      unfold k255 at hb
      unfold pg255
      by_cases e0 : h = 37
      · rw [if_pos e0] at hb ⊢
        split at hb
        · exact sb255_37 E B _ _ _ _ _ M hb hN
        · cases hb
      · rw [if_neg e0] at hb ⊢
        cases hb
  · cases h
/-! ZFModel.count(I)I -/
def ym256 : MethodName := ⟨"ZonedFabricModel", "count", "(I)I"⟩
theorem cd256 : xCd ym256 prog_14_method_93_code 2 (some FieldType.int) 1 := ⟨mw1241, mw864, by decide, by decide, by decide +kernel⟩
def b256_71 (si0 : Int32) (M : hM) : Option xRes :=
  some (.inl (some (.inl si0), M))
def b256_70  (M : hM) : Option xRes :=
  b256_71 (-1 : Int32) M
def b256_0 (a0 : Nat) (v1 : Int32) (M : hM) : Option xRes :=
  if v1 = 0 then
    (Option.bind (g_i M 12 3 (some a0)) fun v_2 =>
    some (.inl (some (.inl v_2), M)))
  else
    (if v1 = 9 then
      (Option.bind (g_i M 12 13 (some a0)) fun v_5 =>
      some (.inl (some (.inl v_5), M)))
    else
      (if v1 = 10 then
        (Option.bind (g_i M 12 47 (some a0)) fun v_8 =>
        some (.inl (some (.inl v_8), M)))
      else
        (if v1 ≤ 0 then
          (b256_70  M)
        else
          (if (9 : Int32) ≤ v1 then
            (b256_70  M)
          else
            (Option.bind (g_r M 12 4 (some a0)) fun o_10 =>
            Option.bind (al_i M 20 o_10 v1) fun v_12 =>
            b256_71 v_12 M)))))
def f256 (as : List aV) (M : hM) : xO := match as with
  | [.inr (.inr (some a0)), .inl v1] => x_out (b256_0 a0 v1 M)
  | _ => none
theorem lb256_71 (G : gX) (l : Launch) (si0 : Int32) (M : hM) {res : xRes} (h : b256_71 si0 M = some res) : h_sz M ≤ r_sz res ∧ h_sl M ≤ r_sl res := by
  unfold b256_71 at h
  obtain rfl := Option.some.inj h
  show h_sz M ≤ h_sz M ∧ h_sl M ≤ h_sl M
  omega
theorem lb256_70 (G : gX) (l : Launch)  (M : hM) {res : xRes} (h : b256_70  M = some res) : h_sz M ≤ r_sz res ∧ h_sl M ≤ r_sl res := by
  unfold b256_70 at h
  have e := lb256_71 G l (-1 : Int32) M h
  omega
theorem lb256_0 (G : gX) (l : Launch) (a0 : Nat) (v1 : Int32) (M : hM) {res : xRes} (h : b256_0 a0 v1 M = some res) : h_sz M ≤ r_sz res ∧ h_sl M ≤ r_sl res := by
  unfold b256_0 at h
  by_cases q1 : v1 = 0
  · rw [if_pos q1] at h
    obtain ⟨v_2, h3, h⟩ := bd h
    obtain rfl := Option.some.inj h
    show h_sz M ≤ h_sz M ∧ h_sl M ≤ h_sl M
    omega
  · rw [if_neg q1] at h
    by_cases q4 : v1 = 9
    · rw [if_pos q4] at h
      obtain ⟨v_5, h6, h⟩ := bd h
      obtain rfl := Option.some.inj h
      show h_sz M ≤ h_sz M ∧ h_sl M ≤ h_sl M
      omega
    · rw [if_neg q4] at h
      by_cases q7 : v1 = 10
      · rw [if_pos q7] at h
        obtain ⟨v_8, h9, h⟩ := bd h
        obtain rfl := Option.some.inj h
        show h_sz M ≤ h_sz M ∧ h_sl M ≤ h_sl M
        omega
      · rw [if_neg q7] at h
        by_cases q15 : v1 ≤ 0
        · rw [if_pos q15] at h
          have e := lb256_70 G l  M h
          omega
        · rw [if_neg q15] at h
          by_cases q14 : (9 : Int32) ≤ v1
          · rw [if_pos q14] at h
            have e := lb256_70 G l  M h
            omega
          · rw [if_neg q14] at h
            obtain ⟨o_10, h11, h⟩ := bd h
            obtain ⟨v_12, h13, h⟩ := bd h
            have e := lb256_71 G l v_12 M h
            omega
section
variable {p : Program} {l : Launch} {e : Env} {s : State} {m : MethodId} {args : Array Value} {below : List Frame} {meth : Method} {c : Code} {G : gX} {z0 y0 : Nat} {r : Option aV} {M' : hM}
theorem sb256_71 (E : xE G p (xRm 0 (h_sz M' - z0) (h_sl M' - y0)) s m args c prog_14_method_93_code "ZonedFabricModel" z0 y0 (h_sz M') (h_sl M') 2) (B : xB ym256 (some FieldType.int) meth) (si0 : Int32) (M : hM) {res : xRes} (h : b256_71 si0 M = some res) (hN : xN (fun _ _ _ => False) r M' res) : xV G p l e (xRm 0 (h_sz M' - z0) (h_sl M' - y0)) s m args below meth c z0 y0 (h_sz M') (h_sl M') 2 (MQ below (xQc G r M') args s (h_sz M' - z0) (h_sl M' - y0) (xFr G)) 71 [] [.inl si0] M := by
  unfold b256_71 at h
  obtain rfl := Option.some.inj h
  obtain ⟨rfl, rfl⟩ := Prod.mk.inj (show ((some (.inl si0) : Option aV), M) = (r, M') from hN)
  exact xv_ri E B.1 rfl B.2.1 (show decode prog_14_method_93_code 71 = .ok (.ireturn, 1) by decide +kernel) rfl rfl
theorem sb256_70 (E : xE G p (xRm 0 (h_sz M' - z0) (h_sl M' - y0)) s m args c prog_14_method_93_code "ZonedFabricModel" z0 y0 (h_sz M') (h_sl M') 2) (B : xB ym256 (some FieldType.int) meth)  (M : hM) {res : xRes} (h : b256_70  M = some res) (hN : xN (fun _ _ _ => False) r M' res) : xV G p l e (xRm 0 (h_sz M' - z0) (h_sl M' - y0)) s m args below meth c z0 y0 (h_sz M') (h_sl M') 2 (MQ below (xQc G r M') args s (h_sz M' - z0) (h_sl M' - y0) (xFr G)) 70 [] [] M := by
  unfold b256_70 at h
  refine xv_b E [.iconst (-1)] (pc' := 71) (lv' := []) (st' := [.inl (-1 : Int32)]) (by decide +kernel) rfl rfl ?_
  exact xv_w (sb256_71 E B (-1 : Int32) M h hN) rfl
theorem sb256_0 (E : xE G p (xRm 0 (h_sz M' - z0) (h_sl M' - y0)) s m args c prog_14_method_93_code "ZonedFabricModel" z0 y0 (h_sz M') (h_sl M') 2) (B : xB ym256 (some FieldType.int) meth) (a0 : Nat) (v1 : Int32) (M : hM) {res : xRes} (h : b256_0 a0 v1 M = some res) (hN : xN (fun _ _ _ => False) r M' res) : xV G p l e (xRm 0 (h_sz M' - z0) (h_sl M' - y0)) s m args below meth c z0 y0 (h_sz M') (h_sl M') 2 (MQ below (xQc G r M') args s (h_sz M' - z0) (h_sl M' - y0) (xFr G)) 0 [(0, .inr (.inr (some a0))), (1, .inl v1)] [] M := by
  unfold b256_0 at h
  refine xv_b E [.iload_n 1] (pc' := 1) (lv' := [(0, .inr (.inr (some a0))), (1, .inl v1)]) (st' := [.inl v1]) (by decide +kernel) rfl rfl ?_
  by_cases q1 : v1 = 0
  · rw [if_pos q1] at h
    refine xv_look E (off := 35) 36 (show decode prog_14_method_93_code 1 = .ok (.lookupswitch (50) #[(0, 35), (9, 40), (10, 45)], 35) by decide +kernel) rfl (by show Op.lookupswitch.offset [(0, 35), (9, 40), (10, 45)] 50 _ = _; rw [q1]; rfl) rfl ?_
    refine xv_b E [.aload_n 0] (pc' := 37) (lv' := [(0, .inr (.inr (some a0))), (1, .inl v1)]) (st' := [.inr (.inr (some a0))]) (by decide +kernel) rfl rfl ?_
    obtain ⟨v_2, h3, h⟩ := bd h
    refine xg_i E 12 3 h3 mw1047 (show decode prog_14_method_93_code 37 = .ok (.getfield 276, 3) by decide +kernel) ?_
    obtain rfl := Option.some.inj h
    obtain ⟨rfl, rfl⟩ := Prod.mk.inj (show ((some (.inl v_2) : Option aV), M) = (r, M') from hN)
    exact xv_ri E B.1 rfl B.2.1 (show decode prog_14_method_93_code 40 = .ok (.ireturn, 1) by decide +kernel) rfl rfl
  · rw [if_neg q1] at h
    by_cases q4 : v1 = 9
    · rw [if_pos q4] at h
      refine xv_look E (off := 40) 41 (show decode prog_14_method_93_code 1 = .ok (.lookupswitch (50) #[(0, 35), (9, 40), (10, 45)], 35) by decide +kernel) rfl (by show Op.lookupswitch.offset [(0, 35), (9, 40), (10, 45)] 50 _ = _; rw [lv_osw (a := 0) q1 rfl, q4]; rfl) rfl ?_
      refine xv_b E [.aload_n 0] (pc' := 42) (lv' := [(0, .inr (.inr (some a0))), (1, .inl v1)]) (st' := [.inr (.inr (some a0))]) (by decide +kernel) rfl rfl ?_
      obtain ⟨v_5, h6, h⟩ := bd h
      refine xg_i E 12 13 h6 mw1199 (show decode prog_14_method_93_code 42 = .ok (.getfield 414, 3) by decide +kernel) ?_
      obtain rfl := Option.some.inj h
      obtain ⟨rfl, rfl⟩ := Prod.mk.inj (show ((some (.inl v_5) : Option aV), M) = (r, M') from hN)
      exact xv_ri E B.1 rfl B.2.1 (show decode prog_14_method_93_code 45 = .ok (.ireturn, 1) by decide +kernel) rfl rfl
    · rw [if_neg q4] at h
      by_cases q7 : v1 = 10
      · rw [if_pos q7] at h
        refine xv_look E (off := 45) 46 (show decode prog_14_method_93_code 1 = .ok (.lookupswitch (50) #[(0, 35), (9, 40), (10, 45)], 35) by decide +kernel) rfl (by show Op.lookupswitch.offset [(0, 35), (9, 40), (10, 45)] 50 _ = _; rw [lv_osw (a := 0) q1 rfl, lv_osw (a := 9) q4 rfl, q7]; rfl) rfl ?_
        refine xv_b E [.aload_n 0] (pc' := 47) (lv' := [(0, .inr (.inr (some a0))), (1, .inl v1)]) (st' := [.inr (.inr (some a0))]) (by decide +kernel) rfl rfl ?_
        obtain ⟨v_8, h9, h⟩ := bd h
        refine xg_i E 12 47 h9 mw1061 (show decode prog_14_method_93_code 47 = .ok (.getfield 364, 3) by decide +kernel) ?_
        obtain rfl := Option.some.inj h
        obtain ⟨rfl, rfl⟩ := Prod.mk.inj (show ((some (.inl v_8) : Option aV), M) = (r, M') from hN)
        exact xv_ri E B.1 rfl B.2.1 (show decode prog_14_method_93_code 50 = .ok (.ireturn, 1) by decide +kernel) rfl rfl
      · rw [if_neg q7] at h
        refine xv_look E 51 (off := 50) (show decode prog_14_method_93_code 1 = .ok (.lookupswitch (50) #[(0, 35), (9, 40), (10, 45)], 35) by decide +kernel) rfl (by show Op.lookupswitch.offset [(0, 35), (9, 40), (10, 45)] 50 _ = _; rw [lv_osw (a := 0) q1 rfl, lv_osw (a := 9) q4 rfl, lv_osw (a := 10) q7 rfl]; rfl) rfl ?_
        refine xv_b E [.iload_n 1] (pc' := 52) (lv' := [(0, .inr (.inr (some a0))), (1, .inl v1)]) (st' := [.inl v1]) (by decide +kernel) rfl rfl ?_
        by_cases q15 : v1 ≤ 0
        · rw [if_pos q15] at h
          refine xv_if_le E 70 (show decode prog_14_method_93_code 52 = .ok (.ifCond .le (18), 3) by decide +kernel) rfl (fun _ => ?_) (fun z => absurd q15 z)
          exact xv_w (sb256_70 E B  M h hN) rfl
        · rw [if_neg q15] at h
          refine xv_if_le E 70 (show decode prog_14_method_93_code 52 = .ok (.ifCond .le (18), 3) by decide +kernel) rfl (fun z => absurd z q15) (fun _ => ?_)
          refine xv_b E [.iload_n 1, .bipush 9] (pc' := 58) (lv' := [(0, .inr (.inr (some a0))), (1, .inl v1)]) (st' := [.inl (9 : Int32), .inl v1]) (by decide +kernel) rfl rfl ?_
          by_cases q14 : (9 : Int32) ≤ v1
          · rw [if_pos q14] at h
            refine xv_icmp_ge E 70 (show decode prog_14_method_93_code 58 = .ok (.if_icmp .ge (12), 3) by decide +kernel) rfl (fun _ => ?_) (fun z => absurd q14 z)
            exact xv_w (sb256_70 E B  M h hN) rfl
          · rw [if_neg q14] at h
            refine xv_icmp_ge E 70 (show decode prog_14_method_93_code 58 = .ok (.if_icmp .ge (12), 3) by decide +kernel) rfl (fun z => absurd z q14) (fun _ => ?_)
            refine xv_b E [.aload_n 0] (pc' := 62) (lv' := [(0, .inr (.inr (some a0))), (1, .inl v1)]) (st' := [.inr (.inr (some a0))]) (by decide +kernel) rfl rfl ?_
            obtain ⟨o_10, h11, h⟩ := bd h
            refine xg_r E 12 4 h11 mw865 (show decode prog_14_method_93_code 62 = .ok (.getfield 7, 3) by decide +kernel) ?_
            refine xv_b E [.iload_n 1] (pc' := 66) (lv' := [(0, .inr (.inr (some a0))), (1, .inl v1)]) (st' := [.inl v1, .inr (.inr o_10)]) (by decide +kernel) rfl rfl ?_
            obtain ⟨v_12, h13, h⟩ := bd h
            refine xa_i E h13 (show decode prog_14_method_93_code 66 = .ok (.iaload, 1) by decide +kernel) ?_
            refine xv_goto E 71 (show decode prog_14_method_93_code 67 = .ok (.goto (4), 3) by decide +kernel) rfl ?_
            exact xv_w (sb256_71 E B v_12 M h hN) rfl
end
theorem t256 (G : gX) (l : Launch) {as : List aV} {M : hM} {r : Option aV} {M' : hM} (h : f256 as M = some (r, M')) : xM G l ym256 prog_14_method_93_code 2 (some FieldType.int) 0 as M r M' := by
  unfold f256 at h
  split at h
  · have h := x_out_ok h
    refine xM_of (by decide) (Nat.le_of_ble_eq_true rfl) (lb256_0 G l _ _ M h) ?_
    intro p e s m args below meth c E B
    exact sb256_0 E B _ _ M h rfl
  · cases h
