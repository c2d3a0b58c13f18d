theorem mw856 : Cond.code ⟨"ZonedFabric", "address", "(I)I"⟩ prog_1_method_20_code 2 (some FieldType.int) ∈ xTs := xTs_in (tk5 (List.mem_of_getElem? (i := 178) (by decide +kernel))) rfl
theorem mw857 : Cond.fieldLink "ZonedFabric" 237 "ZonedFabric$Node" "address" "I" ∈ xTs := xTs_in (tk2 (List.mem_of_getElem? (i := 9) (by decide +kernel))) rfl
theorem mw858 : Cond.code ⟨"ZonedFabric", "frame", "(III)J"⟩ prog_1_method_21_code 9 (some FieldType.long) ∈ xTs := xTs_in (tk5 (List.mem_of_getElem? (i := 182) (by decide +kernel))) rfl
theorem mw859 : Cond.methodLink "ZonedFabric" 240 ⟨"ZonedFabric$Frame", "byteAt", "(I)I"⟩ ∈ xTs := xTs_in (tk5 (List.mem_of_getElem? (i := 183) (by decide +kernel))) rfl
theorem mw860 : Cond.code ⟨"ZonedFabric", "count", "(I)I"⟩ prog_1_method_22_code 2 (some FieldType.int) ∈ xTs := xTs_in (tk5 (List.mem_of_getElem? (i := 187) (by decide +kernel))) rfl
theorem mw861 : Cond.fieldLink "ZonedFabric" 246 "ZonedFabric$Shared" "counts" "[I" ∈ xTs := xTs_in (tk1 (List.mem_of_getElem? (i := 47) (by decide +kernel))) rfl
theorem mw862 : Cond.code ⟨"ZonedFabric", "broken", "(I)I"⟩ prog_1_method_23_code 2 (some FieldType.int) ∈ xTs := xTs_in (tk5 (List.mem_of_getElem? (i := 191) (by decide +kernel))) rfl
/-! ZF.address(I)I -/
def ym160 : MethodName := ⟨"ZonedFabric", "address", "(I)I"⟩
theorem cd160 : xCd ym160 prog_1_method_20_code 2 (some FieldType.int) 1 := ⟨mw856, mw71, by decide, by decide, by decide +kernel⟩
def b160_24 (si0 : Int32) (M : hM) : Option xRes :=
  some (.inl (some (.inl si0), M))
def b160_0 (a0 : Nat) (v1 : Int32) (M : hM) : Option xRes :=
  Option.bind (g_r M 11 0 (some a0)) fun o_1 =>
  Option.bind (g_o M 9 o_1) fun b_5 =>
  Option.bind (c_I (f8 [.inr (.inr (some b_5)), .inl v1] M)) fun q_3 =>
  if q_3.1 = 0 then
    (b160_24 (-1 : Int32) q_3.2)
  else
    (Option.bind (g_r q_3.2 11 2 (some a0)) fun o_7 =>
    Option.bind (al_r q_3.2 35 o_7 v1) fun o_9 =>
    Option.bind (g_i q_3.2 5 3 o_9) fun v_11 =>
    b160_24 v_11 q_3.2)
def f160 (as : List aV) (M : hM) : xO := match as with
  | [.inr (.inr (some a0)), .inl v1] => x_out (b160_0 a0 v1 M)
  | _ => none
theorem lb160_24 (G : gX) (l : Launch) (si0 : Int32) (M : hM) {res : xRes} (h : b160_24 si0 M = some res) : h_sz M ≤ r_sz res ∧ h_sl M ≤ r_sl res := by
  unfold b160_24 at h
  obtain rfl := Option.some.inj h
  show h_sz M ≤ h_sz M ∧ h_sl M ≤ h_sl M
  omega
theorem lb160_0 (G : gX) (l : Launch) (a0 : Nat) (v1 : Int32) (M : hM) {res : xRes} (h : b160_0 a0 v1 M = some res) : h_sz M ≤ r_sz res ∧ h_sl M ≤ r_sl res := by
  unfold b160_0 at h
  obtain ⟨o_1, h2, h⟩ := bd h
  obtain ⟨b_5, h6, h⟩ := bd h
  obtain ⟨q_3, h4, h⟩ := bd h
  have eh4 := (t8 G l (c_I_some h4)).1
  by_cases q13 : q_3.1 = 0
  · rw [if_pos q13] at h
    have e := lb160_24 G l (-1 : Int32) q_3.2 h
    omega
  · rw [if_neg q13] at h
    obtain ⟨o_7, h8, h⟩ := bd h
    obtain ⟨o_9, h10, h⟩ := bd h
    obtain ⟨v_11, h12, h⟩ := bd h
    have e := lb160_24 G l v_11 q_3.2 h
    omega
section
variable {p : Program} {l : Launch} {e : Env} {s : State} {m : MethodId} {args : Array Value} {below : List Frame} {meth : Method} {c : Code} {G : gX} {z0 y0 : Nat} {r : Option aV} {M' : hM}
theorem sb160_24 (E : xE G p (xRm 1 (h_sz M' - z0) (h_sl M' - y0)) s m args c prog_1_method_20_code "ZonedFabric" z0 y0 (h_sz M') (h_sl M') 2) (B : xB ym160 (some FieldType.int) meth) (si0 : Int32) (M : hM) {res : xRes} (h : b160_24 si0 M = some res) (hN : xN (fun _ _ _ => False) r M' res) : xV G p l e (xRm 1 (h_sz M' - z0) (h_sl M' - y0)) s m args below meth c z0 y0 (h_sz M') (h_sl M') 2 (MQ below (xQc G r M') args s (h_sz M' - z0) (h_sl M' - y0) (xFr G)) 24 [] [.inl si0] M := by
  unfold b160_24 at h
  obtain rfl := Option.some.inj h
  obtain ⟨rfl, rfl⟩ := Prod.mk.inj (show ((some (.inl si0) : Option aV), M) = (r, M') from hN)
  exact xv_ri E B.1 rfl B.2.1 (show decode prog_1_method_20_code 24 = .ok (.ireturn, 1) by decide +kernel) rfl rfl
theorem sb160_0 (E : xE G p (xRm 1 (h_sz M' - z0) (h_sl M' - y0)) s m args c prog_1_method_20_code "ZonedFabric" z0 y0 (h_sz M') (h_sl M') 2) (B : xB ym160 (some FieldType.int) meth) (a0 : Nat) (v1 : Int32) (M : hM) {res : xRes} (h : b160_0 a0 v1 M = some res) (hN : xN (fun _ _ _ => False) r M' res) : xV G p l e (xRm 1 (h_sz M' - z0) (h_sl M' - y0)) s m args below meth c z0 y0 (h_sz M') (h_sl M') 2 (MQ below (xQc G r M') args s (h_sz M' - z0) (h_sl M' - y0) (xFr G)) 0 [(0, .inr (.inr (some a0))), (1, .inl v1)] [] M := by
  unfold b160_0 at h
  refine xv_b E [.aload_n 0] (pc' := 1) (lv' := [(0, .inr (.inr (some a0))), (1, .inl v1)]) (st' := [.inr (.inr (some a0))]) (by decide +kernel) rfl rfl ?_
  obtain ⟨o_1, h2, h⟩ := bd h
  refine xg_r E 11 0 h2 mw82 (show decode prog_1_method_20_code 1 = .ok (.getfield 29, 3) by decide +kernel) ?_
  refine xv_b E [.iload_n 1] (pc' := 5) (lv' := [(0, .inr (.inr (some a0))), (1, .inl v1)]) (st' := [.inl v1, .inr (.inr o_1)]) (by decide +kernel) rfl rfl ?_
  obtain ⟨b_5, h6, h⟩ := bd h
  obtain ⟨eh6, th6⟩ := g_o_some h6
  obtain ⟨q_3, h4, h⟩ := bd h
  refine xv_cvo E eh6 9 (as := [.inl v1]) (t8 G l (c_I_some h4)) cd8 mw116 mw117 mw118 (show decode prog_1_method_20_code 5 = .ok (.invokevirtual 58, 3) by decide +kernel) th6 rfl rfl (Nat.le_of_ble_eq_true rfl) ⟨Nat.le_of_ble_eq_true rfl, Nat.le_of_ble_eq_true rfl⟩ ?_
  by_cases q13 : q_3.1 = 0
  · rw [if_pos q13] at h
    refine xv_if_eq E 23 (show decode prog_1_method_20_code 8 = .ok (.ifCond .eq (15), 3) by decide +kernel) rfl (fun _ => ?_) (fun z => absurd q13 z)
    refine xv_b E [.iconst (-1)] (pc' := 24) (lv' := [(0, .inr (.inr (some a0))), (1, .inl v1)]) (st' := [.inl (-1 : Int32)]) (by decide +kernel) rfl rfl ?_
    exact xv_w (sb160_24 E B (-1 : Int32) q_3.2 h hN) rfl
  · rw [if_neg q13] at h
    refine xv_if_eq E 23 (show decode prog_1_method_20_code 8 = .ok (.ifCond .eq (15), 3) by decide +kernel) rfl (fun z => absurd z q13) (fun _ => ?_)
    refine xv_b E [.aload_n 0] (pc' := 12) (lv' := [(0, .inr (.inr (some a0))), (1, .inl v1)]) (st' := [.inr (.inr (some a0))]) (by decide +kernel) rfl rfl ?_
    obtain ⟨o_7, h8, h⟩ := bd h
    refine xg_r E 11 2 h8 mw86 (show decode prog_1_method_20_code 12 = .ok (.getfield 44, 3) by decide +kernel) ?_
    refine xv_b E [.iload_n 1] (pc' := 16) (lv' := [(0, .inr (.inr (some a0))), (1, .inl v1)]) (st' := [.inl v1, .inr (.inr o_7)]) (by decide +kernel) rfl rfl ?_
    obtain ⟨o_9, h10, h⟩ := bd h
    refine xa_r E 35 h10 (show decode prog_1_method_20_code 16 = .ok (.aaload, 1) by decide +kernel) ?_
    obtain ⟨v_11, h12, h⟩ := bd h
    refine xg_i E 5 3 h12 mw857 (show decode prog_1_method_20_code 17 = .ok (.getfield 237, 3) by decide +kernel) ?_
    refine xv_goto E 24 (show decode prog_1_method_20_code 20 = .ok (.goto (4), 3) by decide +kernel) rfl ?_
    exact xv_w (sb160_24 E B v_11 q_3.2 h hN) rfl
end
theorem t160 (G : gX) (l : Launch) {as : List aV} {M : hM} {r : Option aV} {M' : hM} (h : f160 as M = some (r, M')) : xM G l ym160 prog_1_method_20_code 2 (some FieldType.int) 1 as M r M' := by
  unfold f160 at h
  split at h
  · have h := x_out_ok h
    refine xM_of (by decide) (Nat.le_of_ble_eq_true rfl) (lb160_0 G l _ _ M h) ?_
    intro p e s m args below meth c E B
    exact sb160_0 E B _ _ M h rfl
  · cases h
/-! ZF.frame(III)J -/
def ym161 : MethodName := ⟨"ZonedFabric", "frame", "(III)J"⟩
theorem cd161 : xCd ym161 prog_1_method_21_code 9 (some FieldType.long) 3 := ⟨mw858, mw71, by decide, by decide, by decide +kernel⟩
def b161_17  (M : hM) : Option xRes :=
  some (.inl (some (.inr (.inl (0 : Int64))), M))
def b161_0 (a0 : Nat) (v1 : Int32) (v2 : Int32) (v3 : Int32) (M : hM) : Option xRes :=
  Option.bind (g_o M 11 (some a0)) fun b_3 =>
  Option.bind (c_R (f29 [.inr (.inr (some b_3)), .inl v1, .inl v2] M)) fun q_1 =>
  if q_1.1 = none then
    (b161_17  q_1.2)
  else
    (if 0 ≤ v3 then
      (some (.inr (25, [.inl v3, .inr (.inr q_1.1), .inr (.inl (0 : Int64)), .inl (0 : Int32)], q_1.2)))
    else
      (b161_17  q_1.2))
def b161_57 (v3 : Int32) (o4 : Option Nat) (w5 : Int64) (v7 : Int32) (si0 : Int32) (M : hM) : Option xRes :=
  some (.inr (25, [.inl v3, .inr (.inr o4), .inr (.inl ((w5 <<< (Int32.toInt64 (8 : Int32) &&& 63)) ||| (Int32.toInt64 si0))), .inl (v7 + (1 : Int32))], M))
def b161_25 (v3 : Int32) (o4 : Option Nat) (w5 : Int64) (v7 : Int32) (M : hM) : Option xRes :=
  if (8 : Int32) ≤ v7 then
    (some (.inl (some (.inr (.inl w5)), M)))
  else
    (Option.bind (g_i M 2 1 o4) fun v_7 =>
    if (v_7 - v7) ≤ v3 then
      (b161_57 v3 o4 w5 v7 (0 : Int32) M)
    else
      (Option.bind (g_o M 2 o4) fun b_11 =>
      Option.bind (c_I (f55 [.inr (.inr (some b_11)), .inl (v3 + v7)] M)) fun q_9 =>
      b161_57 v3 o4 w5 v7 q_9.1 q_9.2))
def k161 (h : Nat) (as : List aV) (M : hM) : Option xRes :=
  if h = 25 then (match as with | [.inl v3, .inr (.inr o4), .inr (.inl w5), .inl v7] => b161_25 v3 o4 w5 v7 M | _ => none) else
  none
def f161 (as : List aV) (M : hM) : xO := match as with
  | [.inr (.inr (some a0)), .inl v1, .inl v2, .inl v3] => x_go k161 (b161_0 a0 v1 v2 v3 M)
  | _ => none
theorem lb161_17 (G : gX) (l : Launch)  (M : hM) {res : xRes} (h : b161_17  M = some res) : h_sz M ≤ r_sz res ∧ h_sl M ≤ r_sl res := by
  unfold b161_17 at h
  obtain rfl := Option.some.inj h
  show h_sz M ≤ h_sz M ∧ h_sl M ≤ h_sl M
  omega
theorem lb161_0 (G : gX) (l : Launch) (a0 : Nat) (v1 : Int32) (v2 : Int32) (v3 : Int32) (M : hM) {res : xRes} (h : b161_0 a0 v1 v2 v3 M = some res) : h_sz M ≤ r_sz res ∧ h_sl M ≤ r_sl res := by
  unfold b161_0 at h
  obtain ⟨b_3, h4, h⟩ := bd h
  obtain ⟨q_1, h2, h⟩ := bd h
  have eh2 := (t29 G l (c_R_some h2)).1
  by_cases q6 : q_1.1 = none
  · rw [if_pos q6] at h
    have e := lb161_17 G l  q_1.2 h
    omega
  · rw [if_neg q6] at h
    by_cases q5 : 0 ≤ v3
    · rw [if_pos q5] at h
      obtain rfl := Option.some.inj h
      show h_sz M ≤ h_sz q_1.2 ∧ h_sl M ≤ h_sl q_1.2
      omega
    · rw [if_neg q5] at h
      have e := lb161_17 G l  q_1.2 h
      omega
theorem lb161_57 (G : gX) (l : Launch) (v3 : Int32) (o4 : Option Nat) (w5 : Int64) (v7 : Int32) (si0 : Int32) (M : hM) {res : xRes} (h : b161_57 v3 o4 w5 v7 si0 M = some res) : h_sz M ≤ r_sz res ∧ h_sl M ≤ r_sl res := by
  unfold b161_57 at h
  obtain rfl := Option.some.inj h
  show h_sz M ≤ h_sz M ∧ h_sl M ≤ h_sl M
  omega
theorem lb161_25 (G : gX) (l : Launch) (v3 : Int32) (o4 : Option Nat) (w5 : Int64) (v7 : Int32) (M : hM) {res : xRes} (h : b161_25 v3 o4 w5 v7 M = some res) : h_sz M ≤ r_sz res ∧ h_sl M ≤ r_sl res := by
  unfold b161_25 at h
  by_cases q14 : (8 : Int32) ≤ v7
  · rw [if_pos q14] at h
    obtain rfl := Option.some.inj h
    show h_sz M ≤ h_sz M ∧ h_sl M ≤ h_sl M
    omega
  · rw [if_neg q14] at h
    obtain ⟨v_7, h8, h⟩ := bd h
    by_cases q13 : (v_7 - v7) ≤ v3
    · rw [if_pos q13] at h
      have e := lb161_57 G l v3 o4 w5 v7 (0 : Int32) M h
      omega
    · rw [if_neg q13] at h
      obtain ⟨b_11, h12, h⟩ := bd h
      obtain ⟨q_9, h10, h⟩ := bd h
      have eh10 := (t55 G l (c_I_some h10)).1
      have e := lb161_57 G l v3 o4 w5 v7 q_9.1 q_9.2 h
      omega
section
variable {p : Program} {l : Launch} {e : Env} {s : State} {m : MethodId} {args : Array Value} {below : List Frame} {meth : Method} {c : Code} {G : gX} {z0 y0 : Nat} {r : Option aV} {M' : hM}
def pg161 (p : Program) (l : Launch) (e : Env) (s : State) (m : MethodId) (args : Array Value) (below : List Frame) (meth : Method) (c : Code) (G : gX) (z0 y0 : Nat) (r : Option aV) (M' : hM) (h : Nat) (as : List aV) (M : hM) : Prop :=
  if h = 25 then (match as with | [.inl v3, .inr (.inr o4), .inr (.inl w5), .inl v7] => xV G p l e (xRm 2 (h_sz M' - z0) (h_sl M' - y0)) s m args below meth c z0 y0 (h_sz M') (h_sl M') 9 (MQ below (xQc G r M') args s (h_sz M' - z0) (h_sl M' - y0) (xFr G)) 25 [(3, .inl v3), (4, .inr (.inr o4)), (5, .inr (.inl w5)), (7, .inl v7)] [] M | _ => False) else
  False
theorem sb161_17 (E : xE G p (xRm 2 (h_sz M' - z0) (h_sl M' - y0)) s m args c prog_1_method_21_code "ZonedFabric" z0 y0 (h_sz M') (h_sl M') 9) (B : xB ym161 (some FieldType.long) meth)  (M : hM) {res : xRes} (h : b161_17  M = some res) (hN : xN (pg161 p l e s m args below meth c G z0 y0 r M') r M' res) : xV G p l e (xRm 2 (h_sz M' - z0) (h_sl M' - y0)) s m args below meth c z0 y0 (h_sz M') (h_sl M') 9 (MQ below (xQc G r M') args s (h_sz M' - z0) (h_sl M' - y0) (xFr G)) 17 [] [] M := by
  unfold b161_17 at h
  refine xv_b E [.lconst 0] (pc' := 18) (lv' := []) (st' := [.inr (.inl (0 : Int64))]) (by decide +kernel) rfl rfl ?_
  obtain rfl := Option.some.inj h
  obtain ⟨rfl, rfl⟩ := Prod.mk.inj (show ((some (.inr (.inl (0 : Int64))) : Option aV), M) = (r, M') from hN)
  exact xv_rl E B.1 B.2.1 (show decode prog_1_method_21_code 18 = .ok (.lreturn, 1) by decide +kernel) rfl rfl
theorem sb161_0 (E : xE G p (xRm 2 (h_sz M' - z0) (h_sl M' - y0)) s m args c prog_1_method_21_code "ZonedFabric" z0 y0 (h_sz M') (h_sl M') 9) (B : xB ym161 (some FieldType.long) meth) (a0 : Nat) (v1 : Int32) (v2 : Int32) (v3 : Int32) (M : hM) {res : xRes} (h : b161_0 a0 v1 v2 v3 M = some res) (hN : xN (pg161 p l e s m args below meth c G z0 y0 r M') r M' res) : xV G p l e (xRm 2 (h_sz M' - z0) (h_sl M' - y0)) s m args below meth c z0 y0 (h_sz M') (h_sl M') 9 (MQ below (xQc G r M') args s (h_sz M' - z0) (h_sl M' - y0) (xFr G)) 0 [(0, .inr (.inr (some a0))), (1, .inl v1), (2, .inl v2), (3, .inl v3)] [] M := by
  unfold b161_0 at h
  refine xv_b E [.aload_n 0, .iload_n 1, .iload_n 2] (pc' := 3) (lv' := [(0, .inr (.inr (some a0))), (1, .inl v1), (2, .inl v2), (3, .inl v3)]) (st' := [.inl v2, .inl v1, .inr (.inr (some a0))]) (by decide +kernel) rfl rfl ?_
  obtain ⟨b_3, h4, h⟩ := bd h
  obtain ⟨eh4, th4⟩ := g_o_some h4
  obtain ⟨q_1, h2, h⟩ := bd h
  refine xv_cvo E eh4 11 (as := [.inl v1, .inl v2]) (t29 G l (c_R_some h2)) cd29 mw211 mw212 mw213 (show decode prog_1_method_21_code 3 = .ok (.invokevirtual 122, 3) by decide +kernel) th4 rfl rfl (Nat.le_of_ble_eq_true rfl) ⟨Nat.le_of_ble_eq_true rfl, Nat.le_of_ble_eq_true rfl⟩ ?_
  refine xv_b E [.astore 4, .aload 4] (pc' := 10) (lv' := [(4, .inr (.inr q_1.1)), (0, .inr (.inr (some a0))), (1, .inl v1), (2, .inl v2), (3, .inl v3)]) (st' := [.inr (.inr q_1.1)]) (by decide +kernel) rfl rfl ?_
  by_cases q6 : q_1.1 = none
  · rw [if_pos q6] at h
    refine xi_null E 17 (show decode prog_1_method_21_code 10 = .ok (.ifnull (7), 3) by decide +kernel) rfl (fun _ => ?_) (fun z => absurd q6 z)
    exact xv_w (sb161_17 E B  q_1.2 h hN) rfl
  · rw [if_neg q6] at h
    refine xi_null E 17 (show decode prog_1_method_21_code 10 = .ok (.ifnull (7), 3) by decide +kernel) rfl (fun z => absurd z q6) (fun _ => ?_)
    refine xv_b E [.iload_n 3] (pc' := 14) (lv' := [(4, .inr (.inr q_1.1)), (0, .inr (.inr (some a0))), (1, .inl v1), (2, .inl v2), (3, .inl v3)]) (st' := [.inl v3]) (by decide +kernel) rfl rfl ?_
    by_cases q5 : 0 ≤ v3
    · rw [if_pos q5] at h
      refine xv_if_ge E 19 (show decode prog_1_method_21_code 14 = .ok (.ifCond .ge (5), 3) by decide +kernel) rfl (fun _ => ?_) (fun z => absurd q5 z)
      refine xv_b E [.lconst 0, .lstore 5, .iconst 0, .istore 7] (pc' := 25) (lv' := [(7, .inl (0 : Int32)), (5, .inr (.inl (0 : Int64))), (4, .inr (.inr q_1.1)), (0, .inr (.inr (some a0))), (1, .inl v1), (2, .inl v2), (3, .inl v3)]) (st' := []) (by decide +kernel) rfl rfl ?_
      obtain rfl := Option.some.inj h
      exact xv_w hN rfl
    · rw [if_neg q5] at h
      refine xv_if_ge E 19 (show decode prog_1_method_21_code 14 = .ok (.ifCond .ge (5), 3) by decide +kernel) rfl (fun z => absurd z q5) (fun _ => ?_)
      exact xv_w (sb161_17 E B  q_1.2 h hN) rfl
theorem sb161_57 (E : xE G p (xRm 2 (h_sz M' - z0) (h_sl M' - y0)) s m args c prog_1_method_21_code "ZonedFabric" z0 y0 (h_sz M') (h_sl M') 9) (B : xB ym161 (some FieldType.long) meth) (v3 : Int32) (o4 : Option Nat) (w5 : Int64) (v7 : Int32) (si0 : Int32) (M : hM) {res : xRes} (h : b161_57 v3 o4 w5 v7 si0 M = some res) (hN : xN (pg161 p l e s m args below meth c G z0 y0 r M') r M' res) : xV G p l e (xRm 2 (h_sz M' - z0) (h_sl M' - y0)) s m args below meth c z0 y0 (h_sz M') (h_sl M') 9 (MQ below (xQc G r M') args s (h_sz M' - z0) (h_sl M' - y0) (xFr G)) 57 [(3, .inl v3), (4, .inr (.inr o4)), (5, .inr (.inl w5)), (7, .inl v7)] [.inl si0] M := by
  unfold b161_57 at h
  refine xv_b E [.istore 8, .lload 5, .bipush 8, .lshl, .iload 8, .i2l, .lor, .lstore 5, .iinc 7 1] (pc' := 73) (lv' := [(7, .inl (v7 + (1 : Int32))), (5, .inr (.inl ((w5 <<< (Int32.toInt64 (8 : Int32) &&& 63)) ||| (Int32.toInt64 si0)))), (8, .inl si0), (3, .inl v3), (4, .inr (.inr o4))]) (st' := []) (by decide +kernel) rfl rfl ?_
  refine xv_goto E 25 (show decode prog_1_method_21_code 73 = .ok (.goto (-48), 3) by decide +kernel) rfl ?_
  obtain rfl := Option.some.inj h
  exact xv_w hN rfl
theorem sb161_25 (E : xE G p (xRm 2 (h_sz M' - z0) (h_sl M' - y0)) s m args c prog_1_method_21_code "ZonedFabric" z0 y0 (h_sz M') (h_sl M') 9) (B : xB ym161 (some FieldType.long) meth) (v3 : Int32) (o4 : Option Nat) (w5 : Int64) (v7 : Int32) (M : hM) {res : xRes} (h : b161_25 v3 o4 w5 v7 M = some res) (hN : xN (pg161 p l e s m args below meth c G z0 y0 r M') r M' res) : xV G p l e (xRm 2 (h_sz M' - z0) (h_sl M' - y0)) s m args below meth c z0 y0 (h_sz M') (h_sl M') 9 (MQ below (xQc G r M') args s (h_sz M' - z0) (h_sl M' - y0) (xFr G)) 25 [(3, .inl v3), (4, .inr (.inr o4)), (5, .inr (.inl w5)), (7, .inl v7)] [] M := by
  unfold b161_25 at h
  refine xv_b E [.iload 7, .bipush 8] (pc' := 29) (lv' := [(3, .inl v3), (4, .inr (.inr o4)), (5, .inr (.inl w5)), (7, .inl v7)]) (st' := [.inl (8 : Int32), .inl v7]) (by decide +kernel) rfl rfl ?_
  by_cases q14 : (8 : Int32) ≤ v7
  · rw [if_pos q14] at h
    refine xv_icmp_ge E 76 (show decode prog_1_method_21_code 29 = .ok (.if_icmp .ge (47), 3) by decide +kernel) rfl (fun _ => ?_) (fun z => absurd q14 z)
    refine xv_b E [.lload 5] (pc' := 78) (lv' := [(3, .inl v3), (4, .inr (.inr o4)), (5, .inr (.inl w5)), (7, .inl v7)]) (st' := [.inr (.inl w5)]) (by decide +kernel) rfl rfl ?_
    obtain rfl := Option.some.inj h
    obtain ⟨rfl, rfl⟩ := Prod.mk.inj (show ((some (.inr (.inl w5)) : Option aV), M) = (r, M') from hN)
    exact xv_rl E B.1 B.2.1 (show decode prog_1_method_21_code 78 = .ok (.lreturn, 1) by decide +kernel) rfl rfl
  · rw [if_neg q14] at h
    refine xv_icmp_ge E 76 (show decode prog_1_method_21_code 29 = .ok (.if_icmp .ge (47), 3) by decide +kernel) rfl (fun z => absurd z q14) (fun _ => ?_)
    refine xv_b E [.iload_n 3, .aload 4] (pc' := 35) (lv' := [(3, .inl v3), (4, .inr (.inr o4)), (5, .inr (.inl w5)), (7, .inl v7)]) (st' := [.inr (.inr o4), .inl v3]) (by decide +kernel) rfl rfl ?_
    obtain ⟨v_7, h8, h⟩ := bd h
    refine xg_i E 2 1 h8 mw214 (show decode prog_1_method_21_code 35 = .ok (.getfield 126, 3) by decide +kernel) ?_
    refine xv_b E [.iload 7, .isub] (pc' := 41) (lv' := [(3, .inl v3), (4, .inr (.inr o4)), (5, .inr (.inl w5)), (7, .inl v7)]) (st' := [.inl (v_7 - v7), .inl v3]) (by decide +kernel) rfl rfl ?_
    by_cases q13 : (v_7 - v7) ≤ v3
    · rw [if_pos q13] at h
      refine xv_icmp_ge E 56 (show decode prog_1_method_21_code 41 = .ok (.if_icmp .ge (15), 3) by decide +kernel) rfl (fun _ => ?_) (fun z => absurd q13 z)
      refine xv_b E [.iconst 0] (pc' := 57) (lv' := [(3, .inl v3), (4, .inr (.inr o4)), (5, .inr (.inl w5)), (7, .inl v7)]) (st' := [.inl (0 : Int32)]) (by decide +kernel) rfl rfl ?_
      exact xv_w (sb161_57 E B v3 o4 w5 v7 (0 : Int32) M h hN) rfl
    · rw [if_neg q13] at h
      refine xv_icmp_ge E 56 (show decode prog_1_method_21_code 41 = .ok (.if_icmp .ge (15), 3) by decide +kernel) rfl (fun z => absurd z q13) (fun _ => ?_)
      refine xv_b E [.aload 4, .iload_n 3, .iload 7, .iadd] (pc' := 50) (lv' := [(3, .inl v3), (4, .inr (.inr o4)), (5, .inr (.inl w5)), (7, .inl v7)]) (st' := [.inl (v3 + v7), .inr (.inr o4)]) (by decide +kernel) rfl rfl ?_
      obtain ⟨b_11, h12, h⟩ := bd h
      obtain ⟨eh12, th12⟩ := g_o_some h12
      obtain ⟨q_9, h10, h⟩ := bd h
      refine xv_cvo E eh12 2 (as := [.inl (v3 + v7)]) (t55 G l (c_I_some h10)) cd55 mw859 mw333 mw334 (show decode prog_1_method_21_code 50 = .ok (.invokevirtual 240, 3) by decide +kernel) th12 rfl rfl (Nat.le_of_ble_eq_true rfl) ⟨Nat.le_of_ble_eq_true rfl, Nat.le_of_ble_eq_true rfl⟩ ?_
      refine xv_goto E 57 (show decode prog_1_method_21_code 53 = .ok (.goto (4), 3) by decide +kernel) rfl ?_
      exact xv_w (sb161_57 E B v3 o4 w5 v7 q_9.1 q_9.2 h hN) rfl
end
theorem t161 (G : gX) (l : Launch) {as : List aV} {M : hM} {r : Option aV} {M' : hM} (h : f161 as M = some (r, M')) : xM G l ym161 prog_1_method_21_code 9 (some FieldType.long) 2 as M r M' := by
  unfold f161 at h
  split at h
  · have hle : ∀ h as M res, k161 h as M = some res → h_sz M ≤ r_sz res ∧ h_sl M ≤ r_sl res := by
      intro h as M res hb
      unfold k161 at hb
      by_cases e0 : h = 25
      · rw [if_pos e0] at hb
        split at hb
        · exact lb161_25 G l _ _ _ _ M hb
        · cases hb
      · rw [if_neg e0] at hb
        cases hb
    obtain ⟨res, hx, hres⟩ := x_go_ok h
    refine xM_of (by decide) (Nat.le_of_ble_eq_true rfl) ?_ ?_
    · have e1 := lb161_0 G l _ _ _ _ M hx
      have e2 := x_go_le hle hres
      omega
    · intro p e s m args below meth c E B
      refine sb161_0 E B _ _ _ _ M hx (hres _ ?_)
      intro h as M res hb hN
      unfold k161 at hb
      unfold pg161
      by_cases e0 : h = 25
      · rw [if_pos e0] at hb ⊢
        split at hb
        · exact sb161_25 E B _ _ _ _ M hb hN
        · cases hb
      · rw [if_neg e0] at hb ⊢
        cases hb
  · cases h
/-! ZF.count(I)I -/
def ym162 : MethodName := ⟨"ZonedFabric", "count", "(I)I"⟩
theorem cd162 : xCd ym162 prog_1_method_22_code 2 (some FieldType.int) 1 := ⟨mw860, mw71, by decide, by decide, by decide +kernel⟩
def b162_57 (si0 : Int32) (M : hM) : Option xRes :=
  some (.inl (some (.inl si0), M))
def b162_56  (M : hM) : Option xRes :=
  b162_57 (-1 : Int32) M
def b162_0 (a0 : Nat) (v1 : Int32) (M : hM) : Option xRes :=
  if v1 = 0 then
    (Option.bind (g_r M 11 0 (some a0)) fun o_15 =>
    Option.bind (g_i M 9 3 o_15) fun v_17 =>
    some (.inl (some (.inl v_17), M)))
  else
    (if v1 = (9 : Int32) then
      (Option.bind (g_i M 11 5 (some a0)) fun v_12 =>
      some (.inl (some (.inl v_12), M)))
    else
      (if v1 = (10 : Int32) then
        (Option.bind (g_i M 11 7 (some a0)) fun v_9 =>
        some (.inl (some (.inl v_9), M)))
      else
        (if v1 ≤ 0 then
          (b162_56  M)
        else
          (if (9 : Int32) ≤ v1 then
            (b162_56  M)
          else
            (Option.bind (g_r M 11 0 (some a0)) fun o_1 =>
            Option.bind (g_r M 9 4 o_1) fun o_3 =>
            Option.bind (al_i M 20 o_3 v1) fun v_5 =>
            b162_57 v_5 M)))))
def f162 (as : List aV) (M : hM) : xO := match as with
  | [.inr (.inr (some a0)), .inl v1] => x_out (b162_0 a0 v1 M)
  | _ => none
theorem lb162_57 (G : gX) (l : Launch) (si0 : Int32) (M : hM) {res : xRes} (h : b162_57 si0 M = some res) : h_sz M ≤ r_sz res ∧ h_sl M ≤ r_sl res := by
  unfold b162_57 at h
  obtain rfl := Option.some.inj h
  show h_sz M ≤ h_sz M ∧ h_sl M ≤ h_sl M
  omega
theorem lb162_56 (G : gX) (l : Launch)  (M : hM) {res : xRes} (h : b162_56  M = some res) : h_sz M ≤ r_sz res ∧ h_sl M ≤ r_sl res := by
  unfold b162_56 at h
  have e := lb162_57 G l (-1 : Int32) M h
  omega
theorem lb162_0 (G : gX) (l : Launch) (a0 : Nat) (v1 : Int32) (M : hM) {res : xRes} (h : b162_0 a0 v1 M = some res) : h_sz M ≤ r_sz res ∧ h_sl M ≤ r_sl res := by
  unfold b162_0 at h
  by_cases q19 : v1 = 0
  · rw [if_pos q19] at h
    obtain ⟨o_15, h16, h⟩ := bd h
    obtain ⟨v_17, h18, h⟩ := bd h
    obtain rfl := Option.some.inj h
    show h_sz M ≤ h_sz M ∧ h_sl M ≤ h_sl M
    omega
  · rw [if_neg q19] at h
    by_cases q14 : v1 = (9 : Int32)
    · rw [if_pos q14] at h
      obtain ⟨v_12, h13, h⟩ := bd h
      obtain rfl := Option.some.inj h
      show h_sz M ≤ h_sz M ∧ h_sl M ≤ h_sl M
      omega
    · rw [if_neg q14] at h
      by_cases q11 : v1 = (10 : Int32)
      · rw [if_pos q11] at h
        obtain ⟨v_9, h10, h⟩ := bd h
        obtain rfl := Option.some.inj h
        show h_sz M ≤ h_sz M ∧ h_sl M ≤ h_sl M
        omega
      · rw [if_neg q11] at h
        by_cases q8 : v1 ≤ 0
        · rw [if_pos q8] at h
          have e := lb162_56 G l  M h
          omega
        · rw [if_neg q8] at h
          by_cases q7 : (9 : Int32) ≤ v1
          · rw [if_pos q7] at h
            have e := lb162_56 G l  M h
            omega
          · rw [if_neg q7] at h
            obtain ⟨o_1, h2, h⟩ := bd h
            obtain ⟨o_3, h4, h⟩ := bd h
            obtain ⟨v_5, h6, h⟩ := bd h
            have e := lb162_57 G l v_5 M h
            omega
section
variable {p : Program} {l : Launch} {e : Env} {s : State} {m : MethodId} {args : Array Value} {below : List Frame} {meth : Method} {c : Code} {G : gX} {z0 y0 : Nat} {r : Option aV} {M' : hM}
theorem sb162_57 (E : xE G p (xRm 0 (h_sz M' - z0) (h_sl M' - y0)) s m args c prog_1_method_22_code "ZonedFabric" z0 y0 (h_sz M') (h_sl M') 2) (B : xB ym162 (some FieldType.int) meth) (si0 : Int32) (M : hM) {res : xRes} (h : b162_57 si0 M = some res) (hN : xN (fun _ _ _ => False) r M' res) : xV G p l e (xRm 0 (h_sz M' - z0) (h_sl M' - y0)) s m args below meth c z0 y0 (h_sz M') (h_sl M') 2 (MQ below (xQc G r M') args s (h_sz M' - z0) (h_sl M' - y0) (xFr G)) 57 [] [.inl si0] M := by
  unfold b162_57 at h
  obtain rfl := Option.some.inj h
  obtain ⟨rfl, rfl⟩ := Prod.mk.inj (show ((some (.inl si0) : Option aV), M) = (r, M') from hN)
  exact xv_ri E B.1 rfl B.2.1 (show decode prog_1_method_22_code 57 = .ok (.ireturn, 1) by decide +kernel) rfl rfl
theorem sb162_56 (E : xE G p (xRm 0 (h_sz M' - z0) (h_sl M' - y0)) s m args c prog_1_method_22_code "ZonedFabric" z0 y0 (h_sz M') (h_sl M') 2) (B : xB ym162 (some FieldType.int) meth)  (M : hM) {res : xRes} (h : b162_56  M = some res) (hN : xN (fun _ _ _ => False) r M' res) : xV G p l e (xRm 0 (h_sz M' - z0) (h_sl M' - y0)) s m args below meth c z0 y0 (h_sz M') (h_sl M') 2 (MQ below (xQc G r M') args s (h_sz M' - z0) (h_sl M' - y0) (xFr G)) 56 [] [] M := by
  unfold b162_56 at h
  refine xv_b E [.iconst (-1)] (pc' := 57) (lv' := []) (st' := [.inl (-1 : Int32)]) (by decide +kernel) rfl rfl ?_
  exact xv_w (sb162_57 E B (-1 : Int32) M h hN) rfl
theorem sb162_0 (E : xE G p (xRm 0 (h_sz M' - z0) (h_sl M' - y0)) s m args c prog_1_method_22_code "ZonedFabric" z0 y0 (h_sz M') (h_sl M') 2) (B : xB ym162 (some FieldType.int) meth) (a0 : Nat) (v1 : Int32) (M : hM) {res : xRes} (h : b162_0 a0 v1 M = some res) (hN : xN (fun _ _ _ => False) r M' res) : xV G p l e (xRm 0 (h_sz M' - z0) (h_sl M' - y0)) s m args below meth c z0 y0 (h_sz M') (h_sl M') 2 (MQ below (xQc G r M') args s (h_sz M' - z0) (h_sl M' - y0) (xFr G)) 0 [(0, .inr (.inr (some a0))), (1, .inl v1)] [] M := by
  unfold b162_0 at h
  refine xv_b E [.iload_n 1] (pc' := 1) (lv' := [(0, .inr (.inr (some a0))), (1, .inl v1)]) (st' := [.inl v1]) (by decide +kernel) rfl rfl ?_
  by_cases q19 : v1 = 0
  · rw [if_pos q19] at h
    refine xv_if_ne E 12 (show decode prog_1_method_22_code 1 = .ok (.ifCond .ne (11), 3) by decide +kernel) rfl (fun z => absurd q19 z) (fun _ => ?_)
    refine xv_b E [.aload_n 0] (pc' := 5) (lv' := [(0, .inr (.inr (some a0))), (1, .inl v1)]) (st' := [.inr (.inr (some a0))]) (by decide +kernel) rfl rfl ?_
    obtain ⟨o_15, h16, h⟩ := bd h
    refine xg_r E 11 0 h16 mw82 (show decode prog_1_method_22_code 5 = .ok (.getfield 29, 3) by decide +kernel) ?_
    obtain ⟨v_17, h18, h⟩ := bd h
    refine xg_i E 9 3 h18 mw770 (show decode prog_1_method_22_code 8 = .ok (.getfield 135, 3) by decide +kernel) ?_
    obtain rfl := Option.some.inj h
    obtain ⟨rfl, rfl⟩ := Prod.mk.inj (show ((some (.inl v_17) : Option aV), M) = (r, M') from hN)
    exact xv_ri E B.1 rfl B.2.1 (show decode prog_1_method_22_code 11 = .ok (.ireturn, 1) by decide +kernel) rfl rfl
  · rw [if_neg q19] at h
    refine xv_if_ne E 12 (show decode prog_1_method_22_code 1 = .ok (.ifCond .ne (11), 3) by decide +kernel) rfl (fun _ => ?_) (fun z => absurd z q19)
    refine xv_b E [.iload_n 1, .bipush 9] (pc' := 15) (lv' := [(0, .inr (.inr (some a0))), (1, .inl v1)]) (st' := [.inl (9 : Int32), .inl v1]) (by decide +kernel) rfl rfl ?_
    by_cases q14 : v1 = (9 : Int32)
    · rw [if_pos q14] at h
      refine xv_icmp_ne E 23 (show decode prog_1_method_22_code 15 = .ok (.if_icmp .ne (8), 3) by decide +kernel) rfl (fun z => absurd q14 z) (fun _ => ?_)
      refine xv_b E [.aload_n 0] (pc' := 19) (lv' := [(0, .inr (.inr (some a0))), (1, .inl v1)]) (st' := [.inr (.inr (some a0))]) (by decide +kernel) rfl rfl ?_
      obtain ⟨v_12, h13, h⟩ := bd h
      refine xg_i E 11 5 h13 mw138 (show decode prog_1_method_22_code 19 = .ok (.getfield 80, 3) by decide +kernel) ?_
      obtain rfl := Option.some.inj h
      obtain ⟨rfl, rfl⟩ := Prod.mk.inj (show ((some (.inl v_12) : Option aV), M) = (r, M') from hN)
      exact xv_ri E B.1 rfl B.2.1 (show decode prog_1_method_22_code 22 = .ok (.ireturn, 1) by decide +kernel) rfl rfl
    · rw [if_neg q14] at h
      refine xv_icmp_ne E 23 (show decode prog_1_method_22_code 15 = .ok (.if_icmp .ne (8), 3) by decide +kernel) rfl (fun _ => ?_) (fun z => absurd z q14)
      refine xv_b E [.iload_n 1, .bipush 10] (pc' := 26) (lv' := [(0, .inr (.inr (some a0))), (1, .inl v1)]) (st' := [.inl (10 : Int32), .inl v1]) (by decide +kernel) rfl rfl ?_
      by_cases q11 : v1 = (10 : Int32)
      · rw [if_pos q11] at h
        refine xv_icmp_ne E 34 (show decode prog_1_method_22_code 26 = .ok (.if_icmp .ne (8), 3) by decide +kernel) rfl (fun z => absurd q11 z) (fun _ => ?_)
        refine xv_b E [.aload_n 0] (pc' := 30) (lv' := [(0, .inr (.inr (some a0))), (1, .inl v1)]) (st' := [.inr (.inr (some a0))]) (by decide +kernel) rfl rfl ?_
        obtain ⟨v_9, h10, h⟩ := bd h
        refine xg_i E 11 7 h10 mw790 (show decode prog_1_method_22_code 30 = .ok (.getfield 243, 3) by decide +kernel) ?_
        obtain rfl := Option.some.inj h
        obtain ⟨rfl, rfl⟩ := Prod.mk.inj (show ((some (.inl v_9) : Option aV), M) = (r, M') from hN)
        exact xv_ri E B.1 rfl B.2.1 (show decode prog_1_method_22_code 33 = .ok (.ireturn, 1) by decide +kernel) rfl rfl
      · rw [if_neg q11] at h
        refine xv_icmp_ne E 34 (show decode prog_1_method_22_code 26 = .ok (.if_icmp .ne (8), 3) by decide +kernel) rfl (fun _ => ?_) (fun z => absurd z q11)
        refine xv_b E [.iload_n 1] (pc' := 35) (lv' := [(0, .inr (.inr (some a0))), (1, .inl v1)]) (st' := [.inl v1]) (by decide +kernel) rfl rfl ?_
        by_cases q8 : v1 ≤ 0
        · rw [if_pos q8] at h
          refine xv_if_le E 56 (show decode prog_1_method_22_code 35 = .ok (.ifCond .le (21), 3) by decide +kernel) rfl (fun _ => ?_) (fun z => absurd q8 z)
          exact xv_w (sb162_56 E B  M h hN) rfl
        · rw [if_neg q8] at h
          refine xv_if_le E 56 (show decode prog_1_method_22_code 35 = .ok (.ifCond .le (21), 3) by decide +kernel) rfl (fun z => absurd z q8) (fun _ => ?_)
          refine xv_b E [.iload_n 1, .bipush 9] (pc' := 41) (lv' := [(0, .inr (.inr (some a0))), (1, .inl v1)]) (st' := [.inl (9 : Int32), .inl v1]) (by decide +kernel) rfl rfl ?_
          by_cases q7 : (9 : Int32) ≤ v1
          · rw [if_pos q7] at h
            refine xv_icmp_ge E 56 (show decode prog_1_method_22_code 41 = .ok (.if_icmp .ge (15), 3) by decide +kernel) rfl (fun _ => ?_) (fun z => absurd q7 z)
            exact xv_w (sb162_56 E B  M h hN) rfl
          · rw [if_neg q7] at h
            refine xv_icmp_ge E 56 (show decode prog_1_method_22_code 41 = .ok (.if_icmp .ge (15), 3) by decide +kernel) rfl (fun z => absurd z q7) (fun _ => ?_)
            refine xv_b E [.aload_n 0] (pc' := 45) (lv' := [(0, .inr (.inr (some a0))), (1, .inl v1)]) (st' := [.inr (.inr (some a0))]) (by decide +kernel) rfl rfl ?_
            obtain ⟨o_1, h2, h⟩ := bd h
            refine xg_r E 11 0 h2 mw82 (show decode prog_1_method_22_code 45 = .ok (.getfield 29, 3) by decide +kernel) ?_
            obtain ⟨o_3, h4, h⟩ := bd h
            refine xg_r E 9 4 h4 mw861 (show decode prog_1_method_22_code 48 = .ok (.getfield 246, 3) by decide +kernel) ?_
            refine xv_b E [.iload_n 1] (pc' := 52) (lv' := [(0, .inr (.inr (some a0))), (1, .inl v1)]) (st' := [.inl v1, .inr (.inr o_3)]) (by decide +kernel) rfl rfl ?_
            obtain ⟨v_5, h6, h⟩ := bd h
            refine xa_i E h6 (show decode prog_1_method_22_code 52 = .ok (.iaload, 1) by decide +kernel) ?_
            refine xv_goto E 57 (show decode prog_1_method_22_code 53 = .ok (.goto (4), 3) by decide +kernel) rfl ?_
            exact xv_w (sb162_57 E B v_5 M h hN) rfl
end
theorem t162 (G : gX) (l : Launch) {as : List aV} {M : hM} {r : Option aV} {M' : hM} (h : f162 as M = some (r, M')) : xM G l ym162 prog_1_method_22_code 2 (some FieldType.int) 0 as M r M' := by
  unfold f162 at h
  split at h
  · have h := x_out_ok h
    refine xM_of (by decide) (Nat.le_of_ble_eq_true rfl) (lb162_0 G l _ _ M h) ?_
    intro p e s m args below meth c E B
    exact sb162_0 E B _ _ M h rfl
  · cases h
/-! ZF.broken(I)I -/
def ym163 : MethodName := ⟨"ZonedFabric", "broken", "(I)I"⟩
theorem cd163 : xCd ym163 prog_1_method_23_code 2 (some FieldType.int) 1 := ⟨mw862, mw71, by decide, by decide, by decide +kernel⟩
def b163_0 (a0 : Nat) (v1 : Int32) (M : hM) : Option xRes :=
  some (.inl (some (.inl (0 : Int32)), M))
def f163 (as : List aV) (M : hM) : xO := match as with
  | [.inr (.inr (some a0)), .inl v1] => x_out (b163_0 a0 v1 M)
  | _ => none
theorem lb163_0 (G : gX) (l : Launch) (a0 : Nat) (v1 : Int32) (M : hM) {res : xRes} (h : b163_0 a0 v1 M = some res) : h_sz M ≤ r_sz res ∧ h_sl M ≤ r_sl res := by
  unfold b163_0 at h
  obtain rfl := Option.some.inj h
  show h_sz M ≤ h_sz M ∧ h_sl M ≤ h_sl M
  omega
section
variable {p : Program} {l : Launch} {e : Env} {s : State} {m : MethodId} {args : Array Value} {below : List Frame} {meth : Method} {c : Code} {G : gX} {z0 y0 : Nat} {r : Option aV} {M' : hM}
theorem sb163_0 (E : xE G p (xRm 0 (h_sz M' - z0) (h_sl M' - y0)) s m args c prog_1_method_23_code "ZonedFabric" z0 y0 (h_sz M') (h_sl M') 2) (B : xB ym163 (some FieldType.int) meth) (a0 : Nat) (v1 : Int32) (M : hM) {res : xRes} (h : b163_0 a0 v1 M = some res) (hN : xN (fun _ _ _ => False) r M' res) : xV G p l e (xRm 0 (h_sz M' - z0) (h_sl M' - y0)) s m args below meth c z0 y0 (h_sz M') (h_sl M') 2 (MQ below (xQc G r M') args s (h_sz M' - z0) (h_sl M' - y0) (xFr G)) 0 [(0, .inr (.inr (some a0))), (1, .inl v1)] [] M := by
  unfold b163_0 at h
  refine xv_b E [.iconst 0] (pc' := 1) (lv' := [(0, .inr (.inr (some a0))), (1, .inl v1)]) (st' := [.inl (0 : Int32)]) (by decide +kernel) rfl rfl ?_
  obtain rfl := Option.some.inj h
  obtain ⟨rfl, rfl⟩ := Prod.mk.inj (show ((some (.inl (0 : Int32)) : Option aV), M) = (r, M') from hN)
  exact xv_ri E B.1 rfl B.2.1 (show decode prog_1_method_23_code 1 = .ok (.ireturn, 1) by decide +kernel) rfl rfl
end
theorem t163 (G : gX) (l : Launch) {as : List aV} {M : hM} {r : Option aV} {M' : hM} (h : f163 as M = some (r, M')) : xM G l ym163 prog_1_method_23_code 2 (some FieldType.int) 0 as M r M' := by
  unfold f163 at h
  split at h
  · have h := x_out_ok h
    refine xM_of (by decide) (Nat.le_of_ble_eq_true rfl) (lb163_0 G l _ _ M h) ?_
    intro p e s m args below meth c E B
    exact sb163_0 E B _ _ M h rfl
  · cases h
