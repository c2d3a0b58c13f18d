theorem mw1242 : Cond.code ⟨"ZonedFabricModel", "broken", "(I)I"⟩ prog_14_method_94_code 4 (some FieldType.int) ∈ xTs := xTs_in (tk8 (List.mem_of_getElem? (i := 46) rfl)) rfl
/-! ZFModel.broken(I)I -/
def ym257 : MethodName := ⟨"ZonedFabricModel", "broken", "(I)I"⟩
theorem cd257 : xCd ym257 prog_14_method_94_code 4 (some FieldType.int) 1 := ⟨mw1242, mw864, by decide, by decide, by decide +kernel⟩
def b257_24 (si0 : Int32) (M : hM) : Option xRes :=
  some (.inl (some (.inl si0), M))
def b257_14 (a0 : Nat) (v1 : Int32) (M : hM) : Option xRes :=
  Option.bind (g_r M 12 5 (some a0)) fun o_4 =>
  Option.bind (al_i M 20 o_4 v1) fun v_6 =>
  b257_24 v_6 M
def b257_0 (a0 : Nat) (v1 : Int32) (M : hM) : Option xRes :=
  if v1 = (2 : Int32) then
    (some (.inr (29, [.inr (.inr (some a0)), .inl (0 : Int32), .inl (0 : Int32)], M)))
  else
    (if v1 = 0 then
      (b257_14 a0 v1 M)
    else
      (if v1 = (1 : Int32) then
        (b257_14 a0 v1 M)
      else
        (b257_24 (0 : Int32) M)))
def b257_67 (a0 : Nat) (v2 : Int32) (v3 : Int32) (M : hM) : Option xRes :=
  some (.inr (29, [.inr (.inr (some a0)), .inl v2, .inl (v3 + (1 : Int32))], M))
def b257_29 (a0 : Nat) (v2 : Int32) (v3 : Int32) (M : hM) : Option xRes :=
  Option.bind (g_i M 12 47 (some a0)) fun v_8 =>
  if v_8 ≤ v3 then
    (some (.inl (some (.inl v2), M)))
  else
    (Option.bind (g_r M 12 59 (some a0)) fun o_10 =>
    Option.bind (al_i M 20 o_10 v3) fun v_12 =>
    if v_12 = (-1 : Int32) then
      (Option.bind (g_i M 12 3 (some a0)) fun v_14 =>
      Option.bind (g_r M 12 58 (some a0)) fun o_16 =>
      Option.bind (al_i M 20 o_16 v3) fun v_18 =>
      if (v_14 - v_18) < (181 : Int32) then
        (b257_67 a0 v2 v3 M)
      else
        (b257_67 a0 (v2 + (1 : Int32)) v3 M))
    else
      (b257_67 a0 v2 v3 M))
def k257 (h : Nat) (as : List aV) (M : hM) : Option xRes :=
  if h = 29 then (match as with | [.inr (.inr (some a0)), .inl v2, .inl v3] => b257_29 a0 v2 v3 M | _ => none) else
  none
def f257 (as : List aV) (M : hM) : xO := match as with
  | [.inr (.inr (some a0)), .inl v1] => x_go k257 (b257_0 a0 v1 M)
  | _ => none
theorem lb257_24 (G : gX) (l : Launch) (si0 : Int32) (M : hM) {res : xRes} (h : b257_24 si0 M = some res) : h_sz M ≤ r_sz res ∧ h_sl M ≤ r_sl res := by
  unfold b257_24 at h
  obtain rfl := Option.some.inj h
  show h_sz M ≤ h_sz M ∧ h_sl M ≤ h_sl M
  omega
theorem lb257_14 (G : gX) (l : Launch) (a0 : Nat) (v1 : Int32) (M : hM) {res : xRes} (h : b257_14 a0 v1 M = some res) : h_sz M ≤ r_sz res ∧ h_sl M ≤ r_sl res := by
  unfold b257_14 at h
  obtain ⟨o_4, h5, h⟩ := bd h
  obtain ⟨v_6, h7, h⟩ := bd h
  have e := lb257_24 G l v_6 M h
  omega
theorem lb257_0 (G : gX) (l : Launch) (a0 : Nat) (v1 : Int32) (M : hM) {res : xRes} (h : b257_0 a0 v1 M = some res) : h_sz M ≤ r_sz res ∧ h_sl M ≤ r_sl res := by
  unfold b257_0 at h
  by_cases q3 : v1 = (2 : Int32)
  · rw [if_pos q3] at h
    obtain rfl := Option.some.inj h
    show h_sz M ≤ h_sz M ∧ h_sl M ≤ h_sl M
    omega
  · rw [if_neg q3] at h
    by_cases q2 : v1 = 0
    · rw [if_pos q2] at h
      have e := lb257_14 G l a0 v1 M h
      omega
    · rw [if_neg q2] at h
      by_cases q1 : v1 = (1 : Int32)
      · rw [if_pos q1] at h
        have e := lb257_14 G l a0 v1 M h
        omega
      · rw [if_neg q1] at h
        have e := lb257_24 G l (0 : Int32) M h
        omega
theorem lb257_67 (G : gX) (l : Launch) (a0 : Nat) (v2 : Int32) (v3 : Int32) (M : hM) {res : xRes} (h : b257_67 a0 v2 v3 M = some res) : h_sz M ≤ r_sz res ∧ h_sl M ≤ r_sl res := by
  unfold b257_67 at h
  obtain rfl := Option.some.inj h
  show h_sz M ≤ h_sz M ∧ h_sl M ≤ h_sl M
  omega
theorem lb257_29 (G : gX) (l : Launch) (a0 : Nat) (v2 : Int32) (v3 : Int32) (M : hM) {res : xRes} (h : b257_29 a0 v2 v3 M = some res) : h_sz M ≤ r_sz res ∧ h_sl M ≤ r_sl res := by
  unfold b257_29 at h
  obtain ⟨v_8, h9, h⟩ := bd h
  by_cases q22 : v_8 ≤ v3
  · rw [if_pos q22] at h
    obtain rfl := Option.some.inj h
    show h_sz M ≤ h_sz M ∧ h_sl M ≤ h_sl M
    omega
  · rw [if_neg q22] at h
    obtain ⟨o_10, h11, h⟩ := bd h
    obtain ⟨v_12, h13, h⟩ := bd h
    by_cases q21 : v_12 = (-1 : Int32)
    · rw [if_pos q21] at h
      obtain ⟨v_14, h15, h⟩ := bd h
      obtain ⟨o_16, h17, h⟩ := bd h
      obtain ⟨v_18, h19, h⟩ := bd h
      by_cases q20 : (v_14 - v_18) < (181 : Int32)
      · rw [if_pos q20] at h
        have e := lb257_67 G l a0 v2 v3 M h
        omega
      · rw [if_neg q20] at h
        have e := lb257_67 G l a0 (v2 + (1 : Int32)) v3 M h
        omega
    · rw [if_neg q21] at h
      have e := lb257_67 G l a0 v2 v3 M h
      omega
section
variable {p : Program} {l : Launch} {e : Env} {s : State} {m : MethodId} {args : Array Value} {below : List Frame} {meth : Method} {c : Code} {G : gX} {z0 y0 : Nat} {r : Option aV} {M' : hM}
def pg257 (p : Program) (l : Launch) (e : Env) (s : State) (m : MethodId) (args : Array Value) (below : List Frame) (meth : Method) (c : Code) (G : gX) (z0 y0 : Nat) (r : Option aV) (M' : hM) (h : Nat) (as : List aV) (M : hM) : Prop :=
  if h = 29 then (match as with | [.inr (.inr (some a0)), .inl v2, .inl v3] => xV G p l e (xRm 0 (h_sz M' - z0) (h_sl M' - y0)) s m args below meth c z0 y0 (h_sz M') (h_sl M') 4 (MQ below (xQc G r M') args s (h_sz M' - z0) (h_sl M' - y0) (xFr G)) 29 [(0, .inr (.inr (some a0))), (2, .inl v2), (3, .inl v3)] [] M | _ => False) else
  False
theorem sb257_24 (E : xE G p (xRm 0 (h_sz M' - z0) (h_sl M' - y0)) s m args c prog_14_method_94_code "ZonedFabricModel" z0 y0 (h_sz M') (h_sl M') 4) (B : xB ym257 (some FieldType.int) meth) (si0 : Int32) (M : hM) {res : xRes} (h : b257_24 si0 M = some res) (hN : xN (pg257 p l e s m args below meth c G z0 y0 r M') r M' res) : xV G p l e (xRm 0 (h_sz M' - z0) (h_sl M' - y0)) s m args below meth c z0 y0 (h_sz M') (h_sl M') 4 (MQ below (xQc G r M') args s (h_sz M' - z0) (h_sl M' - y0) (xFr G)) 24 [] [.inl si0] M := by
  unfold b257_24 at h
  obtain rfl := Option.some.inj h
  obtain ⟨rfl, rfl⟩ := Prod.mk.inj (show ((some (.inl si0) : Option aV), M) = (r, M') from hN)
  exact xv_ri E B.1 rfl B.2.1 (show decode prog_14_method_94_code 24 = .ok (.ireturn, 1) by decide +kernel) rfl rfl
theorem sb257_14 (E : xE G p (xRm 0 (h_sz M' - z0) (h_sl M' - y0)) s m args c prog_14_method_94_code "ZonedFabricModel" z0 y0 (h_sz M') (h_sl M') 4) (B : xB ym257 (some FieldType.int) meth) (a0 : Nat) (v1 : Int32) (M : hM) {res : xRes} (h : b257_14 a0 v1 M = some res) (hN : xN (pg257 p l e s m args below meth c G z0 y0 r M') r M' res) : xV G p l e (xRm 0 (h_sz M' - z0) (h_sl M' - y0)) s m args below meth c z0 y0 (h_sz M') (h_sl M') 4 (MQ below (xQc G r M') args s (h_sz M' - z0) (h_sl M' - y0) (xFr G)) 14 [(0, .inr (.inr (some a0))), (1, .inl v1)] [] M := by
  unfold b257_14 at h
  refine xv_b E [.aload_n 0] (pc' := 15) (lv' := [(0, .inr (.inr (some a0))), (1, .inl v1)]) (st' := [.inr (.inr (some a0))]) (by decide +kernel) rfl rfl ?_
  obtain ⟨o_4, h5, h⟩ := bd h
  refine xg_r E 12 5 h5 mw866 (show decode prog_14_method_94_code 15 = .ok (.getfield 13, 3) by decide +kernel) ?_
  refine xv_b E [.iload_n 1] (pc' := 19) (lv' := [(0, .inr (.inr (some a0))), (1, .inl v1)]) (st' := [.inl v1, .inr (.inr o_4)]) (by decide +kernel) rfl rfl ?_
  obtain ⟨v_6, h7, h⟩ := bd h
  refine xa_i E h7 (show decode prog_14_method_94_code 19 = .ok (.iaload, 1) by decide +kernel) ?_
  refine xv_goto E 24 (show decode prog_14_method_94_code 20 = .ok (.goto (4), 3) by decide +kernel) rfl ?_
  exact xv_w (sb257_24 E B v_6 M h hN) rfl
theorem sb257_0 (E : xE G p (xRm 0 (h_sz M' - z0) (h_sl M' - y0)) s m args c prog_14_method_94_code "ZonedFabricModel" z0 y0 (h_sz M') (h_sl M') 4) (B : xB ym257 (some FieldType.int) meth) (a0 : Nat) (v1 : Int32) (M : hM) {res : xRes} (h : b257_0 a0 v1 M = some res) (hN : xN (pg257 p l e s m args below meth c G z0 y0 r M') r M' res) : xV G p l e (xRm 0 (h_sz M' - z0) (h_sl M' - y0)) s m args below meth c z0 y0 (h_sz M') (h_sl M') 4 (MQ below (xQc G r M') args s (h_sz M' - z0) (h_sl M' - y0) (xFr G)) 0 [(0, .inr (.inr (some a0))), (1, .inl v1)] [] M := by
  unfold b257_0 at h
  refine xv_b E [.iload_n 1, .iconst 2] (pc' := 2) (lv' := [(0, .inr (.inr (some a0))), (1, .inl v1)]) (st' := [.inl (2 : Int32), .inl v1]) (by decide +kernel) rfl rfl ?_
  by_cases q3 : v1 = (2 : Int32)
  · rw [if_pos q3] at h
    refine xv_icmp_eq E 25 (show decode prog_14_method_94_code 2 = .ok (.if_icmp .eq (23), 3) by decide +kernel) rfl (fun _ => ?_) (fun z => absurd q3 z)
    refine xv_b E [.iconst 0, .istore_n 2, .iconst 0, .istore_n 3] (pc' := 29) (lv' := [(3, .inl (0 : Int32)), (2, .inl (0 : Int32)), (0, .inr (.inr (some a0))), (1, .inl v1)]) (st' := []) (by decide +kernel) rfl rfl ?_
    obtain rfl := Option.some.inj h
    exact xv_w hN rfl
  · rw [if_neg q3] at h
    refine xv_icmp_eq E 25 (show decode prog_14_method_94_code 2 = .ok (.if_icmp .eq (23), 3) by decide +kernel) rfl (fun z => absurd z q3) (fun _ => ?_)
    refine xv_b E [.iload_n 1] (pc' := 6) (lv' := [(0, .inr (.inr (some a0))), (1, .inl v1)]) (st' := [.inl v1]) (by decide +kernel) rfl rfl ?_
    by_cases q2 : v1 = 0
    · rw [if_pos q2] at h
      refine xv_if_eq E 14 (show decode prog_14_method_94_code 6 = .ok (.ifCond .eq (8), 3) by decide +kernel) rfl (fun _ => ?_) (fun z => absurd q2 z)
      exact xv_w (sb257_14 E B a0 v1 M h hN) rfl
    · rw [if_neg q2] at h
      refine xv_if_eq E 14 (show decode prog_14_method_94_code 6 = .ok (.ifCond .eq (8), 3) by decide +kernel) rfl (fun z => absurd z q2) (fun _ => ?_)
      refine xv_b E [.iload_n 1, .iconst 1] (pc' := 11) (lv' := [(0, .inr (.inr (some a0))), (1, .inl v1)]) (st' := [.inl (1 : Int32), .inl v1]) (by decide +kernel) rfl rfl ?_
      by_cases q1 : v1 = (1 : Int32)
      · rw [if_pos q1] at h
        refine xv_icmp_ne E 23 (show decode prog_14_method_94_code 11 = .ok (.if_icmp .ne (12), 3) by decide +kernel) rfl (fun z => absurd q1 z) (fun _ => ?_)
        exact xv_w (sb257_14 E B a0 v1 M h hN) rfl
      · rw [if_neg q1] at h
        refine xv_icmp_ne E 23 (show decode prog_14_method_94_code 11 = .ok (.if_icmp .ne (12), 3) by decide +kernel) rfl (fun _ => ?_) (fun z => absurd z q1)
        refine xv_b E [.iconst 0] (pc' := 24) (lv' := [(0, .inr (.inr (some a0))), (1, .inl v1)]) (st' := [.inl (0 : Int32)]) (by decide +kernel) rfl rfl ?_
        exact xv_w (sb257_24 E B (0 : Int32) M h hN) rfl
theorem sb257_67 (E : xE G p (xRm 0 (h_sz M' - z0) (h_sl M' - y0)) s m args c prog_14_method_94_code "ZonedFabricModel" z0 y0 (h_sz M') (h_sl M') 4) (B : xB ym257 (some FieldType.int) meth) (a0 : Nat) (v2 : Int32) (v3 : Int32) (M : hM) {res : xRes} (h : b257_67 a0 v2 v3 M = some res) (hN : xN (pg257 p l e s m args below meth c G z0 y0 r M') r M' res) : xV G p l e (xRm 0 (h_sz M' - z0) (h_sl M' - y0)) s m args below meth c z0 y0 (h_sz M') (h_sl M') 4 (MQ below (xQc G r M') args s (h_sz M' - z0) (h_sl M' - y0) (xFr G)) 67 [(0, .inr (.inr (some a0))), (2, .inl v2), (3, .inl v3)] [] M := by
  unfold b257_67 at h
  refine xv_b E [.iinc 3 1] (pc' := 70) (lv' := [(3, .inl (v3 + (1 : Int32))), (0, .inr (.inr (some a0))), (2, .inl v2)]) (st' := []) (by decide +kernel) rfl rfl ?_
  refine xv_goto E 29 (show decode prog_14_method_94_code 70 = .ok (.goto (-41), 3) by decide +kernel) rfl ?_
  obtain rfl := Option.some.inj h
  exact xv_w hN rfl
theorem sb257_29 (E : xE G p (xRm 0 (h_sz M' - z0) (h_sl M' - y0)) s m args c prog_14_method_94_code "ZonedFabricModel" z0 y0 (h_sz M') (h_sl M') 4) (B : xB ym257 (some FieldType.int) meth) (a0 : Nat) (v2 : Int32) (v3 : Int32) (M : hM) {res : xRes} (h : b257_29 a0 v2 v3 M = some res) (hN : xN (pg257 p l e s m args below meth c G z0 y0 r M') r M' res) : xV G p l e (xRm 0 (h_sz M' - z0) (h_sl M' - y0)) s m args below meth c z0 y0 (h_sz M') (h_sl M') 4 (MQ below (xQc G r M') args s (h_sz M' - z0) (h_sl M' - y0) (xFr G)) 29 [(0, .inr (.inr (some a0))), (2, .inl v2), (3, .inl v3)] [] M := by
  unfold b257_29 at h
  refine xv_b E [.iload_n 3, .aload_n 0] (pc' := 31) (lv' := [(0, .inr (.inr (some a0))), (2, .inl v2), (3, .inl v3)]) (st' := [.inr (.inr (some a0)), .inl v3]) (by decide +kernel) rfl rfl ?_
  obtain ⟨v_8, h9, h⟩ := bd h
  refine xg_i E 12 47 h9 mw1061 (show decode prog_14_method_94_code 31 = .ok (.getfield 364, 3) by decide +kernel) ?_
  by_cases q22 : v_8 ≤ v3
  · rw [if_pos q22] at h
    refine xv_icmp_ge E 73 (show decode prog_14_method_94_code 34 = .ok (.if_icmp .ge (39), 3) by decide +kernel) rfl (fun _ => ?_) (fun z => absurd q22 z)
    refine xv_b E [.iload_n 2] (pc' := 74) (lv' := [(0, .inr (.inr (some a0))), (2, .inl v2), (3, .inl v3)]) (st' := [.inl v2]) (by decide +kernel) rfl rfl ?_
    obtain rfl := Option.some.inj h
    obtain ⟨rfl, rfl⟩ := Prod.mk.inj (show ((some (.inl v2) : Option aV), M) = (r, M') from hN)
    exact xv_ri E B.1 rfl B.2.1 (show decode prog_14_method_94_code 74 = .ok (.ireturn, 1) by decide +kernel) rfl rfl
  · rw [if_neg q22] at h
    refine xv_icmp_ge E 73 (show decode prog_14_method_94_code 34 = .ok (.if_icmp .ge (39), 3) by decide +kernel) rfl (fun z => absurd z q22) (fun _ => ?_)
    refine xv_b E [.aload_n 0] (pc' := 38) (lv' := [(0, .inr (.inr (some a0))), (2, .inl v2), (3, .inl v3)]) (st' := [.inr (.inr (some a0))]) (by decide +kernel) rfl rfl ?_
    obtain ⟨o_10, h11, h⟩ := bd h
    refine xg_r E 12 59 h11 mw917 (show decode prog_14_method_94_code 38 = .ok (.getfield 167, 3) by decide +kernel) ?_
    refine xv_b E [.iload_n 3] (pc' := 42) (lv' := [(0, .inr (.inr (some a0))), (2, .inl v2), (3, .inl v3)]) (st' := [.inl v3, .inr (.inr o_10)]) (by decide +kernel) rfl rfl ?_
    obtain ⟨v_12, h13, h⟩ := bd h
    refine xa_i E h13 (show decode prog_14_method_94_code 42 = .ok (.iaload, 1) by decide +kernel) ?_
    refine xv_b E [.iconst (-1)] (pc' := 44) (lv' := [(0, .inr (.inr (some a0))), (2, .inl v2), (3, .inl v3)]) (st' := [.inl (-1 : Int32), .inl v_12]) (by decide +kernel) rfl rfl ?_
    by_cases q21 : v_12 = (-1 : Int32)
    · rw [if_pos q21] at h
      refine xv_icmp_ne E 67 (show decode prog_14_method_94_code 44 = .ok (.if_icmp .ne (23), 3) by decide +kernel) rfl (fun z => absurd q21 z) (fun _ => ?_)
      refine xv_b E [.aload_n 0] (pc' := 48) (lv' := [(0, .inr (.inr (some a0))), (2, .inl v2), (3, .inl v3)]) (st' := [.inr (.inr (some a0))]) (by decide +kernel) rfl rfl ?_
      obtain ⟨v_14, h15, h⟩ := bd h
      refine xg_i E 12 3 h15 mw1047 (show decode prog_14_method_94_code 48 = .ok (.getfield 276, 3) by decide +kernel) ?_
      refine xv_b E [.aload_n 0] (pc' := 52) (lv' := [(0, .inr (.inr (some a0))), (2, .inl v2), (3, .inl v3)]) (st' := [.inr (.inr (some a0)), .inl v_14]) (by decide +kernel) rfl rfl ?_
      obtain ⟨o_16, h17, h⟩ := bd h
      refine xg_r E 12 58 h17 mw916 (show decode prog_14_method_94_code 52 = .ok (.getfield 164, 3) by decide +kernel) ?_
      refine xv_b E [.iload_n 3] (pc' := 56) (lv' := [(0, .inr (.inr (some a0))), (2, .inl v2), (3, .inl v3)]) (st' := [.inl v3, .inr (.inr o_16), .inl v_14]) (by decide +kernel) rfl rfl ?_
      obtain ⟨v_18, h19, h⟩ := bd h
      refine xa_i E h19 (show decode prog_14_method_94_code 56 = .ok (.iaload, 1) by decide +kernel) ?_
      refine xv_b E [.isub, .sipush 181] (pc' := 61) (lv' := [(0, .inr (.inr (some a0))), (2, .inl v2), (3, .inl v3)]) (st' := [.inl (181 : Int32), .inl (v_14 - v_18)]) (by decide +kernel) rfl rfl ?_
      by_cases q20 : (v_14 - v_18) < (181 : Int32)
      · rw [if_pos q20] at h
        refine xv_icmp_lt E 67 (show decode prog_14_method_94_code 61 = .ok (.if_icmp .lt (6), 3) by decide +kernel) rfl (fun _ => ?_) (fun z => absurd q20 z)
        exact xv_w (sb257_67 E B a0 v2 v3 M h hN) rfl
      · rw [if_neg q20] at h
        refine xv_icmp_lt E 67 (show decode prog_14_method_94_code 61 = .ok (.if_icmp .lt (6), 3) by decide +kernel) rfl (fun z => absurd z q20) (fun _ => ?_)
        refine xv_b E [.iinc 2 1] (pc' := 67) (lv' := [(2, .inl (v2 + (1 : Int32))), (0, .inr (.inr (some a0))), (3, .inl v3)]) (st' := []) (by decide +kernel) rfl rfl ?_
        exact xv_w (sb257_67 E B a0 (v2 + (1 : Int32)) v3 M h hN) rfl
    · rw [if_neg q21] at h
      refine xv_icmp_ne E 67 (show decode prog_14_method_94_code 44 = .ok (.if_icmp .ne (23), 3) by decide +kernel) rfl (fun _ => ?_) (fun z => absurd z q21)
      exact xv_w (sb257_67 E B a0 v2 v3 M h hN) rfl
end
theorem t257 (G : gX) (l : Launch) {as : List aV} {M : hM} {r : Option aV} {M' : hM} (h : f257 as M = some (r, M')) : xM G l ym257 prog_14_method_94_code 4 (some FieldType.int) 0 as M r M' := by
  unfold f257 at h
  split at h
  · have hle : ∀ h as M res, k257 h as M = some res → h_sz M ≤ r_sz res ∧ h_sl M ≤ r_sl res := by
      intro h as M res hb
      unfold k257 at hb
      by_cases e0 : h = 29
      · rw [if_pos e0] at hb
        split at hb
        · exact lb257_29 G l _ _ _ M hb
        · cases hb
      · rw [if_neg e0] at hb
        cases hb
    obtain ⟨res, hx, hres⟩ := x_go_ok h
    refine xM_of (by decide) (Nat.le_of_ble_eq_true rfl) ?_ ?_
    · have e1 := lb257_0 G l _ _ M hx
      have e2 := x_go_le hle hres
      omega
    · intro p e s m args below meth c E B
      refine sb257_0 E B _ _ M hx (hres _ ?_)
      intro h as M res hb hN
      unfold k257 at hb
      unfold pg257
      by_cases e0 : h = 29
      · rw [if_pos e0] at hb ⊢
        split at hb
        · exact sb257_29 E B _ _ _ M hb hN
        · cases hb
      · rw [if_neg e0] at hb ⊢
        cases hb
  · cases h
