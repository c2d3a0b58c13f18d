theorem mw958 : Cond.code ⟨"ZonedFabricModel", "nodeAt", "(I)I"⟩ prog_14_method_16_code 2 (some FieldType.int) ∈ xTs := xTs_in (tk7 (List.mem_of_getElem? (i := 58) rfl)) rfl
theorem mw959 : Cond.methodLink "ZonedFabricModel" 209 ⟨"ZonedFabricModel", "other", "(I)I"⟩ ∈ xTs := xTs_in (tk6 (List.mem_of_getElem? (i := 215) (by decide +kernel))) rfl
theorem mw960 : Cond.instanceMethod ⟨"ZonedFabricModel", "other", "(I)I"⟩ ∈ xTs := xTs_in (tk6 (List.mem_of_getElem? (i := 217) (by decide +kernel))) rfl
theorem mw961 : Cond.selects "ZonedFabricModel" ⟨"ZonedFabricModel", "other", "(I)I"⟩ ⟨"ZonedFabricModel", "other", "(I)I"⟩ ∈ xTs := xTs_in (List.mem_append_left _ (List.mem_of_getElem? (i := 66) (by decide +kernel))) rfl
theorem mw962 : Cond.code ⟨"ZonedFabricModel", "credits", "(I)I"⟩ prog_14_method_17_code 3 (some FieldType.int) ∈ xTs := xTs_in (tk7 (List.mem_of_getElem? (i := 91) rfl)) rfl
theorem mw963 : Cond.methodLink "ZonedFabricModel" 213 ⟨"ZonedFabricModel", "isUp", "(I)Z"⟩ ∈ xTs := xTs_in (tk7 (List.mem_of_getElem? (i := 51) (by decide +kernel))) rfl
theorem mw964 : Cond.instanceMethod ⟨"ZonedFabricModel", "isUp", "(I)Z"⟩ ∈ xTs := xTs_in (tk7 (List.mem_of_getElem? (i := 53) (by decide +kernel))) rfl
theorem mw965 : Cond.selects "ZonedFabricModel" ⟨"ZonedFabricModel", "isUp", "(I)Z"⟩ ⟨"ZonedFabricModel", "isUp", "(I)Z"⟩ ∈ xTs := xTs_in (List.mem_append_left _ (List.mem_of_getElem? (i := 84) (by decide +kernel))) rfl
theorem mw966 : Cond.code ⟨"ZonedFabricModel", "can", "(I)Z"⟩ prog_14_method_18_code 2 (some FieldType.boolean) ∈ xTs := xTs_in (tk7 (List.mem_of_getElem? (i := 87) rfl)) rfl
theorem mw967 : Cond.methodLink "ZonedFabricModel" 217 ⟨"ZonedFabricModel", "credits", "(I)I"⟩ ∈ xTs := xTs_in (tk7 (List.mem_of_getElem? (i := 88) (by decide +kernel))) rfl
theorem mw968 : Cond.instanceMethod ⟨"ZonedFabricModel", "credits", "(I)I"⟩ ∈ xTs := xTs_in (tk7 (List.mem_of_getElem? (i := 90) (by decide +kernel))) rfl
theorem mw969 : Cond.selects "ZonedFabricModel" ⟨"ZonedFabricModel", "credits", "(I)I"⟩ ⟨"ZonedFabricModel", "credits", "(I)I"⟩ ∈ xTs := xTs_in (List.mem_append_left _ (List.mem_of_getElem? (i := 93) (by decide +kernel))) rfl
theorem mw970 : Cond.code ⟨"ZonedFabricModel", "sends", "(II)V"⟩ prog_14_method_19_code 3 none ∈ xTs := xTs_in (tk7 (List.mem_of_getElem? (i := 95) rfl)) rfl
theorem mw971 : Cond.code ⟨"ZonedFabricModel", "queues", "(II)V"⟩ prog_14_method_20_code 3 none ∈ xTs := xTs_in (tk7 (List.mem_of_getElem? (i := 37) rfl)) rfl
theorem mw972 : Cond.methodLink "ZonedFabricModel" 220 ⟨"ZonedFabricModel", "closes", "(I)V"⟩ ∈ xTs := xTs_in (tk7 (List.mem_of_getElem? (i := 38) (by decide +kernel))) rfl
theorem mw973 : Cond.instanceMethod ⟨"ZonedFabricModel", "closes", "(I)V"⟩ ∈ xTs := xTs_in (tk7 (List.mem_of_getElem? (i := 40) (by decide +kernel))) rfl
theorem mw974 : Cond.selects "ZonedFabricModel" ⟨"ZonedFabricModel", "closes", "(I)V"⟩ ⟨"ZonedFabricModel", "closes", "(I)V"⟩ ∈ xTs := xTs_in (List.mem_append_left _ (List.mem_of_getElem? (i := 81) (by decide +kernel))) rfl
theorem mw975 : Cond.methodLink "ZonedFabricModel" 224 ⟨"ZonedFabricModel", "drops", "(I)V"⟩ ∈ xTs := xTs_in (tk6 (List.mem_of_getElem? (i := 167) (by decide +kernel))) rfl
theorem mw976 : Cond.instanceMethod ⟨"ZonedFabricModel", "drops", "(I)V"⟩ ∈ xTs := xTs_in (tk6 (List.mem_of_getElem? (i := 169) (by decide +kernel))) rfl
theorem mw977 : Cond.selects "ZonedFabricModel" ⟨"ZonedFabricModel", "drops", "(I)V"⟩ ⟨"ZonedFabricModel", "drops", "(I)V"⟩ ∈ xTs := xTs_in (List.mem_append_left _ (List.mem_of_getElem? (i := 61) (by decide +kernel))) rfl
theorem mw978 : Cond.code ⟨"ZonedFabricModel", "sendsQueued", "(I)V"⟩ prog_14_method_21_code 3 none ∈ xTs := xTs_in (tk7 (List.mem_of_getElem? (i := 83) rfl)) rfl
theorem mw979 : Cond.methodLink "ZonedFabricModel" 227 ⟨"ZonedFabricModel", "can", "(I)Z"⟩ ∈ xTs := xTs_in (tk7 (List.mem_of_getElem? (i := 84) (by decide +kernel))) rfl
theorem mw980 : Cond.instanceMethod ⟨"ZonedFabricModel", "can", "(I)Z"⟩ ∈ xTs := xTs_in (tk7 (List.mem_of_getElem? (i := 86) (by decide +kernel))) rfl
theorem mw981 : Cond.selects "ZonedFabricModel" ⟨"ZonedFabricModel", "can", "(I)Z"⟩ ⟨"ZonedFabricModel", "can", "(I)Z"⟩ ∈ xTs := xTs_in (List.mem_append_left _ (List.mem_of_getElem? (i := 92) (by decide +kernel))) rfl
theorem mw982 : Cond.methodLink "ZonedFabricModel" 230 ⟨"ZonedFabricModel", "sends", "(II)V"⟩ ∈ xTs := xTs_in (tk7 (List.mem_of_getElem? (i := 92) (by decide +kernel))) rfl
theorem mw983 : Cond.instanceMethod ⟨"ZonedFabricModel", "sends", "(II)V"⟩ ∈ xTs := xTs_in (tk7 (List.mem_of_getElem? (i := 94) (by decide +kernel))) rfl
theorem mw984 : Cond.selects "ZonedFabricModel" ⟨"ZonedFabricModel", "sends", "(II)V"⟩ ⟨"ZonedFabricModel", "sends", "(II)V"⟩ ∈ xTs := xTs_in (List.mem_append_left _ (List.mem_of_getElem? (i := 94) (by decide +kernel))) rfl
theorem mw985 : Cond.code ⟨"ZonedFabricModel", "leaves", "(I)I"⟩ prog_14_method_22_code 4 (some FieldType.int) ∈ xTs := xTs_in (tk7 (List.mem_of_getElem? (i := 119) rfl)) rfl
theorem mw986 : Cond.code ⟨"ZonedFabricModel", "forgets", "(I)V"⟩ prog_14_method_24_code 3 none ∈ xTs := xTs_in (tk6 (List.mem_of_getElem? (i := 174) rfl)) rfl
theorem mw987 : Cond.code ⟨"ZonedFabricModel", "empties", "(I)V"⟩ prog_14_method_23_code 3 none ∈ xTs := xTs_in (tk6 (List.mem_of_getElem? (i := 166) rfl)) rfl
theorem mw988 : Cond.methodLink "ZonedFabricModel" 234 ⟨"ZonedFabricModel", "forgets", "(I)V"⟩ ∈ xTs := xTs_in (tk6 (List.mem_of_getElem? (i := 171) (by decide +kernel))) rfl
theorem mw989 : Cond.instanceMethod ⟨"ZonedFabricModel", "forgets", "(I)V"⟩ ∈ xTs := xTs_in (tk6 (List.mem_of_getElem? (i := 173) (by decide +kernel))) rfl
theorem mw990 : Cond.selects "ZonedFabricModel" ⟨"ZonedFabricModel", "forgets", "(I)V"⟩ ⟨"ZonedFabricModel", "forgets", "(I)V"⟩ ∈ xTs := xTs_in (List.mem_append_left _ (List.mem_of_getElem? (i := 62) (by decide +kernel))) rfl
theorem mw991 : Cond.code ⟨"ZonedFabricModel", "common", "(II)Z"⟩ prog_14_method_25_code 4 (some FieldType.boolean) ∈ xTs := xTs_in (tk7 (List.mem_of_getElem? (i := 128) rfl)) rfl
theorem mw992 : Cond.fieldLink "ZonedFabricModel" 237 "ZonedFabricModel" "zoned" "Z" ∈ xTs := xTs_in (tk6 (List.mem_of_getElem? (i := 0) (by decide +kernel))) rfl
theorem mw993 : Cond.code ⟨"ZonedFabricModel", "nodeOf", "(I)I"⟩ prog_14_method_26_code 2 (some FieldType.int) ∈ xTs := xTs_in (tk7 (List.mem_of_getElem? (i := 67) rfl)) rfl
theorem mw994 : Cond.code ⟨"ZonedFabricModel", "ofRecord", "(III)I"⟩ prog_14_method_27_code 4 (some FieldType.int) ∈ xTs := xTs_in (tk7 (List.mem_of_getElem? (i := 7) rfl)) rfl
theorem mw995 : Cond.code ⟨"ZonedFabricModel", "issue", "(II)I"⟩ prog_14_method_28_code 3 (some FieldType.int) ∈ xTs := xTs_in (tk7 (List.mem_of_getElem? (i := 71) rfl)) rfl
theorem mw996 : Cond.methodLink "ZonedFabricModel" 241 ⟨"ZonedFabricModel", "ofRecord", "(III)I"⟩ ∈ xTs := xTs_in (tk7 (List.mem_of_getElem? (i := 4) (by decide +kernel))) rfl
theorem mw997 : Cond.instanceMethod ⟨"ZonedFabricModel", "ofRecord", "(III)I"⟩ ∈ xTs := xTs_in (tk7 (List.mem_of_getElem? (i := 6) (by decide +kernel))) rfl
theorem mw998 : Cond.selects "ZonedFabricModel" ⟨"ZonedFabricModel", "ofRecord", "(III)I"⟩ ⟨"ZonedFabricModel", "ofRecord", "(III)I"⟩ ∈ xTs := xTs_in (List.mem_append_left _ (List.mem_of_getElem? (i := 73) (by decide +kernel))) rfl
theorem mw999 : Cond.code ⟨"ZonedFabricModel", "nodesFrom", "(II)I"⟩ prog_14_method_29_code 3 (some FieldType.int) ∈ xTs := xTs_in (tk7 (List.mem_of_getElem? (i := 136) rfl)) rfl
theorem mw1000 : Cond.code ⟨"ZonedFabricModel", "tells", "(III)I"⟩ prog_14_method_30_code 6 (some FieldType.int) ∈ xTs := xTs_in (tk7 (List.mem_of_getElem? (i := 2) rfl)) rfl
theorem mw1001 : Cond.constant "ZonedFabricModel" 244 (1000000) ∈ xTs := xTs_in (tk7 (List.mem_of_getElem? (i := 3) (by decide +kernel))) rfl
theorem mw1002 : Cond.code ⟨"ZonedFabricModel", "joined", "(III)Z"⟩ prog_14_method_31_code 4 (some FieldType.boolean) ∈ xTs := xTs_in (tk6 (List.mem_of_getElem? (i := 238) rfl)) rfl
theorem mw1003 : Cond.methodLink "ZonedFabricModel" 245 ⟨"ZonedFabricModel", "tells", "(III)I"⟩ ∈ xTs := xTs_in (tk6 (List.mem_of_getElem? (i := 239) (by decide +kernel))) rfl
theorem mw1004 : Cond.instanceMethod ⟨"ZonedFabricModel", "tells", "(III)I"⟩ ∈ xTs := xTs_in (tk7 (List.mem_of_getElem? (i := 1) (by decide +kernel))) rfl
theorem mw1005 : Cond.selects "ZonedFabricModel" ⟨"ZonedFabricModel", "tells", "(III)I"⟩ ⟨"ZonedFabricModel", "tells", "(III)I"⟩ ∈ xTs := xTs_in (List.mem_append_left _ (List.mem_of_getElem? (i := 72) (by decide +kernel))) rfl
theorem mw1006 : Cond.code ⟨"ZonedFabricModel", "sums", "(I)V"⟩ prog_14_method_32_code 5 none ∈ xTs := xTs_in (tk6 (List.mem_of_getElem? (i := 234) rfl)) rfl
theorem mw1007 : Cond.methodLink "ZonedFabricModel" 248 ⟨"ZonedFabricModel", "joined", "(III)Z"⟩ ∈ xTs := xTs_in (tk6 (List.mem_of_getElem? (i := 235) (by decide +kernel))) rfl
theorem mw1008 : Cond.instanceMethod ⟨"ZonedFabricModel", "joined", "(III)Z"⟩ ∈ xTs := xTs_in (tk6 (List.mem_of_getElem? (i := 237) (by decide +kernel))) rfl
theorem mw1009 : Cond.selects "ZonedFabricModel" ⟨"ZonedFabricModel", "joined", "(III)Z"⟩ ⟨"ZonedFabricModel", "joined", "(III)Z"⟩ ∈ xTs := xTs_in (List.mem_append_left _ (List.mem_of_getElem? (i := 71) (by decide +kernel))) rfl
theorem mw1010 : Cond.methodLink "ZonedFabricModel" 252 ⟨"java/lang/Math", "min", "(II)I"⟩ ∈ xTs := xTs_in (tk7 (List.mem_of_getElem? (i := 8) (by decide +kernel))) rfl
/-! ZFModel.nodeAt(I)I -/
def ym179 : MethodName := ⟨"ZonedFabricModel", "nodeAt", "(I)I"⟩
theorem cd179 : xCd ym179 prog_14_method_16_code 2 (some FieldType.int) 1 := ⟨mw958, mw864, by decide, by decide, by decide +kernel⟩
def b179_32 (si0 : Int32) (M : hM) : Option xRes :=
  some (.inl (some (.inl si0), M))
def b179_31  (M : hM) : Option xRes :=
  b179_32 (-1 : Int32) M
def b179_0 (a0 : Nat) (v1 : Int32) (M : hM) : Option xRes :=
  Option.bind (g_r M 12 14 (some a0)) fun o_1 =>
  Option.bind (al_i M 20 o_1 v1) fun v_3 =>
  if v_3 = (-1 : Int32) then
    (b179_31  M)
  else
    (Option.bind (g_o M 12 (some a0)) fun b_7 =>
    Option.bind (c_I (f178 [.inr (.inr (some b_7)), .inl v1] M)) fun q_5 =>
    if q_5.1 < (40 : Int32) then
      (b179_31  q_5.2)
    else
      (Option.bind (g_o q_5.2 12 (some a0)) fun b_11 =>
      Option.bind (c_I (f178 [.inr (.inr (some b_11)), .inl v1] q_5.2)) fun q_9 =>
      b179_32 (q_9.1 - (40 : Int32)) q_9.2))
def f179 (as : List aV) (M : hM) : xO := match as with
  | [.inr (.inr (some a0)), .inl v1] => x_out (b179_0 a0 v1 M)
  | _ => none
theorem lb179_32 (G : gX) (l : Launch) (si0 : Int32) (M : hM) {res : xRes} (h : b179_32 si0 M = some res) : h_sz M ≤ r_sz res ∧ h_sl M ≤ r_sl res := by
  unfold b179_32 at h
  obtain rfl := Option.some.inj h
  show h_sz M ≤ h_sz M ∧ h_sl M ≤ h_sl M
  omega
theorem lb179_31 (G : gX) (l : Launch)  (M : hM) {res : xRes} (h : b179_31  M = some res) : h_sz M ≤ r_sz res ∧ h_sl M ≤ r_sl res := by
  unfold b179_31 at h
  have e := lb179_32 G l (-1 : Int32) M h
  omega
theorem lb179_0 (G : gX) (l : Launch) (a0 : Nat) (v1 : Int32) (M : hM) {res : xRes} (h : b179_0 a0 v1 M = some res) : h_sz M ≤ r_sz res ∧ h_sl M ≤ r_sl res := by
  unfold b179_0 at h
  obtain ⟨o_1, h2, h⟩ := bd h
  obtain ⟨v_3, h4, h⟩ := bd h
  by_cases q14 : v_3 = (-1 : Int32)
  · rw [if_pos q14] at h
    have e := lb179_31 G l  M h
    omega
  · rw [if_neg q14] at h
    obtain ⟨b_7, h8, h⟩ := bd h
    obtain ⟨q_5, h6, h⟩ := bd h
    have eh6 := (t178 G l (c_I_some h6)).1
    by_cases q13 : q_5.1 < (40 : Int32)
    · rw [if_pos q13] at h
      have e := lb179_31 G l  q_5.2 h
      omega
    · rw [if_neg q13] at h
      obtain ⟨b_11, h12, h⟩ := bd h
      obtain ⟨q_9, h10, h⟩ := bd h
      have eh10 := (t178 G l (c_I_some h10)).1
      have e := lb179_32 G l (q_9.1 - (40 : Int32)) q_9.2 h
      omega
section
variable {p : Program} {l : Launch} {e : Env} {s : State} {m : MethodId} {args : Array Value} {below : List Frame} {meth : Method} {c : Code} {G : gX} {z0 y0 : Nat} {r : Option aV} {M' : hM}
theorem sb179_32 (E : xE G p (xRm 1 (h_sz M' - z0) (h_sl M' - y0)) s m args c prog_14_method_16_code "ZonedFabricModel" z0 y0 (h_sz M') (h_sl M') 2) (B : xB ym179 (some FieldType.int) meth) (si0 : Int32) (M : hM) {res : xRes} (h : b179_32 si0 M = some res) (hN : xN (fun _ _ _ => False) r M' res) : xV G p l e (xRm 1 (h_sz M' - z0) (h_sl M' - y0)) s m args below meth c z0 y0 (h_sz M') (h_sl M') 2 (MQ below (xQc G r M') args s (h_sz M' - z0) (h_sl M' - y0) (xFr G)) 32 [] [.inl si0] M := by
  unfold b179_32 at h
  obtain rfl := Option.some.inj h
  obtain ⟨rfl, rfl⟩ := Prod.mk.inj (show ((some (.inl si0) : Option aV), M) = (r, M') from hN)
  exact xv_ri E B.1 rfl B.2.1 (show decode prog_14_method_16_code 32 = .ok (.ireturn, 1) by decide +kernel) rfl rfl
theorem sb179_31 (E : xE G p (xRm 1 (h_sz M' - z0) (h_sl M' - y0)) s m args c prog_14_method_16_code "ZonedFabricModel" z0 y0 (h_sz M') (h_sl M') 2) (B : xB ym179 (some FieldType.int) meth)  (M : hM) {res : xRes} (h : b179_31  M = some res) (hN : xN (fun _ _ _ => False) r M' res) : xV G p l e (xRm 1 (h_sz M' - z0) (h_sl M' - y0)) s m args below meth c z0 y0 (h_sz M') (h_sl M') 2 (MQ below (xQc G r M') args s (h_sz M' - z0) (h_sl M' - y0) (xFr G)) 31 [] [] M := by
  unfold b179_31 at h
  refine xv_b E [.iconst (-1)] (pc' := 32) (lv' := []) (st' := [.inl (-1 : Int32)]) (by decide +kernel) rfl rfl ?_
  exact xv_w (sb179_32 E B (-1 : Int32) M h hN) rfl
theorem sb179_0 (E : xE G p (xRm 1 (h_sz M' - z0) (h_sl M' - y0)) s m args c prog_14_method_16_code "ZonedFabricModel" z0 y0 (h_sz M') (h_sl M') 2) (B : xB ym179 (some FieldType.int) meth) (a0 : Nat) (v1 : Int32) (M : hM) {res : xRes} (h : b179_0 a0 v1 M = some res) (hN : xN (fun _ _ _ => False) r M' res) : xV G p l e (xRm 1 (h_sz M' - z0) (h_sl M' - y0)) s m args below meth c z0 y0 (h_sz M') (h_sl M') 2 (MQ below (xQc G r M') args s (h_sz M' - z0) (h_sl M' - y0) (xFr G)) 0 [(0, .inr (.inr (some a0))), (1, .inl v1)] [] M := by
  unfold b179_0 at h
  refine xv_b E [.aload_n 0] (pc' := 1) (lv' := [(0, .inr (.inr (some a0))), (1, .inl v1)]) (st' := [.inr (.inr (some a0))]) (by decide +kernel) rfl rfl ?_
  obtain ⟨o_1, h2, h⟩ := bd h
  refine xg_r E 12 14 h2 mw874 (show decode prog_14_method_16_code 1 = .ok (.getfield 37, 3) by decide +kernel) ?_
  refine xv_b E [.iload_n 1] (pc' := 5) (lv' := [(0, .inr (.inr (some a0))), (1, .inl v1)]) (st' := [.inl v1, .inr (.inr o_1)]) (by decide +kernel) rfl rfl ?_
  obtain ⟨v_3, h4, h⟩ := bd h
  refine xa_i E h4 (show decode prog_14_method_16_code 5 = .ok (.iaload, 1) by decide +kernel) ?_
  refine xv_b E [.iconst (-1)] (pc' := 7) (lv' := [(0, .inr (.inr (some a0))), (1, .inl v1)]) (st' := [.inl (-1 : Int32), .inl v_3]) (by decide +kernel) rfl rfl ?_
  by_cases q14 : v_3 = (-1 : Int32)
  · rw [if_pos q14] at h
    refine xv_icmp_eq E 31 (show decode prog_14_method_16_code 7 = .ok (.if_icmp .eq (24), 3) by decide +kernel) rfl (fun _ => ?_) (fun z => absurd q14 z)
    exact xv_w (sb179_31 E B  M h hN) rfl
  · rw [if_neg q14] at h
    refine xv_icmp_eq E 31 (show decode prog_14_method_16_code 7 = .ok (.if_icmp .eq (24), 3) by decide +kernel) rfl (fun z => absurd z q14) (fun _ => ?_)
    refine xv_b E [.aload_n 0, .iload_n 1] (pc' := 12) (lv' := [(0, .inr (.inr (some a0))), (1, .inl v1)]) (st' := [.inl v1, .inr (.inr (some a0))]) (by decide +kernel) rfl rfl ?_
    obtain ⟨b_7, h8, h⟩ := bd h
    obtain ⟨eh8, th8⟩ := g_o_some h8
    obtain ⟨q_5, h6, h⟩ := bd h
    refine xv_cvo E eh8 12 (as := [.inl v1]) (t178 G l (c_I_some h6)) cd178 mw959 mw960 mw961 (show decode prog_14_method_16_code 12 = .ok (.invokevirtual 209, 3) by decide +kernel) th8 rfl rfl (Nat.le_of_ble_eq_true rfl) ⟨Nat.le_of_ble_eq_true rfl, Nat.le_of_ble_eq_true rfl⟩ ?_
    refine xv_b E [.bipush 40] (pc' := 17) (lv' := [(0, .inr (.inr (some a0))), (1, .inl v1)]) (st' := [.inl (40 : Int32), .inl q_5.1]) (by decide +kernel) rfl rfl ?_
    by_cases q13 : q_5.1 < (40 : Int32)
    · rw [if_pos q13] at h
      refine xv_icmp_lt E 31 (show decode prog_14_method_16_code 17 = .ok (.if_icmp .lt (14), 3) by decide +kernel) rfl (fun _ => ?_) (fun z => absurd q13 z)
      exact xv_w (sb179_31 E B  q_5.2 h hN) rfl
    · rw [if_neg q13] at h
      refine xv_icmp_lt E 31 (show decode prog_14_method_16_code 17 = .ok (.if_icmp .lt (14), 3) by decide +kernel) rfl (fun z => absurd z q13) (fun _ => ?_)
      refine xv_b E [.aload_n 0, .iload_n 1] (pc' := 22) (lv' := [(0, .inr (.inr (some a0))), (1, .inl v1)]) (st' := [.inl v1, .inr (.inr (some a0))]) (by decide +kernel) rfl rfl ?_
      obtain ⟨b_11, h12, h⟩ := bd h
      obtain ⟨eh12, th12⟩ := g_o_some h12
      obtain ⟨q_9, h10, h⟩ := bd h
      refine xv_cvo E eh12 12 (as := [.inl v1]) (t178 G l (c_I_some h10)) cd178 mw959 mw960 mw961 (show decode prog_14_method_16_code 22 = .ok (.invokevirtual 209, 3) by decide +kernel) th12 rfl rfl (Nat.le_of_ble_eq_true rfl) ⟨Nat.le_of_ble_eq_true rfl, Nat.le_of_ble_eq_true rfl⟩ ?_
      refine xv_b E [.bipush 40, .isub] (pc' := 28) (lv' := [(0, .inr (.inr (some a0))), (1, .inl v1)]) (st' := [.inl (q_9.1 - (40 : Int32))]) (by decide +kernel) rfl rfl ?_
      refine xv_goto E 32 (show decode prog_14_method_16_code 28 = .ok (.goto (4), 3) by decide +kernel) rfl ?_
      exact xv_w (sb179_32 E B (q_9.1 - (40 : Int32)) q_9.2 h hN) rfl
end
theorem t179 (G : gX) (l : Launch) {as : List aV} {M : hM} {r : Option aV} {M' : hM} (h : f179 as M = some (r, M')) : xM G l ym179 prog_14_method_16_code 2 (some FieldType.int) 1 as M r M' := by
  unfold f179 at h
  split at h
  · have h := x_out_ok h
    refine xM_of (by decide) (Nat.le_of_ble_eq_true rfl) (lb179_0 G l _ _ M h) ?_
    intro p e s m args below meth c E B
    exact sb179_0 E B _ _ M h rfl
  · cases h
/-! ZFModel.credits(I)I -/
def ym180 : MethodName := ⟨"ZonedFabricModel", "credits", "(I)I"⟩
theorem cd180 : xCd ym180 prog_14_method_17_code 3 (some FieldType.int) 1 := ⟨mw962, mw864, by decide, by decide, by decide +kernel⟩
def b180_35 (a0 : Nat) (v2 : Int32) (si0 : Int32) (si1 : Int32) (M : hM) : Option xRes :=
  Option.bind (g_r M 12 17 (some a0)) fun o_17 =>
  Option.bind (al_i M 20 o_17 v2) fun v_19 =>
  Option.bind (g_r M 12 20 (some a0)) fun o_21 =>
  Option.bind (al_i M 20 o_21 v2) fun v_23 =>
  some (.inl (some (.inl (((si1 - si0) - v_19) - v_23)), M))
def b180_0 (a0 : Nat) (v1 : Int32) (M : hM) : Option xRes :=
  Option.bind (g_o M 12 (some a0)) fun b_3 =>
  Option.bind (c_I (f177 [.inr (.inr (some b_3)), .inl v1] M)) fun q_1 =>
  if q_1.1 = 0 then
    (some (.inl (some (.inl (0 : Int32)), q_1.2)))
  else
    (Option.bind (g_o q_1.2 12 (some a0)) fun b_7 =>
    Option.bind (c_I (f178 [.inr (.inr (some b_7)), .inl v1] q_1.2)) fun q_5 =>
    Option.bind (g_i q_5.2 12 2 (some a0)) fun v_9 =>
    Option.bind (g_r q_5.2 12 15 (some a0)) fun o_11 =>
    Option.bind (al_i q_5.2 20 o_11 v1) fun v_13 =>
    if v_13 = (-1 : Int32) then
      (b180_35 a0 q_5.1 (0 : Int32) v_9 q_5.2)
    else
      (b180_35 a0 q_5.1 (1 : Int32) v_9 q_5.2))
def f180 (as : List aV) (M : hM) : xO := match as with
  | [.inr (.inr (some a0)), .inl v1] => x_out (b180_0 a0 v1 M)
  | _ => none
theorem lb180_35 (G : gX) (l : Launch) (a0 : Nat) (v2 : Int32) (si0 : Int32) (si1 : Int32) (M : hM) {res : xRes} (h : b180_35 a0 v2 si0 si1 M = some res) : h_sz M ≤ r_sz res ∧ h_sl M ≤ r_sl res := by
  unfold b180_35 at h
  obtain ⟨o_17, h18, h⟩ := bd h
  obtain ⟨v_19, h20, h⟩ := bd h
  obtain ⟨o_21, h22, h⟩ := bd h
  obtain ⟨v_23, h24, h⟩ := bd h
  obtain rfl := Option.some.inj h
  show h_sz M ≤ h_sz M ∧ h_sl M ≤ h_sl M
  omega
theorem lb180_0 (G : gX) (l : Launch) (a0 : Nat) (v1 : Int32) (M : hM) {res : xRes} (h : b180_0 a0 v1 M = some res) : h_sz M ≤ r_sz res ∧ h_sl M ≤ r_sl res := by
  unfold b180_0 at h
  obtain ⟨b_3, h4, h⟩ := bd h
  obtain ⟨q_1, h2, h⟩ := bd h
  have eh2 := (t177 G l (c_I_some h2)).1
  by_cases q16 : q_1.1 = 0
  · rw [if_pos q16] at h
    obtain rfl := Option.some.inj h
    show h_sz M ≤ h_sz q_1.2 ∧ h_sl M ≤ h_sl q_1.2
    omega
  · rw [if_neg q16] at h
    obtain ⟨b_7, h8, h⟩ := bd h
    obtain ⟨q_5, h6, h⟩ := bd h
    have eh6 := (t178 G l (c_I_some h6)).1
    obtain ⟨v_9, h10, h⟩ := bd h
    obtain ⟨o_11, h12, h⟩ := bd h
    obtain ⟨v_13, h14, h⟩ := bd h
    by_cases q15 : v_13 = (-1 : Int32)
    · rw [if_pos q15] at h
      have e := lb180_35 G l a0 q_5.1 (0 : Int32) v_9 q_5.2 h
      omega
    · rw [if_neg q15] at h
      have e := lb180_35 G l a0 q_5.1 (1 : Int32) v_9 q_5.2 h
      omega
section
variable {p : Program} {l : Launch} {e : Env} {s : State} {m : MethodId} {args : Array Value} {below : List Frame} {meth : Method} {c : Code} {G : gX} {z0 y0 : Nat} {r : Option aV} {M' : hM}
theorem sb180_35 (E : xE G p (xRm 1 (h_sz M' - z0) (h_sl M' - y0)) s m args c prog_14_method_17_code "ZonedFabricModel" z0 y0 (h_sz M') (h_sl M') 3) (B : xB ym180 (some FieldType.int) meth) (a0 : Nat) (v2 : Int32) (si0 : Int32) (si1 : Int32) (M : hM) {res : xRes} (h : b180_35 a0 v2 si0 si1 M = some res) (hN : xN (fun _ _ _ => False) r M' res) : xV G p l e (xRm 1 (h_sz M' - z0) (h_sl M' - y0)) s m args below meth c z0 y0 (h_sz M') (h_sl M') 3 (MQ below (xQc G r M') args s (h_sz M' - z0) (h_sl M' - y0) (xFr G)) 35 [(0, .inr (.inr (some a0))), (2, .inl v2)] [.inl si0, .inl si1] M := by
  unfold b180_35 at h
  refine xv_b E [.isub, .aload_n 0] (pc' := 37) (lv' := [(0, .inr (.inr (some a0))), (2, .inl v2)]) (st' := [.inr (.inr (some a0)), .inl (si1 - si0)]) (by decide +kernel) rfl rfl ?_
  obtain ⟨o_17, h18, h⟩ := bd h
  refine xg_r E 12 17 h18 mw877 (show decode prog_14_method_17_code 37 = .ok (.getfield 46, 3) by decide +kernel) ?_
  refine xv_b E [.iload_n 2] (pc' := 41) (lv' := [(0, .inr (.inr (some a0))), (2, .inl v2)]) (st' := [.inl v2, .inr (.inr o_17), .inl (si1 - si0)]) (by decide +kernel) rfl rfl ?_
  obtain ⟨v_19, h20, h⟩ := bd h
  refine xa_i E h20 (show decode prog_14_method_17_code 41 = .ok (.iaload, 1) by decide +kernel) ?_
  refine xv_b E [.isub, .aload_n 0] (pc' := 44) (lv' := [(0, .inr (.inr (some a0))), (2, .inl v2)]) (st' := [.inr (.inr (some a0)), .inl ((si1 - si0) - v_19)]) (by decide +kernel) rfl rfl ?_
  obtain ⟨o_21, h22, h⟩ := bd h
  refine xg_r E 12 20 h22 mw880 (show decode prog_14_method_17_code 44 = .ok (.getfield 55, 3) by decide +kernel) ?_
  refine xv_b E [.iload_n 2] (pc' := 48) (lv' := [(0, .inr (.inr (some a0))), (2, .inl v2)]) (st' := [.inl v2, .inr (.inr o_21), .inl ((si1 - si0) - v_19)]) (by decide +kernel) rfl rfl ?_
  obtain ⟨v_23, h24, h⟩ := bd h
  refine xa_i E h24 (show decode prog_14_method_17_code 48 = .ok (.iaload, 1) by decide +kernel) ?_
  refine xv_b E [.isub] (pc' := 50) (lv' := [(0, .inr (.inr (some a0))), (2, .inl v2)]) (st' := [.inl (((si1 - si0) - v_19) - v_23)]) (by decide +kernel) rfl rfl ?_
  obtain rfl := Option.some.inj h
  obtain ⟨rfl, rfl⟩ := Prod.mk.inj (show ((some (.inl (((si1 - si0) - v_19) - v_23)) : Option aV), M) = (r, M') from hN)
  exact xv_ri E B.1 rfl B.2.1 (show decode prog_14_method_17_code 50 = .ok (.ireturn, 1) by decide +kernel) rfl rfl
theorem sb180_0 (E : xE G p (xRm 1 (h_sz M' - z0) (h_sl M' - y0)) s m args c prog_14_method_17_code "ZonedFabricModel" z0 y0 (h_sz M') (h_sl M') 3) (B : xB ym180 (some FieldType.int) meth) (a0 : Nat) (v1 : Int32) (M : hM) {res : xRes} (h : b180_0 a0 v1 M = some res) (hN : xN (fun _ _ _ => False) r M' res) : xV G p l e (xRm 1 (h_sz M' - z0) (h_sl M' - y0)) s m args below meth c z0 y0 (h_sz M') (h_sl M') 3 (MQ below (xQc G r M') args s (h_sz M' - z0) (h_sl M' - y0) (xFr G)) 0 [(0, .inr (.inr (some a0))), (1, .inl v1)] [] M := by
  unfold b180_0 at h
  refine xv_b E [.aload_n 0, .iload_n 1] (pc' := 2) (lv' := [(0, .inr (.inr (some a0))), (1, .inl v1)]) (st' := [.inl v1, .inr (.inr (some a0))]) (by decide +kernel) rfl rfl ?_
  obtain ⟨b_3, h4, h⟩ := bd h
  obtain ⟨eh4, th4⟩ := g_o_some h4
  obtain ⟨q_1, h2, h⟩ := bd h
  refine xv_cvo E eh4 12 (as := [.inl v1]) (t177 G l (c_I_some h2)) cd177 mw963 mw964 mw965 (show decode prog_14_method_17_code 2 = .ok (.invokevirtual 213, 3) by decide +kernel) th4 rfl rfl (Nat.le_of_ble_eq_true rfl) ⟨Nat.le_of_ble_eq_true rfl, Nat.le_of_ble_eq_true rfl⟩ ?_
  by_cases q16 : q_1.1 = 0
  · rw [if_pos q16] at h
    refine xv_if_ne E 10 (show decode prog_14_method_17_code 5 = .ok (.ifCond .ne (5), 3) by decide +kernel) rfl (fun z => absurd q16 z) (fun _ => ?_)
    refine xv_b E [.iconst 0] (pc' := 9) (lv' := [(0, .inr (.inr (some a0))), (1, .inl v1)]) (st' := [.inl (0 : Int32)]) (by decide +kernel) rfl rfl ?_
    obtain rfl := Option.some.inj h
    obtain ⟨rfl, rfl⟩ := Prod.mk.inj (show ((some (.inl (0 : Int32)) : Option aV), q_1.2) = (r, M') from hN)
    exact xv_ri E B.1 rfl B.2.1 (show decode prog_14_method_17_code 9 = .ok (.ireturn, 1) by decide +kernel) rfl rfl
  · rw [if_neg q16] at h
    refine xv_if_ne E 10 (show decode prog_14_method_17_code 5 = .ok (.ifCond .ne (5), 3) by decide +kernel) rfl (fun _ => ?_) (fun z => absurd z q16)
    refine xv_b E [.aload_n 0, .iload_n 1] (pc' := 12) (lv' := [(0, .inr (.inr (some a0))), (1, .inl v1)]) (st' := [.inl v1, .inr (.inr (some a0))]) (by decide +kernel) rfl rfl ?_
    obtain ⟨b_7, h8, h⟩ := bd h
    obtain ⟨eh8, th8⟩ := g_o_some h8
    obtain ⟨q_5, h6, h⟩ := bd h
    refine xv_cvo E eh8 12 (as := [.inl v1]) (t178 G l (c_I_some h6)) cd178 mw959 mw960 mw961 (show decode prog_14_method_17_code 12 = .ok (.invokevirtual 209, 3) by decide +kernel) th8 rfl rfl (Nat.le_of_ble_eq_true rfl) ⟨Nat.le_of_ble_eq_true rfl, Nat.le_of_ble_eq_true rfl⟩ ?_
    refine xv_b E [.istore_n 2, .aload_n 0] (pc' := 17) (lv' := [(2, .inl q_5.1), (0, .inr (.inr (some a0))), (1, .inl v1)]) (st' := [.inr (.inr (some a0))]) (by decide +kernel) rfl rfl ?_
    obtain ⟨v_9, h10, h⟩ := bd h
    refine xg_i E 12 2 h10 mw923 (show decode prog_14_method_17_code 17 = .ok (.getfield 180, 3) by decide +kernel) ?_
    refine xv_b E [.aload_n 0] (pc' := 21) (lv' := [(2, .inl q_5.1), (0, .inr (.inr (some a0))), (1, .inl v1)]) (st' := [.inr (.inr (some a0)), .inl v_9]) (by decide +kernel) rfl rfl ?_
    obtain ⟨o_11, h12, h⟩ := bd h
    refine xg_r E 12 15 h12 mw875 (show decode prog_14_method_17_code 21 = .ok (.getfield 40, 3) by decide +kernel) ?_
    refine xv_b E [.iload_n 1] (pc' := 25) (lv' := [(2, .inl q_5.1), (0, .inr (.inr (some a0))), (1, .inl v1)]) (st' := [.inl v1, .inr (.inr o_11), .inl v_9]) (by decide +kernel) rfl rfl ?_
    obtain ⟨v_13, h14, h⟩ := bd h
    refine xa_i E h14 (show decode prog_14_method_17_code 25 = .ok (.iaload, 1) by decide +kernel) ?_
    refine xv_b E [.iconst (-1)] (pc' := 27) (lv' := [(2, .inl q_5.1), (0, .inr (.inr (some a0))), (1, .inl v1)]) (st' := [.inl (-1 : Int32), .inl v_13, .inl v_9]) (by decide +kernel) rfl rfl ?_
    by_cases q15 : v_13 = (-1 : Int32)
    · rw [if_pos q15] at h
      refine xv_icmp_eq E 34 (show decode prog_14_method_17_code 27 = .ok (.if_icmp .eq (7), 3) by decide +kernel) rfl (fun _ => ?_) (fun z => absurd q15 z)
      refine xv_b E [.iconst 0] (pc' := 35) (lv' := [(2, .inl q_5.1), (0, .inr (.inr (some a0))), (1, .inl v1)]) (st' := [.inl (0 : Int32), .inl v_9]) (by decide +kernel) rfl rfl ?_
      exact xv_w (sb180_35 E B a0 q_5.1 (0 : Int32) v_9 q_5.2 h hN) rfl
    · rw [if_neg q15] at h
      refine xv_icmp_eq E 34 (show decode prog_14_method_17_code 27 = .ok (.if_icmp .eq (7), 3) by decide +kernel) rfl (fun z => absurd z q15) (fun _ => ?_)
      refine xv_b E [.iconst 1] (pc' := 31) (lv' := [(2, .inl q_5.1), (0, .inr (.inr (some a0))), (1, .inl v1)]) (st' := [.inl (1 : Int32), .inl v_9]) (by decide +kernel) rfl rfl ?_
      refine xv_goto E 35 (show decode prog_14_method_17_code 31 = .ok (.goto (4), 3) by decide +kernel) rfl ?_
      exact xv_w (sb180_35 E B a0 q_5.1 (1 : Int32) v_9 q_5.2 h hN) rfl
end
theorem t180 (G : gX) (l : Launch) {as : List aV} {M : hM} {r : Option aV} {M' : hM} (h : f180 as M = some (r, M')) : xM G l ym180 prog_14_method_17_code 3 (some FieldType.int) 1 as M r M' := by
  unfold f180 at h
  split at h
  · have h := x_out_ok h
    refine xM_of (by decide) (Nat.le_of_ble_eq_true rfl) (lb180_0 G l _ _ M h) ?_
    intro p e s m args below meth c E B
    exact sb180_0 E B _ _ M h rfl
  · cases h
/-! ZFModel.can(I)Z -/
def ym181 : MethodName := ⟨"ZonedFabricModel", "can", "(I)Z"⟩
theorem cd181 : xCd ym181 prog_14_method_18_code 2 (some FieldType.boolean) 1 := ⟨mw966, mw864, by decide, by decide, by decide +kernel⟩
def b181_30 (si0 : Int32) (M : hM) : Option xRes :=
  if si0 = 0 ∨ si0 = 1 then
    (some (.inl (some (.inl si0), M)))
  else
    none
def b181_29  (M : hM) : Option xRes :=
  b181_30 (0 : Int32) M
def b181_0 (a0 : Nat) (v1 : Int32) (M : hM) : Option xRes :=
  Option.bind (g_o M 12 (some a0)) fun b_3 =>
  Option.bind (c_I (f177 [.inr (.inr (some b_3)), .inl v1] M)) fun q_1 =>
  if q_1.1 = 0 then
    (b181_29  q_1.2)
  else
    (Option.bind (g_r q_1.2 12 22 (some a0)) fun o_5 =>
    Option.bind (al_i q_1.2 22 o_5 v1) fun v_7 =>
    if v_7 = 0 then
      (Option.bind (g_o q_1.2 12 (some a0)) fun b_11 =>
      Option.bind (c_I (f180 [.inr (.inr (some b_11)), .inl v1] q_1.2)) fun q_9 =>
      if q_9.1 ≤ 0 then
        (b181_29  q_9.2)
      else
        (b181_30 (1 : Int32) q_9.2))
    else
      (b181_29  q_1.2))
def f181 (as : List aV) (M : hM) : xO := match as with
  | [.inr (.inr (some a0)), .inl v1] => x_out (b181_0 a0 v1 M)
  | _ => none
theorem lb181_30 (G : gX) (l : Launch) (si0 : Int32) (M : hM) {res : xRes} (h : b181_30 si0 M = some res) : h_sz M ≤ r_sz res ∧ h_sl M ≤ r_sl res := by
  unfold b181_30 at h
  by_cases q16 : si0 = 0 ∨ si0 = 1
  · rw [if_pos q16] at h
    obtain rfl := Option.some.inj h
    show h_sz M ≤ h_sz M ∧ h_sl M ≤ h_sl M
    omega
  · rw [if_neg q16] at h
    cases h
theorem lb181_29 (G : gX) (l : Launch)  (M : hM) {res : xRes} (h : b181_29  M = some res) : h_sz M ≤ r_sz res ∧ h_sl M ≤ r_sl res := by
  unfold b181_29 at h
  have e := lb181_30 G l (0 : Int32) M h
  omega
theorem lb181_0 (G : gX) (l : Launch) (a0 : Nat) (v1 : Int32) (M : hM) {res : xRes} (h : b181_0 a0 v1 M = some res) : h_sz M ≤ r_sz res ∧ h_sl M ≤ r_sl res := by
  unfold b181_0 at h
  obtain ⟨b_3, h4, h⟩ := bd h
  obtain ⟨q_1, h2, h⟩ := bd h
  have eh2 := (t177 G l (c_I_some h2)).1
  by_cases q15 : q_1.1 = 0
  · rw [if_pos q15] at h
    have e := lb181_29 G l  q_1.2 h
    omega
  · rw [if_neg q15] at h
    obtain ⟨o_5, h6, h⟩ := bd h
    obtain ⟨v_7, h8, h⟩ := bd h
    by_cases q14 : v_7 = 0
    · rw [if_pos q14] at h
      obtain ⟨b_11, h12, h⟩ := bd h
      obtain ⟨q_9, h10, h⟩ := bd h
      have eh10 := (t180 G l (c_I_some h10)).1
      by_cases q13 : q_9.1 ≤ 0
      · rw [if_pos q13] at h
        have e := lb181_29 G l  q_9.2 h
        omega
      · rw [if_neg q13] at h
        have e := lb181_30 G l (1 : Int32) q_9.2 h
        omega
    · rw [if_neg q14] at h
      have e := lb181_29 G l  q_1.2 h
      omega
section
variable {p : Program} {l : Launch} {e : Env} {s : State} {m : MethodId} {args : Array Value} {below : List Frame} {meth : Method} {c : Code} {G : gX} {z0 y0 : Nat} {r : Option aV} {M' : hM}
theorem sb181_30 (E : xE G p (xRm 2 (h_sz M' - z0) (h_sl M' - y0)) s m args c prog_14_method_18_code "ZonedFabricModel" z0 y0 (h_sz M') (h_sl M') 2) (B : xB ym181 (some FieldType.boolean) meth) (si0 : Int32) (M : hM) {res : xRes} (h : b181_30 si0 M = some res) (hN : xN (fun _ _ _ => False) r M' res) : xV G p l e (xRm 2 (h_sz M' - z0) (h_sl M' - y0)) s m args below meth c z0 y0 (h_sz M') (h_sl M') 2 (MQ below (xQc G r M') args s (h_sz M' - z0) (h_sl M' - y0) (xFr G)) 30 [] [.inl si0] M := by
  unfold b181_30 at h
  by_cases q16 : si0 = 0 ∨ si0 = 1
  · rw [if_pos q16] at h
    obtain rfl := Option.some.inj h
    obtain ⟨rfl, rfl⟩ := Prod.mk.inj (show ((some (.inl si0) : Option aV), M) = (r, M') from hN)
    exact xv_ri E B.1 (by rcases q16 with z | z <;> rw [z] <;> rfl) B.2.1 (show decode prog_14_method_18_code 30 = .ok (.ireturn, 1) by decide +kernel) rfl rfl
  · rw [if_neg q16] at h
    cases h
theorem sb181_29 (E : xE G p (xRm 2 (h_sz M' - z0) (h_sl M' - y0)) s m args c prog_14_method_18_code "ZonedFabricModel" z0 y0 (h_sz M') (h_sl M') 2) (B : xB ym181 (some FieldType.boolean) meth)  (M : hM) {res : xRes} (h : b181_29  M = some res) (hN : xN (fun _ _ _ => False) r M' res) : xV G p l e (xRm 2 (h_sz M' - z0) (h_sl M' - y0)) s m args below meth c z0 y0 (h_sz M') (h_sl M') 2 (MQ below (xQc G r M') args s (h_sz M' - z0) (h_sl M' - y0) (xFr G)) 29 [] [] M := by
  unfold b181_29 at h
  refine xv_b E [.iconst 0] (pc' := 30) (lv' := []) (st' := [.inl (0 : Int32)]) (by decide +kernel) rfl rfl ?_
  exact xv_w (sb181_30 E B (0 : Int32) M h hN) rfl
theorem sb181_0 (E : xE G p (xRm 2 (h_sz M' - z0) (h_sl M' - y0)) s m args c prog_14_method_18_code "ZonedFabricModel" z0 y0 (h_sz M') (h_sl M') 2) (B : xB ym181 (some FieldType.boolean) meth) (a0 : Nat) (v1 : Int32) (M : hM) {res : xRes} (h : b181_0 a0 v1 M = some res) (hN : xN (fun _ _ _ => False) r M' res) : xV G p l e (xRm 2 (h_sz M' - z0) (h_sl M' - y0)) s m args below meth c z0 y0 (h_sz M') (h_sl M') 2 (MQ below (xQc G r M') args s (h_sz M' - z0) (h_sl M' - y0) (xFr G)) 0 [(0, .inr (.inr (some a0))), (1, .inl v1)] [] M := by
  unfold b181_0 at h
  refine xv_b E [.aload_n 0, .iload_n 1] (pc' := 2) (lv' := [(0, .inr (.inr (some a0))), (1, .inl v1)]) (st' := [.inl v1, .inr (.inr (some a0))]) (by decide +kernel) rfl rfl ?_
  obtain ⟨b_3, h4, h⟩ := bd h
  obtain ⟨eh4, th4⟩ := g_o_some h4
  obtain ⟨q_1, h2, h⟩ := bd h
  refine xv_cvo E eh4 12 (as := [.inl v1]) (t177 G l (c_I_some h2)) cd177 mw963 mw964 mw965 (show decode prog_14_method_18_code 2 = .ok (.invokevirtual 213, 3) by decide +kernel) th4 rfl rfl (Nat.le_of_ble_eq_true rfl) ⟨Nat.le_of_ble_eq_true rfl, Nat.le_of_ble_eq_true rfl⟩ ?_
  by_cases q15 : q_1.1 = 0
  · rw [if_pos q15] at h
    refine xv_if_eq E 29 (show decode prog_14_method_18_code 5 = .ok (.ifCond .eq (24), 3) by decide +kernel) rfl (fun _ => ?_) (fun z => absurd q15 z)
    exact xv_w (sb181_29 E B  q_1.2 h hN) rfl
  · rw [if_neg q15] at h
    refine xv_if_eq E 29 (show decode prog_14_method_18_code 5 = .ok (.ifCond .eq (24), 3) by decide +kernel) rfl (fun z => absurd z q15) (fun _ => ?_)
    refine xv_b E [.aload_n 0] (pc' := 9) (lv' := [(0, .inr (.inr (some a0))), (1, .inl v1)]) (st' := [.inr (.inr (some a0))]) (by decide +kernel) rfl rfl ?_
    obtain ⟨o_5, h6, h⟩ := bd h
    refine xg_r E 12 22 h6 mw882 (show decode prog_14_method_18_code 9 = .ok (.getfield 61, 3) by decide +kernel) ?_
    refine xv_b E [.iload_n 1] (pc' := 13) (lv' := [(0, .inr (.inr (some a0))), (1, .inl v1)]) (st' := [.inl v1, .inr (.inr o_5)]) (by decide +kernel) rfl rfl ?_
    obtain ⟨v_7, h8, h⟩ := bd h
    refine xa_z E h8 (show decode prog_14_method_18_code 13 = .ok (.baload, 1) by decide +kernel) ?_
    by_cases q14 : v_7 = 0
    · rw [if_pos q14] at h
      refine xv_if_ne E 29 (show decode prog_14_method_18_code 14 = .ok (.ifCond .ne (15), 3) by decide +kernel) rfl (fun z => absurd q14 z) (fun _ => ?_)
      refine xv_b E [.aload_n 0, .iload_n 1] (pc' := 19) (lv' := [(0, .inr (.inr (some a0))), (1, .inl v1)]) (st' := [.inl v1, .inr (.inr (some a0))]) (by decide +kernel) rfl rfl ?_
      obtain ⟨b_11, h12, h⟩ := bd h
      obtain ⟨eh12, th12⟩ := g_o_some h12
      obtain ⟨q_9, h10, h⟩ := bd h
      refine xv_cvo E eh12 12 (as := [.inl v1]) (t180 G l (c_I_some h10)) cd180 mw967 mw968 mw969 (show decode prog_14_method_18_code 19 = .ok (.invokevirtual 217, 3) by decide +kernel) th12 rfl rfl (Nat.le_of_ble_eq_true rfl) ⟨Nat.le_of_ble_eq_true rfl, Nat.le_of_ble_eq_true rfl⟩ ?_
      by_cases q13 : q_9.1 ≤ 0
      · rw [if_pos q13] at h
        refine xv_if_le E 29 (show decode prog_14_method_18_code 22 = .ok (.ifCond .le (7), 3) by decide +kernel) rfl (fun _ => ?_) (fun z => absurd q13 z)
        exact xv_w (sb181_29 E B  q_9.2 h hN) rfl
      · rw [if_neg q13] at h
        refine xv_if_le E 29 (show decode prog_14_method_18_code 22 = .ok (.ifCond .le (7), 3) by decide +kernel) rfl (fun z => absurd z q13) (fun _ => ?_)
        refine xv_b E [.iconst 1] (pc' := 26) (lv' := [(0, .inr (.inr (some a0))), (1, .inl v1)]) (st' := [.inl (1 : Int32)]) (by decide +kernel) rfl rfl ?_
        refine xv_goto E 30 (show decode prog_14_method_18_code 26 = .ok (.goto (4), 3) by decide +kernel) rfl ?_
        exact xv_w (sb181_30 E B (1 : Int32) q_9.2 h hN) rfl
    · rw [if_neg q14] at h
      refine xv_if_ne E 29 (show decode prog_14_method_18_code 14 = .ok (.ifCond .ne (15), 3) by decide +kernel) rfl (fun _ => ?_) (fun z => absurd z q14)
      exact xv_w (sb181_29 E B  q_1.2 h hN) rfl
end
theorem t181 (G : gX) (l : Launch) {as : List aV} {M : hM} {r : Option aV} {M' : hM} (h : f181 as M = some (r, M')) : xM G l ym181 prog_14_method_18_code 2 (some FieldType.boolean) 2 as M r M' := by
  unfold f181 at h
  split at h
  · have h := x_out_ok h
    refine xM_of (by decide) (Nat.le_of_ble_eq_true rfl) (lb181_0 G l _ _ M h) ?_
    intro p e s m args below meth c E B
    exact sb181_0 E B _ _ M h rfl
  · cases h
/-! ZFModel.sends(II)V -/
def ym182 : MethodName := ⟨"ZonedFabricModel", "sends", "(II)V"⟩
theorem cd182 : xCd ym182 prog_14_method_19_code 3 none 2 := ⟨mw970, mw864, by decide, by decide, by decide +kernel⟩
def b182_19 (a0 : Nat) (v1 : Int32) (v2 : Int32) (M : hM) : Option xRes :=
  Option.bind (g_r M 12 15 (some a0)) fun o_12 =>
  Option.bind (as_i M 20 o_12 v1 v2) fun M14 =>
  Option.bind (g_r M14 12 22 (some a0)) fun o_16 =>
  Option.bind (as_z M14 22 o_16 v1 (1 : Int32)) fun M18 =>
  Option.bind (g_r M18 12 4 (some a0)) fun o_20 =>
  Option.bind (al_i M18 20 o_20 (6 : Int32)) fun v_22 =>
  Option.bind (as_i M18 20 o_20 (6 : Int32) (v_22 + (1 : Int32))) fun M24 =>
  some (.inl (none, M24))
def b182_0 (a0 : Nat) (v1 : Int32) (v2 : Int32) (M : hM) : Option xRes :=
  Option.bind (g_o M 12 (some a0)) fun b_3 =>
  Option.bind (c_I (f180 [.inr (.inr (some b_3)), .inl v1] M)) fun q_1 =>
  if (1 : Int32) ≤ q_1.1 then
    (b182_19 a0 v1 v2 q_1.2)
  else
    (Option.bind (g_r q_1.2 12 5 (some a0)) fun o_5 =>
    Option.bind (al_i q_1.2 20 o_5 (1 : Int32)) fun v_7 =>
    Option.bind (as_i q_1.2 20 o_5 (1 : Int32) (v_7 + (1 : Int32))) fun M9 =>
    b182_19 a0 v1 v2 M9)
def f182 (as : List aV) (M : hM) : xO := match as with
  | [.inr (.inr (some a0)), .inl v1, .inl v2] => x_out (b182_0 a0 v1 v2 M)
  | _ => none
theorem lb182_19 (G : gX) (l : Launch) (a0 : Nat) (v1 : Int32) (v2 : Int32) (M : hM) {res : xRes} (h : b182_19 a0 v1 v2 M = some res) : h_sz M ≤ r_sz res ∧ h_sl M ≤ r_sl res := by
  unfold b182_19 at h
  obtain ⟨o_12, h13, h⟩ := bd h
  obtain ⟨M14, h15, h⟩ := bd h
  have eh15 := as_i_sz h15
  obtain ⟨o_16, h17, h⟩ := bd h
  obtain ⟨M18, h19, h⟩ := bd h
  have eh19 := as_z_sz h19
  obtain ⟨o_20, h21, h⟩ := bd h
  obtain ⟨v_22, h23, h⟩ := bd h
  obtain ⟨M24, h25, h⟩ := bd h
  have eh25 := as_i_sz h25
  obtain rfl := Option.some.inj h
  show h_sz M ≤ h_sz M24 ∧ h_sl M ≤ h_sl M24
  omega
theorem lb182_0 (G : gX) (l : Launch) (a0 : Nat) (v1 : Int32) (v2 : Int32) (M : hM) {res : xRes} (h : b182_0 a0 v1 v2 M = some res) : h_sz M ≤ r_sz res ∧ h_sl M ≤ r_sl res := by
  unfold b182_0 at h
  obtain ⟨b_3, h4, h⟩ := bd h
  obtain ⟨q_1, h2, h⟩ := bd h
  have eh2 := (t180 G l (c_I_some h2)).1
  by_cases q11 : (1 : Int32) ≤ q_1.1
  · rw [if_pos q11] at h
    have e := lb182_19 G l a0 v1 v2 q_1.2 h
    omega
  · rw [if_neg q11] at h
    obtain ⟨o_5, h6, h⟩ := bd h
    obtain ⟨v_7, h8, h⟩ := bd h
    obtain ⟨M9, h10, h⟩ := bd h
    have eh10 := as_i_sz h10
    have e := lb182_19 G l a0 v1 v2 M9 h
    omega
section
variable {p : Program} {l : Launch} {e : Env} {s : State} {m : MethodId} {args : Array Value} {below : List Frame} {meth : Method} {c : Code} {G : gX} {z0 y0 : Nat} {r : Option aV} {M' : hM}
theorem sb182_19 (E : xE G p (xRm 2 (h_sz M' - z0) (h_sl M' - y0)) s m args c prog_14_method_19_code "ZonedFabricModel" z0 y0 (h_sz M') (h_sl M') 3) (B : xB ym182 none meth) (a0 : Nat) (v1 : Int32) (v2 : Int32) (M : hM) {res : xRes} (h : b182_19 a0 v1 v2 M = some res) (hN : xN (fun _ _ _ => False) r M' res) : xV G p l e (xRm 2 (h_sz M' - z0) (h_sl M' - y0)) s m args below meth c z0 y0 (h_sz M') (h_sl M') 3 (MQ below (xQc G r M') args s (h_sz M' - z0) (h_sl M' - y0) (xFr G)) 19 [(0, .inr (.inr (some a0))), (1, .inl v1), (2, .inl v2)] [] M := by
  unfold b182_19 at h
  refine xv_b E [.aload_n 0] (pc' := 20) (lv' := [(0, .inr (.inr (some a0))), (1, .inl v1), (2, .inl v2)]) (st' := [.inr (.inr (some a0))]) (by decide +kernel) rfl rfl ?_
  obtain ⟨o_12, h13, h⟩ := bd h
  refine xg_r E 12 15 h13 mw875 (show decode prog_14_method_19_code 20 = .ok (.getfield 40, 3) by decide +kernel) ?_
  refine xv_b E [.iload_n 1, .iload_n 2] (pc' := 25) (lv' := [(0, .inr (.inr (some a0))), (1, .inl v1), (2, .inl v2)]) (st' := [.inl v2, .inl v1, .inr (.inr o_12)]) (by decide +kernel) rfl rfl ?_
  obtain ⟨M14, h15, h⟩ := bd h
  refine xs_i E h15 (show decode prog_14_method_19_code 25 = .ok (.iastore, 1) by decide +kernel) ?_
  refine xv_b E [.aload_n 0] (pc' := 27) (lv' := [(0, .inr (.inr (some a0))), (1, .inl v1), (2, .inl v2)]) (st' := [.inr (.inr (some a0))]) (by decide +kernel) rfl rfl ?_
  obtain ⟨o_16, h17, h⟩ := bd h
  refine xg_r E 12 22 h17 mw882 (show decode prog_14_method_19_code 27 = .ok (.getfield 61, 3) by decide +kernel) ?_
  refine xv_b E [.iload_n 1, .iconst 1] (pc' := 32) (lv' := [(0, .inr (.inr (some a0))), (1, .inl v1), (2, .inl v2)]) (st' := [.inl (1 : Int32), .inl v1, .inr (.inr o_16)]) (by decide +kernel) rfl rfl ?_
  obtain ⟨M18, h19, h⟩ := bd h
  refine xs_z E h19 (show decode prog_14_method_19_code 32 = .ok (.bastore, 1) by decide +kernel) ?_
  refine xv_b E [.aload_n 0] (pc' := 34) (lv' := [(0, .inr (.inr (some a0))), (1, .inl v1), (2, .inl v2)]) (st' := [.inr (.inr (some a0))]) (by decide +kernel) rfl rfl ?_
  obtain ⟨o_20, h21, h⟩ := bd h
  refine xg_r E 12 4 h21 mw865 (show decode prog_14_method_19_code 34 = .ok (.getfield 7, 3) by decide +kernel) ?_
  refine xv_b E [.bipush 6, .dup2] (pc' := 40) (lv' := [(0, .inr (.inr (some a0))), (1, .inl v1), (2, .inl v2)]) (st' := [.inl (6 : Int32), .inr (.inr o_20), .inl (6 : Int32), .inr (.inr o_20)]) (by decide +kernel) rfl rfl ?_
  obtain ⟨v_22, h23, h⟩ := bd h
  refine xa_i E h23 (show decode prog_14_method_19_code 40 = .ok (.iaload, 1) by decide +kernel) ?_
  refine xv_b E [.iconst 1, .iadd] (pc' := 43) (lv' := [(0, .inr (.inr (some a0))), (1, .inl v1), (2, .inl v2)]) (st' := [.inl (v_22 + (1 : Int32)), .inl (6 : Int32), .inr (.inr o_20)]) (by decide +kernel) rfl rfl ?_
  obtain ⟨M24, h25, h⟩ := bd h
  refine xs_i E h25 (show decode prog_14_method_19_code 43 = .ok (.iastore, 1) by decide +kernel) ?_
  obtain rfl := Option.some.inj h
  obtain ⟨rfl, rfl⟩ := Prod.mk.inj (show ((none : Option aV), M24) = (r, M') from hN)
  exact xv_rv E B.1 B.2.1 (show decode prog_14_method_19_code 44 = .ok (.return_, 1) by decide +kernel) rfl rfl
theorem sb182_0 (E : xE G p (xRm 2 (h_sz M' - z0) (h_sl M' - y0)) s m args c prog_14_method_19_code "ZonedFabricModel" z0 y0 (h_sz M') (h_sl M') 3) (B : xB ym182 none meth) (a0 : Nat) (v1 : Int32) (v2 : Int32) (M : hM) {res : xRes} (h : b182_0 a0 v1 v2 M = some res) (hN : xN (fun _ _ _ => False) r M' res) : xV G p l e (xRm 2 (h_sz M' - z0) (h_sl M' - y0)) s m args below meth c z0 y0 (h_sz M') (h_sl M') 3 (MQ below (xQc G r M') args s (h_sz M' - z0) (h_sl M' - y0) (xFr G)) 0 [(0, .inr (.inr (some a0))), (1, .inl v1), (2, .inl v2)] [] M := by
  unfold b182_0 at h
  refine xv_b E [.aload_n 0, .iload_n 1] (pc' := 2) (lv' := [(0, .inr (.inr (some a0))), (1, .inl v1), (2, .inl v2)]) (st' := [.inl v1, .inr (.inr (some a0))]) (by decide +kernel) rfl rfl ?_
  obtain ⟨b_3, h4, h⟩ := bd h
  obtain ⟨eh4, th4⟩ := g_o_some h4
  obtain ⟨q_1, h2, h⟩ := bd h
  refine xv_cvo E eh4 12 (as := [.inl v1]) (t180 G l (c_I_some h2)) cd180 mw967 mw968 mw969 (show decode prog_14_method_19_code 2 = .ok (.invokevirtual 217, 3) by decide +kernel) th4 rfl rfl (Nat.le_of_ble_eq_true rfl) ⟨Nat.le_of_ble_eq_true rfl, Nat.le_of_ble_eq_true rfl⟩ ?_
  refine xv_b E [.iconst 1] (pc' := 6) (lv' := [(0, .inr (.inr (some a0))), (1, .inl v1), (2, .inl v2)]) (st' := [.inl (1 : Int32), .inl q_1.1]) (by decide +kernel) rfl rfl ?_
  by_cases q11 : (1 : Int32) ≤ q_1.1
  · rw [if_pos q11] at h
    refine xv_icmp_ge E 19 (show decode prog_14_method_19_code 6 = .ok (.if_icmp .ge (13), 3) by decide +kernel) rfl (fun _ => ?_) (fun z => absurd q11 z)
    exact xv_w (sb182_19 E B a0 v1 v2 q_1.2 h hN) rfl
  · rw [if_neg q11] at h
    refine xv_icmp_ge E 19 (show decode prog_14_method_19_code 6 = .ok (.if_icmp .ge (13), 3) by decide +kernel) rfl (fun z => absurd z q11) (fun _ => ?_)
    refine xv_b E [.aload_n 0] (pc' := 10) (lv' := [(0, .inr (.inr (some a0))), (1, .inl v1), (2, .inl v2)]) (st' := [.inr (.inr (some a0))]) (by decide +kernel) rfl rfl ?_
    obtain ⟨o_5, h6, h⟩ := bd h
    refine xg_r E 12 5 h6 mw866 (show decode prog_14_method_19_code 10 = .ok (.getfield 13, 3) by decide +kernel) ?_
    refine xv_b E [.iconst 1, .dup2] (pc' := 15) (lv' := [(0, .inr (.inr (some a0))), (1, .inl v1), (2, .inl v2)]) (st' := [.inl (1 : Int32), .inr (.inr o_5), .inl (1 : Int32), .inr (.inr o_5)]) (by decide +kernel) rfl rfl ?_
    obtain ⟨v_7, h8, h⟩ := bd h
    refine xa_i E h8 (show decode prog_14_method_19_code 15 = .ok (.iaload, 1) by decide +kernel) ?_
    refine xv_b E [.iconst 1, .iadd] (pc' := 18) (lv' := [(0, .inr (.inr (some a0))), (1, .inl v1), (2, .inl v2)]) (st' := [.inl (v_7 + (1 : Int32)), .inl (1 : Int32), .inr (.inr o_5)]) (by decide +kernel) rfl rfl ?_
    obtain ⟨M9, h10, h⟩ := bd h
    refine xs_i E h10 (show decode prog_14_method_19_code 18 = .ok (.iastore, 1) by decide +kernel) ?_
    exact xv_w (sb182_19 E B a0 v1 v2 M9 h hN) rfl
end
theorem t182 (G : gX) (l : Launch) {as : List aV} {M : hM} {r : Option aV} {M' : hM} (h : f182 as M = some (r, M')) : xM G l ym182 prog_14_method_19_code 3 none 2 as M r M' := by
  unfold f182 at h
  split at h
  · have h := x_out_ok h
    refine xM_of (by decide) (Nat.le_of_ble_eq_true rfl) (lb182_0 G l _ _ _ M h) ?_
    intro p e s m args below meth c E B
    exact sb182_0 E B _ _ _ M h rfl
  · cases h
/-! ZFModel.queues(II)V -/
def ym183 : MethodName := ⟨"ZonedFabricModel", "queues", "(II)V"⟩
theorem cd183 : xCd ym183 prog_14_method_20_code 3 none 2 := ⟨mw971, mw864, by decide, by decide, by decide +kernel⟩
def b183_77  (M : hM) : Option xRes :=
  some (.inl (none, M))
def b183_0 (a0 : Nat) (v1 : Int32) (v2 : Int32) (M : hM) : Option xRes :=
  Option.bind (g_o M 12 (some a0)) fun b_3 =>
  Option.bind (c_V (f170 [.inr (.inr (some b_3)), .inl v2] M)) fun q_1 =>
  Option.bind (g_o q_1 12 (some a0)) fun b_7 =>
  Option.bind (c_I (f177 [.inr (.inr (some b_7)), .inl v1] q_1)) fun q_5 =>
  if q_5.1 = 0 then
    (Option.bind (g_o q_5.2 12 (some a0)) fun b_40 =>
    Option.bind (c_V (f171 [.inr (.inr (some b_40)), .inl v2] q_5.2)) fun q_38 =>
    b183_77  q_38)
  else
    (Option.bind (g_r q_5.2 12 19 (some a0)) fun o_9 =>
    Option.bind (al_i q_5.2 20 o_9 v1) fun v_11 =>
    if v_11 = (32 : Int32) then
      (Option.bind (g_r q_5.2 12 4 (some a0)) fun o_27 =>
      Option.bind (al_i q_5.2 20 o_27 (5 : Int32)) fun v_29 =>
      Option.bind (as_i q_5.2 20 o_27 (5 : Int32) (v_29 + (1 : Int32))) fun M31 =>
      Option.bind (g_o M31 12 (some a0)) fun b_35 =>
      Option.bind (c_V (f171 [.inr (.inr (some b_35)), .inl v2] M31)) fun q_33 =>
      b183_77  q_33)
    else
      (Option.bind (g_r q_5.2 12 18 (some a0)) fun o_13 =>
      Option.bind (g_r q_5.2 12 19 (some a0)) fun o_15 =>
      Option.bind (al_i q_5.2 20 o_15 v1) fun v_17 =>
      Option.bind (as_i q_5.2 20 o_13 ((v1 * (32 : Int32)) + v_17) v2) fun M19 =>
      Option.bind (g_r M19 12 19 (some a0)) fun o_21 =>
      Option.bind (al_i M19 20 o_21 v1) fun v_23 =>
      Option.bind (as_i M19 20 o_21 v1 (v_23 + (1 : Int32))) fun M25 =>
      b183_77  M25))
def f183 (as : List aV) (M : hM) : xO := match as with
  | [.inr (.inr (some a0)), .inl v1, .inl v2] => x_out (b183_0 a0 v1 v2 M)
  | _ => none
theorem lb183_77 (G : gX) (l : Launch)  (M : hM) {res : xRes} (h : b183_77  M = some res) : h_sz M ≤ r_sz res ∧ h_sl M ≤ r_sl res := by
  unfold b183_77 at h
  obtain rfl := Option.some.inj h
  show h_sz M ≤ h_sz M ∧ h_sl M ≤ h_sl M
  omega
theorem lb183_0 (G : gX) (l : Launch) (a0 : Nat) (v1 : Int32) (v2 : Int32) (M : hM) {res : xRes} (h : b183_0 a0 v1 v2 M = some res) : h_sz M ≤ r_sz res ∧ h_sl M ≤ r_sl res := by
  unfold b183_0 at h
  obtain ⟨b_3, h4, h⟩ := bd h
  obtain ⟨q_1, h2, h⟩ := bd h
  have eh2 := (t170 G l (c_V_some h2)).1
  obtain ⟨b_7, h8, h⟩ := bd h
  obtain ⟨q_5, h6, h⟩ := bd h
  have eh6 := (t177 G l (c_I_some h6)).1
  by_cases q42 : q_5.1 = 0
  · rw [if_pos q42] at h
    obtain ⟨b_40, h41, h⟩ := bd h
    obtain ⟨q_38, h39, h⟩ := bd h
    have eh39 := (t171 G l (c_V_some h39)).1
    have e := lb183_77 G l  q_38 h
    omega
  · rw [if_neg q42] at h
    obtain ⟨o_9, h10, h⟩ := bd h
    obtain ⟨v_11, h12, h⟩ := bd h
    by_cases q37 : v_11 = (32 : Int32)
    · rw [if_pos q37] at h
      obtain ⟨o_27, h28, h⟩ := bd h
      obtain ⟨v_29, h30, h⟩ := bd h
      obtain ⟨M31, h32, h⟩ := bd h
      have eh32 := as_i_sz h32
      obtain ⟨b_35, h36, h⟩ := bd h
      obtain ⟨q_33, h34, h⟩ := bd h
      have eh34 := (t171 G l (c_V_some h34)).1
      have e := lb183_77 G l  q_33 h
      omega
    · rw [if_neg q37] at h
      obtain ⟨o_13, h14, h⟩ := bd h
      obtain ⟨o_15, h16, h⟩ := bd h
      obtain ⟨v_17, h18, h⟩ := bd h
      obtain ⟨M19, h20, h⟩ := bd h
      have eh20 := as_i_sz h20
      obtain ⟨o_21, h22, h⟩ := bd h
      obtain ⟨v_23, h24, h⟩ := bd h
      obtain ⟨M25, h26, h⟩ := bd h
      have eh26 := as_i_sz h26
      have e := lb183_77 G l  M25 h
      omega
section
variable {p : Program} {l : Launch} {e : Env} {s : State} {m : MethodId} {args : Array Value} {below : List Frame} {meth : Method} {c : Code} {G : gX} {z0 y0 : Nat} {r : Option aV} {M' : hM}
theorem sb183_77 (E : xE G p (xRm 3 (h_sz M' - z0) (h_sl M' - y0)) s m args c prog_14_method_20_code "ZonedFabricModel" z0 y0 (h_sz M') (h_sl M') 3) (B : xB ym183 none meth)  (M : hM) {res : xRes} (h : b183_77  M = some res) (hN : xN (fun _ _ _ => False) r M' res) : xV G p l e (xRm 3 (h_sz M' - z0) (h_sl M' - y0)) s m args below meth c z0 y0 (h_sz M') (h_sl M') 3 (MQ below (xQc G r M') args s (h_sz M' - z0) (h_sl M' - y0) (xFr G)) 77 [] [] M := by
  unfold b183_77 at h
  obtain rfl := Option.some.inj h
  obtain ⟨rfl, rfl⟩ := Prod.mk.inj (show ((none : Option aV), M) = (r, M') from hN)
  exact xv_rv E B.1 B.2.1 (show decode prog_14_method_20_code 77 = .ok (.return_, 1) by decide +kernel) rfl rfl
theorem sb183_0 (E : xE G p (xRm 3 (h_sz M' - z0) (h_sl M' - y0)) s m args c prog_14_method_20_code "ZonedFabricModel" z0 y0 (h_sz M') (h_sl M') 3) (B : xB ym183 none meth) (a0 : Nat) (v1 : Int32) (v2 : Int32) (M : hM) {res : xRes} (h : b183_0 a0 v1 v2 M = some res) (hN : xN (fun _ _ _ => False) r M' res) : xV G p l e (xRm 3 (h_sz M' - z0) (h_sl M' - y0)) s m args below meth c z0 y0 (h_sz M') (h_sl M') 3 (MQ below (xQc G r M') args s (h_sz M' - z0) (h_sl M' - y0) (xFr G)) 0 [(0, .inr (.inr (some a0))), (1, .inl v1), (2, .inl v2)] [] M := by
  unfold b183_0 at h
  refine xv_b E [.aload_n 0, .iload_n 2] (pc' := 2) (lv' := [(0, .inr (.inr (some a0))), (1, .inl v1), (2, .inl v2)]) (st' := [.inl v2, .inr (.inr (some a0))]) (by decide +kernel) rfl rfl ?_
  obtain ⟨b_3, h4, h⟩ := bd h
  obtain ⟨eh4, th4⟩ := g_o_some h4
  obtain ⟨q_1, h2, h⟩ := bd h
  refine xv_cvo E eh4 12 (as := [.inl v2]) (t170 G l (c_V_some h2)) cd170 mw972 mw973 mw974 (show decode prog_14_method_20_code 2 = .ok (.invokevirtual 220, 3) by decide +kernel) th4 rfl rfl (Nat.le_of_ble_eq_true rfl) ⟨Nat.le_of_ble_eq_true rfl, Nat.le_of_ble_eq_true rfl⟩ ?_
  refine xv_b E [.aload_n 0, .iload_n 1] (pc' := 7) (lv' := [(0, .inr (.inr (some a0))), (1, .inl v1), (2, .inl v2)]) (st' := [.inl v1, .inr (.inr (some a0))]) (by decide +kernel) rfl rfl ?_
  obtain ⟨b_7, h8, h⟩ := bd h
  obtain ⟨eh8, th8⟩ := g_o_some h8
  obtain ⟨q_5, h6, h⟩ := bd h
  refine xv_cvo E eh8 12 (as := [.inl v1]) (t177 G l (c_I_some h6)) cd177 mw963 mw964 mw965 (show decode prog_14_method_20_code 7 = .ok (.invokevirtual 213, 3) by decide +kernel) th8 rfl rfl (Nat.le_of_ble_eq_true rfl) ⟨Nat.le_of_ble_eq_true rfl, Nat.le_of_ble_eq_true rfl⟩ ?_
  by_cases q42 : q_5.1 = 0
  · rw [if_pos q42] at h
    refine xv_if_ne E 21 (show decode prog_14_method_20_code 10 = .ok (.ifCond .ne (11), 3) by decide +kernel) rfl (fun z => absurd q42 z) (fun _ => ?_)
    refine xv_b E [.aload_n 0, .iload_n 2] (pc' := 15) (lv' := [(0, .inr (.inr (some a0))), (1, .inl v1), (2, .inl v2)]) (st' := [.inl v2, .inr (.inr (some a0))]) (by decide +kernel) rfl rfl ?_
    obtain ⟨b_40, h41, h⟩ := bd h
    obtain ⟨eh41, th41⟩ := g_o_some h41
    obtain ⟨q_38, h39, h⟩ := bd h
    refine xv_cvo E eh41 12 (as := [.inl v2]) (t171 G l (c_V_some h39)) cd171 mw975 mw976 mw977 (show decode prog_14_method_20_code 15 = .ok (.invokevirtual 224, 3) by decide +kernel) th41 rfl rfl (Nat.le_of_ble_eq_true rfl) ⟨Nat.le_of_ble_eq_true rfl, Nat.le_of_ble_eq_true rfl⟩ ?_
    refine xv_goto E 77 (show decode prog_14_method_20_code 18 = .ok (.goto (59), 3) by decide +kernel) rfl ?_
    exact xv_w (sb183_77 E B  q_38 h hN) rfl
  · rw [if_neg q42] at h
    refine xv_if_ne E 21 (show decode prog_14_method_20_code 10 = .ok (.ifCond .ne (11), 3) by decide +kernel) rfl (fun _ => ?_) (fun z => absurd z q42)
    refine xv_b E [.aload_n 0] (pc' := 22) (lv' := [(0, .inr (.inr (some a0))), (1, .inl v1), (2, .inl v2)]) (st' := [.inr (.inr (some a0))]) (by decide +kernel) rfl rfl ?_
    obtain ⟨o_9, h10, h⟩ := bd h
    refine xg_r E 12 19 h10 mw879 (show decode prog_14_method_20_code 22 = .ok (.getfield 52, 3) by decide +kernel) ?_
    refine xv_b E [.iload_n 1] (pc' := 26) (lv' := [(0, .inr (.inr (some a0))), (1, .inl v1), (2, .inl v2)]) (st' := [.inl v1, .inr (.inr o_9)]) (by decide +kernel) rfl rfl ?_
    obtain ⟨v_11, h12, h⟩ := bd h
    refine xa_i E h12 (show decode prog_14_method_20_code 26 = .ok (.iaload, 1) by decide +kernel) ?_
    refine xv_b E [.bipush 32] (pc' := 29) (lv' := [(0, .inr (.inr (some a0))), (1, .inl v1), (2, .inl v2)]) (st' := [.inl (32 : Int32), .inl v_11]) (by decide +kernel) rfl rfl ?_
    by_cases q37 : v_11 = (32 : Int32)
    · rw [if_pos q37] at h
      refine xv_icmp_ne E 50 (show decode prog_14_method_20_code 29 = .ok (.if_icmp .ne (21), 3) by decide +kernel) rfl (fun z => absurd q37 z) (fun _ => ?_)
      refine xv_b E [.aload_n 0] (pc' := 33) (lv' := [(0, .inr (.inr (some a0))), (1, .inl v1), (2, .inl v2)]) (st' := [.inr (.inr (some a0))]) (by decide +kernel) rfl rfl ?_
      obtain ⟨o_27, h28, h⟩ := bd h
      refine xg_r E 12 4 h28 mw865 (show decode prog_14_method_20_code 33 = .ok (.getfield 7, 3) by decide +kernel) ?_
      refine xv_b E [.iconst 5, .dup2] (pc' := 38) (lv' := [(0, .inr (.inr (some a0))), (1, .inl v1), (2, .inl v2)]) (st' := [.inl (5 : Int32), .inr (.inr o_27), .inl (5 : Int32), .inr (.inr o_27)]) (by decide +kernel) rfl rfl ?_
      obtain ⟨v_29, h30, h⟩ := bd h
      refine xa_i E h30 (show decode prog_14_method_20_code 38 = .ok (.iaload, 1) by decide +kernel) ?_
      refine xv_b E [.iconst 1, .iadd] (pc' := 41) (lv' := [(0, .inr (.inr (some a0))), (1, .inl v1), (2, .inl v2)]) (st' := [.inl (v_29 + (1 : Int32)), .inl (5 : Int32), .inr (.inr o_27)]) (by decide +kernel) rfl rfl ?_
      obtain ⟨M31, h32, h⟩ := bd h
      refine xs_i E h32 (show decode prog_14_method_20_code 41 = .ok (.iastore, 1) by decide +kernel) ?_
      refine xv_b E [.aload_n 0, .iload_n 2] (pc' := 44) (lv' := [(0, .inr (.inr (some a0))), (1, .inl v1), (2, .inl v2)]) (st' := [.inl v2, .inr (.inr (some a0))]) (by decide +kernel) rfl rfl ?_
      obtain ⟨b_35, h36, h⟩ := bd h
      obtain ⟨eh36, th36⟩ := g_o_some h36
      obtain ⟨q_33, h34, h⟩ := bd h
      refine xv_cvo E eh36 12 (as := [.inl v2]) (t171 G l (c_V_some h34)) cd171 mw975 mw976 mw977 (show decode prog_14_method_20_code 44 = .ok (.invokevirtual 224, 3) by decide +kernel) th36 rfl rfl (Nat.le_of_ble_eq_true rfl) ⟨Nat.le_of_ble_eq_true rfl, Nat.le_of_ble_eq_true rfl⟩ ?_
      refine xv_goto E 77 (show decode prog_14_method_20_code 47 = .ok (.goto (30), 3) by decide +kernel) rfl ?_
      exact xv_w (sb183_77 E B  q_33 h hN) rfl
    · rw [if_neg q37] at h
      refine xv_icmp_ne E 50 (show decode prog_14_method_20_code 29 = .ok (.if_icmp .ne (21), 3) by decide +kernel) rfl (fun _ => ?_) (fun z => absurd z q37)
      refine xv_b E [.aload_n 0] (pc' := 51) (lv' := [(0, .inr (.inr (some a0))), (1, .inl v1), (2, .inl v2)]) (st' := [.inr (.inr (some a0))]) (by decide +kernel) rfl rfl ?_
      obtain ⟨o_13, h14, h⟩ := bd h
      refine xg_r E 12 18 h14 mw878 (show decode prog_14_method_20_code 51 = .ok (.getfield 49, 3) by decide +kernel) ?_
      refine xv_b E [.iload_n 1, .bipush 32, .imul, .aload_n 0] (pc' := 59) (lv' := [(0, .inr (.inr (some a0))), (1, .inl v1), (2, .inl v2)]) (st' := [.inr (.inr (some a0)), .inl (v1 * (32 : Int32)), .inr (.inr o_13)]) (by decide +kernel) rfl rfl ?_
      obtain ⟨o_15, h16, h⟩ := bd h
      refine xg_r E 12 19 h16 mw879 (show decode prog_14_method_20_code 59 = .ok (.getfield 52, 3) by decide +kernel) ?_
      refine xv_b E [.iload_n 1] (pc' := 63) (lv' := [(0, .inr (.inr (some a0))), (1, .inl v1), (2, .inl v2)]) (st' := [.inl v1, .inr (.inr o_15), .inl (v1 * (32 : Int32)), .inr (.inr o_13)]) (by decide +kernel) rfl rfl ?_
      obtain ⟨v_17, h18, h⟩ := bd h
      refine xa_i E h18 (show decode prog_14_method_20_code 63 = .ok (.iaload, 1) by decide +kernel) ?_
      refine xv_b E [.iadd, .iload_n 2] (pc' := 66) (lv' := [(0, .inr (.inr (some a0))), (1, .inl v1), (2, .inl v2)]) (st' := [.inl v2, .inl ((v1 * (32 : Int32)) + v_17), .inr (.inr o_13)]) (by decide +kernel) rfl rfl ?_
      obtain ⟨M19, h20, h⟩ := bd h
      refine xs_i E h20 (show decode prog_14_method_20_code 66 = .ok (.iastore, 1) by decide +kernel) ?_
      refine xv_b E [.aload_n 0] (pc' := 68) (lv' := [(0, .inr (.inr (some a0))), (1, .inl v1), (2, .inl v2)]) (st' := [.inr (.inr (some a0))]) (by decide +kernel) rfl rfl ?_
      obtain ⟨o_21, h22, h⟩ := bd h
      refine xg_r E 12 19 h22 mw879 (show decode prog_14_method_20_code 68 = .ok (.getfield 52, 3) by decide +kernel) ?_
      refine xv_b E [.iload_n 1, .dup2] (pc' := 73) (lv' := [(0, .inr (.inr (some a0))), (1, .inl v1), (2, .inl v2)]) (st' := [.inl v1, .inr (.inr o_21), .inl v1, .inr (.inr o_21)]) (by decide +kernel) rfl rfl ?_
      obtain ⟨v_23, h24, h⟩ := bd h
      refine xa_i E h24 (show decode prog_14_method_20_code 73 = .ok (.iaload, 1) by decide +kernel) ?_
      refine xv_b E [.iconst 1, .iadd] (pc' := 76) (lv' := [(0, .inr (.inr (some a0))), (1, .inl v1), (2, .inl v2)]) (st' := [.inl (v_23 + (1 : Int32)), .inl v1, .inr (.inr o_21)]) (by decide +kernel) rfl rfl ?_
      obtain ⟨M25, h26, h⟩ := bd h
      refine xs_i E h26 (show decode prog_14_method_20_code 76 = .ok (.iastore, 1) by decide +kernel) ?_
      exact xv_w (sb183_77 E B  M25 h hN) rfl
end
theorem t183 (G : gX) (l : Launch) {as : List aV} {M : hM} {r : Option aV} {M' : hM} (h : f183 as M = some (r, M')) : xM G l ym183 prog_14_method_20_code 3 none 3 as M r M' := by
  unfold f183 at h
  split at h
  · have h := x_out_ok h
    refine xM_of (by decide) (Nat.le_of_ble_eq_true rfl) (lb183_0 G l _ _ _ M h) ?_
    intro p e s m args below meth c E B
    exact sb183_0 E B _ _ _ M h rfl
  · cases h
/-! ZFModel.sendsQueued(I)V -/
def ym184 : MethodName := ⟨"ZonedFabricModel", "sendsQueued", "(I)V"⟩
theorem cd184 : xCd ym184 prog_14_method_21_code 3 none 1 := ⟨mw978, mw864, by decide, by decide, by decide +kernel⟩
def b184_17  (M : hM) : Option xRes :=
  some (.inl (none, M))
def b184_0 (a0 : Nat) (v1 : Int32) (M : hM) : Option xRes :=
  Option.bind (g_r M 12 19 (some a0)) fun o_1 =>
  Option.bind (al_i M 20 o_1 v1) fun v_3 =>
  if v_3 = 0 then
    (b184_17  M)
  else
    (Option.bind (g_o M 12 (some a0)) fun b_7 =>
    Option.bind (c_I (f181 [.inr (.inr (some b_7)), .inl v1] M)) fun q_5 =>
    if q_5.1 = 0 then
      (b184_17  q_5.2)
    else
      (Option.bind (g_r q_5.2 12 18 (some a0)) fun o_9 =>
      Option.bind (al_i q_5.2 20 o_9 (v1 * (32 : Int32))) fun v_11 =>
      Option.bind (g_o q_5.2 12 (some a0)) fun b_15 =>
      Option.bind (c_V (f182 [.inr (.inr (some b_15)), .inl v1, .inl v_11] q_5.2)) fun q_13 =>
      Option.bind (g_r q_13 12 19 (some a0)) fun o_17 =>
      Option.bind (al_i q_13 20 o_17 v1) fun v_19 =>
      Option.bind (as_i q_13 20 o_17 v1 (v_19 - (1 : Int32))) fun M21 =>
      some (.inr (44, [.inr (.inr (some a0)), .inl v1, .inl (0 : Int32)], M21))))
def b184_44 (a0 : Nat) (v1 : Int32) (v2 : Int32) (M : hM) : Option xRes :=
  Option.bind (g_r M 12 19 (some a0)) fun o_25 =>
  Option.bind (al_i M 20 o_25 v1) fun v_27 =>
  if v_27 ≤ v2 then
    (some (.inl (none, M)))
  else
    (Option.bind (g_r M 12 18 (some a0)) fun o_29 =>
    Option.bind (g_r M 12 18 (some a0)) fun o_31 =>
    Option.bind (al_i M 20 o_31 (((v1 * (32 : Int32)) + v2) + (1 : Int32))) fun v_33 =>
    Option.bind (as_i M 20 o_29 ((v1 * (32 : Int32)) + v2) v_33) fun M35 =>
    some (.inr (44, [.inr (.inr (some a0)), .inl v1, .inl (v2 + (1 : Int32))], M35)))
def k184 (h : Nat) (as : List aV) (M : hM) : Option xRes :=
  if h = 44 then (match as with | [.inr (.inr (some a0)), .inl v1, .inl v2] => b184_44 a0 v1 v2 M | _ => none) else
  none
def f184 (as : List aV) (M : hM) : xO := match as with
  | [.inr (.inr (some a0)), .inl v1] => x_go k184 (b184_0 a0 v1 M)
  | _ => none
theorem lb184_17 (G : gX) (l : Launch)  (M : hM) {res : xRes} (h : b184_17  M = some res) : h_sz M ≤ r_sz res ∧ h_sl M ≤ r_sl res := by
  unfold b184_17 at h
  obtain rfl := Option.some.inj h
  show h_sz M ≤ h_sz M ∧ h_sl M ≤ h_sl M
  omega
theorem lb184_0 (G : gX) (l : Launch) (a0 : Nat) (v1 : Int32) (M : hM) {res : xRes} (h : b184_0 a0 v1 M = some res) : h_sz M ≤ r_sz res ∧ h_sl M ≤ r_sl res := by
  unfold b184_0 at h
  obtain ⟨o_1, h2, h⟩ := bd h
  obtain ⟨v_3, h4, h⟩ := bd h
  by_cases q24 : v_3 = 0
  · rw [if_pos q24] at h
    have e := lb184_17 G l  M h
    omega
  · rw [if_neg q24] at h
    obtain ⟨b_7, h8, h⟩ := bd h
    obtain ⟨q_5, h6, h⟩ := bd h
    have eh6 := (t181 G l (c_I_some h6)).1
    by_cases q23 : q_5.1 = 0
    · rw [if_pos q23] at h
      have e := lb184_17 G l  q_5.2 h
      omega
    · rw [if_neg q23] at h
      obtain ⟨o_9, h10, h⟩ := bd h
      obtain ⟨v_11, h12, h⟩ := bd h
      obtain ⟨b_15, h16, h⟩ := bd h
      obtain ⟨q_13, h14, h⟩ := bd h
      have eh14 := (t182 G l (c_V_some h14)).1
      obtain ⟨o_17, h18, h⟩ := bd h
      obtain ⟨v_19, h20, h⟩ := bd h
      obtain ⟨M21, h22, h⟩ := bd h
      have eh22 := as_i_sz h22
      obtain rfl := Option.some.inj h
      show h_sz M ≤ h_sz M21 ∧ h_sl M ≤ h_sl M21
      omega
theorem lb184_44 (G : gX) (l : Launch) (a0 : Nat) (v1 : Int32) (v2 : Int32) (M : hM) {res : xRes} (h : b184_44 a0 v1 v2 M = some res) : h_sz M ≤ r_sz res ∧ h_sl M ≤ r_sl res := by
  unfold b184_44 at h
  obtain ⟨o_25, h26, h⟩ := bd h
  obtain ⟨v_27, h28, h⟩ := bd h
  by_cases q37 : v_27 ≤ v2
  · rw [if_pos q37] at h
    obtain rfl := Option.some.inj h
    show h_sz M ≤ h_sz M ∧ h_sl M ≤ h_sl M
    omega
  · rw [if_neg q37] at h
    obtain ⟨o_29, h30, h⟩ := bd h
    obtain ⟨o_31, h32, h⟩ := bd h
    obtain ⟨v_33, h34, h⟩ := bd h
    obtain ⟨M35, h36, h⟩ := bd h
    have eh36 := as_i_sz h36
    obtain rfl := Option.some.inj h
    show h_sz M ≤ h_sz M35 ∧ h_sl M ≤ h_sl M35
    omega
section
variable {p : Program} {l : Launch} {e : Env} {s : State} {m : MethodId} {args : Array Value} {below : List Frame} {meth : Method} {c : Code} {G : gX} {z0 y0 : Nat} {r : Option aV} {M' : hM}
def pg184 (p : Program) (l : Launch) (e : Env) (s : State) (m : MethodId) (args : Array Value) (below : List Frame) (meth : Method) (c : Code) (G : gX) (z0 y0 : Nat) (r : Option aV) (M' : hM) (h : Nat) (as : List aV) (M : hM) : Prop :=
  if h = 44 then (match as with | [.inr (.inr (some a0)), .inl v1, .inl v2] => xV G p l e (xRm 3 (h_sz M' - z0) (h_sl M' - y0)) s m args below meth c z0 y0 (h_sz M') (h_sl M') 3 (MQ below (xQc G r M') args s (h_sz M' - z0) (h_sl M' - y0) (xFr G)) 44 [(0, .inr (.inr (some a0))), (1, .inl v1), (2, .inl v2)] [] M | _ => False) else
  False
theorem sb184_17 (E : xE G p (xRm 3 (h_sz M' - z0) (h_sl M' - y0)) s m args c prog_14_method_21_code "ZonedFabricModel" z0 y0 (h_sz M') (h_sl M') 3) (B : xB ym184 none meth)  (M : hM) {res : xRes} (h : b184_17  M = some res) (hN : xN (pg184 p l e s m args below meth c G z0 y0 r M') r M' res) : xV G p l e (xRm 3 (h_sz M' - z0) (h_sl M' - y0)) s m args below meth c z0 y0 (h_sz M') (h_sl M') 3 (MQ below (xQc G r M') args s (h_sz M' - z0) (h_sl M' - y0) (xFr G)) 17 [] [] M := by
  unfold b184_17 at h
  obtain rfl := Option.some.inj h
  obtain ⟨rfl, rfl⟩ := Prod.mk.inj (show ((none : Option aV), M) = (r, M') from hN)
  exact xv_rv E B.1 B.2.1 (show decode prog_14_method_21_code 17 = .ok (.return_, 1) by decide +kernel) rfl rfl
theorem sb184_0 (E : xE G p (xRm 3 (h_sz M' - z0) (h_sl M' - y0)) s m args c prog_14_method_21_code "ZonedFabricModel" z0 y0 (h_sz M') (h_sl M') 3) (B : xB ym184 none meth) (a0 : Nat) (v1 : Int32) (M : hM) {res : xRes} (h : b184_0 a0 v1 M = some res) (hN : xN (pg184 p l e s m args below meth c G z0 y0 r M') r M' res) : xV G p l e (xRm 3 (h_sz M' - z0) (h_sl M' - y0)) s m args below meth c z0 y0 (h_sz M') (h_sl M') 3 (MQ below (xQc G r M') args s (h_sz M' - z0) (h_sl M' - y0) (xFr G)) 0 [(0, .inr (.inr (some a0))), (1, .inl v1)] [] M := by
  unfold b184_0 at h
  refine xv_b E [.aload_n 0] (pc' := 1) (lv' := [(0, .inr (.inr (some a0))), (1, .inl v1)]) (st' := [.inr (.inr (some a0))]) (by decide +kernel) rfl rfl ?_
  obtain ⟨o_1, h2, h⟩ := bd h
  refine xg_r E 12 19 h2 mw879 (show decode prog_14_method_21_code 1 = .ok (.getfield 52, 3) by decide +kernel) ?_
  refine xv_b E [.iload_n 1] (pc' := 5) (lv' := [(0, .inr (.inr (some a0))), (1, .inl v1)]) (st' := [.inl v1, .inr (.inr o_1)]) (by decide +kernel) rfl rfl ?_
  obtain ⟨v_3, h4, h⟩ := bd h
  refine xa_i E h4 (show decode prog_14_method_21_code 5 = .ok (.iaload, 1) by decide +kernel) ?_
  by_cases q24 : v_3 = 0
  · rw [if_pos q24] at h
    refine xv_if_eq E 17 (show decode prog_14_method_21_code 6 = .ok (.ifCond .eq (11), 3) by decide +kernel) rfl (fun _ => ?_) (fun z => absurd q24 z)
    exact xv_w (sb184_17 E B  M h hN) rfl
  · rw [if_neg q24] at h
    refine xv_if_eq E 17 (show decode prog_14_method_21_code 6 = .ok (.ifCond .eq (11), 3) by decide +kernel) rfl (fun z => absurd z q24) (fun _ => ?_)
    refine xv_b E [.aload_n 0, .iload_n 1] (pc' := 11) (lv' := [(0, .inr (.inr (some a0))), (1, .inl v1)]) (st' := [.inl v1, .inr (.inr (some a0))]) (by decide +kernel) rfl rfl ?_
    obtain ⟨b_7, h8, h⟩ := bd h
    obtain ⟨eh8, th8⟩ := g_o_some h8
    obtain ⟨q_5, h6, h⟩ := bd h
    refine xv_cvo E eh8 12 (as := [.inl v1]) (t181 G l (c_I_some h6)) cd181 mw979 mw980 mw981 (show decode prog_14_method_21_code 11 = .ok (.invokevirtual 227, 3) by decide +kernel) th8 rfl rfl (Nat.le_of_ble_eq_true rfl) ⟨Nat.le_of_ble_eq_true rfl, Nat.le_of_ble_eq_true rfl⟩ ?_
    by_cases q23 : q_5.1 = 0
    · rw [if_pos q23] at h
      refine xv_if_ne E 18 (show decode prog_14_method_21_code 14 = .ok (.ifCond .ne (4), 3) by decide +kernel) rfl (fun z => absurd q23 z) (fun _ => ?_)
      exact xv_w (sb184_17 E B  q_5.2 h hN) rfl
    · rw [if_neg q23] at h
      refine xv_if_ne E 18 (show decode prog_14_method_21_code 14 = .ok (.ifCond .ne (4), 3) by decide +kernel) rfl (fun _ => ?_) (fun z => absurd z q23)
      refine xv_b E [.aload_n 0, .iload_n 1, .aload_n 0] (pc' := 21) (lv' := [(0, .inr (.inr (some a0))), (1, .inl v1)]) (st' := [.inr (.inr (some a0)), .inl v1, .inr (.inr (some a0))]) (by decide +kernel) rfl rfl ?_
      obtain ⟨o_9, h10, h⟩ := bd h
      refine xg_r E 12 18 h10 mw878 (show decode prog_14_method_21_code 21 = .ok (.getfield 49, 3) by decide +kernel) ?_
      refine xv_b E [.iload_n 1, .bipush 32, .imul] (pc' := 28) (lv' := [(0, .inr (.inr (some a0))), (1, .inl v1)]) (st' := [.inl (v1 * (32 : Int32)), .inr (.inr o_9), .inl v1, .inr (.inr (some a0))]) (by decide +kernel) rfl rfl ?_
      obtain ⟨v_11, h12, h⟩ := bd h
      refine xa_i E h12 (show decode prog_14_method_21_code 28 = .ok (.iaload, 1) by decide +kernel) ?_
      obtain ⟨b_15, h16, h⟩ := bd h
      obtain ⟨eh16, th16⟩ := g_o_some h16
      obtain ⟨q_13, h14, h⟩ := bd h
      refine xv_cvo E eh16 12 (as := [.inl v1, .inl v_11]) (t182 G l (c_V_some h14)) cd182 mw982 mw983 mw984 (show decode prog_14_method_21_code 29 = .ok (.invokevirtual 230, 3) by decide +kernel) th16 rfl rfl (Nat.le_of_ble_eq_true rfl) ⟨Nat.le_of_ble_eq_true rfl, Nat.le_of_ble_eq_true rfl⟩ ?_
      refine xv_b E [.aload_n 0] (pc' := 33) (lv' := [(0, .inr (.inr (some a0))), (1, .inl v1)]) (st' := [.inr (.inr (some a0))]) (by decide +kernel) rfl rfl ?_
      obtain ⟨o_17, h18, h⟩ := bd h
      refine xg_r E 12 19 h18 mw879 (show decode prog_14_method_21_code 33 = .ok (.getfield 52, 3) by decide +kernel) ?_
      refine xv_b E [.iload_n 1, .dup2] (pc' := 38) (lv' := [(0, .inr (.inr (some a0))), (1, .inl v1)]) (st' := [.inl v1, .inr (.inr o_17), .inl v1, .inr (.inr o_17)]) (by decide +kernel) rfl rfl ?_
      obtain ⟨v_19, h20, h⟩ := bd h
      refine xa_i E h20 (show decode prog_14_method_21_code 38 = .ok (.iaload, 1) by decide +kernel) ?_
      refine xv_b E [.iconst 1, .isub] (pc' := 41) (lv' := [(0, .inr (.inr (some a0))), (1, .inl v1)]) (st' := [.inl (v_19 - (1 : Int32)), .inl v1, .inr (.inr o_17)]) (by decide +kernel) rfl rfl ?_
      obtain ⟨M21, h22, h⟩ := bd h
      refine xs_i E h22 (show decode prog_14_method_21_code 41 = .ok (.iastore, 1) by decide +kernel) ?_
      refine xv_b E [.iconst 0, .istore_n 2] (pc' := 44) (lv' := [(2, .inl (0 : Int32)), (0, .inr (.inr (some a0))), (1, .inl v1)]) (st' := []) (by decide +kernel) rfl rfl ?_
      obtain rfl := Option.some.inj h
      exact xv_w hN rfl
theorem sb184_44 (E : xE G p (xRm 3 (h_sz M' - z0) (h_sl M' - y0)) s m args c prog_14_method_21_code "ZonedFabricModel" z0 y0 (h_sz M') (h_sl M') 3) (B : xB ym184 none meth) (a0 : Nat) (v1 : Int32) (v2 : Int32) (M : hM) {res : xRes} (h : b184_44 a0 v1 v2 M = some res) (hN : xN (pg184 p l e s m args below meth c G z0 y0 r M') r M' res) : xV G p l e (xRm 3 (h_sz M' - z0) (h_sl M' - y0)) s m args below meth c z0 y0 (h_sz M') (h_sl M') 3 (MQ below (xQc G r M') args s (h_sz M' - z0) (h_sl M' - y0) (xFr G)) 44 [(0, .inr (.inr (some a0))), (1, .inl v1), (2, .inl v2)] [] M := by
  unfold b184_44 at h
  refine xv_b E [.iload_n 2, .aload_n 0] (pc' := 46) (lv' := [(0, .inr (.inr (some a0))), (1, .inl v1), (2, .inl v2)]) (st' := [.inr (.inr (some a0)), .inl v2]) (by decide +kernel) rfl rfl ?_
  obtain ⟨o_25, h26, h⟩ := bd h
  refine xg_r E 12 19 h26 mw879 (show decode prog_14_method_21_code 46 = .ok (.getfield 52, 3) by decide +kernel) ?_
  refine xv_b E [.iload_n 1] (pc' := 50) (lv' := [(0, .inr (.inr (some a0))), (1, .inl v1), (2, .inl v2)]) (st' := [.inl v1, .inr (.inr o_25), .inl v2]) (by decide +kernel) rfl rfl ?_
  obtain ⟨v_27, h28, h⟩ := bd h
  refine xa_i E h28 (show decode prog_14_method_21_code 50 = .ok (.iaload, 1) by decide +kernel) ?_
  by_cases q37 : v_27 ≤ v2
  · rw [if_pos q37] at h
    refine xv_icmp_ge E 84 (show decode prog_14_method_21_code 51 = .ok (.if_icmp .ge (33), 3) by decide +kernel) rfl (fun _ => ?_) (fun z => absurd q37 z)
    obtain rfl := Option.some.inj h
    obtain ⟨rfl, rfl⟩ := Prod.mk.inj (show ((none : Option aV), M) = (r, M') from hN)
    exact xv_rv E B.1 B.2.1 (show decode prog_14_method_21_code 84 = .ok (.return_, 1) by decide +kernel) rfl rfl
  · rw [if_neg q37] at h
    refine xv_icmp_ge E 84 (show decode prog_14_method_21_code 51 = .ok (.if_icmp .ge (33), 3) by decide +kernel) rfl (fun z => absurd z q37) (fun _ => ?_)
    refine xv_b E [.aload_n 0] (pc' := 55) (lv' := [(0, .inr (.inr (some a0))), (1, .inl v1), (2, .inl v2)]) (st' := [.inr (.inr (some a0))]) (by decide +kernel) rfl rfl ?_
    obtain ⟨o_29, h30, h⟩ := bd h
    refine xg_r E 12 18 h30 mw878 (show decode prog_14_method_21_code 55 = .ok (.getfield 49, 3) by decide +kernel) ?_
    refine xv_b E [.iload_n 1, .bipush 32, .imul, .iload_n 2, .iadd, .aload_n 0] (pc' := 65) (lv' := [(0, .inr (.inr (some a0))), (1, .inl v1), (2, .inl v2)]) (st' := [.inr (.inr (some a0)), .inl ((v1 * (32 : Int32)) + v2), .inr (.inr o_29)]) (by decide +kernel) rfl rfl ?_
    obtain ⟨o_31, h32, h⟩ := bd h
    refine xg_r E 12 18 h32 mw878 (show decode prog_14_method_21_code 65 = .ok (.getfield 49, 3) by decide +kernel) ?_
    refine xv_b E [.iload_n 1, .bipush 32, .imul, .iload_n 2, .iadd, .iconst 1, .iadd] (pc' := 76) (lv' := [(0, .inr (.inr (some a0))), (1, .inl v1), (2, .inl v2)]) (st' := [.inl (((v1 * (32 : Int32)) + v2) + (1 : Int32)), .inr (.inr o_31), .inl ((v1 * (32 : Int32)) + v2), .inr (.inr o_29)]) (by decide +kernel) rfl rfl ?_
    obtain ⟨v_33, h34, h⟩ := bd h
    refine xa_i E h34 (show decode prog_14_method_21_code 76 = .ok (.iaload, 1) by decide +kernel) ?_
    obtain ⟨M35, h36, h⟩ := bd h
    refine xs_i E h36 (show decode prog_14_method_21_code 77 = .ok (.iastore, 1) by decide +kernel) ?_
    refine xv_b E [.iinc 2 1] (pc' := 81) (lv' := [(2, .inl (v2 + (1 : Int32))), (0, .inr (.inr (some a0))), (1, .inl v1)]) (st' := []) (by decide +kernel) rfl rfl ?_
    refine xv_goto E 44 (show decode prog_14_method_21_code 81 = .ok (.goto (-37), 3) by decide +kernel) rfl ?_
    obtain rfl := Option.some.inj h
    exact xv_w hN rfl
end
theorem t184 (G : gX) (l : Launch) {as : List aV} {M : hM} {r : Option aV} {M' : hM} (h : f184 as M = some (r, M')) : xM G l ym184 prog_14_method_21_code 3 none 3 as M r M' := by
  unfold f184 at h
  split at h
  · have hle : ∀ h as M res, k184 h as M = some res → h_sz M ≤ r_sz res ∧ h_sl M ≤ r_sl res := by
      intro h as M res hb
      unfold k184 at hb
      by_cases e0 : h = 44
      · rw [if_pos e0] at hb
        split at hb
        · exact lb184_44 G l _ _ _ M hb
        · cases hb
      · rw [if_neg e0] at hb
        cases hb
    obtain ⟨res, hx, hres⟩ := x_go_ok h
    refine xM_of (by decide) (Nat.le_of_ble_eq_true rfl) ?_ ?_
    · have e1 := lb184_0 G l _ _ M hx
      have e2 := x_go_le hle hres
      omega
    · intro p e s m args below meth c E B
      refine sb184_0 E B _ _ M hx (hres _ ?_)
      intro h as M res hb hN
      unfold k184 at hb
      unfold pg184
      by_cases e0 : h = 44
      · rw [if_pos e0] at hb ⊢
        split at hb
        · exact sb184_44 E B _ _ _ M hb hN
        · cases hb
      · rw [if_neg e0] at hb ⊢
        cases hb
  · cases h
/-! ZFModel.leaves(I)I -/
def ym185 : MethodName := ⟨"ZonedFabricModel", "leaves", "(I)I"⟩
theorem cd185 : xCd ym185 prog_14_method_22_code 4 (some FieldType.int) 1 := ⟨mw985, mw864, by decide, by decide, by decide +kernel⟩
def b185_0 (a0 : Nat) (v1 : Int32) (M : hM) : Option xRes :=
  Option.bind (g_r M 12 16 (some a0)) fun o_1 =>
  Option.bind (al_i M 20 o_1 (v1 * (4 : Int32))) fun v_3 =>
  Option.bind (g_r M 12 17 (some a0)) fun o_5 =>
  Option.bind (al_i M 20 o_5 v1) fun v_7 =>
  Option.bind (as_i M 20 o_5 v1 (v_7 - (1 : Int32))) fun M9 =>
  some (.inr (21, [.inr (.inr (some a0)), .inl v1, .inl v_3, .inl (0 : Int32)], M9))
def b185_21 (a0 : Nat) (v1 : Int32) (v2 : Int32) (v3 : Int32) (M : hM) : Option xRes :=
  Option.bind (g_r M 12 17 (some a0)) fun o_11 =>
  Option.bind (al_i M 20 o_11 v1) fun v_13 =>
  if v_13 ≤ v3 then
    (Option.bind (g_r M 12 20 (some a0)) fun o_15 =>
    Option.bind (al_i M 20 o_15 v1) fun v_17 =>
    Option.bind (as_i M 20 o_15 v1 (v_17 + (1 : Int32))) fun M19 =>
    Option.bind (g_r M19 12 21 (some a0)) fun o_21 =>
    Option.bind (as_i M19 20 o_21 v1 (0 : Int32)) fun M23 =>
    some (.inl (some (.inl v2), M23)))
  else
    (Option.bind (g_r M 12 16 (some a0)) fun o_25 =>
    Option.bind (g_r M 12 16 (some a0)) fun o_27 =>
    Option.bind (al_i M 20 o_27 (((v1 * (4 : Int32)) + v3) + (1 : Int32))) fun v_29 =>
    Option.bind (as_i M 20 o_25 ((v1 * (4 : Int32)) + v3) v_29) fun M31 =>
    some (.inr (21, [.inr (.inr (some a0)), .inl v1, .inl v2, .inl (v3 + (1 : Int32))], M31)))
def k185 (h : Nat) (as : List aV) (M : hM) : Option xRes :=
  if h = 21 then (match as with | [.inr (.inr (some a0)), .inl v1, .inl v2, .inl v3] => b185_21 a0 v1 v2 v3 M | _ => none) else
  none
def f185 (as : List aV) (M : hM) : xO := match as with
  | [.inr (.inr (some a0)), .inl v1] => x_go k185 (b185_0 a0 v1 M)
  | _ => none
theorem lb185_0 (G : gX) (l : Launch) (a0 : Nat) (v1 : Int32) (M : hM) {res : xRes} (h : b185_0 a0 v1 M = some res) : h_sz M ≤ r_sz res ∧ h_sl M ≤ r_sl res := by
  unfold b185_0 at h
  obtain ⟨o_1, h2, h⟩ := bd h
  obtain ⟨v_3, h4, h⟩ := bd h
  obtain ⟨o_5, h6, h⟩ := bd h
  obtain ⟨v_7, h8, h⟩ := bd h
  obtain ⟨M9, h10, h⟩ := bd h
  have eh10 := as_i_sz h10
  obtain rfl := Option.some.inj h
  show h_sz M ≤ h_sz M9 ∧ h_sl M ≤ h_sl M9
  omega
theorem lb185_21 (G : gX) (l : Launch) (a0 : Nat) (v1 : Int32) (v2 : Int32) (v3 : Int32) (M : hM) {res : xRes} (h : b185_21 a0 v1 v2 v3 M = some res) : h_sz M ≤ r_sz res ∧ h_sl M ≤ r_sl res := by
  unfold b185_21 at h
  obtain ⟨o_11, h12, h⟩ := bd h
  obtain ⟨v_13, h14, h⟩ := bd h
  by_cases q33 : v_13 ≤ v3
  · rw [if_pos q33] at h
    obtain ⟨o_15, h16, h⟩ := bd h
    obtain ⟨v_17, h18, h⟩ := bd h
    obtain ⟨M19, h20, h⟩ := bd h
    have eh20 := as_i_sz h20
    obtain ⟨o_21, h22, h⟩ := bd h
    obtain ⟨M23, h24, h⟩ := bd h
    have eh24 := as_i_sz h24
    obtain rfl := Option.some.inj h
    show h_sz M ≤ h_sz M23 ∧ h_sl M ≤ h_sl M23
    omega
  · rw [if_neg q33] at h
    obtain ⟨o_25, h26, h⟩ := bd h
    obtain ⟨o_27, h28, h⟩ := bd h
    obtain ⟨v_29, h30, h⟩ := bd h
    obtain ⟨M31, h32, h⟩ := bd h
    have eh32 := as_i_sz h32
    obtain rfl := Option.some.inj h
    show h_sz M ≤ h_sz M31 ∧ h_sl M ≤ h_sl M31
    omega
section
variable {p : Program} {l : Launch} {e : Env} {s : State} {m : MethodId} {args : Array Value} {below : List Frame} {meth : Method} {c : Code} {G : gX} {z0 y0 : Nat} {r : Option aV} {M' : hM}
def pg185 (p : Program) (l : Launch) (e : Env) (s : State) (m : MethodId) (args : Array Value) (below : List Frame) (meth : Method) (c : Code) (G : gX) (z0 y0 : Nat) (r : Option aV) (M' : hM) (h : Nat) (as : List aV) (M : hM) : Prop :=
  if h = 21 then (match as with | [.inr (.inr (some a0)), .inl v1, .inl v2, .inl v3] => xV G p l e (xRm 0 (h_sz M' - z0) (h_sl M' - y0)) s m args below meth c z0 y0 (h_sz M') (h_sl M') 4 (MQ below (xQc G r M') args s (h_sz M' - z0) (h_sl M' - y0) (xFr G)) 21 [(0, .inr (.inr (some a0))), (1, .inl v1), (2, .inl v2), (3, .inl v3)] [] M | _ => False) else
  False
theorem sb185_0 (E : xE G p (xRm 0 (h_sz M' - z0) (h_sl M' - y0)) s m args c prog_14_method_22_code "ZonedFabricModel" z0 y0 (h_sz M') (h_sl M') 4) (B : xB ym185 (some FieldType.int) meth) (a0 : Nat) (v1 : Int32) (M : hM) {res : xRes} (h : b185_0 a0 v1 M = some res) (hN : xN (pg185 p l e s m args below meth c G z0 y0 r M') r M' res) : xV G p l e (xRm 0 (h_sz M' - z0) (h_sl M' - y0)) s m args below meth c z0 y0 (h_sz M') (h_sl M') 4 (MQ below (xQc G r M') args s (h_sz M' - z0) (h_sl M' - y0) (xFr G)) 0 [(0, .inr (.inr (some a0))), (1, .inl v1)] [] M := by
  unfold b185_0 at h
  refine xv_b E [.aload_n 0] (pc' := 1) (lv' := [(0, .inr (.inr (some a0))), (1, .inl v1)]) (st' := [.inr (.inr (some a0))]) (by decide +kernel) rfl rfl ?_
  obtain ⟨o_1, h2, h⟩ := bd h
  refine xg_r E 12 16 h2 mw876 (show decode prog_14_method_22_code 1 = .ok (.getfield 43, 3) by decide +kernel) ?_
  refine xv_b E [.iload_n 1, .iconst 4, .imul] (pc' := 7) (lv' := [(0, .inr (.inr (some a0))), (1, .inl v1)]) (st' := [.inl (v1 * (4 : Int32)), .inr (.inr o_1)]) (by decide +kernel) rfl rfl ?_
  obtain ⟨v_3, h4, h⟩ := bd h
  refine xa_i E h4 (show decode prog_14_method_22_code 7 = .ok (.iaload, 1) by decide +kernel) ?_
  refine xv_b E [.istore_n 2, .aload_n 0] (pc' := 10) (lv' := [(2, .inl v_3), (0, .inr (.inr (some a0))), (1, .inl v1)]) (st' := [.inr (.inr (some a0))]) (by decide +kernel) rfl rfl ?_
  obtain ⟨o_5, h6, h⟩ := bd h
  refine xg_r E 12 17 h6 mw877 (show decode prog_14_method_22_code 10 = .ok (.getfield 46, 3) by decide +kernel) ?_
  refine xv_b E [.iload_n 1, .dup2] (pc' := 15) (lv' := [(2, .inl v_3), (0, .inr (.inr (some a0))), (1, .inl v1)]) (st' := [.inl v1, .inr (.inr o_5), .inl v1, .inr (.inr o_5)]) (by decide +kernel) rfl rfl ?_
  obtain ⟨v_7, h8, h⟩ := bd h
  refine xa_i E h8 (show decode prog_14_method_22_code 15 = .ok (.iaload, 1) by decide +kernel) ?_
  refine xv_b E [.iconst 1, .isub] (pc' := 18) (lv' := [(2, .inl v_3), (0, .inr (.inr (some a0))), (1, .inl v1)]) (st' := [.inl (v_7 - (1 : Int32)), .inl v1, .inr (.inr o_5)]) (by decide +kernel) rfl rfl ?_
  obtain ⟨M9, h10, h⟩ := bd h
  refine xs_i E h10 (show decode prog_14_method_22_code 18 = .ok (.iastore, 1) by decide +kernel) ?_
  refine xv_b E [.iconst 0, .istore_n 3] (pc' := 21) (lv' := [(3, .inl (0 : Int32)), (2, .inl v_3), (0, .inr (.inr (some a0))), (1, .inl v1)]) (st' := []) (by decide +kernel) rfl rfl ?_
  obtain rfl := Option.some.inj h
  exact xv_w hN rfl
theorem sb185_21 (E : xE G p (xRm 0 (h_sz M' - z0) (h_sl M' - y0)) s m args c prog_14_method_22_code "ZonedFabricModel" z0 y0 (h_sz M') (h_sl M') 4) (B : xB ym185 (some FieldType.int) meth) (a0 : Nat) (v1 : Int32) (v2 : Int32) (v3 : Int32) (M : hM) {res : xRes} (h : b185_21 a0 v1 v2 v3 M = some res) (hN : xN (pg185 p l e s m args below meth c G z0 y0 r M') r M' res) : xV G p l e (xRm 0 (h_sz M' - z0) (h_sl M' - y0)) s m args below meth c z0 y0 (h_sz M') (h_sl M') 4 (MQ below (xQc G r M') args s (h_sz M' - z0) (h_sl M' - y0) (xFr G)) 21 [(0, .inr (.inr (some a0))), (1, .inl v1), (2, .inl v2), (3, .inl v3)] [] M := by
  unfold b185_21 at h
  refine xv_b E [.iload_n 3, .aload_n 0] (pc' := 23) (lv' := [(0, .inr (.inr (some a0))), (1, .inl v1), (2, .inl v2), (3, .inl v3)]) (st' := [.inr (.inr (some a0)), .inl v3]) (by decide +kernel) rfl rfl ?_
  obtain ⟨o_11, h12, h⟩ := bd h
  refine xg_r E 12 17 h12 mw877 (show decode prog_14_method_22_code 23 = .ok (.getfield 46, 3) by decide +kernel) ?_
  refine xv_b E [.iload_n 1] (pc' := 27) (lv' := [(0, .inr (.inr (some a0))), (1, .inl v1), (2, .inl v2), (3, .inl v3)]) (st' := [.inl v1, .inr (.inr o_11), .inl v3]) (by decide +kernel) rfl rfl ?_
  obtain ⟨v_13, h14, h⟩ := bd h
  refine xa_i E h14 (show decode prog_14_method_22_code 27 = .ok (.iaload, 1) by decide +kernel) ?_
  by_cases q33 : v_13 ≤ v3
  · rw [if_pos q33] at h
    refine xv_icmp_ge E 59 (show decode prog_14_method_22_code 28 = .ok (.if_icmp .ge (31), 3) by decide +kernel) rfl (fun _ => ?_) (fun z => absurd q33 z)
    refine xv_b E [.aload_n 0] (pc' := 60) (lv' := [(0, .inr (.inr (some a0))), (1, .inl v1), (2, .inl v2), (3, .inl v3)]) (st' := [.inr (.inr (some a0))]) (by decide +kernel) rfl rfl ?_
    obtain ⟨o_15, h16, h⟩ := bd h
    refine xg_r E 12 20 h16 mw880 (show decode prog_14_method_22_code 60 = .ok (.getfield 55, 3) by decide +kernel) ?_
    refine xv_b E [.iload_n 1, .dup2] (pc' := 65) (lv' := [(0, .inr (.inr (some a0))), (1, .inl v1), (2, .inl v2), (3, .inl v3)]) (st' := [.inl v1, .inr (.inr o_15), .inl v1, .inr (.inr o_15)]) (by decide +kernel) rfl rfl ?_
    obtain ⟨v_17, h18, h⟩ := bd h
    refine xa_i E h18 (show decode prog_14_method_22_code 65 = .ok (.iaload, 1) by decide +kernel) ?_
    refine xv_b E [.iconst 1, .iadd] (pc' := 68) (lv' := [(0, .inr (.inr (some a0))), (1, .inl v1), (2, .inl v2), (3, .inl v3)]) (st' := [.inl (v_17 + (1 : Int32)), .inl v1, .inr (.inr o_15)]) (by decide +kernel) rfl rfl ?_
    obtain ⟨M19, h20, h⟩ := bd h
    refine xs_i E h20 (show decode prog_14_method_22_code 68 = .ok (.iastore, 1) by decide +kernel) ?_
    refine xv_b E [.aload_n 0] (pc' := 70) (lv' := [(0, .inr (.inr (some a0))), (1, .inl v1), (2, .inl v2), (3, .inl v3)]) (st' := [.inr (.inr (some a0))]) (by decide +kernel) rfl rfl ?_
    obtain ⟨o_21, h22, h⟩ := bd h
    refine xg_r E 12 21 h22 mw881 (show decode prog_14_method_22_code 70 = .ok (.getfield 58, 3) by decide +kernel) ?_
    refine xv_b E [.iload_n 1, .iconst 0] (pc' := 75) (lv' := [(0, .inr (.inr (some a0))), (1, .inl v1), (2, .inl v2), (3, .inl v3)]) (st' := [.inl (0 : Int32), .inl v1, .inr (.inr o_21)]) (by decide +kernel) rfl rfl ?_
    obtain ⟨M23, h24, h⟩ := bd h
    refine xs_i E h24 (show decode prog_14_method_22_code 75 = .ok (.iastore, 1) by decide +kernel) ?_
    refine xv_b E [.iload_n 2] (pc' := 77) (lv' := [(0, .inr (.inr (some a0))), (1, .inl v1), (2, .inl v2), (3, .inl v3)]) (st' := [.inl v2]) (by decide +kernel) rfl rfl ?_
    obtain rfl := Option.some.inj h
    obtain ⟨rfl, rfl⟩ := Prod.mk.inj (show ((some (.inl v2) : Option aV), M23) = (r, M') from hN)
    exact xv_ri E B.1 rfl B.2.1 (show decode prog_14_method_22_code 77 = .ok (.ireturn, 1) by decide +kernel) rfl rfl
  · rw [if_neg q33] at h
    refine xv_icmp_ge E 59 (show decode prog_14_method_22_code 28 = .ok (.if_icmp .ge (31), 3) by decide +kernel) rfl (fun z => absurd z q33) (fun _ => ?_)
    refine xv_b E [.aload_n 0] (pc' := 32) (lv' := [(0, .inr (.inr (some a0))), (1, .inl v1), (2, .inl v2), (3, .inl v3)]) (st' := [.inr (.inr (some a0))]) (by decide +kernel) rfl rfl ?_
    obtain ⟨o_25, h26, h⟩ := bd h
    refine xg_r E 12 16 h26 mw876 (show decode prog_14_method_22_code 32 = .ok (.getfield 43, 3) by decide +kernel) ?_
    refine xv_b E [.iload_n 1, .iconst 4, .imul, .iload_n 3, .iadd, .aload_n 0] (pc' := 41) (lv' := [(0, .inr (.inr (some a0))), (1, .inl v1), (2, .inl v2), (3, .inl v3)]) (st' := [.inr (.inr (some a0)), .inl ((v1 * (4 : Int32)) + v3), .inr (.inr o_25)]) (by decide +kernel) rfl rfl ?_
    obtain ⟨o_27, h28, h⟩ := bd h
    refine xg_r E 12 16 h28 mw876 (show decode prog_14_method_22_code 41 = .ok (.getfield 43, 3) by decide +kernel) ?_
    refine xv_b E [.iload_n 1, .iconst 4, .imul, .iload_n 3, .iadd, .iconst 1, .iadd] (pc' := 51) (lv' := [(0, .inr (.inr (some a0))), (1, .inl v1), (2, .inl v2), (3, .inl v3)]) (st' := [.inl (((v1 * (4 : Int32)) + v3) + (1 : Int32)), .inr (.inr o_27), .inl ((v1 * (4 : Int32)) + v3), .inr (.inr o_25)]) (by decide +kernel) rfl rfl ?_
    obtain ⟨v_29, h30, h⟩ := bd h
    refine xa_i E h30 (show decode prog_14_method_22_code 51 = .ok (.iaload, 1) by decide +kernel) ?_
    obtain ⟨M31, h32, h⟩ := bd h
    refine xs_i E h32 (show decode prog_14_method_22_code 52 = .ok (.iastore, 1) by decide +kernel) ?_
    refine xv_b E [.iinc 3 1] (pc' := 56) (lv' := [(3, .inl (v3 + (1 : Int32))), (0, .inr (.inr (some a0))), (1, .inl v1), (2, .inl v2)]) (st' := []) (by decide +kernel) rfl rfl ?_
    refine xv_goto E 21 (show decode prog_14_method_22_code 56 = .ok (.goto (-35), 3) by decide +kernel) rfl ?_
    obtain rfl := Option.some.inj h
    exact xv_w hN rfl
end
theorem t185 (G : gX) (l : Launch) {as : List aV} {M : hM} {r : Option aV} {M' : hM} (h : f185 as M = some (r, M')) : xM G l ym185 prog_14_method_22_code 4 (some FieldType.int) 0 as M r M' := by
  unfold f185 at h
  split at h
  · have hle : ∀ h as M res, k185 h as M = some res → h_sz M ≤ r_sz res ∧ h_sl M ≤ r_sl res := by
      intro h as M res hb
      unfold k185 at hb
      by_cases e0 : h = 21
      · rw [if_pos e0] at hb
        split at hb
        · exact lb185_21 G l _ _ _ _ M hb
        · cases hb
      · rw [if_neg e0] at hb
        cases hb
    obtain ⟨res, hx, hres⟩ := x_go_ok h
    refine xM_of (by decide) (Nat.le_of_ble_eq_true rfl) ?_ ?_
    · have e1 := lb185_0 G l _ _ M hx
      have e2 := x_go_le hle hres
      omega
    · intro p e s m args below meth c E B
      refine sb185_0 E B _ _ M hx (hres _ ?_)
      intro h as M res hb hN
      unfold k185 at hb
      unfold pg185
      by_cases e0 : h = 21
      · rw [if_pos e0] at hb ⊢
        split at hb
        · exact sb185_21 E B _ _ _ _ M hb hN
        · cases hb
      · rw [if_neg e0] at hb ⊢
        cases hb
  · cases h
/-! ZFModel.forgets(I)V -/
def ym186 : MethodName := ⟨"ZonedFabricModel", "forgets", "(I)V"⟩
theorem cd186 : xCd ym186 prog_14_method_24_code 3 none 1 := ⟨mw986, mw864, by decide, by decide, by decide +kernel⟩
def b186_0 (a0 : Nat) (v1 : Int32) (M : hM) : Option xRes :=
  some (.inr (2, [.inr (.inr (some a0)), .inl v1, .inl (0 : Int32)], M))
def b186_2 (a0 : Nat) (v1 : Int32) (v2 : Int32) (M : hM) : Option xRes :=
  if (8 : Int32) ≤ v2 then
    (Option.bind (g_r M 12 41 (some a0)) fun o_1 =>
    Option.bind (as_i M 20 o_1 v1 (0 : Int32)) fun M3 =>
    Option.bind (g_r M3 12 46 (some a0)) fun o_5 =>
    Option.bind (as_i M3 20 o_5 v1 (0 : Int32)) fun M7 =>
    some (.inl (none, M7)))
  else
    (Option.bind (g_r M 12 39 (some a0)) fun o_9 =>
    Option.bind (as_i M 20 o_9 (((8 : Int32) * v1) + v2) (0 : Int32)) fun M11 =>
    some (.inr (2, [.inr (.inr (some a0)), .inl v1, .inl (v2 + (1 : Int32))], M11)))
def k186 (h : Nat) (as : List aV) (M : hM) : Option xRes :=
  if h = 2 then (match as with | [.inr (.inr (some a0)), .inl v1, .inl v2] => b186_2 a0 v1 v2 M | _ => none) else
  none
def f186 (as : List aV) (M : hM) : xO := match as with
  | [.inr (.inr (some a0)), .inl v1] => x_go k186 (b186_0 a0 v1 M)
  | _ => none
theorem lb186_0 (G : gX) (l : Launch) (a0 : Nat) (v1 : Int32) (M : hM) {res : xRes} (h : b186_0 a0 v1 M = some res) : h_sz M ≤ r_sz res ∧ h_sl M ≤ r_sl res := by
  unfold b186_0 at h
  obtain rfl := Option.some.inj h
  show h_sz M ≤ h_sz M ∧ h_sl M ≤ h_sl M
  omega
theorem lb186_2 (G : gX) (l : Launch) (a0 : Nat) (v1 : Int32) (v2 : Int32) (M : hM) {res : xRes} (h : b186_2 a0 v1 v2 M = some res) : h_sz M ≤ r_sz res ∧ h_sl M ≤ r_sl res := by
  unfold b186_2 at h
  by_cases q13 : (8 : Int32) ≤ v2
  · rw [if_pos q13] at h
    obtain ⟨o_1, h2, h⟩ := bd h
    obtain ⟨M3, h4, h⟩ := bd h
    have eh4 := as_i_sz h4
    obtain ⟨o_5, h6, h⟩ := bd h
    obtain ⟨M7, h8, h⟩ := bd h
    have eh8 := as_i_sz h8
    obtain rfl := Option.some.inj h
    show h_sz M ≤ h_sz M7 ∧ h_sl M ≤ h_sl M7
    omega
  · rw [if_neg q13] at h
    obtain ⟨o_9, h10, h⟩ := bd h
    obtain ⟨M11, h12, h⟩ := bd h
    have eh12 := as_i_sz h12
    obtain rfl := Option.some.inj h
    show h_sz M ≤ h_sz M11 ∧ h_sl M ≤ h_sl M11
    omega
section
variable {p : Program} {l : Launch} {e : Env} {s : State} {m : MethodId} {args : Array Value} {below : List Frame} {meth : Method} {c : Code} {G : gX} {z0 y0 : Nat} {r : Option aV} {M' : hM}
def pg186 (p : Program) (l : Launch) (e : Env) (s : State) (m : MethodId) (args : Array Value) (below : List Frame) (meth : Method) (c : Code) (G : gX) (z0 y0 : Nat) (r : Option aV) (M' : hM) (h : Nat) (as : List aV) (M : hM) : Prop :=
  if h = 2 then (match as with | [.inr (.inr (some a0)), .inl v1, .inl v2] => xV G p l e (xRm 0 (h_sz M' - z0) (h_sl M' - y0)) s m args below meth c z0 y0 (h_sz M') (h_sl M') 3 (MQ below (xQc G r M') args s (h_sz M' - z0) (h_sl M' - y0) (xFr G)) 2 [(0, .inr (.inr (some a0))), (1, .inl v1), (2, .inl v2)] [] M | _ => False) else
  False
theorem sb186_0 (E : xE G p (xRm 0 (h_sz M' - z0) (h_sl M' - y0)) s m args c prog_14_method_24_code "ZonedFabricModel" z0 y0 (h_sz M') (h_sl M') 3) (B : xB ym186 none meth) (a0 : Nat) (v1 : Int32) (M : hM) {res : xRes} (h : b186_0 a0 v1 M = some res) (hN : xN (pg186 p l e s m args below meth c G z0 y0 r M') r M' res) : xV G p l e (xRm 0 (h_sz M' - z0) (h_sl M' - y0)) s m args below meth c z0 y0 (h_sz M') (h_sl M') 3 (MQ below (xQc G r M') args s (h_sz M' - z0) (h_sl M' - y0) (xFr G)) 0 [(0, .inr (.inr (some a0))), (1, .inl v1)] [] M := by
  unfold b186_0 at h
  refine xv_b E [.iconst 0, .istore_n 2] (pc' := 2) (lv' := [(2, .inl (0 : Int32)), (0, .inr (.inr (some a0))), (1, .inl v1)]) (st' := []) (by decide +kernel) rfl rfl ?_
  obtain rfl := Option.some.inj h
  exact xv_w hN rfl
theorem sb186_2 (E : xE G p (xRm 0 (h_sz M' - z0) (h_sl M' - y0)) s m args c prog_14_method_24_code "ZonedFabricModel" z0 y0 (h_sz M') (h_sl M') 3) (B : xB ym186 none meth) (a0 : Nat) (v1 : Int32) (v2 : Int32) (M : hM) {res : xRes} (h : b186_2 a0 v1 v2 M = some res) (hN : xN (pg186 p l e s m args below meth c G z0 y0 r M') r M' res) : xV G p l e (xRm 0 (h_sz M' - z0) (h_sl M' - y0)) s m args below meth c z0 y0 (h_sz M') (h_sl M') 3 (MQ below (xQc G r M') args s (h_sz M' - z0) (h_sl M' - y0) (xFr G)) 2 [(0, .inr (.inr (some a0))), (1, .inl v1), (2, .inl v2)] [] M := by
  unfold b186_2 at h
  refine xv_b E [.iload_n 2, .bipush 8] (pc' := 5) (lv' := [(0, .inr (.inr (some a0))), (1, .inl v1), (2, .inl v2)]) (st' := [.inl (8 : Int32), .inl v2]) (by decide +kernel) rfl rfl ?_
  by_cases q13 : (8 : Int32) ≤ v2
  · rw [if_pos q13] at h
    refine xv_icmp_ge E 26 (show decode prog_14_method_24_code 5 = .ok (.if_icmp .ge (21), 3) by decide +kernel) rfl (fun _ => ?_) (fun z => absurd q13 z)
    refine xv_b E [.aload_n 0] (pc' := 27) (lv' := [(0, .inr (.inr (some a0))), (1, .inl v1), (2, .inl v2)]) (st' := [.inr (.inr (some a0))]) (by decide +kernel) rfl rfl ?_
    obtain ⟨o_1, h2, h⟩ := bd h
    refine xg_r E 12 41 h2 mw900 (show decode prog_14_method_24_code 27 = .ok (.getfield 115, 3) by decide +kernel) ?_
    refine xv_b E [.iload_n 1, .iconst 0] (pc' := 32) (lv' := [(0, .inr (.inr (some a0))), (1, .inl v1), (2, .inl v2)]) (st' := [.inl (0 : Int32), .inl v1, .inr (.inr o_1)]) (by decide +kernel) rfl rfl ?_
    obtain ⟨M3, h4, h⟩ := bd h
    refine xs_i E h4 (show decode prog_14_method_24_code 32 = .ok (.iastore, 1) by decide +kernel) ?_
    refine xv_b E [.aload_n 0] (pc' := 34) (lv' := [(0, .inr (.inr (some a0))), (1, .inl v1), (2, .inl v2)]) (st' := [.inr (.inr (some a0))]) (by decide +kernel) rfl rfl ?_
    obtain ⟨o_5, h6, h⟩ := bd h
    refine xg_r E 12 46 h6 mw905 (show decode prog_14_method_24_code 34 = .ok (.getfield 131, 3) by decide +kernel) ?_
    refine xv_b E [.iload_n 1, .iconst 0] (pc' := 39) (lv' := [(0, .inr (.inr (some a0))), (1, .inl v1), (2, .inl v2)]) (st' := [.inl (0 : Int32), .inl v1, .inr (.inr o_5)]) (by decide +kernel) rfl rfl ?_
    obtain ⟨M7, h8, h⟩ := bd h
    refine xs_i E h8 (show decode prog_14_method_24_code 39 = .ok (.iastore, 1) by decide +kernel) ?_
    obtain rfl := Option.some.inj h
    obtain ⟨rfl, rfl⟩ := Prod.mk.inj (show ((none : Option aV), M7) = (r, M') from hN)
    exact xv_rv E B.1 B.2.1 (show decode prog_14_method_24_code 40 = .ok (.return_, 1) by decide +kernel) rfl rfl
  · rw [if_neg q13] at h
    refine xv_icmp_ge E 26 (show decode prog_14_method_24_code 5 = .ok (.if_icmp .ge (21), 3) by decide +kernel) rfl (fun z => absurd z q13) (fun _ => ?_)
    refine xv_b E [.aload_n 0] (pc' := 9) (lv' := [(0, .inr (.inr (some a0))), (1, .inl v1), (2, .inl v2)]) (st' := [.inr (.inr (some a0))]) (by decide +kernel) rfl rfl ?_
    obtain ⟨o_9, h10, h⟩ := bd h
    refine xg_r E 12 39 h10 mw898 (show decode prog_14_method_24_code 9 = .ok (.getfield 109, 3) by decide +kernel) ?_
    refine xv_b E [.bipush 8, .iload_n 1, .imul, .iload_n 2, .iadd, .iconst 0] (pc' := 19) (lv' := [(0, .inr (.inr (some a0))), (1, .inl v1), (2, .inl v2)]) (st' := [.inl (0 : Int32), .inl (((8 : Int32) * v1) + v2), .inr (.inr o_9)]) (by decide +kernel) rfl rfl ?_
    obtain ⟨M11, h12, h⟩ := bd h
    refine xs_i E h12 (show decode prog_14_method_24_code 19 = .ok (.iastore, 1) by decide +kernel) ?_
    refine xv_b E [.iinc 2 1] (pc' := 23) (lv' := [(2, .inl (v2 + (1 : Int32))), (0, .inr (.inr (some a0))), (1, .inl v1)]) (st' := []) (by decide +kernel) rfl rfl ?_
    refine xv_goto E 2 (show decode prog_14_method_24_code 23 = .ok (.goto (-21), 3) by decide +kernel) rfl ?_
    obtain rfl := Option.some.inj h
    exact xv_w hN rfl
end
theorem t186 (G : gX) (l : Launch) {as : List aV} {M : hM} {r : Option aV} {M' : hM} (h : f186 as M = some (r, M')) : xM G l ym186 prog_14_method_24_code 3 none 0 as M r M' := by
  unfold f186 at h
  split at h
  · have hle : ∀ h as M res, k186 h as M = some res → h_sz M ≤ r_sz res ∧ h_sl M ≤ r_sl res := by
      intro h as M res hb
      unfold k186 at hb
      by_cases e0 : h = 2
      · rw [if_pos e0] at hb
        split at hb
        · exact lb186_2 G l _ _ _ M hb
        · cases hb
      · rw [if_neg e0] at hb
        cases hb
    obtain ⟨res, hx, hres⟩ := x_go_ok h
    refine xM_of (by decide) (Nat.le_of_ble_eq_true rfl) ?_ ?_
    · have e1 := lb186_0 G l _ _ M hx
      have e2 := x_go_le hle hres
      omega
    · intro p e s m args below meth c E B
      refine sb186_0 E B _ _ M hx (hres _ ?_)
      intro h as M res hb hN
      unfold k186 at hb
      unfold pg186
      by_cases e0 : h = 2
      · rw [if_pos e0] at hb ⊢
        split at hb
        · exact sb186_2 E B _ _ _ M hb hN
        · cases hb
      · rw [if_neg e0] at hb ⊢
        cases hb
  · cases h
/-! ZFModel.empties(I)V -/
def ym187 : MethodName := ⟨"ZonedFabricModel", "empties", "(I)V"⟩
theorem cd187 : xCd ym187 prog_14_method_23_code 3 none 1 := ⟨mw987, mw864, by decide, by decide, by decide +kernel⟩
def b187_20 (a0 : Nat) (v1 : Int32) (M : hM) : Option xRes :=
  Option.bind (g_r M 12 15 (some a0)) fun o_14 =>
  Option.bind (as_i M 20 o_14 v1 (-1 : Int32)) fun M16 =>
  some (.inr (29, [.inr (.inr (some a0)), .inl v1, .inl (0 : Int32)], M16))
def b187_0 (a0 : Nat) (v1 : Int32) (M : hM) : Option xRes :=
  Option.bind (g_r M 12 15 (some a0)) fun o_1 =>
  Option.bind (al_i M 20 o_1 v1) fun v_3 =>
  if v_3 = (-1 : Int32) then
    (b187_20 a0 v1 M)
  else
    (Option.bind (g_r M 12 15 (some a0)) fun o_5 =>
    Option.bind (al_i M 20 o_5 v1) fun v_7 =>
    Option.bind (g_o M 12 (some a0)) fun b_11 =>
    Option.bind (c_V (f171 [.inr (.inr (some b_11)), .inl v_7] M)) fun q_9 =>
    b187_20 a0 v1 q_9)
def b187_29 (a0 : Nat) (v1 : Int32) (v2 : Int32) (M : hM) : Option xRes :=
  Option.bind (g_r M 12 17 (some a0)) fun o_18 =>
  Option.bind (al_i M 20 o_18 v1) fun v_20 =>
  if v_20 ≤ v2 then
    (some (.inr (61, [.inr (.inr (some a0)), .inl v1, .inl (0 : Int32)], M)))
  else
    (Option.bind (g_r M 12 16 (some a0)) fun o_22 =>
    Option.bind (al_i M 20 o_22 ((v1 * (4 : Int32)) + v2)) fun v_24 =>
    Option.bind (g_o M 12 (some a0)) fun b_28 =>
    Option.bind (c_V (f171 [.inr (.inr (some b_28)), .inl v_24] M)) fun q_26 =>
    some (.inr (29, [.inr (.inr (some a0)), .inl v1, .inl (v2 + (1 : Int32))], q_26)))
def b187_61 (a0 : Nat) (v1 : Int32) (v2 : Int32) (M : hM) : Option xRes :=
  Option.bind (g_r M 12 19 (some a0)) fun o_31 =>
  Option.bind (al_i M 20 o_31 v1) fun v_33 =>
  if v_33 ≤ v2 then
    (Option.bind (g_r M 12 17 (some a0)) fun o_35 =>
    Option.bind (as_i M 20 o_35 v1 (0 : Int32)) fun M37 =>
    Option.bind (g_r M37 12 19 (some a0)) fun o_39 =>
    Option.bind (as_i M37 20 o_39 v1 (0 : Int32)) fun M41 =>
    Option.bind (g_r M41 12 20 (some a0)) fun o_43 =>
    Option.bind (as_i M41 20 o_43 v1 (0 : Int32)) fun M45 =>
    Option.bind (g_r M45 12 21 (some a0)) fun o_47 =>
    Option.bind (as_i M45 20 o_47 v1 (0 : Int32)) fun M49 =>
    Option.bind (g_r M49 12 23 (some a0)) fun o_51 =>
    Option.bind (as_i M49 20 o_51 v1 (-1 : Int32)) fun M53 =>
    Option.bind (g_r M53 12 24 (some a0)) fun o_55 =>
    Option.bind (as_i M53 20 o_55 v1 (-1000 : Int32)) fun M57 =>
    Option.bind (g_r M57 12 25 (some a0)) fun o_59 =>
    Option.bind (as_i M57 20 o_59 v1 (0 : Int32)) fun M61 =>
    if (40 : Int32) ≤ v1 then
      (Option.bind (g_r M61 12 36 (some a0)) fun o_63 =>
      Option.bind (as_i M61 20 o_63 (v1 - (40 : Int32)) (-1000 : Int32)) fun M65 =>
      Option.bind (g_r M65 12 35 (some a0)) fun o_67 =>
      Option.bind (as_i M65 20 o_67 (v1 - (40 : Int32)) (0 : Int32)) fun M69 =>
      Option.bind (g_o M69 12 (some a0)) fun b_73 =>
      Option.bind (c_V (f186 [.inr (.inr (some b_73)), .inl (v1 - (40 : Int32))] M69)) fun q_71 =>
      some (.inl (none, q_71)))
    else
      (some (.inl (none, M61))))
  else
    (Option.bind (g_r M 12 18 (some a0)) fun o_76 =>
    Option.bind (al_i M 20 o_76 ((v1 * (32 : Int32)) + v2)) fun v_78 =>
    Option.bind (g_o M 12 (some a0)) fun b_82 =>
    Option.bind (c_V (f171 [.inr (.inr (some b_82)), .inl v_78] M)) fun q_80 =>
    some (.inr (61, [.inr (.inr (some a0)), .inl v1, .inl (v2 + (1 : Int32))], q_80)))
def k187 (h : Nat) (as : List aV) (M : hM) : Option xRes :=
  if h = 29 then (match as with | [.inr (.inr (some a0)), .inl v1, .inl v2] => b187_29 a0 v1 v2 M | _ => none) else
  if h = 61 then (match as with | [.inr (.inr (some a0)), .inl v1, .inl v2] => b187_61 a0 v1 v2 M | _ => none) else
  none
def f187 (as : List aV) (M : hM) : xO := match as with
  | [.inr (.inr (some a0)), .inl v1] => x_go k187 (b187_0 a0 v1 M)
  | _ => none
theorem lb187_20 (G : gX) (l : Launch) (a0 : Nat) (v1 : Int32) (M : hM) {res : xRes} (h : b187_20 a0 v1 M = some res) : h_sz M ≤ r_sz res ∧ h_sl M ≤ r_sl res := by
  unfold b187_20 at h
  obtain ⟨o_14, h15, h⟩ := bd h
  obtain ⟨M16, h17, h⟩ := bd h
  have eh17 := as_i_sz h17
  obtain rfl := Option.some.inj h
  show h_sz M ≤ h_sz M16 ∧ h_sl M ≤ h_sl M16
  omega
theorem lb187_0 (G : gX) (l : Launch) (a0 : Nat) (v1 : Int32) (M : hM) {res : xRes} (h : b187_0 a0 v1 M = some res) : h_sz M ≤ r_sz res ∧ h_sl M ≤ r_sl res := by
  unfold b187_0 at h
  obtain ⟨o_1, h2, h⟩ := bd h
  obtain ⟨v_3, h4, h⟩ := bd h
  by_cases q13 : v_3 = (-1 : Int32)
  · rw [if_pos q13] at h
    have e := lb187_20 G l a0 v1 M h
    omega
  · rw [if_neg q13] at h
    obtain ⟨o_5, h6, h⟩ := bd h
    obtain ⟨v_7, h8, h⟩ := bd h
    obtain ⟨b_11, h12, h⟩ := bd h
    obtain ⟨q_9, h10, h⟩ := bd h
    have eh10 := (t171 G l (c_V_some h10)).1
    have e := lb187_20 G l a0 v1 q_9 h
    omega
theorem lb187_29 (G : gX) (l : Launch) (a0 : Nat) (v1 : Int32) (v2 : Int32) (M : hM) {res : xRes} (h : b187_29 a0 v1 v2 M = some res) : h_sz M ≤ r_sz res ∧ h_sl M ≤ r_sl res := by
  unfold b187_29 at h
  obtain ⟨o_18, h19, h⟩ := bd h
  obtain ⟨v_20, h21, h⟩ := bd h
  by_cases q30 : v_20 ≤ v2
  · rw [if_pos q30] at h
    obtain rfl := Option.some.inj h
    show h_sz M ≤ h_sz M ∧ h_sl M ≤ h_sl M
    omega
  · rw [if_neg q30] at h
    obtain ⟨o_22, h23, h⟩ := bd h
    obtain ⟨v_24, h25, h⟩ := bd h
    obtain ⟨b_28, h29, h⟩ := bd h
    obtain ⟨q_26, h27, h⟩ := bd h
    have eh27 := (t171 G l (c_V_some h27)).1
    obtain rfl := Option.some.inj h
    show h_sz M ≤ h_sz q_26 ∧ h_sl M ≤ h_sl q_26
    omega
theorem lb187_61 (G : gX) (l : Launch) (a0 : Nat) (v1 : Int32) (v2 : Int32) (M : hM) {res : xRes} (h : b187_61 a0 v1 v2 M = some res) : h_sz M ≤ r_sz res ∧ h_sl M ≤ r_sl res := by
  unfold b187_61 at h
  obtain ⟨o_31, h32, h⟩ := bd h
  obtain ⟨v_33, h34, h⟩ := bd h
  by_cases q84 : v_33 ≤ v2
  · rw [if_pos q84] at h
    obtain ⟨o_35, h36, h⟩ := bd h
    obtain ⟨M37, h38, h⟩ := bd h
    have eh38 := as_i_sz h38
    obtain ⟨o_39, h40, h⟩ := bd h
    obtain ⟨M41, h42, h⟩ := bd h
    have eh42 := as_i_sz h42
    obtain ⟨o_43, h44, h⟩ := bd h
    obtain ⟨M45, h46, h⟩ := bd h
    have eh46 := as_i_sz h46
    obtain ⟨o_47, h48, h⟩ := bd h
    obtain ⟨M49, h50, h⟩ := bd h
    have eh50 := as_i_sz h50
    obtain ⟨o_51, h52, h⟩ := bd h
    obtain ⟨M53, h54, h⟩ := bd h
    have eh54 := as_i_sz h54
    obtain ⟨o_55, h56, h⟩ := bd h
    obtain ⟨M57, h58, h⟩ := bd h
    have eh58 := as_i_sz h58
    obtain ⟨o_59, h60, h⟩ := bd h
    obtain ⟨M61, h62, h⟩ := bd h
    have eh62 := as_i_sz h62
    by_cases q75 : (40 : Int32) ≤ v1
    · rw [if_pos q75] at h
      obtain ⟨o_63, h64, h⟩ := bd h
      obtain ⟨M65, h66, h⟩ := bd h
      have eh66 := as_i_sz h66
      obtain ⟨o_67, h68, h⟩ := bd h
      obtain ⟨M69, h70, h⟩ := bd h
      have eh70 := as_i_sz h70
      obtain ⟨b_73, h74, h⟩ := bd h
      obtain ⟨q_71, h72, h⟩ := bd h
      have eh72 := (t186 G l (c_V_some h72)).1
      obtain rfl := Option.some.inj h
      show h_sz M ≤ h_sz q_71 ∧ h_sl M ≤ h_sl q_71
      omega
    · rw [if_neg q75] at h
      obtain rfl := Option.some.inj h
      show h_sz M ≤ h_sz M61 ∧ h_sl M ≤ h_sl M61
      omega
  · rw [if_neg q84] at h
    obtain ⟨o_76, h77, h⟩ := bd h
    obtain ⟨v_78, h79, h⟩ := bd h
    obtain ⟨b_82, h83, h⟩ := bd h
    obtain ⟨q_80, h81, h⟩ := bd h
    have eh81 := (t171 G l (c_V_some h81)).1
    obtain rfl := Option.some.inj h
    show h_sz M ≤ h_sz q_80 ∧ h_sl M ≤ h_sl q_80
    omega
section
variable {p : Program} {l : Launch} {e : Env} {s : State} {m : MethodId} {args : Array Value} {below : List Frame} {meth : Method} {c : Code} {G : gX} {z0 y0 : Nat} {r : Option aV} {M' : hM}
def pg187 (p : Program) (l : Launch) (e : Env) (s : State) (m : MethodId) (args : Array Value) (below : List Frame) (meth : Method) (c : Code) (G : gX) (z0 y0 : Nat) (r : Option aV) (M' : hM) (h : Nat) (as : List aV) (M : hM) : Prop :=
  if h = 29 then (match as with | [.inr (.inr (some a0)), .inl v1, .inl v2] => xV G p l e (xRm 1 (h_sz M' - z0) (h_sl M' - y0)) s m args below meth c z0 y0 (h_sz M') (h_sl M') 3 (MQ below (xQc G r M') args s (h_sz M' - z0) (h_sl M' - y0) (xFr G)) 29 [(0, .inr (.inr (some a0))), (1, .inl v1), (2, .inl v2)] [] M | _ => False) else
  if h = 61 then (match as with | [.inr (.inr (some a0)), .inl v1, .inl v2] => xV G p l e (xRm 1 (h_sz M' - z0) (h_sl M' - y0)) s m args below meth c z0 y0 (h_sz M') (h_sl M') 3 (MQ below (xQc G r M') args s (h_sz M' - z0) (h_sl M' - y0) (xFr G)) 61 [(0, .inr (.inr (some a0))), (1, .inl v1), (2, .inl v2)] [] M | _ => False) else
  False
theorem sb187_20 (E : xE G p (xRm 1 (h_sz M' - z0) (h_sl M' - y0)) s m args c prog_14_method_23_code "ZonedFabricModel" z0 y0 (h_sz M') (h_sl M') 3) (B : xB ym187 none meth) (a0 : Nat) (v1 : Int32) (M : hM) {res : xRes} (h : b187_20 a0 v1 M = some res) (hN : xN (pg187 p l e s m args below meth c G z0 y0 r M') r M' res) : xV G p l e (xRm 1 (h_sz M' - z0) (h_sl M' - y0)) s m args below meth c z0 y0 (h_sz M') (h_sl M') 3 (MQ below (xQc G r M') args s (h_sz M' - z0) (h_sl M' - y0) (xFr G)) 20 [(0, .inr (.inr (some a0))), (1, .inl v1)] [] M := by
  unfold b187_20 at h
  refine xv_b E [.aload_n 0] (pc' := 21) (lv' := [(0, .inr (.inr (some a0))), (1, .inl v1)]) (st' := [.inr (.inr (some a0))]) (by decide +kernel) rfl rfl ?_
  obtain ⟨o_14, h15, h⟩ := bd h
  refine xg_r E 12 15 h15 mw875 (show decode prog_14_method_23_code 21 = .ok (.getfield 40, 3) by decide +kernel) ?_
  refine xv_b E [.iload_n 1, .iconst (-1)] (pc' := 26) (lv' := [(0, .inr (.inr (some a0))), (1, .inl v1)]) (st' := [.inl (-1 : Int32), .inl v1, .inr (.inr o_14)]) (by decide +kernel) rfl rfl ?_
  obtain ⟨M16, h17, h⟩ := bd h
  refine xs_i E h17 (show decode prog_14_method_23_code 26 = .ok (.iastore, 1) by decide +kernel) ?_
  refine xv_b E [.iconst 0, .istore_n 2] (pc' := 29) (lv' := [(2, .inl (0 : Int32)), (0, .inr (.inr (some a0))), (1, .inl v1)]) (st' := []) (by decide +kernel) rfl rfl ?_
  obtain rfl := Option.some.inj h
  exact xv_w hN rfl
theorem sb187_0 (E : xE G p (xRm 1 (h_sz M' - z0) (h_sl M' - y0)) s m args c prog_14_method_23_code "ZonedFabricModel" z0 y0 (h_sz M') (h_sl M') 3) (B : xB ym187 none meth) (a0 : Nat) (v1 : Int32) (M : hM) {res : xRes} (h : b187_0 a0 v1 M = some res) (hN : xN (pg187 p l e s m args below meth c G z0 y0 r M') r M' res) : xV G p l e (xRm 1 (h_sz M' - z0) (h_sl M' - y0)) s m args below meth c z0 y0 (h_sz M') (h_sl M') 3 (MQ below (xQc G r M') args s (h_sz M' - z0) (h_sl M' - y0) (xFr G)) 0 [(0, .inr (.inr (some a0))), (1, .inl v1)] [] M := by
  unfold b187_0 at h
  refine xv_b E [.aload_n 0] (pc' := 1) (lv' := [(0, .inr (.inr (some a0))), (1, .inl v1)]) (st' := [.inr (.inr (some a0))]) (by decide +kernel) rfl rfl ?_
  obtain ⟨o_1, h2, h⟩ := bd h
  refine xg_r E 12 15 h2 mw875 (show decode prog_14_method_23_code 1 = .ok (.getfield 40, 3) by decide +kernel) ?_
  refine xv_b E [.iload_n 1] (pc' := 5) (lv' := [(0, .inr (.inr (some a0))), (1, .inl v1)]) (st' := [.inl v1, .inr (.inr o_1)]) (by decide +kernel) rfl rfl ?_
  obtain ⟨v_3, h4, h⟩ := bd h
  refine xa_i E h4 (show decode prog_14_method_23_code 5 = .ok (.iaload, 1) by decide +kernel) ?_
  refine xv_b E [.iconst (-1)] (pc' := 7) (lv' := [(0, .inr (.inr (some a0))), (1, .inl v1)]) (st' := [.inl (-1 : Int32), .inl v_3]) (by decide +kernel) rfl rfl ?_
  by_cases q13 : v_3 = (-1 : Int32)
  · rw [if_pos q13] at h
    refine xv_icmp_eq E 20 (show decode prog_14_method_23_code 7 = .ok (.if_icmp .eq (13), 3) by decide +kernel) rfl (fun _ => ?_) (fun z => absurd q13 z)
    exact xv_w (sb187_20 E B a0 v1 M h hN) rfl
  · rw [if_neg q13] at h
    refine xv_icmp_eq E 20 (show decode prog_14_method_23_code 7 = .ok (.if_icmp .eq (13), 3) by decide +kernel) rfl (fun z => absurd z q13) (fun _ => ?_)
    refine xv_b E [.aload_n 0, .aload_n 0] (pc' := 12) (lv' := [(0, .inr (.inr (some a0))), (1, .inl v1)]) (st' := [.inr (.inr (some a0)), .inr (.inr (some a0))]) (by decide +kernel) rfl rfl ?_
    obtain ⟨o_5, h6, h⟩ := bd h
    refine xg_r E 12 15 h6 mw875 (show decode prog_14_method_23_code 12 = .ok (.getfield 40, 3) by decide +kernel) ?_
    refine xv_b E [.iload_n 1] (pc' := 16) (lv' := [(0, .inr (.inr (some a0))), (1, .inl v1)]) (st' := [.inl v1, .inr (.inr o_5), .inr (.inr (some a0))]) (by decide +kernel) rfl rfl ?_
    obtain ⟨v_7, h8, h⟩ := bd h
    refine xa_i E h8 (show decode prog_14_method_23_code 16 = .ok (.iaload, 1) by decide +kernel) ?_
    obtain ⟨b_11, h12, h⟩ := bd h
    obtain ⟨eh12, th12⟩ := g_o_some h12
    obtain ⟨q_9, h10, h⟩ := bd h
    refine xv_cvo E eh12 12 (as := [.inl v_7]) (t171 G l (c_V_some h10)) cd171 mw975 mw976 mw977 (show decode prog_14_method_23_code 17 = .ok (.invokevirtual 224, 3) by decide +kernel) th12 rfl rfl (Nat.le_of_ble_eq_true rfl) ⟨Nat.le_of_ble_eq_true rfl, Nat.le_of_ble_eq_true rfl⟩ ?_
    exact xv_w (sb187_20 E B a0 v1 q_9 h hN) rfl
theorem sb187_29 (E : xE G p (xRm 1 (h_sz M' - z0) (h_sl M' - y0)) s m args c prog_14_method_23_code "ZonedFabricModel" z0 y0 (h_sz M') (h_sl M') 3) (B : xB ym187 none meth) (a0 : Nat) (v1 : Int32) (v2 : Int32) (M : hM) {res : xRes} (h : b187_29 a0 v1 v2 M = some res) (hN : xN (pg187 p l e s m args below meth c G z0 y0 r M') r M' res) : xV G p l e (xRm 1 (h_sz M' - z0) (h_sl M' - y0)) s m args below meth c z0 y0 (h_sz M') (h_sl M') 3 (MQ below (xQc G r M') args s (h_sz M' - z0) (h_sl M' - y0) (xFr G)) 29 [(0, .inr (.inr (some a0))), (1, .inl v1), (2, .inl v2)] [] M := by
  unfold b187_29 at h
  refine xv_b E [.iload_n 2, .aload_n 0] (pc' := 31) (lv' := [(0, .inr (.inr (some a0))), (1, .inl v1), (2, .inl v2)]) (st' := [.inr (.inr (some a0)), .inl v2]) (by decide +kernel) rfl rfl ?_
  obtain ⟨o_18, h19, h⟩ := bd h
  refine xg_r E 12 17 h19 mw877 (show decode prog_14_method_23_code 31 = .ok (.getfield 46, 3) by decide +kernel) ?_
  refine xv_b E [.iload_n 1] (pc' := 35) (lv' := [(0, .inr (.inr (some a0))), (1, .inl v1), (2, .inl v2)]) (st' := [.inl v1, .inr (.inr o_18), .inl v2]) (by decide +kernel) rfl rfl ?_
  obtain ⟨v_20, h21, h⟩ := bd h
  refine xa_i E h21 (show decode prog_14_method_23_code 35 = .ok (.iaload, 1) by decide +kernel) ?_
  by_cases q30 : v_20 ≤ v2
  · rw [if_pos q30] at h
    refine xv_icmp_ge E 59 (show decode prog_14_method_23_code 36 = .ok (.if_icmp .ge (23), 3) by decide +kernel) rfl (fun _ => ?_) (fun z => absurd q30 z)
    refine xv_b E [.iconst 0, .istore_n 2] (pc' := 61) (lv' := [(2, .inl (0 : Int32)), (0, .inr (.inr (some a0))), (1, .inl v1)]) (st' := []) (by decide +kernel) rfl rfl ?_
    obtain rfl := Option.some.inj h
    exact xv_w hN rfl
  · rw [if_neg q30] at h
    refine xv_icmp_ge E 59 (show decode prog_14_method_23_code 36 = .ok (.if_icmp .ge (23), 3) by decide +kernel) rfl (fun z => absurd z q30) (fun _ => ?_)
    refine xv_b E [.aload_n 0, .aload_n 0] (pc' := 41) (lv' := [(0, .inr (.inr (some a0))), (1, .inl v1), (2, .inl v2)]) (st' := [.inr (.inr (some a0)), .inr (.inr (some a0))]) (by decide +kernel) rfl rfl ?_
    obtain ⟨o_22, h23, h⟩ := bd h
    refine xg_r E 12 16 h23 mw876 (show decode prog_14_method_23_code 41 = .ok (.getfield 43, 3) by decide +kernel) ?_
    refine xv_b E [.iload_n 1, .iconst 4, .imul, .iload_n 2, .iadd] (pc' := 49) (lv' := [(0, .inr (.inr (some a0))), (1, .inl v1), (2, .inl v2)]) (st' := [.inl ((v1 * (4 : Int32)) + v2), .inr (.inr o_22), .inr (.inr (some a0))]) (by decide +kernel) rfl rfl ?_
    obtain ⟨v_24, h25, h⟩ := bd h
    refine xa_i E h25 (show decode prog_14_method_23_code 49 = .ok (.iaload, 1) by decide +kernel) ?_
    obtain ⟨b_28, h29, h⟩ := bd h
    obtain ⟨eh29, th29⟩ := g_o_some h29
    obtain ⟨q_26, h27, h⟩ := bd h
    refine xv_cvo E eh29 12 (as := [.inl v_24]) (t171 G l (c_V_some h27)) cd171 mw975 mw976 mw977 (show decode prog_14_method_23_code 50 = .ok (.invokevirtual 224, 3) by decide +kernel) th29 rfl rfl (Nat.le_of_ble_eq_true rfl) ⟨Nat.le_of_ble_eq_true rfl, Nat.le_of_ble_eq_true rfl⟩ ?_
    refine xv_b E [.iinc 2 1] (pc' := 56) (lv' := [(2, .inl (v2 + (1 : Int32))), (0, .inr (.inr (some a0))), (1, .inl v1)]) (st' := []) (by decide +kernel) rfl rfl ?_
    refine xv_goto E 29 (show decode prog_14_method_23_code 56 = .ok (.goto (-27), 3) by decide +kernel) rfl ?_
    obtain rfl := Option.some.inj h
    exact xv_w hN rfl
theorem sb187_61 (E : xE G p (xRm 1 (h_sz M' - z0) (h_sl M' - y0)) s m args c prog_14_method_23_code "ZonedFabricModel" z0 y0 (h_sz M') (h_sl M') 3) (B : xB ym187 none meth) (a0 : Nat) (v1 : Int32) (v2 : Int32) (M : hM) {res : xRes} (h : b187_61 a0 v1 v2 M = some res) (hN : xN (pg187 p l e s m args below meth c G z0 y0 r M') r M' res) : xV G p l e (xRm 1 (h_sz M' - z0) (h_sl M' - y0)) s m args below meth c z0 y0 (h_sz M') (h_sl M') 3 (MQ below (xQc G r M') args s (h_sz M' - z0) (h_sl M' - y0) (xFr G)) 61 [(0, .inr (.inr (some a0))), (1, .inl v1), (2, .inl v2)] [] M := by
  unfold b187_61 at h
  refine xv_b E [.iload_n 2, .aload_n 0] (pc' := 63) (lv' := [(0, .inr (.inr (some a0))), (1, .inl v1), (2, .inl v2)]) (st' := [.inr (.inr (some a0)), .inl v2]) (by decide +kernel) rfl rfl ?_
  obtain ⟨o_31, h32, h⟩ := bd h
  refine xg_r E 12 19 h32 mw879 (show decode prog_14_method_23_code 63 = .ok (.getfield 52, 3) by decide +kernel) ?_
  refine xv_b E [.iload_n 1] (pc' := 67) (lv' := [(0, .inr (.inr (some a0))), (1, .inl v1), (2, .inl v2)]) (st' := [.inl v1, .inr (.inr o_31), .inl v2]) (by decide +kernel) rfl rfl ?_
  obtain ⟨v_33, h34, h⟩ := bd h
  refine xa_i E h34 (show decode prog_14_method_23_code 67 = .ok (.iaload, 1) by decide +kernel) ?_
  by_cases q84 : v_33 ≤ v2
  · rw [if_pos q84] at h
    refine xv_icmp_ge E 92 (show decode prog_14_method_23_code 68 = .ok (.if_icmp .ge (24), 3) by decide +kernel) rfl (fun _ => ?_) (fun z => absurd q84 z)
    refine xv_b E [.aload_n 0] (pc' := 93) (lv' := [(0, .inr (.inr (some a0))), (1, .inl v1), (2, .inl v2)]) (st' := [.inr (.inr (some a0))]) (by decide +kernel) rfl rfl ?_
    obtain ⟨o_35, h36, h⟩ := bd h
    refine xg_r E 12 17 h36 mw877 (show decode prog_14_method_23_code 93 = .ok (.getfield 46, 3) by decide +kernel) ?_
    refine xv_b E [.iload_n 1, .iconst 0] (pc' := 98) (lv' := [(0, .inr (.inr (some a0))), (1, .inl v1), (2, .inl v2)]) (st' := [.inl (0 : Int32), .inl v1, .inr (.inr o_35)]) (by decide +kernel) rfl rfl ?_
    obtain ⟨M37, h38, h⟩ := bd h
    refine xs_i E h38 (show decode prog_14_method_23_code 98 = .ok (.iastore, 1) by decide +kernel) ?_
    refine xv_b E [.aload_n 0] (pc' := 100) (lv' := [(0, .inr (.inr (some a0))), (1, .inl v1), (2, .inl v2)]) (st' := [.inr (.inr (some a0))]) (by decide +kernel) rfl rfl ?_
    obtain ⟨o_39, h40, h⟩ := bd h
    refine xg_r E 12 19 h40 mw879 (show decode prog_14_method_23_code 100 = .ok (.getfield 52, 3) by decide +kernel) ?_
    refine xv_b E [.iload_n 1, .iconst 0] (pc' := 105) (lv' := [(0, .inr (.inr (some a0))), (1, .inl v1), (2, .inl v2)]) (st' := [.inl (0 : Int32), .inl v1, .inr (.inr o_39)]) (by decide +kernel) rfl rfl ?_
    obtain ⟨M41, h42, h⟩ := bd h
    refine xs_i E h42 (show decode prog_14_method_23_code 105 = .ok (.iastore, 1) by decide +kernel) ?_
    refine xv_b E [.aload_n 0] (pc' := 107) (lv' := [(0, .inr (.inr (some a0))), (1, .inl v1), (2, .inl v2)]) (st' := [.inr (.inr (some a0))]) (by decide +kernel) rfl rfl ?_
    obtain ⟨o_43, h44, h⟩ := bd h
    refine xg_r E 12 20 h44 mw880 (show decode prog_14_method_23_code 107 = .ok (.getfield 55, 3) by decide +kernel) ?_
    refine xv_b E [.iload_n 1, .iconst 0] (pc' := 112) (lv' := [(0, .inr (.inr (some a0))), (1, .inl v1), (2, .inl v2)]) (st' := [.inl (0 : Int32), .inl v1, .inr (.inr o_43)]) (by decide +kernel) rfl rfl ?_
    obtain ⟨M45, h46, h⟩ := bd h
    refine xs_i E h46 (show decode prog_14_method_23_code 112 = .ok (.iastore, 1) by decide +kernel) ?_
    refine xv_b E [.aload_n 0] (pc' := 114) (lv' := [(0, .inr (.inr (some a0))), (1, .inl v1), (2, .inl v2)]) (st' := [.inr (.inr (some a0))]) (by decide +kernel) rfl rfl ?_
    obtain ⟨o_47, h48, h⟩ := bd h
    refine xg_r E 12 21 h48 mw881 (show decode prog_14_method_23_code 114 = .ok (.getfield 58, 3) by decide +kernel) ?_
    refine xv_b E [.iload_n 1, .iconst 0] (pc' := 119) (lv' := [(0, .inr (.inr (some a0))), (1, .inl v1), (2, .inl v2)]) (st' := [.inl (0 : Int32), .inl v1, .inr (.inr o_47)]) (by decide +kernel) rfl rfl ?_
    obtain ⟨M49, h50, h⟩ := bd h
    refine xs_i E h50 (show decode prog_14_method_23_code 119 = .ok (.iastore, 1) by decide +kernel) ?_
    refine xv_b E [.aload_n 0] (pc' := 121) (lv' := [(0, .inr (.inr (some a0))), (1, .inl v1), (2, .inl v2)]) (st' := [.inr (.inr (some a0))]) (by decide +kernel) rfl rfl ?_
    obtain ⟨o_51, h52, h⟩ := bd h
    refine xg_r E 12 23 h52 mw883 (show decode prog_14_method_23_code 121 = .ok (.getfield 64, 3) by decide +kernel) ?_
    refine xv_b E [.iload_n 1, .iconst (-1)] (pc' := 126) (lv' := [(0, .inr (.inr (some a0))), (1, .inl v1), (2, .inl v2)]) (st' := [.inl (-1 : Int32), .inl v1, .inr (.inr o_51)]) (by decide +kernel) rfl rfl ?_
    obtain ⟨M53, h54, h⟩ := bd h
    refine xs_i E h54 (show decode prog_14_method_23_code 126 = .ok (.iastore, 1) by decide +kernel) ?_
    refine xv_b E [.aload_n 0] (pc' := 128) (lv' := [(0, .inr (.inr (some a0))), (1, .inl v1), (2, .inl v2)]) (st' := [.inr (.inr (some a0))]) (by decide +kernel) rfl rfl ?_
    obtain ⟨o_55, h56, h⟩ := bd h
    refine xg_r E 12 24 h56 mw884 (show decode prog_14_method_23_code 128 = .ok (.getfield 67, 3) by decide +kernel) ?_
    refine xv_b E [.iload_n 1, .sipush (-1000)] (pc' := 135) (lv' := [(0, .inr (.inr (some a0))), (1, .inl v1), (2, .inl v2)]) (st' := [.inl (-1000 : Int32), .inl v1, .inr (.inr o_55)]) (by decide +kernel) rfl rfl ?_
    obtain ⟨M57, h58, h⟩ := bd h
    refine xs_i E h58 (show decode prog_14_method_23_code 135 = .ok (.iastore, 1) by decide +kernel) ?_
    refine xv_b E [.aload_n 0] (pc' := 137) (lv' := [(0, .inr (.inr (some a0))), (1, .inl v1), (2, .inl v2)]) (st' := [.inr (.inr (some a0))]) (by decide +kernel) rfl rfl ?_
    obtain ⟨o_59, h60, h⟩ := bd h
    refine xg_r E 12 25 h60 mw885 (show decode prog_14_method_23_code 137 = .ok (.getfield 70, 3) by decide +kernel) ?_
    refine xv_b E [.iload_n 1, .iconst 0] (pc' := 142) (lv' := [(0, .inr (.inr (some a0))), (1, .inl v1), (2, .inl v2)]) (st' := [.inl (0 : Int32), .inl v1, .inr (.inr o_59)]) (by decide +kernel) rfl rfl ?_
    obtain ⟨M61, h62, h⟩ := bd h
    refine xs_i E h62 (show decode prog_14_method_23_code 142 = .ok (.iastore, 1) by decide +kernel) ?_
    refine xv_b E [.iload_n 1, .bipush 40] (pc' := 146) (lv' := [(0, .inr (.inr (some a0))), (1, .inl v1), (2, .inl v2)]) (st' := [.inl (40 : Int32), .inl v1]) (by decide +kernel) rfl rfl ?_
    by_cases q75 : (40 : Int32) ≤ v1
    · rw [if_pos q75] at h
      refine xv_icmp_ge E 150 (show decode prog_14_method_23_code 146 = .ok (.if_icmp .ge (4), 3) by decide +kernel) rfl (fun _ => ?_) (fun z => absurd q75 z)
      refine xv_b E [.iload_n 1, .bipush 40, .isub, .istore_n 2, .aload_n 0] (pc' := 156) (lv' := [(2, .inl (v1 - (40 : Int32))), (0, .inr (.inr (some a0))), (1, .inl v1)]) (st' := [.inr (.inr (some a0))]) (by decide +kernel) rfl rfl ?_
      obtain ⟨o_63, h64, h⟩ := bd h
      refine xg_r E 12 36 h64 mw896 (show decode prog_14_method_23_code 156 = .ok (.getfield 103, 3) by decide +kernel) ?_
      refine xv_b E [.iload_n 2, .sipush (-1000)] (pc' := 163) (lv' := [(2, .inl (v1 - (40 : Int32))), (0, .inr (.inr (some a0))), (1, .inl v1)]) (st' := [.inl (-1000 : Int32), .inl (v1 - (40 : Int32)), .inr (.inr o_63)]) (by decide +kernel) rfl rfl ?_
      obtain ⟨M65, h66, h⟩ := bd h
      refine xs_i E h66 (show decode prog_14_method_23_code 163 = .ok (.iastore, 1) by decide +kernel) ?_
      refine xv_b E [.aload_n 0] (pc' := 165) (lv' := [(2, .inl (v1 - (40 : Int32))), (0, .inr (.inr (some a0))), (1, .inl v1)]) (st' := [.inr (.inr (some a0))]) (by decide +kernel) rfl rfl ?_
      obtain ⟨o_67, h68, h⟩ := bd h
      refine xg_r E 12 35 h68 mw895 (show decode prog_14_method_23_code 165 = .ok (.getfield 100, 3) by decide +kernel) ?_
      refine xv_b E [.iload_n 2, .iconst 0] (pc' := 170) (lv' := [(2, .inl (v1 - (40 : Int32))), (0, .inr (.inr (some a0))), (1, .inl v1)]) (st' := [.inl (0 : Int32), .inl (v1 - (40 : Int32)), .inr (.inr o_67)]) (by decide +kernel) rfl rfl ?_
      obtain ⟨M69, h70, h⟩ := bd h
      refine xs_i E h70 (show decode prog_14_method_23_code 170 = .ok (.iastore, 1) by decide +kernel) ?_
      refine xv_b E [.aload_n 0, .iload_n 2] (pc' := 173) (lv' := [(2, .inl (v1 - (40 : Int32))), (0, .inr (.inr (some a0))), (1, .inl v1)]) (st' := [.inl (v1 - (40 : Int32)), .inr (.inr (some a0))]) (by decide +kernel) rfl rfl ?_
      obtain ⟨b_73, h74, h⟩ := bd h
      obtain ⟨eh74, th74⟩ := g_o_some h74
      obtain ⟨q_71, h72, h⟩ := bd h
      refine xv_cvo E eh74 12 (as := [.inl (v1 - (40 : Int32))]) (t186 G l (c_V_some h72)) cd186 mw988 mw989 mw990 (show decode prog_14_method_23_code 173 = .ok (.invokevirtual 234, 3) by decide +kernel) th74 rfl rfl (Nat.le_of_ble_eq_true rfl) ⟨Nat.le_of_ble_eq_true rfl, Nat.le_of_ble_eq_true rfl⟩ ?_
      obtain rfl := Option.some.inj h
      obtain ⟨rfl, rfl⟩ := Prod.mk.inj (show ((none : Option aV), q_71) = (r, M') from hN)
      exact xv_rv E B.1 B.2.1 (show decode prog_14_method_23_code 176 = .ok (.return_, 1) by decide +kernel) rfl rfl
    · rw [if_neg q75] at h
      refine xv_icmp_ge E 150 (show decode prog_14_method_23_code 146 = .ok (.if_icmp .ge (4), 3) by decide +kernel) rfl (fun z => absurd z q75) (fun _ => ?_)
      obtain rfl := Option.some.inj h
      obtain ⟨rfl, rfl⟩ := Prod.mk.inj (show ((none : Option aV), M61) = (r, M') from hN)
      exact xv_rv E B.1 B.2.1 (show decode prog_14_method_23_code 149 = .ok (.return_, 1) by decide +kernel) rfl rfl
  · rw [if_neg q84] at h
    refine xv_icmp_ge E 92 (show decode prog_14_method_23_code 68 = .ok (.if_icmp .ge (24), 3) by decide +kernel) rfl (fun z => absurd z q84) (fun _ => ?_)
    refine xv_b E [.aload_n 0, .aload_n 0] (pc' := 73) (lv' := [(0, .inr (.inr (some a0))), (1, .inl v1), (2, .inl v2)]) (st' := [.inr (.inr (some a0)), .inr (.inr (some a0))]) (by decide +kernel) rfl rfl ?_
    obtain ⟨o_76, h77, h⟩ := bd h
    refine xg_r E 12 18 h77 mw878 (show decode prog_14_method_23_code 73 = .ok (.getfield 49, 3) by decide +kernel) ?_
    refine xv_b E [.iload_n 1, .bipush 32, .imul, .iload_n 2, .iadd] (pc' := 82) (lv' := [(0, .inr (.inr (some a0))), (1, .inl v1), (2, .inl v2)]) (st' := [.inl ((v1 * (32 : Int32)) + v2), .inr (.inr o_76), .inr (.inr (some a0))]) (by decide +kernel) rfl rfl ?_
    obtain ⟨v_78, h79, h⟩ := bd h
    refine xa_i E h79 (show decode prog_14_method_23_code 82 = .ok (.iaload, 1) by decide +kernel) ?_
    obtain ⟨b_82, h83, h⟩ := bd h
    obtain ⟨eh83, th83⟩ := g_o_some h83
    obtain ⟨q_80, h81, h⟩ := bd h
    refine xv_cvo E eh83 12 (as := [.inl v_78]) (t171 G l (c_V_some h81)) cd171 mw975 mw976 mw977 (show decode prog_14_method_23_code 83 = .ok (.invokevirtual 224, 3) by decide +kernel) th83 rfl rfl (Nat.le_of_ble_eq_true rfl) ⟨Nat.le_of_ble_eq_true rfl, Nat.le_of_ble_eq_true rfl⟩ ?_
    refine xv_b E [.iinc 2 1] (pc' := 89) (lv' := [(2, .inl (v2 + (1 : Int32))), (0, .inr (.inr (some a0))), (1, .inl v1)]) (st' := []) (by decide +kernel) rfl rfl ?_
    refine xv_goto E 61 (show decode prog_14_method_23_code 89 = .ok (.goto (-28), 3) by decide +kernel) rfl ?_
    obtain rfl := Option.some.inj h
    exact xv_w hN rfl
end
theorem t187 (G : gX) (l : Launch) {as : List aV} {M : hM} {r : Option aV} {M' : hM} (h : f187 as M = some (r, M')) : xM G l ym187 prog_14_method_23_code 3 none 1 as M r M' := by
  unfold f187 at h
  split at h
  · have hle : ∀ h as M res, k187 h as M = some res → h_sz M ≤ r_sz res ∧ h_sl M ≤ r_sl res := by
      intro h as M res hb
      unfold k187 at hb
      by_cases e0 : h = 29
      · rw [if_pos e0] at hb
        split at hb
        · exact lb187_29 G l _ _ _ M hb
        · cases hb
      · rw [if_neg e0] at hb
        by_cases e1 : h = 61
        · rw [if_pos e1] at hb
          split at hb
          · exact lb187_61 G l _ _ _ M hb
          · cases hb
        · rw [if_neg e1] at hb
          cases hb
    obtain ⟨res, hx, hres⟩ := x_go_ok h
    refine xM_of (by decide) (Nat.le_of_ble_eq_true rfl) ?_ ?_
    · have e1 := lb187_0 G l _ _ M hx
      have e2 := x_go_le hle hres
      omega
    · intro p e s m args below meth c E B
      refine sb187_0 E B _ _ M hx (hres _ ?_)
      intro h as M res hb hN
      unfold k187 at hb
      unfold pg187
      by_cases e0 : h = 29
      · rw [if_pos e0] at hb ⊢
        split at hb
        · exact sb187_29 E B _ _ _ M hb hN
        · cases hb
      · rw [if_neg e0] at hb ⊢
        by_cases e1 : h = 61
        · rw [if_pos e1] at hb ⊢
          split at hb
          · exact sb187_61 E B _ _ _ M hb hN
          · cases hb
        · rw [if_neg e1] at hb ⊢
          cases hb
  · cases h
/-! ZFModel.common(II)Z -/
def ym188 : MethodName := ⟨"ZonedFabricModel", "common", "(II)Z"⟩
theorem cd188 : xCd ym188 prog_14_method_25_code 4 (some FieldType.boolean) 2 := ⟨mw991, mw864, by decide, by decide, by decide +kernel⟩
def b188_24  (M : hM) : Option xRes :=
  some (.inl (some (.inl (0 : Int32)), M))
def b188_0 (a0 : Nat) (v1 : Int32) (v2 : Int32) (M : hM) : Option xRes :=
  if v1 < 0 then
    (b188_24  M)
  else
    (Option.bind (g_i M 12 1 (some a0)) fun v_1 =>
    if v_1 ≤ v1 then
      (b188_24  M)
    else
      (if v2 < 0 then
        (b188_24  M)
      else
        (Option.bind (g_i M 12 1 (some a0)) fun v_3 =>
        if v2 < v_3 then
          (Option.bind (g_i M 12 38 (some a0)) fun v_5 =>
          if v_5 = 0 then
            (some (.inl (some (.inl (1 : Int32)), M)))
          else
            (some (.inr (37, [.inr (.inr (some a0)), .inl v1, .inl v2, .inl (0 : Int32)], M))))
        else
          (b188_24  M))))
def b188_37 (a0 : Nat) (v1 : Int32) (v2 : Int32) (v3 : Int32) (M : hM) : Option xRes :=
  if (8 : Int32) ≤ v3 then
    (some (.inl (some (.inl (0 : Int32)), M)))
  else
    (Option.bind (g_r M 12 37 (some a0)) fun o_12 =>
    Option.bind (al_i M 20 o_12 v3) fun v_14 =>
    Option.bind (g_r M 12 37 (some a0)) fun o_16 =>
    Option.bind (al_i M 20 o_16 v3) fun v_18 =>
    if (((v_14 >>> (v1 &&& 31)) &&& (v_18 >>> (v2 &&& 31))) &&& (1 : Int32)) = (1 : Int32) then
      (some (.inl (some (.inl (1 : Int32)), M)))
    else
      (some (.inr (37, [.inr (.inr (some a0)), .inl v1, .inl v2, .inl (v3 + (1 : Int32))], M))))
def k188 (h : Nat) (as : List aV) (M : hM) : Option xRes :=
  if h = 37 then (match as with | [.inr (.inr (some a0)), .inl v1, .inl v2, .inl v3] => b188_37 a0 v1 v2 v3 M | _ => none) else
  none
def f188 (as : List aV) (M : hM) : xO := match as with
  | [.inr (.inr (some a0)), .inl v1, .inl v2] => x_go k188 (b188_0 a0 v1 v2 M)
  | _ => none
theorem lb188_24 (G : gX) (l : Launch)  (M : hM) {res : xRes} (h : b188_24  M = some res) : h_sz M ≤ r_sz res ∧ h_sl M ≤ r_sl res := by
  unfold b188_24 at h
  obtain rfl := Option.some.inj h
  show h_sz M ≤ h_sz M ∧ h_sl M ≤ h_sl M
  omega
theorem lb188_0 (G : gX) (l : Launch) (a0 : Nat) (v1 : Int32) (v2 : Int32) (M : hM) {res : xRes} (h : b188_0 a0 v1 v2 M = some res) : h_sz M ≤ r_sz res ∧ h_sl M ≤ r_sl res := by
  unfold b188_0 at h
  by_cases q11 : v1 < 0
  · rw [if_pos q11] at h
    have e := lb188_24 G l  M h
    omega
  · rw [if_neg q11] at h
    obtain ⟨v_1, h2, h⟩ := bd h
    by_cases q10 : v_1 ≤ v1
    · rw [if_pos q10] at h
      have e := lb188_24 G l  M h
      omega
    · rw [if_neg q10] at h
      by_cases q9 : v2 < 0
      · rw [if_pos q9] at h
        have e := lb188_24 G l  M h
        omega
      · rw [if_neg q9] at h
        obtain ⟨v_3, h4, h⟩ := bd h
        by_cases q8 : v2 < v_3
        · rw [if_pos q8] at h
          obtain ⟨v_5, h6, h⟩ := bd h
          by_cases q7 : v_5 = 0
          · rw [if_pos q7] at h
            obtain rfl := Option.some.inj h
            show h_sz M ≤ h_sz M ∧ h_sl M ≤ h_sl M
            omega
          · rw [if_neg q7] at h
            obtain rfl := Option.some.inj h
            show h_sz M ≤ h_sz M ∧ h_sl M ≤ h_sl M
            omega
        · rw [if_neg q8] at h
          have e := lb188_24 G l  M h
          omega
theorem lb188_37 (G : gX) (l : Launch) (a0 : Nat) (v1 : Int32) (v2 : Int32) (v3 : Int32) (M : hM) {res : xRes} (h : b188_37 a0 v1 v2 v3 M = some res) : h_sz M ≤ r_sz res ∧ h_sl M ≤ r_sl res := by
  unfold b188_37 at h
  by_cases q21 : (8 : Int32) ≤ v3
  · rw [if_pos q21] at h
    obtain rfl := Option.some.inj h
    show h_sz M ≤ h_sz M ∧ h_sl M ≤ h_sl M
    omega
  · rw [if_neg q21] at h
    obtain ⟨o_12, h13, h⟩ := bd h
    obtain ⟨v_14, h15, h⟩ := bd h
    obtain ⟨o_16, h17, h⟩ := bd h
    obtain ⟨v_18, h19, h⟩ := bd h
    by_cases q20 : (((v_14 >>> (v1 &&& 31)) &&& (v_18 >>> (v2 &&& 31))) &&& (1 : Int32)) = (1 : Int32)
    · rw [if_pos q20] at h
      obtain rfl := Option.some.inj h
      show h_sz M ≤ h_sz M ∧ h_sl M ≤ h_sl M
      omega
    · rw [if_neg q20] at h
      obtain rfl := Option.some.inj h
      show h_sz M ≤ h_sz M ∧ h_sl M ≤ h_sl M
      omega
section
variable {p : Program} {l : Launch} {e : Env} {s : State} {m : MethodId} {args : Array Value} {below : List Frame} {meth : Method} {c : Code} {G : gX} {z0 y0 : Nat} {r : Option aV} {M' : hM}
def pg188 (p : Program) (l : Launch) (e : Env) (s : State) (m : MethodId) (args : Array Value) (below : List Frame) (meth : Method) (c : Code) (G : gX) (z0 y0 : Nat) (r : Option aV) (M' : hM) (h : Nat) (as : List aV) (M : hM) : Prop :=
  if h = 37 then (match as with | [.inr (.inr (some a0)), .inl v1, .inl v2, .inl v3] => xV G p l e (xRm 0 (h_sz M' - z0) (h_sl M' - y0)) s m args below meth c z0 y0 (h_sz M') (h_sl M') 4 (MQ below (xQc G r M') args s (h_sz M' - z0) (h_sl M' - y0) (xFr G)) 37 [(0, .inr (.inr (some a0))), (1, .inl v1), (2, .inl v2), (3, .inl v3)] [] M | _ => False) else
  False
theorem sb188_24 (E : xE G p (xRm 0 (h_sz M' - z0) (h_sl M' - y0)) s m args c prog_14_method_25_code "ZonedFabricModel" z0 y0 (h_sz M') (h_sl M') 4) (B : xB ym188 (some FieldType.boolean) meth)  (M : hM) {res : xRes} (h : b188_24  M = some res) (hN : xN (pg188 p l e s m args below meth c G z0 y0 r M') r M' res) : xV G p l e (xRm 0 (h_sz M' - z0) (h_sl M' - y0)) s m args below meth c z0 y0 (h_sz M') (h_sl M') 4 (MQ below (xQc G r M') args s (h_sz M' - z0) (h_sl M' - y0) (xFr G)) 24 [] [] M := by
  unfold b188_24 at h
  refine xv_b E [.iconst 0] (pc' := 25) (lv' := []) (st' := [.inl (0 : Int32)]) (by decide +kernel) rfl rfl ?_
  obtain rfl := Option.some.inj h
  obtain ⟨rfl, rfl⟩ := Prod.mk.inj (show ((some (.inl (0 : Int32)) : Option aV), M) = (r, M') from hN)
  exact xv_ri E B.1 rfl B.2.1 (show decode prog_14_method_25_code 25 = .ok (.ireturn, 1) by decide +kernel) rfl rfl
theorem sb188_0 (E : xE G p (xRm 0 (h_sz M' - z0) (h_sl M' - y0)) s m args c prog_14_method_25_code "ZonedFabricModel" z0 y0 (h_sz M') (h_sl M') 4) (B : xB ym188 (some FieldType.boolean) meth) (a0 : Nat) (v1 : Int32) (v2 : Int32) (M : hM) {res : xRes} (h : b188_0 a0 v1 v2 M = some res) (hN : xN (pg188 p l e s m args below meth c G z0 y0 r M') r M' res) : xV G p l e (xRm 0 (h_sz M' - z0) (h_sl M' - y0)) s m args below meth c z0 y0 (h_sz M') (h_sl M') 4 (MQ below (xQc G r M') args s (h_sz M' - z0) (h_sl M' - y0) (xFr G)) 0 [(0, .inr (.inr (some a0))), (1, .inl v1), (2, .inl v2)] [] M := by
  unfold b188_0 at h
  refine xv_b E [.iload_n 1] (pc' := 1) (lv' := [(0, .inr (.inr (some a0))), (1, .inl v1), (2, .inl v2)]) (st' := [.inl v1]) (by decide +kernel) rfl rfl ?_
  by_cases q11 : v1 < 0
  · rw [if_pos q11] at h
    refine xv_if_lt E 24 (show decode prog_14_method_25_code 1 = .ok (.ifCond .lt (23), 3) by decide +kernel) rfl (fun _ => ?_) (fun z => absurd q11 z)
    exact xv_w (sb188_24 E B  M h hN) rfl
  · rw [if_neg q11] at h
    refine xv_if_lt E 24 (show decode prog_14_method_25_code 1 = .ok (.ifCond .lt (23), 3) by decide +kernel) rfl (fun z => absurd z q11) (fun _ => ?_)
    refine xv_b E [.iload_n 1, .aload_n 0] (pc' := 6) (lv' := [(0, .inr (.inr (some a0))), (1, .inl v1), (2, .inl v2)]) (st' := [.inr (.inr (some a0)), .inl v1]) (by decide +kernel) rfl rfl ?_
    obtain ⟨v_1, h2, h⟩ := bd h
    refine xg_i E 12 1 h2 mw922 (show decode prog_14_method_25_code 6 = .ok (.getfield 177, 3) by decide +kernel) ?_
    by_cases q10 : v_1 ≤ v1
    · rw [if_pos q10] at h
      refine xv_icmp_ge E 24 (show decode prog_14_method_25_code 9 = .ok (.if_icmp .ge (15), 3) by decide +kernel) rfl (fun _ => ?_) (fun z => absurd q10 z)
      exact xv_w (sb188_24 E B  M h hN) rfl
    · rw [if_neg q10] at h
      refine xv_icmp_ge E 24 (show decode prog_14_method_25_code 9 = .ok (.if_icmp .ge (15), 3) by decide +kernel) rfl (fun z => absurd z q10) (fun _ => ?_)
      refine xv_b E [.iload_n 2] (pc' := 13) (lv' := [(0, .inr (.inr (some a0))), (1, .inl v1), (2, .inl v2)]) (st' := [.inl v2]) (by decide +kernel) rfl rfl ?_
      by_cases q9 : v2 < 0
      · rw [if_pos q9] at h
        refine xv_if_lt E 24 (show decode prog_14_method_25_code 13 = .ok (.ifCond .lt (11), 3) by decide +kernel) rfl (fun _ => ?_) (fun z => absurd q9 z)
        exact xv_w (sb188_24 E B  M h hN) rfl
      · rw [if_neg q9] at h
        refine xv_if_lt E 24 (show decode prog_14_method_25_code 13 = .ok (.ifCond .lt (11), 3) by decide +kernel) rfl (fun z => absurd z q9) (fun _ => ?_)
        refine xv_b E [.iload_n 2, .aload_n 0] (pc' := 18) (lv' := [(0, .inr (.inr (some a0))), (1, .inl v1), (2, .inl v2)]) (st' := [.inr (.inr (some a0)), .inl v2]) (by decide +kernel) rfl rfl ?_
        obtain ⟨v_3, h4, h⟩ := bd h
        refine xg_i E 12 1 h4 mw922 (show decode prog_14_method_25_code 18 = .ok (.getfield 177, 3) by decide +kernel) ?_
        by_cases q8 : v2 < v_3
        · rw [if_pos q8] at h
          refine xv_icmp_lt E 26 (show decode prog_14_method_25_code 21 = .ok (.if_icmp .lt (5), 3) by decide +kernel) rfl (fun _ => ?_) (fun z => absurd q8 z)
          refine xv_b E [.aload_n 0] (pc' := 27) (lv' := [(0, .inr (.inr (some a0))), (1, .inl v1), (2, .inl v2)]) (st' := [.inr (.inr (some a0))]) (by decide +kernel) rfl rfl ?_
          obtain ⟨v_5, h6, h⟩ := bd h
          refine xg_i E 12 38 h6 mw992 (show decode prog_14_method_25_code 27 = .ok (.getfield 237, 3) by decide +kernel) ?_
          by_cases q7 : v_5 = 0
          · rw [if_pos q7] at h
            refine xv_if_ne E 35 (show decode prog_14_method_25_code 30 = .ok (.ifCond .ne (5), 3) by decide +kernel) rfl (fun z => absurd q7 z) (fun _ => ?_)
            refine xv_b E [.iconst 1] (pc' := 34) (lv' := [(0, .inr (.inr (some a0))), (1, .inl v1), (2, .inl v2)]) (st' := [.inl (1 : Int32)]) (by decide +kernel) rfl rfl ?_
            obtain rfl := Option.some.inj h
            obtain ⟨rfl, rfl⟩ := Prod.mk.inj (show ((some (.inl (1 : Int32)) : Option aV), M) = (r, M') from hN)
            exact xv_ri E B.1 rfl B.2.1 (show decode prog_14_method_25_code 34 = .ok (.ireturn, 1) by decide +kernel) rfl rfl
          · rw [if_neg q7] at h
            refine xv_if_ne E 35 (show decode prog_14_method_25_code 30 = .ok (.ifCond .ne (5), 3) by decide +kernel) rfl (fun _ => ?_) (fun z => absurd z q7)
            refine xv_b E [.iconst 0, .istore_n 3] (pc' := 37) (lv' := [(3, .inl (0 : Int32)), (0, .inr (.inr (some a0))), (1, .inl v1), (2, .inl v2)]) (st' := []) (by decide +kernel) rfl rfl ?_
            obtain rfl := Option.some.inj h
            exact xv_w hN rfl
        · rw [if_neg q8] at h
          refine xv_icmp_lt E 26 (show decode prog_14_method_25_code 21 = .ok (.if_icmp .lt (5), 3) by decide +kernel) rfl (fun z => absurd z q8) (fun _ => ?_)
          exact xv_w (sb188_24 E B  M h hN) rfl
theorem sb188_37 (E : xE G p (xRm 0 (h_sz M' - z0) (h_sl M' - y0)) s m args c prog_14_method_25_code "ZonedFabricModel" z0 y0 (h_sz M') (h_sl M') 4) (B : xB ym188 (some FieldType.boolean) meth) (a0 : Nat) (v1 : Int32) (v2 : Int32) (v3 : Int32) (M : hM) {res : xRes} (h : b188_37 a0 v1 v2 v3 M = some res) (hN : xN (pg188 p l e s m args below meth c G z0 y0 r M') r M' res) : xV G p l e (xRm 0 (h_sz M' - z0) (h_sl M' - y0)) s m args below meth c z0 y0 (h_sz M') (h_sl M') 4 (MQ below (xQc G r M') args s (h_sz M' - z0) (h_sl M' - y0) (xFr G)) 37 [(0, .inr (.inr (some a0))), (1, .inl v1), (2, .inl v2), (3, .inl v3)] [] M := by
  unfold b188_37 at h
  refine xv_b E [.iload_n 3, .bipush 8] (pc' := 40) (lv' := [(0, .inr (.inr (some a0))), (1, .inl v1), (2, .inl v2), (3, .inl v3)]) (st' := [.inl (8 : Int32), .inl v3]) (by decide +kernel) rfl rfl ?_
  by_cases q21 : (8 : Int32) ≤ v3
  · rw [if_pos q21] at h
    refine xv_icmp_ge E 74 (show decode prog_14_method_25_code 40 = .ok (.if_icmp .ge (34), 3) by decide +kernel) rfl (fun _ => ?_) (fun z => absurd q21 z)
    refine xv_b E [.iconst 0] (pc' := 75) (lv' := [(0, .inr (.inr (some a0))), (1, .inl v1), (2, .inl v2), (3, .inl v3)]) (st' := [.inl (0 : Int32)]) (by decide +kernel) rfl rfl ?_
    obtain rfl := Option.some.inj h
    obtain ⟨rfl, rfl⟩ := Prod.mk.inj (show ((some (.inl (0 : Int32)) : Option aV), M) = (r, M') from hN)
    exact xv_ri E B.1 rfl B.2.1 (show decode prog_14_method_25_code 75 = .ok (.ireturn, 1) by decide +kernel) rfl rfl
  · rw [if_neg q21] at h
    refine xv_icmp_ge E 74 (show decode prog_14_method_25_code 40 = .ok (.if_icmp .ge (34), 3) by decide +kernel) rfl (fun z => absurd z q21) (fun _ => ?_)
    refine xv_b E [.aload_n 0] (pc' := 44) (lv' := [(0, .inr (.inr (some a0))), (1, .inl v1), (2, .inl v2), (3, .inl v3)]) (st' := [.inr (.inr (some a0))]) (by decide +kernel) rfl rfl ?_
    obtain ⟨o_12, h13, h⟩ := bd h
    refine xg_r E 12 37 h13 mw897 (show decode prog_14_method_25_code 44 = .ok (.getfield 106, 3) by decide +kernel) ?_
    refine xv_b E [.iload_n 3] (pc' := 48) (lv' := [(0, .inr (.inr (some a0))), (1, .inl v1), (2, .inl v2), (3, .inl v3)]) (st' := [.inl v3, .inr (.inr o_12)]) (by decide +kernel) rfl rfl ?_
    obtain ⟨v_14, h15, h⟩ := bd h
    refine xa_i E h15 (show decode prog_14_method_25_code 48 = .ok (.iaload, 1) by decide +kernel) ?_
    refine xv_b E [.iload_n 1, .ishr, .aload_n 0] (pc' := 52) (lv' := [(0, .inr (.inr (some a0))), (1, .inl v1), (2, .inl v2), (3, .inl v3)]) (st' := [.inr (.inr (some a0)), .inl (v_14 >>> (v1 &&& 31))]) (by decide +kernel) rfl rfl ?_
    obtain ⟨o_16, h17, h⟩ := bd h
    refine xg_r E 12 37 h17 mw897 (show decode prog_14_method_25_code 52 = .ok (.getfield 106, 3) by decide +kernel) ?_
    refine xv_b E [.iload_n 3] (pc' := 56) (lv' := [(0, .inr (.inr (some a0))), (1, .inl v1), (2, .inl v2), (3, .inl v3)]) (st' := [.inl v3, .inr (.inr o_16), .inl (v_14 >>> (v1 &&& 31))]) (by decide +kernel) rfl rfl ?_
    obtain ⟨v_18, h19, h⟩ := bd h
    refine xa_i E h19 (show decode prog_14_method_25_code 56 = .ok (.iaload, 1) by decide +kernel) ?_
    refine xv_b E [.iload_n 2, .ishr, .iand, .iconst 1, .iand, .iconst 1] (pc' := 63) (lv' := [(0, .inr (.inr (some a0))), (1, .inl v1), (2, .inl v2), (3, .inl v3)]) (st' := [.inl (1 : Int32), .inl (((v_14 >>> (v1 &&& 31)) &&& (v_18 >>> (v2 &&& 31))) &&& (1 : Int32))]) (by decide +kernel) rfl rfl ?_
    by_cases q20 : (((v_14 >>> (v1 &&& 31)) &&& (v_18 >>> (v2 &&& 31))) &&& (1 : Int32)) = (1 : Int32)
    · rw [if_pos q20] at h
      refine xv_icmp_ne E 68 (show decode prog_14_method_25_code 63 = .ok (.if_icmp .ne (5), 3) by decide +kernel) rfl (fun z => absurd q20 z) (fun _ => ?_)
      refine xv_b E [.iconst 1] (pc' := 67) (lv' := [(0, .inr (.inr (some a0))), (1, .inl v1), (2, .inl v2), (3, .inl v3)]) (st' := [.inl (1 : Int32)]) (by decide +kernel) rfl rfl ?_
      obtain rfl := Option.some.inj h
      obtain ⟨rfl, rfl⟩ := Prod.mk.inj (show ((some (.inl (1 : Int32)) : Option aV), M) = (r, M') from hN)
      exact xv_ri E B.1 rfl B.2.1 (show decode prog_14_method_25_code 67 = .ok (.ireturn, 1) by decide +kernel) rfl rfl
    · rw [if_neg q20] at h
      refine xv_icmp_ne E 68 (show decode prog_14_method_25_code 63 = .ok (.if_icmp .ne (5), 3) by decide +kernel) rfl (fun _ => ?_) (fun z => absurd z q20)
      refine xv_b E [.iinc 3 1] (pc' := 71) (lv' := [(3, .inl (v3 + (1 : Int32))), (0, .inr (.inr (some a0))), (1, .inl v1), (2, .inl v2)]) (st' := []) (by decide +kernel) rfl rfl ?_
      refine xv_goto E 37 (show decode prog_14_method_25_code 71 = .ok (.goto (-34), 3) by decide +kernel) rfl ?_
      obtain rfl := Option.some.inj h
      exact xv_w hN rfl
end
theorem t188 (G : gX) (l : Launch) {as : List aV} {M : hM} {r : Option aV} {M' : hM} (h : f188 as M = some (r, M')) : xM G l ym188 prog_14_method_25_code 4 (some FieldType.boolean) 0 as M r M' := by
  unfold f188 at h
  split at h
  · have hle : ∀ h as M res, k188 h as M = some res → h_sz M ≤ r_sz res ∧ h_sl M ≤ r_sl res := by
      intro h as M res hb
      unfold k188 at hb
      by_cases e0 : h = 37
      · rw [if_pos e0] at hb
        split at hb
        · exact lb188_37 G l _ _ _ _ M hb
        · cases hb
      · rw [if_neg e0] at hb
        cases hb
    obtain ⟨res, hx, hres⟩ := x_go_ok h
    refine xM_of (by decide) (Nat.le_of_ble_eq_true rfl) ?_ ?_
    · have e1 := lb188_0 G l _ _ _ M hx
      have e2 := x_go_le hle hres
      omega
    · intro p e s m args below meth c E B
      refine sb188_0 E B _ _ _ M hx (hres _ ?_)
      intro h as M res hb hN
      unfold k188 at hb
      unfold pg188
      by_cases e0 : h = 37
      · rw [if_pos e0] at hb ⊢
        split at hb
        · exact sb188_37 E B _ _ _ _ M hb hN
        · cases hb
      · rw [if_neg e0] at hb ⊢
        cases hb
  · cases h
/-! ZFModel.nodeOf(I)I -/
def ym189 : MethodName := ⟨"ZonedFabricModel", "nodeOf", "(I)I"⟩
theorem cd189 : xCd ym189 prog_14_method_26_code 2 (some FieldType.int) 1 := ⟨mw993, mw864, by decide, by decide, by decide +kernel⟩
def b189_0 (a0 : Nat) (v1 : Int32) (M : hM) : Option xRes :=
  some (.inl (some (.inl ((v1 &&& (255 : Int32)) - (1 : Int32))), M))
def f189 (as : List aV) (M : hM) : xO := match as with
  | [.inr (.inr (some a0)), .inl v1] => x_out (b189_0 a0 v1 M)
  | _ => none
theorem lb189_0 (G : gX) (l : Launch) (a0 : Nat) (v1 : Int32) (M : hM) {res : xRes} (h : b189_0 a0 v1 M = some res) : h_sz M ≤ r_sz res ∧ h_sl M ≤ r_sl res := by
  unfold b189_0 at h
  obtain rfl := Option.some.inj h
  show h_sz M ≤ h_sz M ∧ h_sl M ≤ h_sl M
  omega
section
variable {p : Program} {l : Launch} {e : Env} {s : State} {m : MethodId} {args : Array Value} {below : List Frame} {meth : Method} {c : Code} {G : gX} {z0 y0 : Nat} {r : Option aV} {M' : hM}
theorem sb189_0 (E : xE G p (xRm 0 (h_sz M' - z0) (h_sl M' - y0)) s m args c prog_14_method_26_code "ZonedFabricModel" z0 y0 (h_sz M') (h_sl M') 2) (B : xB ym189 (some FieldType.int) meth) (a0 : Nat) (v1 : Int32) (M : hM) {res : xRes} (h : b189_0 a0 v1 M = some res) (hN : xN (fun _ _ _ => False) r M' res) : xV G p l e (xRm 0 (h_sz M' - z0) (h_sl M' - y0)) s m args below meth c z0 y0 (h_sz M') (h_sl M') 2 (MQ below (xQc G r M') args s (h_sz M' - z0) (h_sl M' - y0) (xFr G)) 0 [(0, .inr (.inr (some a0))), (1, .inl v1)] [] M := by
  unfold b189_0 at h
  refine xv_b E [.iload_n 1, .sipush 255, .iand, .iconst 1, .isub] (pc' := 7) (lv' := [(0, .inr (.inr (some a0))), (1, .inl v1)]) (st' := [.inl ((v1 &&& (255 : Int32)) - (1 : Int32))]) (by decide +kernel) rfl rfl ?_
  obtain rfl := Option.some.inj h
  obtain ⟨rfl, rfl⟩ := Prod.mk.inj (show ((some (.inl ((v1 &&& (255 : Int32)) - (1 : Int32))) : Option aV), M) = (r, M') from hN)
  exact xv_ri E B.1 rfl B.2.1 (show decode prog_14_method_26_code 7 = .ok (.ireturn, 1) by decide +kernel) rfl rfl
end
theorem t189 (G : gX) (l : Launch) {as : List aV} {M : hM} {r : Option aV} {M' : hM} (h : f189 as M = some (r, M')) : xM G l ym189 prog_14_method_26_code 2 (some FieldType.int) 0 as M r M' := by
  unfold f189 at h
  split at h
  · have h := x_out_ok h
    refine xM_of (by decide) (Nat.le_of_ble_eq_true rfl) (lb189_0 G l _ _ M h) ?_
    intro p e s m args below meth c E B
    exact sb189_0 E B _ _ M h rfl
  · cases h
/-! ZFModel.ofRecord(III)I -/
def ym190 : MethodName := ⟨"ZonedFabricModel", "ofRecord", "(III)I"⟩
theorem cd190 : xCd ym190 prog_14_method_27_code 4 (some FieldType.int) 3 := ⟨mw994, mw864, by decide, by decide, by decide +kernel⟩
def b190_0 (a0 : Nat) (v1 : Int32) (v2 : Int32) (v3 : Int32) (M : hM) : Option xRes :=
  Option.bind (g_r M 12 29 (some a0)) fun o_1 =>
  Option.bind (al_i M 20 o_1 (((64 : Int32) * (((5 : Int32) * v1) + v2)) + v3)) fun v_3 =>
  some (.inl (some (.inl v_3), M))
def f190 (as : List aV) (M : hM) : xO := match as with
  | [.inr (.inr (some a0)), .inl v1, .inl v2, .inl v3] => x_out (b190_0 a0 v1 v2 v3 M)
  | _ => none
theorem lb190_0 (G : gX) (l : Launch) (a0 : Nat) (v1 : Int32) (v2 : Int32) (v3 : Int32) (M : hM) {res : xRes} (h : b190_0 a0 v1 v2 v3 M = some res) : h_sz M ≤ r_sz res ∧ h_sl M ≤ r_sl res := by
  unfold b190_0 at h
  obtain ⟨o_1, h2, h⟩ := bd h
  obtain ⟨v_3, h4, h⟩ := bd h
  obtain rfl := Option.some.inj h
  show h_sz M ≤ h_sz M ∧ h_sl M ≤ h_sl M
  omega
section
variable {p : Program} {l : Launch} {e : Env} {s : State} {m : MethodId} {args : Array Value} {below : List Frame} {meth : Method} {c : Code} {G : gX} {z0 y0 : Nat} {r : Option aV} {M' : hM}
theorem sb190_0 (E : xE G p (xRm 0 (h_sz M' - z0) (h_sl M' - y0)) s m args c prog_14_method_27_code "ZonedFabricModel" z0 y0 (h_sz M') (h_sl M') 4) (B : xB ym190 (some FieldType.int) meth) (a0 : Nat) (v1 : Int32) (v2 : Int32) (v3 : Int32) (M : hM) {res : xRes} (h : b190_0 a0 v1 v2 v3 M = some res) (hN : xN (fun _ _ _ => False) r M' res) : xV G p l e (xRm 0 (h_sz M' - z0) (h_sl M' - y0)) s m args below meth c z0 y0 (h_sz M') (h_sl M') 4 (MQ below (xQc G r M') args s (h_sz M' - z0) (h_sl M' - y0) (xFr G)) 0 [(0, .inr (.inr (some a0))), (1, .inl v1), (2, .inl v2), (3, .inl v3)] [] M := by
  unfold b190_0 at h
  refine xv_b E [.aload_n 0] (pc' := 1) (lv' := [(0, .inr (.inr (some a0))), (1, .inl v1), (2, .inl v2), (3, .inl v3)]) (st' := [.inr (.inr (some a0))]) (by decide +kernel) rfl rfl ?_
  obtain ⟨o_1, h2, h⟩ := bd h
  refine xg_r E 12 29 h2 mw889 (show decode prog_14_method_27_code 1 = .ok (.getfield 82, 3) by decide +kernel) ?_
  refine xv_b E [.bipush 64, .iconst 5, .iload_n 1, .imul, .iload_n 2, .iadd, .imul, .iload_n 3, .iadd] (pc' := 14) (lv' := [(0, .inr (.inr (some a0))), (1, .inl v1), (2, .inl v2), (3, .inl v3)]) (st' := [.inl (((64 : Int32) * (((5 : Int32) * v1) + v2)) + v3), .inr (.inr o_1)]) (by decide +kernel) rfl rfl ?_
  obtain ⟨v_3, h4, h⟩ := bd h
  refine xa_i E h4 (show decode prog_14_method_27_code 14 = .ok (.iaload, 1) by decide +kernel) ?_
  obtain rfl := Option.some.inj h
  obtain ⟨rfl, rfl⟩ := Prod.mk.inj (show ((some (.inl v_3) : Option aV), M) = (r, M') from hN)
  exact xv_ri E B.1 rfl B.2.1 (show decode prog_14_method_27_code 15 = .ok (.ireturn, 1) by decide +kernel) rfl rfl
end
theorem t190 (G : gX) (l : Launch) {as : List aV} {M : hM} {r : Option aV} {M' : hM} (h : f190 as M = some (r, M')) : xM G l ym190 prog_14_method_27_code 4 (some FieldType.int) 0 as M r M' := by
  unfold f190 at h
  split at h
  · have h := x_out_ok h
    refine xM_of (by decide) (Nat.le_of_ble_eq_true rfl) (lb190_0 G l _ _ _ _ M h) ?_
    intro p e s m args below meth c E B
    exact sb190_0 E B _ _ _ _ M h rfl
  · cases h
/-! ZFModel.issue(II)I -/
def ym191 : MethodName := ⟨"ZonedFabricModel", "issue", "(II)I"⟩
theorem cd191 : xCd ym191 prog_14_method_28_code 3 (some FieldType.int) 2 := ⟨mw995, mw864, by decide, by decide, by decide +kernel⟩
def b191_0 (a0 : Nat) (v1 : Int32) (v2 : Int32) (M : hM) : Option xRes :=
  Option.bind (g_o M 12 (some a0)) fun b_3 =>
  Option.bind (c_I (f190 [.inr (.inr (some b_3)), .inl v1, .inl v2, .inl (1 : Int32)] M)) fun q_1 =>
  Option.bind (g_o q_1.2 12 (some a0)) fun b_7 =>
  Option.bind (c_I (f190 [.inr (.inr (some b_7)), .inl v1, .inl v2, .inl (2 : Int32)] q_1.2)) fun q_5 =>
  Option.bind (g_o q_5.2 12 (some a0)) fun b_11 =>
  Option.bind (c_I (f190 [.inr (.inr (some b_11)), .inl v1, .inl v2, .inl (3 : Int32)] q_5.2)) fun q_9 =>
  some (.inl (some (.inl (((q_1.1 <<< ((16 : Int32) &&& 31)) ||| (q_5.1 <<< ((8 : Int32) &&& 31))) ||| q_9.1)), q_9.2))
def f191 (as : List aV) (M : hM) : xO := match as with
  | [.inr (.inr (some a0)), .inl v1, .inl v2] => x_out (b191_0 a0 v1 v2 M)
  | _ => none
theorem lb191_0 (G : gX) (l : Launch) (a0 : Nat) (v1 : Int32) (v2 : Int32) (M : hM) {res : xRes} (h : b191_0 a0 v1 v2 M = some res) : h_sz M ≤ r_sz res ∧ h_sl M ≤ r_sl res := by
  unfold b191_0 at h
  obtain ⟨b_3, h4, h⟩ := bd h
  obtain ⟨q_1, h2, h⟩ := bd h
  have eh2 := (t190 G l (c_I_some h2)).1
  obtain ⟨b_7, h8, h⟩ := bd h
  obtain ⟨q_5, h6, h⟩ := bd h
  have eh6 := (t190 G l (c_I_some h6)).1
  obtain ⟨b_11, h12, h⟩ := bd h
  obtain ⟨q_9, h10, h⟩ := bd h
  have eh10 := (t190 G l (c_I_some h10)).1
  obtain rfl := Option.some.inj h
  show h_sz M ≤ h_sz q_9.2 ∧ h_sl M ≤ h_sl q_9.2
  omega
section
variable {p : Program} {l : Launch} {e : Env} {s : State} {m : MethodId} {args : Array Value} {below : List Frame} {meth : Method} {c : Code} {G : gX} {z0 y0 : Nat} {r : Option aV} {M' : hM}
theorem sb191_0 (E : xE G p (xRm 1 (h_sz M' - z0) (h_sl M' - y0)) s m args c prog_14_method_28_code "ZonedFabricModel" z0 y0 (h_sz M') (h_sl M') 3) (B : xB ym191 (some FieldType.int) meth) (a0 : Nat) (v1 : Int32) (v2 : Int32) (M : hM) {res : xRes} (h : b191_0 a0 v1 v2 M = some res) (hN : xN (fun _ _ _ => False) r M' res) : xV G p l e (xRm 1 (h_sz M' - z0) (h_sl M' - y0)) s m args below meth c z0 y0 (h_sz M') (h_sl M') 3 (MQ below (xQc G r M') args s (h_sz M' - z0) (h_sl M' - y0) (xFr G)) 0 [(0, .inr (.inr (some a0))), (1, .inl v1), (2, .inl v2)] [] M := by
  unfold b191_0 at h
  refine xv_b E [.aload_n 0, .iload_n 1, .iload_n 2, .iconst 1] (pc' := 4) (lv' := [(0, .inr (.inr (some a0))), (1, .inl v1), (2, .inl v2)]) (st' := [.inl (1 : Int32), .inl v2, .inl v1, .inr (.inr (some a0))]) (by decide +kernel) rfl rfl ?_
  obtain ⟨b_3, h4, h⟩ := bd h
  obtain ⟨eh4, th4⟩ := g_o_some h4
  obtain ⟨q_1, h2, h⟩ := bd h
  refine xv_cvo E eh4 12 (as := [.inl v1, .inl v2, .inl (1 : Int32)]) (t190 G l (c_I_some h2)) cd190 mw996 mw997 mw998 (show decode prog_14_method_28_code 4 = .ok (.invokevirtual 241, 3) by decide +kernel) th4 rfl rfl (Nat.le_of_ble_eq_true rfl) ⟨Nat.le_of_ble_eq_true rfl, Nat.le_of_ble_eq_true rfl⟩ ?_
  refine xv_b E [.bipush 16, .ishl, .aload_n 0, .iload_n 1, .iload_n 2, .iconst 2] (pc' := 14) (lv' := [(0, .inr (.inr (some a0))), (1, .inl v1), (2, .inl v2)]) (st' := [.inl (2 : Int32), .inl v2, .inl v1, .inr (.inr (some a0)), .inl (q_1.1 <<< ((16 : Int32) &&& 31))]) (by decide +kernel) rfl rfl ?_
  obtain ⟨b_7, h8, h⟩ := bd h
  obtain ⟨eh8, th8⟩ := g_o_some h8
  obtain ⟨q_5, h6, h⟩ := bd h
  refine xv_cvo E eh8 12 (as := [.inl v1, .inl v2, .inl (2 : Int32)]) (t190 G l (c_I_some h6)) cd190 mw996 mw997 mw998 (show decode prog_14_method_28_code 14 = .ok (.invokevirtual 241, 3) by decide +kernel) th8 rfl rfl (Nat.le_of_ble_eq_true rfl) ⟨Nat.le_of_ble_eq_true rfl, Nat.le_of_ble_eq_true rfl⟩ ?_
  refine xv_b E [.bipush 8, .ishl, .ior, .aload_n 0, .iload_n 1, .iload_n 2, .iconst 3] (pc' := 25) (lv' := [(0, .inr (.inr (some a0))), (1, .inl v1), (2, .inl v2)]) (st' := [.inl (3 : Int32), .inl v2, .inl v1, .inr (.inr (some a0)), .inl ((q_1.1 <<< ((16 : Int32) &&& 31)) ||| (q_5.1 <<< ((8 : Int32) &&& 31)))]) (by decide +kernel) rfl rfl ?_
  obtain ⟨b_11, h12, h⟩ := bd h
  obtain ⟨eh12, th12⟩ := g_o_some h12
  obtain ⟨q_9, h10, h⟩ := bd h
  refine xv_cvo E eh12 12 (as := [.inl v1, .inl v2, .inl (3 : Int32)]) (t190 G l (c_I_some h10)) cd190 mw996 mw997 mw998 (show decode prog_14_method_28_code 25 = .ok (.invokevirtual 241, 3) by decide +kernel) th12 rfl rfl (Nat.le_of_ble_eq_true rfl) ⟨Nat.le_of_ble_eq_true rfl, Nat.le_of_ble_eq_true rfl⟩ ?_
  refine xv_b E [.ior] (pc' := 29) (lv' := [(0, .inr (.inr (some a0))), (1, .inl v1), (2, .inl v2)]) (st' := [.inl (((q_1.1 <<< ((16 : Int32) &&& 31)) ||| (q_5.1 <<< ((8 : Int32) &&& 31))) ||| q_9.1)]) (by decide +kernel) rfl rfl ?_
  obtain rfl := Option.some.inj h
  obtain ⟨rfl, rfl⟩ := Prod.mk.inj (show ((some (.inl (((q_1.1 <<< ((16 : Int32) &&& 31)) ||| (q_5.1 <<< ((8 : Int32) &&& 31))) ||| q_9.1)) : Option aV), q_9.2) = (r, M') from hN)
  exact xv_ri E B.1 rfl B.2.1 (show decode prog_14_method_28_code 29 = .ok (.ireturn, 1) by decide +kernel) rfl rfl
end
theorem t191 (G : gX) (l : Launch) {as : List aV} {M : hM} {r : Option aV} {M' : hM} (h : f191 as M = some (r, M')) : xM G l ym191 prog_14_method_28_code 3 (some FieldType.int) 1 as M r M' := by
  unfold f191 at h
  split at h
  · have h := x_out_ok h
    refine xM_of (by decide) (Nat.le_of_ble_eq_true rfl) (lb191_0 G l _ _ _ M h) ?_
    intro p e s m args below meth c E B
    exact sb191_0 E B _ _ _ M h rfl
  · cases h
/-! ZFModel.nodesFrom(II)I -/
def ym192 : MethodName := ⟨"ZonedFabricModel", "nodesFrom", "(II)I"⟩
theorem cd192 : xCd ym192 prog_14_method_29_code 3 (some FieldType.int) 2 := ⟨mw999, mw864, by decide, by decide, by decide +kernel⟩
def b192_0 (a0 : Nat) (v1 : Int32) (v2 : Int32) (M : hM) : Option xRes :=
  Option.bind (g_o M 12 (some a0)) fun b_3 =>
  Option.bind (c_I (f190 [.inr (.inr (some b_3)), .inl v1, .inl v2, .inl (5 : Int32)] M)) fun q_1 =>
  some (.inl (some (.inl ((7 : Int32) + ((3 : Int32) * q_1.1))), q_1.2))
def f192 (as : List aV) (M : hM) : xO := match as with
  | [.inr (.inr (some a0)), .inl v1, .inl v2] => x_out (b192_0 a0 v1 v2 M)
  | _ => none
theorem lb192_0 (G : gX) (l : Launch) (a0 : Nat) (v1 : Int32) (v2 : Int32) (M : hM) {res : xRes} (h : b192_0 a0 v1 v2 M = some res) : h_sz M ≤ r_sz res ∧ h_sl M ≤ r_sl res := by
  unfold b192_0 at h
  obtain ⟨b_3, h4, h⟩ := bd h
  obtain ⟨q_1, h2, h⟩ := bd h
  have eh2 := (t190 G l (c_I_some h2)).1
  obtain rfl := Option.some.inj h
  show h_sz M ≤ h_sz q_1.2 ∧ h_sl M ≤ h_sl q_1.2
  omega
section
variable {p : Program} {l : Launch} {e : Env} {s : State} {m : MethodId} {args : Array Value} {below : List Frame} {meth : Method} {c : Code} {G : gX} {z0 y0 : Nat} {r : Option aV} {M' : hM}
theorem sb192_0 (E : xE G p (xRm 1 (h_sz M' - z0) (h_sl M' - y0)) s m args c prog_14_method_29_code "ZonedFabricModel" z0 y0 (h_sz M') (h_sl M') 3) (B : xB ym192 (some FieldType.int) meth) (a0 : Nat) (v1 : Int32) (v2 : Int32) (M : hM) {res : xRes} (h : b192_0 a0 v1 v2 M = some res) (hN : xN (fun _ _ _ => False) r M' res) : xV G p l e (xRm 1 (h_sz M' - z0) (h_sl M' - y0)) s m args below meth c z0 y0 (h_sz M') (h_sl M') 3 (MQ below (xQc G r M') args s (h_sz M' - z0) (h_sl M' - y0) (xFr G)) 0 [(0, .inr (.inr (some a0))), (1, .inl v1), (2, .inl v2)] [] M := by
  unfold b192_0 at h
  refine xv_b E [.bipush 7, .iconst 3, .aload_n 0, .iload_n 1, .iload_n 2, .iconst 5] (pc' := 7) (lv' := [(0, .inr (.inr (some a0))), (1, .inl v1), (2, .inl v2)]) (st' := [.inl (5 : Int32), .inl v2, .inl v1, .inr (.inr (some a0)), .inl (3 : Int32), .inl (7 : Int32)]) (by decide +kernel) rfl rfl ?_
  obtain ⟨b_3, h4, h⟩ := bd h
  obtain ⟨eh4, th4⟩ := g_o_some h4
  obtain ⟨q_1, h2, h⟩ := bd h
  refine xv_cvo E eh4 12 (as := [.inl v1, .inl v2, .inl (5 : Int32)]) (t190 G l (c_I_some h2)) cd190 mw996 mw997 mw998 (show decode prog_14_method_29_code 7 = .ok (.invokevirtual 241, 3) by decide +kernel) th4 rfl rfl (Nat.le_of_ble_eq_true rfl) ⟨Nat.le_of_ble_eq_true rfl, Nat.le_of_ble_eq_true rfl⟩ ?_
  refine xv_b E [.imul, .iadd] (pc' := 12) (lv' := [(0, .inr (.inr (some a0))), (1, .inl v1), (2, .inl v2)]) (st' := [.inl ((7 : Int32) + ((3 : Int32) * q_1.1))]) (by decide +kernel) rfl rfl ?_
  obtain rfl := Option.some.inj h
  obtain ⟨rfl, rfl⟩ := Prod.mk.inj (show ((some (.inl ((7 : Int32) + ((3 : Int32) * q_1.1))) : Option aV), q_1.2) = (r, M') from hN)
  exact xv_ri E B.1 rfl B.2.1 (show decode prog_14_method_29_code 12 = .ok (.ireturn, 1) by decide +kernel) rfl rfl
end
theorem t192 (G : gX) (l : Launch) {as : List aV} {M : hM} {r : Option aV} {M' : hM} (h : f192 as M = some (r, M')) : xM G l ym192 prog_14_method_29_code 3 (some FieldType.int) 1 as M r M' := by
  unfold f192 at h
  split at h
  · have h := x_out_ok h
    refine xM_of (by decide) (Nat.le_of_ble_eq_true rfl) (lb192_0 G l _ _ _ M h) ?_
    intro p e s m args below meth c E B
    exact sb192_0 E B _ _ _ M h rfl
  · cases h
/-! ZFModel.tells(III)I -/
def ym193 : MethodName := ⟨"ZonedFabricModel", "tells", "(III)I"⟩
theorem cd193 : xCd ym193 prog_14_method_30_code 6 (some FieldType.int) 3 := ⟨mw1000, mw864, by decide, by decide, by decide +kernel⟩
def b193_0 (a0 : Nat) (v1 : Int32) (v2 : Int32) (v3 : Int32) (M : hM) : Option xRes :=
  Option.bind (g_r M 12 27 (some a0)) fun o_1 =>
  Option.bind (al_i M 22 o_1 (((5 : Int32) * v1) + v2)) fun v_3 =>
  if v_3 = 0 then
    (some (.inl (some (.inl (1000000 : Int32)), M)))
  else
    (some (.inr (23, [.inr (.inr (some a0)), .inl v1, .inl v2, .inl v3, .inl (1000000 : Int32), .inl (0 : Int32)], M)))
def b193_85 (a0 : Nat) (v1 : Int32) (v2 : Int32) (v3 : Int32) (v4 : Int32) (v5 : Int32) (M : hM) : Option xRes :=
  some (.inr (23, [.inr (.inr (some a0)), .inl v1, .inl v2, .inl v3, .inl v4, .inl (v5 + (1 : Int32))], M))
def b193_23 (a0 : Nat) (v1 : Int32) (v2 : Int32) (v3 : Int32) (v4 : Int32) (v5 : Int32) (M : hM) : Option xRes :=
  Option.bind (g_o M 12 (some a0)) fun b_8 =>
  Option.bind (c_I (f190 [.inr (.inr (some b_8)), .inl v1, .inl v2, .inl (5 : Int32)] M)) fun q_6 =>
  if q_6.1 ≤ v5 then
    (some (.inl (some (.inl v4), q_6.2)))
  else
    (Option.bind (g_o q_6.2 12 (some a0)) fun b_12 =>
    Option.bind (c_I (f190 [.inr (.inr (some b_12)), .inl v1, .inl v2, .inl ((7 : Int32) + ((3 : Int32) * v5))] q_6.2)) fun q_10 =>
    if q_10.1 = v3 then
      (Option.bind (g_o q_10.2 12 (some a0)) fun b_16 =>
      Option.bind (c_I (f190 [.inr (.inr (some b_16)), .inl v1, .inl v2, .inl ((8 : Int32) + ((3 : Int32) * v5))] q_10.2)) fun q_14 =>
      if v4 ≤ q_14.1 then
        (b193_85 a0 v1 v2 v3 v4 v5 q_14.2)
      else
        (Option.bind (g_o q_14.2 12 (some a0)) fun b_20 =>
        Option.bind (c_I (f190 [.inr (.inr (some b_20)), .inl v1, .inl v2, .inl ((8 : Int32) + ((3 : Int32) * v5))] q_14.2)) fun q_18 =>
        b193_85 a0 v1 v2 v3 q_18.1 v5 q_18.2))
    else
      (b193_85 a0 v1 v2 v3 v4 v5 q_10.2))
def k193 (h : Nat) (as : List aV) (M : hM) : Option xRes :=
  if h = 23 then (match as with | [.inr (.inr (some a0)), .inl v1, .inl v2, .inl v3, .inl v4, .inl v5] => b193_23 a0 v1 v2 v3 v4 v5 M | _ => none) else
  none
def f193 (as : List aV) (M : hM) : xO := match as with
  | [.inr (.inr (some a0)), .inl v1, .inl v2, .inl v3] => x_go k193 (b193_0 a0 v1 v2 v3 M)
  | _ => none
theorem lb193_0 (G : gX) (l : Launch) (a0 : Nat) (v1 : Int32) (v2 : Int32) (v3 : Int32) (M : hM) {res : xRes} (h : b193_0 a0 v1 v2 v3 M = some res) : h_sz M ≤ r_sz res ∧ h_sl M ≤ r_sl res := by
  unfold b193_0 at h
  obtain ⟨o_1, h2, h⟩ := bd h
  obtain ⟨v_3, h4, h⟩ := bd h
  by_cases q5 : v_3 = 0
  · rw [if_pos q5] at h
    obtain rfl := Option.some.inj h
    show h_sz M ≤ h_sz M ∧ h_sl M ≤ h_sl M
    omega
  · rw [if_neg q5] at h
    obtain rfl := Option.some.inj h
    show h_sz M ≤ h_sz M ∧ h_sl M ≤ h_sl M
    omega
theorem lb193_85 (G : gX) (l : Launch) (a0 : Nat) (v1 : Int32) (v2 : Int32) (v3 : Int32) (v4 : Int32) (v5 : Int32) (M : hM) {res : xRes} (h : b193_85 a0 v1 v2 v3 v4 v5 M = some res) : h_sz M ≤ r_sz res ∧ h_sl M ≤ r_sl res := by
  unfold b193_85 at h
  obtain rfl := Option.some.inj h
  show h_sz M ≤ h_sz M ∧ h_sl M ≤ h_sl M
  omega
theorem lb193_23 (G : gX) (l : Launch) (a0 : Nat) (v1 : Int32) (v2 : Int32) (v3 : Int32) (v4 : Int32) (v5 : Int32) (M : hM) {res : xRes} (h : b193_23 a0 v1 v2 v3 v4 v5 M = some res) : h_sz M ≤ r_sz res ∧ h_sl M ≤ r_sl res := by
  unfold b193_23 at h
  obtain ⟨b_8, h9, h⟩ := bd h
  obtain ⟨q_6, h7, h⟩ := bd h
  have eh7 := (t190 G l (c_I_some h7)).1
  by_cases q24 : q_6.1 ≤ v5
  · rw [if_pos q24] at h
    obtain rfl := Option.some.inj h
    show h_sz M ≤ h_sz q_6.2 ∧ h_sl M ≤ h_sl q_6.2
    omega
  · rw [if_neg q24] at h
    obtain ⟨b_12, h13, h⟩ := bd h
    obtain ⟨q_10, h11, h⟩ := bd h
    have eh11 := (t190 G l (c_I_some h11)).1
    by_cases q23 : q_10.1 = v3
    · rw [if_pos q23] at h
      obtain ⟨b_16, h17, h⟩ := bd h
      obtain ⟨q_14, h15, h⟩ := bd h
      have eh15 := (t190 G l (c_I_some h15)).1
      by_cases q22 : v4 ≤ q_14.1
      · rw [if_pos q22] at h
        have e := lb193_85 G l a0 v1 v2 v3 v4 v5 q_14.2 h
        omega
      · rw [if_neg q22] at h
        obtain ⟨b_20, h21, h⟩ := bd h
        obtain ⟨q_18, h19, h⟩ := bd h
        have eh19 := (t190 G l (c_I_some h19)).1
        have e := lb193_85 G l a0 v1 v2 v3 q_18.1 v5 q_18.2 h
        omega
    · rw [if_neg q23] at h
      have e := lb193_85 G l a0 v1 v2 v3 v4 v5 q_10.2 h
      omega
section
variable {p : Program} {l : Launch} {e : Env} {s : State} {m : MethodId} {args : Array Value} {below : List Frame} {meth : Method} {c : Code} {G : gX} {z0 y0 : Nat} {r : Option aV} {M' : hM}
def pg193 (p : Program) (l : Launch) (e : Env) (s : State) (m : MethodId) (args : Array Value) (below : List Frame) (meth : Method) (c : Code) (G : gX) (z0 y0 : Nat) (r : Option aV) (M' : hM) (h : Nat) (as : List aV) (M : hM) : Prop :=
  if h = 23 then (match as with | [.inr (.inr (some a0)), .inl v1, .inl v2, .inl v3, .inl v4, .inl v5] => xV G p l e (xRm 1 (h_sz M' - z0) (h_sl M' - y0)) s m args below meth c z0 y0 (h_sz M') (h_sl M') 6 (MQ below (xQc G r M') args s (h_sz M' - z0) (h_sl M' - y0) (xFr G)) 23 [(0, .inr (.inr (some a0))), (1, .inl v1), (2, .inl v2), (3, .inl v3), (4, .inl v4), (5, .inl v5)] [] M | _ => False) else
  False
theorem sb193_0 (E : xE G p (xRm 1 (h_sz M' - z0) (h_sl M' - y0)) s m args c prog_14_method_30_code "ZonedFabricModel" z0 y0 (h_sz M') (h_sl M') 6) (B : xB ym193 (some FieldType.int) meth) (a0 : Nat) (v1 : Int32) (v2 : Int32) (v3 : Int32) (M : hM) {res : xRes} (h : b193_0 a0 v1 v2 v3 M = some res) (hN : xN (pg193 p l e s m args below meth c G z0 y0 r M') r M' res) : xV G p l e (xRm 1 (h_sz M' - z0) (h_sl M' - y0)) s m args below meth c z0 y0 (h_sz M') (h_sl M') 6 (MQ below (xQc G r M') args s (h_sz M' - z0) (h_sl M' - y0) (xFr G)) 0 [(0, .inr (.inr (some a0))), (1, .inl v1), (2, .inl v2), (3, .inl v3)] [] M := by
  unfold b193_0 at h
  refine xv_ldc E (1000000 : Int32) mw1001 (show decode prog_14_method_30_code 0 = .ok (.ldc 244, 2) by decide +kernel) ?_
  refine xv_b E [.istore 4, .aload_n 0] (pc' := 5) (lv' := [(4, .inl (1000000 : Int32)), (0, .inr (.inr (some a0))), (1, .inl v1), (2, .inl v2), (3, .inl v3)]) (st' := [.inr (.inr (some a0))]) (by decide +kernel) rfl rfl ?_
  obtain ⟨o_1, h2, h⟩ := bd h
  refine xg_r E 12 27 h2 mw887 (show decode prog_14_method_30_code 5 = .ok (.getfield 76, 3) by decide +kernel) ?_
  refine xv_b E [.iconst 5, .iload_n 1, .imul, .iload_n 2, .iadd] (pc' := 13) (lv' := [(4, .inl (1000000 : Int32)), (0, .inr (.inr (some a0))), (1, .inl v1), (2, .inl v2), (3, .inl v3)]) (st' := [.inl (((5 : Int32) * v1) + v2), .inr (.inr o_1)]) (by decide +kernel) rfl rfl ?_
  obtain ⟨v_3, h4, h⟩ := bd h
  refine xa_z E h4 (show decode prog_14_method_30_code 13 = .ok (.baload, 1) by decide +kernel) ?_
  by_cases q5 : v_3 = 0
  · rw [if_pos q5] at h
    refine xv_if_ne E 20 (show decode prog_14_method_30_code 14 = .ok (.ifCond .ne (6), 3) by decide +kernel) rfl (fun z => absurd q5 z) (fun _ => ?_)
    refine xv_b E [.iload 4] (pc' := 19) (lv' := [(4, .inl (1000000 : Int32)), (0, .inr (.inr (some a0))), (1, .inl v1), (2, .inl v2), (3, .inl v3)]) (st' := [.inl (1000000 : Int32)]) (by decide +kernel) rfl rfl ?_
    obtain rfl := Option.some.inj h
    obtain ⟨rfl, rfl⟩ := Prod.mk.inj (show ((some (.inl (1000000 : Int32)) : Option aV), M) = (r, M') from hN)
    exact xv_ri E B.1 rfl B.2.1 (show decode prog_14_method_30_code 19 = .ok (.ireturn, 1) by decide +kernel) rfl rfl
  · rw [if_neg q5] at h
    refine xv_if_ne E 20 (show decode prog_14_method_30_code 14 = .ok (.ifCond .ne (6), 3) by decide +kernel) rfl (fun _ => ?_) (fun z => absurd z q5)
    refine xv_b E [.iconst 0, .istore 5] (pc' := 23) (lv' := [(5, .inl (0 : Int32)), (4, .inl (1000000 : Int32)), (0, .inr (.inr (some a0))), (1, .inl v1), (2, .inl v2), (3, .inl v3)]) (st' := []) (by decide +kernel) rfl rfl ?_
    obtain rfl := Option.some.inj h
    exact xv_w hN rfl
theorem sb193_85 (E : xE G p (xRm 1 (h_sz M' - z0) (h_sl M' - y0)) s m args c prog_14_method_30_code "ZonedFabricModel" z0 y0 (h_sz M') (h_sl M') 6) (B : xB ym193 (some FieldType.int) meth) (a0 : Nat) (v1 : Int32) (v2 : Int32) (v3 : Int32) (v4 : Int32) (v5 : Int32) (M : hM) {res : xRes} (h : b193_85 a0 v1 v2 v3 v4 v5 M = some res) (hN : xN (pg193 p l e s m args below meth c G z0 y0 r M') r M' res) : xV G p l e (xRm 1 (h_sz M' - z0) (h_sl M' - y0)) s m args below meth c z0 y0 (h_sz M') (h_sl M') 6 (MQ below (xQc G r M') args s (h_sz M' - z0) (h_sl M' - y0) (xFr G)) 85 [(0, .inr (.inr (some a0))), (1, .inl v1), (2, .inl v2), (3, .inl v3), (4, .inl v4), (5, .inl v5)] [] M := by
  unfold b193_85 at h
  refine xv_b E [.iinc 5 1] (pc' := 88) (lv' := [(5, .inl (v5 + (1 : Int32))), (0, .inr (.inr (some a0))), (1, .inl v1), (2, .inl v2), (3, .inl v3), (4, .inl v4)]) (st' := []) (by decide +kernel) rfl rfl ?_
  refine xv_goto E 23 (show decode prog_14_method_30_code 88 = .ok (.goto (-65), 3) by decide +kernel) rfl ?_
  obtain rfl := Option.some.inj h
  exact xv_w hN rfl
theorem sb193_23 (E : xE G p (xRm 1 (h_sz M' - z0) (h_sl M' - y0)) s m args c prog_14_method_30_code "ZonedFabricModel" z0 y0 (h_sz M') (h_sl M') 6) (B : xB ym193 (some FieldType.int) meth) (a0 : Nat) (v1 : Int32) (v2 : Int32) (v3 : Int32) (v4 : Int32) (v5 : Int32) (M : hM) {res : xRes} (h : b193_23 a0 v1 v2 v3 v4 v5 M = some res) (hN : xN (pg193 p l e s m args below meth c G z0 y0 r M') r M' res) : xV G p l e (xRm 1 (h_sz M' - z0) (h_sl M' - y0)) s m args below meth c z0 y0 (h_sz M') (h_sl M') 6 (MQ below (xQc G r M') args s (h_sz M' - z0) (h_sl M' - y0) (xFr G)) 23 [(0, .inr (.inr (some a0))), (1, .inl v1), (2, .inl v2), (3, .inl v3), (4, .inl v4), (5, .inl v5)] [] M := by
  unfold b193_23 at h
  refine xv_b E [.iload 5, .aload_n 0, .iload_n 1, .iload_n 2, .iconst 5] (pc' := 29) (lv' := [(0, .inr (.inr (some a0))), (1, .inl v1), (2, .inl v2), (3, .inl v3), (4, .inl v4), (5, .inl v5)]) (st' := [.inl (5 : Int32), .inl v2, .inl v1, .inr (.inr (some a0)), .inl v5]) (by decide +kernel) rfl rfl ?_
  obtain ⟨b_8, h9, h⟩ := bd h
  obtain ⟨eh9, th9⟩ := g_o_some h9
  obtain ⟨q_6, h7, h⟩ := bd h
  refine xv_cvo E eh9 12 (as := [.inl v1, .inl v2, .inl (5 : Int32)]) (t190 G l (c_I_some h7)) cd190 mw996 mw997 mw998 (show decode prog_14_method_30_code 29 = .ok (.invokevirtual 241, 3) by decide +kernel) th9 rfl rfl (Nat.le_of_ble_eq_true rfl) ⟨Nat.le_of_ble_eq_true rfl, Nat.le_of_ble_eq_true rfl⟩ ?_
  by_cases q24 : q_6.1 ≤ v5
  · rw [if_pos q24] at h
    refine xv_icmp_ge E 91 (show decode prog_14_method_30_code 32 = .ok (.if_icmp .ge (59), 3) by decide +kernel) rfl (fun _ => ?_) (fun z => absurd q24 z)
    refine xv_b E [.iload 4] (pc' := 93) (lv' := [(0, .inr (.inr (some a0))), (1, .inl v1), (2, .inl v2), (3, .inl v3), (4, .inl v4), (5, .inl v5)]) (st' := [.inl v4]) (by decide +kernel) rfl rfl ?_
    obtain rfl := Option.some.inj h
    obtain ⟨rfl, rfl⟩ := Prod.mk.inj (show ((some (.inl v4) : Option aV), q_6.2) = (r, M') from hN)
    exact xv_ri E B.1 rfl B.2.1 (show decode prog_14_method_30_code 93 = .ok (.ireturn, 1) by decide +kernel) rfl rfl
  · rw [if_neg q24] at h
    refine xv_icmp_ge E 91 (show decode prog_14_method_30_code 32 = .ok (.if_icmp .ge (59), 3) by decide +kernel) rfl (fun z => absurd z q24) (fun _ => ?_)
    refine xv_b E [.aload_n 0, .iload_n 1, .iload_n 2, .bipush 7, .iconst 3, .iload 5, .imul, .iadd] (pc' := 45) (lv' := [(0, .inr (.inr (some a0))), (1, .inl v1), (2, .inl v2), (3, .inl v3), (4, .inl v4), (5, .inl v5)]) (st' := [.inl ((7 : Int32) + ((3 : Int32) * v5)), .inl v2, .inl v1, .inr (.inr (some a0))]) (by decide +kernel) rfl rfl ?_
    obtain ⟨b_12, h13, h⟩ := bd h
    obtain ⟨eh13, th13⟩ := g_o_some h13
    obtain ⟨q_10, h11, h⟩ := bd h
    refine xv_cvo E eh13 12 (as := [.inl v1, .inl v2, .inl ((7 : Int32) + ((3 : Int32) * v5))]) (t190 G l (c_I_some h11)) cd190 mw996 mw997 mw998 (show decode prog_14_method_30_code 45 = .ok (.invokevirtual 241, 3) by decide +kernel) th13 rfl rfl (Nat.le_of_ble_eq_true rfl) ⟨Nat.le_of_ble_eq_true rfl, Nat.le_of_ble_eq_true rfl⟩ ?_
    refine xv_b E [.iload_n 3] (pc' := 49) (lv' := [(0, .inr (.inr (some a0))), (1, .inl v1), (2, .inl v2), (3, .inl v3), (4, .inl v4), (5, .inl v5)]) (st' := [.inl v3, .inl q_10.1]) (by decide +kernel) rfl rfl ?_
    by_cases q23 : q_10.1 = v3
    · rw [if_pos q23] at h
      refine xv_icmp_ne E 85 (show decode prog_14_method_30_code 49 = .ok (.if_icmp .ne (36), 3) by decide +kernel) rfl (fun z => absurd q23 z) (fun _ => ?_)
      refine xv_b E [.aload_n 0, .iload_n 1, .iload_n 2, .bipush 8, .iconst 3, .iload 5, .imul, .iadd] (pc' := 62) (lv' := [(0, .inr (.inr (some a0))), (1, .inl v1), (2, .inl v2), (3, .inl v3), (4, .inl v4), (5, .inl v5)]) (st' := [.inl ((8 : Int32) + ((3 : Int32) * v5)), .inl v2, .inl v1, .inr (.inr (some a0))]) (by decide +kernel) rfl rfl ?_
      obtain ⟨b_16, h17, h⟩ := bd h
      obtain ⟨eh17, th17⟩ := g_o_some h17
      obtain ⟨q_14, h15, h⟩ := bd h
      refine xv_cvo E eh17 12 (as := [.inl v1, .inl v2, .inl ((8 : Int32) + ((3 : Int32) * v5))]) (t190 G l (c_I_some h15)) cd190 mw996 mw997 mw998 (show decode prog_14_method_30_code 62 = .ok (.invokevirtual 241, 3) by decide +kernel) th17 rfl rfl (Nat.le_of_ble_eq_true rfl) ⟨Nat.le_of_ble_eq_true rfl, Nat.le_of_ble_eq_true rfl⟩ ?_
      refine xv_b E [.iload 4] (pc' := 67) (lv' := [(0, .inr (.inr (some a0))), (1, .inl v1), (2, .inl v2), (3, .inl v3), (4, .inl v4), (5, .inl v5)]) (st' := [.inl v4, .inl q_14.1]) (by decide +kernel) rfl rfl ?_
      by_cases q22 : v4 ≤ q_14.1
      · rw [if_pos q22] at h
        refine xv_icmp_ge E 85 (show decode prog_14_method_30_code 67 = .ok (.if_icmp .ge (18), 3) by decide +kernel) rfl (fun _ => ?_) (fun z => absurd q22 z)
        exact xv_w (sb193_85 E B a0 v1 v2 v3 v4 v5 q_14.2 h hN) rfl
      · rw [if_neg q22] at h
        refine xv_icmp_ge E 85 (show decode prog_14_method_30_code 67 = .ok (.if_icmp .ge (18), 3) by decide +kernel) rfl (fun z => absurd z q22) (fun _ => ?_)
        refine xv_b E [.aload_n 0, .iload_n 1, .iload_n 2, .bipush 8, .iconst 3, .iload 5, .imul, .iadd] (pc' := 80) (lv' := [(0, .inr (.inr (some a0))), (1, .inl v1), (2, .inl v2), (3, .inl v3), (4, .inl v4), (5, .inl v5)]) (st' := [.inl ((8 : Int32) + ((3 : Int32) * v5)), .inl v2, .inl v1, .inr (.inr (some a0))]) (by decide +kernel) rfl rfl ?_
        obtain ⟨b_20, h21, h⟩ := bd h
        obtain ⟨eh21, th21⟩ := g_o_some h21
        obtain ⟨q_18, h19, h⟩ := bd h
        refine xv_cvo E eh21 12 (as := [.inl v1, .inl v2, .inl ((8 : Int32) + ((3 : Int32) * v5))]) (t190 G l (c_I_some h19)) cd190 mw996 mw997 mw998 (show decode prog_14_method_30_code 80 = .ok (.invokevirtual 241, 3) by decide +kernel) th21 rfl rfl (Nat.le_of_ble_eq_true rfl) ⟨Nat.le_of_ble_eq_true rfl, Nat.le_of_ble_eq_true rfl⟩ ?_
        refine xv_b E [.istore 4] (pc' := 85) (lv' := [(4, .inl q_18.1), (0, .inr (.inr (some a0))), (1, .inl v1), (2, .inl v2), (3, .inl v3), (5, .inl v5)]) (st' := []) (by decide +kernel) rfl rfl ?_
        exact xv_w (sb193_85 E B a0 v1 v2 v3 q_18.1 v5 q_18.2 h hN) rfl
    · rw [if_neg q23] at h
      refine xv_icmp_ne E 85 (show decode prog_14_method_30_code 49 = .ok (.if_icmp .ne (36), 3) by decide +kernel) rfl (fun _ => ?_) (fun z => absurd z q23)
      exact xv_w (sb193_85 E B a0 v1 v2 v3 v4 v5 q_10.2 h hN) rfl
end
theorem t193 (G : gX) (l : Launch) {as : List aV} {M : hM} {r : Option aV} {M' : hM} (h : f193 as M = some (r, M')) : xM G l ym193 prog_14_method_30_code 6 (some FieldType.int) 1 as M r M' := by
  unfold f193 at h
  split at h
  · have hle : ∀ h as M res, k193 h as M = some res → h_sz M ≤ r_sz res ∧ h_sl M ≤ r_sl res := by
      intro h as M res hb
      unfold k193 at hb
      by_cases e0 : h = 23
      · rw [if_pos e0] at hb
        split at hb
        · exact lb193_23 G l _ _ _ _ _ _ M hb
        · cases hb
      · rw [if_neg e0] at hb
        cases hb
    obtain ⟨res, hx, hres⟩ := x_go_ok h
    refine xM_of (by decide) (Nat.le_of_ble_eq_true rfl) ?_ ?_
    · have e1 := lb193_0 G l _ _ _ _ M hx
      have e2 := x_go_le hle hres
      omega
    · intro p e s m args below meth c E B
      refine sb193_0 E B _ _ _ _ M hx (hres _ ?_)
      intro h as M res hb hN
      unfold k193 at hb
      unfold pg193
      by_cases e0 : h = 23
      · rw [if_pos e0] at hb ⊢
        split at hb
        · exact sb193_23 E B _ _ _ _ _ _ M hb hN
        · cases hb
      · rw [if_neg e0] at hb ⊢
        cases hb
  · cases h
/-! ZFModel.joined(III)Z -/
def ym194 : MethodName := ⟨"ZonedFabricModel", "joined", "(III)Z"⟩
theorem cd194 : xCd ym194 prog_14_method_31_code 4 (some FieldType.boolean) 3 := ⟨mw1002, mw864, by decide, by decide, by decide +kernel⟩
def b194_29 (si0 : Int32) (M : hM) : Option xRes :=
  if si0 = 0 ∨ si0 = 1 then
    (some (.inl (some (.inl si0), M)))
  else
    none
def b194_28  (M : hM) : Option xRes :=
  b194_29 (0 : Int32) M
def b194_0 (a0 : Nat) (v1 : Int32) (v2 : Int32) (v3 : Int32) (M : hM) : Option xRes :=
  Option.bind (g_o M 12 (some a0)) fun b_3 =>
  Option.bind (c_I (f193 [.inr (.inr (some b_3)), .inl v1, .inl v2, .inl v3] M)) fun q_1 =>
  if (1000000 : Int32) ≤ q_1.1 then
    (b194_28  q_1.2)
  else
    (Option.bind (g_o q_1.2 12 (some a0)) fun b_7 =>
    Option.bind (c_I (f193 [.inr (.inr (some b_7)), .inl v1, .inl v3, .inl v2] q_1.2)) fun q_5 =>
    if (1000000 : Int32) ≤ q_5.1 then
      (b194_28  q_5.2)
    else
      (b194_29 (1 : Int32) q_5.2))
def f194 (as : List aV) (M : hM) : xO := match as with
  | [.inr (.inr (some a0)), .inl v1, .inl v2, .inl v3] => x_out (b194_0 a0 v1 v2 v3 M)
  | _ => none
theorem lb194_29 (G : gX) (l : Launch) (si0 : Int32) (M : hM) {res : xRes} (h : b194_29 si0 M = some res) : h_sz M ≤ r_sz res ∧ h_sl M ≤ r_sl res := by
  unfold b194_29 at h
  by_cases q11 : si0 = 0 ∨ si0 = 1
  · rw [if_pos q11] at h
    obtain rfl := Option.some.inj h
    show h_sz M ≤ h_sz M ∧ h_sl M ≤ h_sl M
    omega
  · rw [if_neg q11] at h
    cases h
theorem lb194_28 (G : gX) (l : Launch)  (M : hM) {res : xRes} (h : b194_28  M = some res) : h_sz M ≤ r_sz res ∧ h_sl M ≤ r_sl res := by
  unfold b194_28 at h
  have e := lb194_29 G l (0 : Int32) M h
  omega
theorem lb194_0 (G : gX) (l : Launch) (a0 : Nat) (v1 : Int32) (v2 : Int32) (v3 : Int32) (M : hM) {res : xRes} (h : b194_0 a0 v1 v2 v3 M = some res) : h_sz M ≤ r_sz res ∧ h_sl M ≤ r_sl res := by
  unfold b194_0 at h
  obtain ⟨b_3, h4, h⟩ := bd h
  obtain ⟨q_1, h2, h⟩ := bd h
  have eh2 := (t193 G l (c_I_some h2)).1
  by_cases q10 : (1000000 : Int32) ≤ q_1.1
  · rw [if_pos q10] at h
    have e := lb194_28 G l  q_1.2 h
    omega
  · rw [if_neg q10] at h
    obtain ⟨b_7, h8, h⟩ := bd h
    obtain ⟨q_5, h6, h⟩ := bd h
    have eh6 := (t193 G l (c_I_some h6)).1
    by_cases q9 : (1000000 : Int32) ≤ q_5.1
    · rw [if_pos q9] at h
      have e := lb194_28 G l  q_5.2 h
      omega
    · rw [if_neg q9] at h
      have e := lb194_29 G l (1 : Int32) q_5.2 h
      omega
section
variable {p : Program} {l : Launch} {e : Env} {s : State} {m : MethodId} {args : Array Value} {below : List Frame} {meth : Method} {c : Code} {G : gX} {z0 y0 : Nat} {r : Option aV} {M' : hM}
theorem sb194_29 (E : xE G p (xRm 2 (h_sz M' - z0) (h_sl M' - y0)) s m args c prog_14_method_31_code "ZonedFabricModel" z0 y0 (h_sz M') (h_sl M') 4) (B : xB ym194 (some FieldType.boolean) meth) (si0 : Int32) (M : hM) {res : xRes} (h : b194_29 si0 M = some res) (hN : xN (fun _ _ _ => False) r M' res) : xV G p l e (xRm 2 (h_sz M' - z0) (h_sl M' - y0)) s m args below meth c z0 y0 (h_sz M') (h_sl M') 4 (MQ below (xQc G r M') args s (h_sz M' - z0) (h_sl M' - y0) (xFr G)) 29 [] [.inl si0] M := by
  unfold b194_29 at h
  by_cases q11 : si0 = 0 ∨ si0 = 1
  · rw [if_pos q11] at h
    obtain rfl := Option.some.inj h
    obtain ⟨rfl, rfl⟩ := Prod.mk.inj (show ((some (.inl si0) : Option aV), M) = (r, M') from hN)
    exact xv_ri E B.1 (by rcases q11 with z | z <;> rw [z] <;> rfl) B.2.1 (show decode prog_14_method_31_code 29 = .ok (.ireturn, 1) by decide +kernel) rfl rfl
  · rw [if_neg q11] at h
    cases h
theorem sb194_28 (E : xE G p (xRm 2 (h_sz M' - z0) (h_sl M' - y0)) s m args c prog_14_method_31_code "ZonedFabricModel" z0 y0 (h_sz M') (h_sl M') 4) (B : xB ym194 (some FieldType.boolean) meth)  (M : hM) {res : xRes} (h : b194_28  M = some res) (hN : xN (fun _ _ _ => False) r M' res) : xV G p l e (xRm 2 (h_sz M' - z0) (h_sl M' - y0)) s m args below meth c z0 y0 (h_sz M') (h_sl M') 4 (MQ below (xQc G r M') args s (h_sz M' - z0) (h_sl M' - y0) (xFr G)) 28 [] [] M := by
  unfold b194_28 at h
  refine xv_b E [.iconst 0] (pc' := 29) (lv' := []) (st' := [.inl (0 : Int32)]) (by decide +kernel) rfl rfl ?_
  exact xv_w (sb194_29 E B (0 : Int32) M h hN) rfl
theorem sb194_0 (E : xE G p (xRm 2 (h_sz M' - z0) (h_sl M' - y0)) s m args c prog_14_method_31_code "ZonedFabricModel" z0 y0 (h_sz M') (h_sl M') 4) (B : xB ym194 (some FieldType.boolean) meth) (a0 : Nat) (v1 : Int32) (v2 : Int32) (v3 : Int32) (M : hM) {res : xRes} (h : b194_0 a0 v1 v2 v3 M = some res) (hN : xN (fun _ _ _ => False) r M' res) : xV G p l e (xRm 2 (h_sz M' - z0) (h_sl M' - y0)) s m args below meth c z0 y0 (h_sz M') (h_sl M') 4 (MQ below (xQc G r M') args s (h_sz M' - z0) (h_sl M' - y0) (xFr G)) 0 [(0, .inr (.inr (some a0))), (1, .inl v1), (2, .inl v2), (3, .inl v3)] [] M := by
  unfold b194_0 at h
  refine xv_b E [.aload_n 0, .iload_n 1, .iload_n 2, .iload_n 3] (pc' := 4) (lv' := [(0, .inr (.inr (some a0))), (1, .inl v1), (2, .inl v2), (3, .inl v3)]) (st' := [.inl v3, .inl v2, .inl v1, .inr (.inr (some a0))]) (by decide +kernel) rfl rfl ?_
  obtain ⟨b_3, h4, h⟩ := bd h
  obtain ⟨eh4, th4⟩ := g_o_some h4
  obtain ⟨q_1, h2, h⟩ := bd h
  refine xv_cvo E eh4 12 (as := [.inl v1, .inl v2, .inl v3]) (t193 G l (c_I_some h2)) cd193 mw1003 mw1004 mw1005 (show decode prog_14_method_31_code 4 = .ok (.invokevirtual 245, 3) by decide +kernel) th4 rfl rfl (Nat.le_of_ble_eq_true rfl) ⟨Nat.le_of_ble_eq_true rfl, Nat.le_of_ble_eq_true rfl⟩ ?_
  refine xv_ldc E (1000000 : Int32) mw1001 (show decode prog_14_method_31_code 7 = .ok (.ldc 244, 2) by decide +kernel) ?_
  by_cases q10 : (1000000 : Int32) ≤ q_1.1
  · rw [if_pos q10] at h
    refine xv_icmp_ge E 28 (show decode prog_14_method_31_code 9 = .ok (.if_icmp .ge (19), 3) by decide +kernel) rfl (fun _ => ?_) (fun z => absurd q10 z)
    exact xv_w (sb194_28 E B  q_1.2 h hN) rfl
  · rw [if_neg q10] at h
    refine xv_icmp_ge E 28 (show decode prog_14_method_31_code 9 = .ok (.if_icmp .ge (19), 3) by decide +kernel) rfl (fun z => absurd z q10) (fun _ => ?_)
    refine xv_b E [.aload_n 0, .iload_n 1, .iload_n 3, .iload_n 2] (pc' := 16) (lv' := [(0, .inr (.inr (some a0))), (1, .inl v1), (2, .inl v2), (3, .inl v3)]) (st' := [.inl v2, .inl v3, .inl v1, .inr (.inr (some a0))]) (by decide +kernel) rfl rfl ?_
    obtain ⟨b_7, h8, h⟩ := bd h
    obtain ⟨eh8, th8⟩ := g_o_some h8
    obtain ⟨q_5, h6, h⟩ := bd h
    refine xv_cvo E eh8 12 (as := [.inl v1, .inl v3, .inl v2]) (t193 G l (c_I_some h6)) cd193 mw1003 mw1004 mw1005 (show decode prog_14_method_31_code 16 = .ok (.invokevirtual 245, 3) by decide +kernel) th8 rfl rfl (Nat.le_of_ble_eq_true rfl) ⟨Nat.le_of_ble_eq_true rfl, Nat.le_of_ble_eq_true rfl⟩ ?_
    refine xv_ldc E (1000000 : Int32) mw1001 (show decode prog_14_method_31_code 19 = .ok (.ldc 244, 2) by decide +kernel) ?_
    by_cases q9 : (1000000 : Int32) ≤ q_5.1
    · rw [if_pos q9] at h
      refine xv_icmp_ge E 28 (show decode prog_14_method_31_code 21 = .ok (.if_icmp .ge (7), 3) by decide +kernel) rfl (fun _ => ?_) (fun z => absurd q9 z)
      exact xv_w (sb194_28 E B  q_5.2 h hN) rfl
    · rw [if_neg q9] at h
      refine xv_icmp_ge E 28 (show decode prog_14_method_31_code 21 = .ok (.if_icmp .ge (7), 3) by decide +kernel) rfl (fun z => absurd z q9) (fun _ => ?_)
      refine xv_b E [.iconst 1] (pc' := 25) (lv' := [(0, .inr (.inr (some a0))), (1, .inl v1), (2, .inl v2), (3, .inl v3)]) (st' := [.inl (1 : Int32)]) (by decide +kernel) rfl rfl ?_
      refine xv_goto E 29 (show decode prog_14_method_31_code 25 = .ok (.goto (4), 3) by decide +kernel) rfl ?_
      exact xv_w (sb194_29 E B (1 : Int32) q_5.2 h hN) rfl
end
theorem t194 (G : gX) (l : Launch) {as : List aV} {M : hM} {r : Option aV} {M' : hM} (h : f194 as M = some (r, M')) : xM G l ym194 prog_14_method_31_code 4 (some FieldType.boolean) 2 as M r M' := by
  unfold f194 at h
  split at h
  · have h := x_out_ok h
    refine xM_of (by decide) (Nat.le_of_ble_eq_true rfl) (lb194_0 G l _ _ _ _ M h) ?_
    intro p e s m args below meth c E B
    exact sb194_0 E B _ _ _ _ M h rfl
  · cases h
/-! ZFModel.sums(I)V -/
def ym195 : MethodName := ⟨"ZonedFabricModel", "sums", "(I)V"⟩
theorem cd195 : xCd ym195 prog_14_method_32_code 5 none 1 := ⟨mw1006, mw864, by decide, by decide, by decide +kernel⟩
def b195_0 (a0 : Nat) (v1 : Int32) (M : hM) : Option xRes :=
  some (.inr (2, [.inr (.inr (some a0)), .inl v1, .inl (0 : Int32)], M))
def b195_2 (a0 : Nat) (v1 : Int32) (v2 : Int32) (M : hM) : Option xRes :=
  if (5 : Int32) ≤ v2 then
    (some (.inr (69, [.inr (.inr (some a0)), .inl (0 : Int32)], M)))
  else
    (some (.inr (9, [.inr (.inr (some a0)), .inl v1, .inl v2, .inl (0 : Int32)], M)))
def b195_54 (a0 : Nat) (v1 : Int32) (v2 : Int32) (v3 : Int32) (si0 : Int32) (si1 : Int32) (sr2 : Option Nat) (M : hM) : Option xRes :=
  Option.bind (as_i M 20 sr2 si1 si0) fun M15 =>
  some (.inr (9, [.inr (.inr (some a0)), .inl v1, .inl v2, .inl (v3 + (1 : Int32))], M15))
def b195_9 (a0 : Nat) (v1 : Int32) (v2 : Int32) (v3 : Int32) (M : hM) : Option xRes :=
  if (5 : Int32) ≤ v3 then
    (some (.inr (2, [.inr (.inr (some a0)), .inl v1, .inl (v2 + (1 : Int32))], M)))
  else
    (Option.bind (g_r M 12 32 (some a0)) fun o_2 =>
    if v2 = v3 then
      (b195_54 a0 v1 v2 v3 (0 : Int32) (((5 : Int32) * v2) + v3) o_2 M)
    else
      (Option.bind (g_o M 12 (some a0)) fun b_6 =>
      Option.bind (c_I (f194 [.inr (.inr (some b_6)), .inl v1, .inl v2, .inl v3] M)) fun q_4 =>
      if q_4.1 = 0 then
        (b195_54 a0 v1 v2 v3 (1000000 : Int32) (((5 : Int32) * v2) + v3) o_2 q_4.2)
      else
        (Option.bind (g_o q_4.2 12 (some a0)) fun b_10 =>
        Option.bind (c_I (f193 [.inr (.inr (some b_10)), .inl v1, .inl v2, .inl v3] q_4.2)) fun q_8 =>
        b195_54 a0 v1 v2 v3 q_8.1 (((5 : Int32) * v2) + v3) o_2 q_8.2)))
def b195_69 (a0 : Nat) (v2 : Int32) (M : hM) : Option xRes :=
  if (5 : Int32) ≤ v2 then
    (some (.inl (none, M)))
  else
    (some (.inr (76, [.inr (.inr (some a0)), .inl v2, .inl (0 : Int32)], M)))
def b195_76 (a0 : Nat) (v2 : Int32) (v3 : Int32) (M : hM) : Option xRes :=
  if (5 : Int32) ≤ v3 then
    (some (.inr (69, [.inr (.inr (some a0)), .inl (v2 + (1 : Int32))], M)))
  else
    (some (.inr (84, [.inr (.inr (some a0)), .inl v2, .inl v3, .inl (0 : Int32)], M)))
def b195_84 (a0 : Nat) (v2 : Int32) (v3 : Int32) (v4 : Int32) (M : hM) : Option xRes :=
  if (5 : Int32) ≤ v4 then
    (some (.inr (76, [.inr (.inr (some a0)), .inl v2, .inl (v3 + (1 : Int32))], M)))
  else
    (Option.bind (g_r M 12 32 (some a0)) fun o_19 =>
    Option.bind (g_r M 12 32 (some a0)) fun o_21 =>
    Option.bind (al_i M 20 o_21 (((5 : Int32) * v3) + v4)) fun v_23 =>
    Option.bind (g_r M 12 32 (some a0)) fun o_25 =>
    Option.bind (al_i M 20 o_25 (((5 : Int32) * v3) + v2)) fun v_27 =>
    Option.bind (g_r M 12 32 (some a0)) fun o_29 =>
    Option.bind (al_i M 20 o_29 (((5 : Int32) * v2) + v4)) fun v_31 =>
    Option.bind (as_i M 20 o_19 (((5 : Int32) * v3) + v4) (if (v_27 + v_31) < v_23 then (v_27 + v_31) else v_23)) fun M33 =>
    some (.inr (84, [.inr (.inr (some a0)), .inl v2, .inl v3, .inl (v4 + (1 : Int32))], M33)))
def k195 (h : Nat) (as : List aV) (M : hM) : Option xRes :=
  if h = 2 then (match as with | [.inr (.inr (some a0)), .inl v1, .inl v2] => b195_2 a0 v1 v2 M | _ => none) else
  if h = 9 then (match as with | [.inr (.inr (some a0)), .inl v1, .inl v2, .inl v3] => b195_9 a0 v1 v2 v3 M | _ => none) else
  if h = 69 then (match as with | [.inr (.inr (some a0)), .inl v2] => b195_69 a0 v2 M | _ => none) else
  if h = 76 then (match as with | [.inr (.inr (some a0)), .inl v2, .inl v3] => b195_76 a0 v2 v3 M | _ => none) else
  if h = 84 then (match as with | [.inr (.inr (some a0)), .inl v2, .inl v3, .inl v4] => b195_84 a0 v2 v3 v4 M | _ => none) else
  none
def f195 (as : List aV) (M : hM) : xO := match as with
  | [.inr (.inr (some a0)), .inl v1] => x_go k195 (b195_0 a0 v1 M)
  | _ => none
theorem lb195_0 (G : gX) (l : Launch) (a0 : Nat) (v1 : Int32) (M : hM) {res : xRes} (h : b195_0 a0 v1 M = some res) : h_sz M ≤ r_sz res ∧ h_sl M ≤ r_sl res := by
  unfold b195_0 at h
  obtain rfl := Option.some.inj h
  show h_sz M ≤ h_sz M ∧ h_sl M ≤ h_sl M
  omega
theorem lb195_2 (G : gX) (l : Launch) (a0 : Nat) (v1 : Int32) (v2 : Int32) (M : hM) {res : xRes} (h : b195_2 a0 v1 v2 M = some res) : h_sz M ≤ r_sz res ∧ h_sl M ≤ r_sl res := by
  unfold b195_2 at h
  by_cases q1 : (5 : Int32) ≤ v2
  · rw [if_pos q1] at h
    obtain rfl := Option.some.inj h
    show h_sz M ≤ h_sz M ∧ h_sl M ≤ h_sl M
    omega
  · rw [if_neg q1] at h
    obtain rfl := Option.some.inj h
    show h_sz M ≤ h_sz M ∧ h_sl M ≤ h_sl M
    omega
theorem lb195_54 (G : gX) (l : Launch) (a0 : Nat) (v1 : Int32) (v2 : Int32) (v3 : Int32) (si0 : Int32) (si1 : Int32) (sr2 : Option Nat) (M : hM) {res : xRes} (h : b195_54 a0 v1 v2 v3 si0 si1 sr2 M = some res) : h_sz M ≤ r_sz res ∧ h_sl M ≤ r_sl res := by
  unfold b195_54 at h
  obtain ⟨M15, h16, h⟩ := bd h
  have eh16 := as_i_sz h16
  obtain rfl := Option.some.inj h
  show h_sz M ≤ h_sz M15 ∧ h_sl M ≤ h_sl M15
  omega
theorem lb195_9 (G : gX) (l : Launch) (a0 : Nat) (v1 : Int32) (v2 : Int32) (v3 : Int32) (M : hM) {res : xRes} (h : b195_9 a0 v1 v2 v3 M = some res) : h_sz M ≤ r_sz res ∧ h_sl M ≤ r_sl res := by
  unfold b195_9 at h
  by_cases q14 : (5 : Int32) ≤ v3
  · rw [if_pos q14] at h
    obtain rfl := Option.some.inj h
    show h_sz M ≤ h_sz M ∧ h_sl M ≤ h_sl M
    omega
  · rw [if_neg q14] at h
    obtain ⟨o_2, h3, h⟩ := bd h
    by_cases q13 : v2 = v3
    · rw [if_pos q13] at h
      have e := lb195_54 G l a0 v1 v2 v3 (0 : Int32) (((5 : Int32) * v2) + v3) o_2 M h
      omega
    · rw [if_neg q13] at h
      obtain ⟨b_6, h7, h⟩ := bd h
      obtain ⟨q_4, h5, h⟩ := bd h
      have eh5 := (t194 G l (c_I_some h5)).1
      by_cases q12 : q_4.1 = 0
      · rw [if_pos q12] at h
        have e := lb195_54 G l a0 v1 v2 v3 (1000000 : Int32) (((5 : Int32) * v2) + v3) o_2 q_4.2 h
        omega
      · rw [if_neg q12] at h
        obtain ⟨b_10, h11, h⟩ := bd h
        obtain ⟨q_8, h9, h⟩ := bd h
        have eh9 := (t193 G l (c_I_some h9)).1
        have e := lb195_54 G l a0 v1 v2 v3 q_8.1 (((5 : Int32) * v2) + v3) o_2 q_8.2 h
        omega
theorem lb195_69 (G : gX) (l : Launch) (a0 : Nat) (v2 : Int32) (M : hM) {res : xRes} (h : b195_69 a0 v2 M = some res) : h_sz M ≤ r_sz res ∧ h_sl M ≤ r_sl res := by
  unfold b195_69 at h
  by_cases q17 : (5 : Int32) ≤ v2
  · rw [if_pos q17] at h
    obtain rfl := Option.some.inj h
    show h_sz M ≤ h_sz M ∧ h_sl M ≤ h_sl M
    omega
  · rw [if_neg q17] at h
    obtain rfl := Option.some.inj h
    show h_sz M ≤ h_sz M ∧ h_sl M ≤ h_sl M
    omega
theorem lb195_76 (G : gX) (l : Launch) (a0 : Nat) (v2 : Int32) (v3 : Int32) (M : hM) {res : xRes} (h : b195_76 a0 v2 v3 M = some res) : h_sz M ≤ r_sz res ∧ h_sl M ≤ r_sl res := by
  unfold b195_76 at h
  by_cases q18 : (5 : Int32) ≤ v3
  · rw [if_pos q18] at h
    obtain rfl := Option.some.inj h
    show h_sz M ≤ h_sz M ∧ h_sl M ≤ h_sl M
    omega
  · rw [if_neg q18] at h
    obtain rfl := Option.some.inj h
    show h_sz M ≤ h_sz M ∧ h_sl M ≤ h_sl M
    omega
theorem lb195_84 (G : gX) (l : Launch) (a0 : Nat) (v2 : Int32) (v3 : Int32) (v4 : Int32) (M : hM) {res : xRes} (h : b195_84 a0 v2 v3 v4 M = some res) : h_sz M ≤ r_sz res ∧ h_sl M ≤ r_sl res := by
  unfold b195_84 at h
  by_cases q35 : (5 : Int32) ≤ v4
  · rw [if_pos q35] at h
    obtain rfl := Option.some.inj h
    show h_sz M ≤ h_sz M ∧ h_sl M ≤ h_sl M
    omega
  · rw [if_neg q35] at h
    obtain ⟨o_19, h20, h⟩ := bd h
    obtain ⟨o_21, h22, h⟩ := bd h
    obtain ⟨v_23, h24, h⟩ := bd h
    obtain ⟨o_25, h26, h⟩ := bd h
    obtain ⟨v_27, h28, h⟩ := bd h
    obtain ⟨o_29, h30, h⟩ := bd h
    obtain ⟨v_31, h32, h⟩ := bd h
    obtain ⟨M33, h34, h⟩ := bd h
    have eh34 := as_i_sz h34
    obtain rfl := Option.some.inj h
    show h_sz M ≤ h_sz M33 ∧ h_sl M ≤ h_sl M33
    omega
section
variable {p : Program} {l : Launch} {e : Env} {s : State} {m : MethodId} {args : Array Value} {below : List Frame} {meth : Method} {c : Code} {G : gX} {z0 y0 : Nat} {r : Option aV} {M' : hM}
def pg195 (p : Program) (l : Launch) (e : Env) (s : State) (m : MethodId) (args : Array Value) (below : List Frame) (meth : Method) (c : Code) (G : gX) (z0 y0 : Nat) (r : Option aV) (M' : hM) (h : Nat) (as : List aV) (M : hM) : Prop :=
  if h = 2 then (match as with | [.inr (.inr (some a0)), .inl v1, .inl v2] => xV G p l e (xRm 3 (h_sz M' - z0) (h_sl M' - y0)) s m args below meth c z0 y0 (h_sz M') (h_sl M') 5 (MQ below (xQc G r M') args s (h_sz M' - z0) (h_sl M' - y0) (xFr G)) 2 [(0, .inr (.inr (some a0))), (1, .inl v1), (2, .inl v2)] [] M | _ => False) else
  if h = 9 then (match as with | [.inr (.inr (some a0)), .inl v1, .inl v2, .inl v3] => xV G p l e (xRm 3 (h_sz M' - z0) (h_sl M' - y0)) s m args below meth c z0 y0 (h_sz M') (h_sl M') 5 (MQ below (xQc G r M') args s (h_sz M' - z0) (h_sl M' - y0) (xFr G)) 9 [(0, .inr (.inr (some a0))), (1, .inl v1), (2, .inl v2), (3, .inl v3)] [] M | _ => False) else
  if h = 69 then (match as with | [.inr (.inr (some a0)), .inl v2] => xV G p l e (xRm 3 (h_sz M' - z0) (h_sl M' - y0)) s m args below meth c z0 y0 (h_sz M') (h_sl M') 5 (MQ below (xQc G r M') args s (h_sz M' - z0) (h_sl M' - y0) (xFr G)) 69 [(0, .inr (.inr (some a0))), (2, .inl v2)] [] M | _ => False) else
  if h = 76 then (match as with | [.inr (.inr (some a0)), .inl v2, .inl v3] => xV G p l e (xRm 3 (h_sz M' - z0) (h_sl M' - y0)) s m args below meth c z0 y0 (h_sz M') (h_sl M') 5 (MQ below (xQc G r M') args s (h_sz M' - z0) (h_sl M' - y0) (xFr G)) 76 [(0, .inr (.inr (some a0))), (2, .inl v2), (3, .inl v3)] [] M | _ => False) else
  if h = 84 then (match as with | [.inr (.inr (some a0)), .inl v2, .inl v3, .inl v4] => xV G p l e (xRm 3 (h_sz M' - z0) (h_sl M' - y0)) s m args below meth c z0 y0 (h_sz M') (h_sl M') 5 (MQ below (xQc G r M') args s (h_sz M' - z0) (h_sl M' - y0) (xFr G)) 84 [(0, .inr (.inr (some a0))), (2, .inl v2), (3, .inl v3), (4, .inl v4)] [] M | _ => False) else
  False
theorem sb195_0 (E : xE G p (xRm 3 (h_sz M' - z0) (h_sl M' - y0)) s m args c prog_14_method_32_code "ZonedFabricModel" z0 y0 (h_sz M') (h_sl M') 5) (B : xB ym195 none meth) (a0 : Nat) (v1 : Int32) (M : hM) {res : xRes} (h : b195_0 a0 v1 M = some res) (hN : xN (pg195 p l e s m args below meth c G z0 y0 r M') r M' res) : xV G p l e (xRm 3 (h_sz M' - z0) (h_sl M' - y0)) s m args below meth c z0 y0 (h_sz M') (h_sl M') 5 (MQ below (xQc G r M') args s (h_sz M' - z0) (h_sl M' - y0) (xFr G)) 0 [(0, .inr (.inr (some a0))), (1, .inl v1)] [] M := by
  unfold b195_0 at h
  refine xv_b E [.iconst 0, .istore_n 2] (pc' := 2) (lv' := [(2, .inl (0 : Int32)), (0, .inr (.inr (some a0))), (1, .inl v1)]) (st' := []) (by decide +kernel) rfl rfl ?_
  obtain rfl := Option.some.inj h
  exact xv_w hN rfl
theorem sb195_2 (E : xE G p (xRm 3 (h_sz M' - z0) (h_sl M' - y0)) s m args c prog_14_method_32_code "ZonedFabricModel" z0 y0 (h_sz M') (h_sl M') 5) (B : xB ym195 none meth) (a0 : Nat) (v1 : Int32) (v2 : Int32) (M : hM) {res : xRes} (h : b195_2 a0 v1 v2 M = some res) (hN : xN (pg195 p l e s m args below meth c G z0 y0 r M') r M' res) : xV G p l e (xRm 3 (h_sz M' - z0) (h_sl M' - y0)) s m args below meth c z0 y0 (h_sz M') (h_sl M') 5 (MQ below (xQc G r M') args s (h_sz M' - z0) (h_sl M' - y0) (xFr G)) 2 [(0, .inr (.inr (some a0))), (1, .inl v1), (2, .inl v2)] [] M := by
  unfold b195_2 at h
  refine xv_b E [.iload_n 2, .iconst 5] (pc' := 4) (lv' := [(0, .inr (.inr (some a0))), (1, .inl v1), (2, .inl v2)]) (st' := [.inl (5 : Int32), .inl v2]) (by decide +kernel) rfl rfl ?_
  by_cases q1 : (5 : Int32) ≤ v2
  · rw [if_pos q1] at h
    refine xv_icmp_ge E 67 (show decode prog_14_method_32_code 4 = .ok (.if_icmp .ge (63), 3) by decide +kernel) rfl (fun _ => ?_) (fun z => absurd q1 z)
    refine xv_b E [.iconst 0, .istore_n 2] (pc' := 69) (lv' := [(2, .inl (0 : Int32)), (0, .inr (.inr (some a0))), (1, .inl v1)]) (st' := []) (by decide +kernel) rfl rfl ?_
    obtain rfl := Option.some.inj h
    exact xv_w hN rfl
  · rw [if_neg q1] at h
    refine xv_icmp_ge E 67 (show decode prog_14_method_32_code 4 = .ok (.if_icmp .ge (63), 3) by decide +kernel) rfl (fun z => absurd z q1) (fun _ => ?_)
    refine xv_b E [.iconst 0, .istore_n 3] (pc' := 9) (lv' := [(3, .inl (0 : Int32)), (0, .inr (.inr (some a0))), (1, .inl v1), (2, .inl v2)]) (st' := []) (by decide +kernel) rfl rfl ?_
    obtain rfl := Option.some.inj h
    exact xv_w hN rfl
theorem sb195_54 (E : xE G p (xRm 3 (h_sz M' - z0) (h_sl M' - y0)) s m args c prog_14_method_32_code "ZonedFabricModel" z0 y0 (h_sz M') (h_sl M') 5) (B : xB ym195 none meth) (a0 : Nat) (v1 : Int32) (v2 : Int32) (v3 : Int32) (si0 : Int32) (si1 : Int32) (sr2 : Option Nat) (M : hM) {res : xRes} (h : b195_54 a0 v1 v2 v3 si0 si1 sr2 M = some res) (hN : xN (pg195 p l e s m args below meth c G z0 y0 r M') r M' res) : xV G p l e (xRm 3 (h_sz M' - z0) (h_sl M' - y0)) s m args below meth c z0 y0 (h_sz M') (h_sl M') 5 (MQ below (xQc G r M') args s (h_sz M' - z0) (h_sl M' - y0) (xFr G)) 54 [(0, .inr (.inr (some a0))), (1, .inl v1), (2, .inl v2), (3, .inl v3)] [.inl si0, .inl si1, .inr (.inr sr2)] M := by
  unfold b195_54 at h
  obtain ⟨M15, h16, h⟩ := bd h
  refine xs_i E h16 (show decode prog_14_method_32_code 54 = .ok (.iastore, 1) by decide +kernel) ?_
  refine xv_b E [.iinc 3 1] (pc' := 58) (lv' := [(3, .inl (v3 + (1 : Int32))), (0, .inr (.inr (some a0))), (1, .inl v1), (2, .inl v2)]) (st' := []) (by decide +kernel) rfl rfl ?_
  refine xv_goto E 9 (show decode prog_14_method_32_code 58 = .ok (.goto (-49), 3) by decide +kernel) rfl ?_
  obtain rfl := Option.some.inj h
  exact xv_w hN rfl
theorem sb195_9 (E : xE G p (xRm 3 (h_sz M' - z0) (h_sl M' - y0)) s m args c prog_14_method_32_code "ZonedFabricModel" z0 y0 (h_sz M') (h_sl M') 5) (B : xB ym195 none meth) (a0 : Nat) (v1 : Int32) (v2 : Int32) (v3 : Int32) (M : hM) {res : xRes} (h : b195_9 a0 v1 v2 v3 M = some res) (hN : xN (pg195 p l e s m args below meth c G z0 y0 r M') r M' res) : xV G p l e (xRm 3 (h_sz M' - z0) (h_sl M' - y0)) s m args below meth c z0 y0 (h_sz M') (h_sl M') 5 (MQ below (xQc G r M') args s (h_sz M' - z0) (h_sl M' - y0) (xFr G)) 9 [(0, .inr (.inr (some a0))), (1, .inl v1), (2, .inl v2), (3, .inl v3)] [] M := by
  unfold b195_9 at h
  refine xv_b E [.iload_n 3, .iconst 5] (pc' := 11) (lv' := [(0, .inr (.inr (some a0))), (1, .inl v1), (2, .inl v2), (3, .inl v3)]) (st' := [.inl (5 : Int32), .inl v3]) (by decide +kernel) rfl rfl ?_
  by_cases q14 : (5 : Int32) ≤ v3
  · rw [if_pos q14] at h
    refine xv_icmp_ge E 61 (show decode prog_14_method_32_code 11 = .ok (.if_icmp .ge (50), 3) by decide +kernel) rfl (fun _ => ?_) (fun z => absurd q14 z)
    refine xv_b E [.iinc 2 1] (pc' := 64) (lv' := [(2, .inl (v2 + (1 : Int32))), (0, .inr (.inr (some a0))), (1, .inl v1), (3, .inl v3)]) (st' := []) (by decide +kernel) rfl rfl ?_
    refine xv_goto E 2 (show decode prog_14_method_32_code 64 = .ok (.goto (-62), 3) by decide +kernel) rfl ?_
    obtain rfl := Option.some.inj h
    exact xv_w hN rfl
  · rw [if_neg q14] at h
    refine xv_icmp_ge E 61 (show decode prog_14_method_32_code 11 = .ok (.if_icmp .ge (50), 3) by decide +kernel) rfl (fun z => absurd z q14) (fun _ => ?_)
    refine xv_b E [.aload_n 0] (pc' := 15) (lv' := [(0, .inr (.inr (some a0))), (1, .inl v1), (2, .inl v2), (3, .inl v3)]) (st' := [.inr (.inr (some a0))]) (by decide +kernel) rfl rfl ?_
    obtain ⟨o_2, h3, h⟩ := bd h
    refine xg_r E 12 32 h3 mw892 (show decode prog_14_method_32_code 15 = .ok (.getfield 91, 3) by decide +kernel) ?_
    refine xv_b E [.iconst 5, .iload_n 2, .imul, .iload_n 3, .iadd, .iload_n 2, .iload_n 3] (pc' := 25) (lv' := [(0, .inr (.inr (some a0))), (1, .inl v1), (2, .inl v2), (3, .inl v3)]) (st' := [.inl v3, .inl v2, .inl (((5 : Int32) * v2) + v3), .inr (.inr o_2)]) (by decide +kernel) rfl rfl ?_
    by_cases q13 : v2 = v3
    · rw [if_pos q13] at h
      refine xv_icmp_ne E 32 (show decode prog_14_method_32_code 25 = .ok (.if_icmp .ne (7), 3) by decide +kernel) rfl (fun z => absurd q13 z) (fun _ => ?_)
      refine xv_b E [.iconst 0] (pc' := 29) (lv' := [(0, .inr (.inr (some a0))), (1, .inl v1), (2, .inl v2), (3, .inl v3)]) (st' := [.inl (0 : Int32), .inl (((5 : Int32) * v2) + v3), .inr (.inr o_2)]) (by decide +kernel) rfl rfl ?_
      refine xv_goto E 54 (show decode prog_14_method_32_code 29 = .ok (.goto (25), 3) by decide +kernel) rfl ?_
      exact xv_w (sb195_54 E B a0 v1 v2 v3 (0 : Int32) (((5 : Int32) * v2) + v3) o_2 M h hN) rfl
    · rw [if_neg q13] at h
      refine xv_icmp_ne E 32 (show decode prog_14_method_32_code 25 = .ok (.if_icmp .ne (7), 3) by decide +kernel) rfl (fun _ => ?_) (fun z => absurd z q13)
      refine xv_b E [.aload_n 0, .iload_n 1, .iload_n 2, .iload_n 3] (pc' := 36) (lv' := [(0, .inr (.inr (some a0))), (1, .inl v1), (2, .inl v2), (3, .inl v3)]) (st' := [.inl v3, .inl v2, .inl v1, .inr (.inr (some a0)), .inl (((5 : Int32) * v2) + v3), .inr (.inr o_2)]) (by decide +kernel) rfl rfl ?_
      obtain ⟨b_6, h7, h⟩ := bd h
      obtain ⟨eh7, th7⟩ := g_o_some h7
      obtain ⟨q_4, h5, h⟩ := bd h
      refine xv_cvo E eh7 12 (as := [.inl v1, .inl v2, .inl v3]) (t194 G l (c_I_some h5)) cd194 mw1007 mw1008 mw1009 (show decode prog_14_method_32_code 36 = .ok (.invokevirtual 248, 3) by decide +kernel) th7 rfl rfl (Nat.le_of_ble_eq_true rfl) ⟨Nat.le_of_ble_eq_true rfl, Nat.le_of_ble_eq_true rfl⟩ ?_
      by_cases q12 : q_4.1 = 0
      · rw [if_pos q12] at h
        refine xv_if_eq E 52 (show decode prog_14_method_32_code 39 = .ok (.ifCond .eq (13), 3) by decide +kernel) rfl (fun _ => ?_) (fun z => absurd q12 z)
        refine xv_ldc E (1000000 : Int32) mw1001 (show decode prog_14_method_32_code 52 = .ok (.ldc 244, 2) by decide +kernel) ?_
        exact xv_w (sb195_54 E B a0 v1 v2 v3 (1000000 : Int32) (((5 : Int32) * v2) + v3) o_2 q_4.2 h hN) rfl
      · rw [if_neg q12] at h
        refine xv_if_eq E 52 (show decode prog_14_method_32_code 39 = .ok (.ifCond .eq (13), 3) by decide +kernel) rfl (fun z => absurd z q12) (fun _ => ?_)
        refine xv_b E [.aload_n 0, .iload_n 1, .iload_n 2, .iload_n 3] (pc' := 46) (lv' := [(0, .inr (.inr (some a0))), (1, .inl v1), (2, .inl v2), (3, .inl v3)]) (st' := [.inl v3, .inl v2, .inl v1, .inr (.inr (some a0)), .inl (((5 : Int32) * v2) + v3), .inr (.inr o_2)]) (by decide +kernel) rfl rfl ?_
        obtain ⟨b_10, h11, h⟩ := bd h
        obtain ⟨eh11, th11⟩ := g_o_some h11
        obtain ⟨q_8, h9, h⟩ := bd h
        refine xv_cvo E eh11 12 (as := [.inl v1, .inl v2, .inl v3]) (t193 G l (c_I_some h9)) cd193 mw1003 mw1004 mw1005 (show decode prog_14_method_32_code 46 = .ok (.invokevirtual 245, 3) by decide +kernel) th11 rfl rfl (Nat.le_of_ble_eq_true rfl) ⟨Nat.le_of_ble_eq_true rfl, Nat.le_of_ble_eq_true rfl⟩ ?_
        refine xv_goto E 54 (show decode prog_14_method_32_code 49 = .ok (.goto (5), 3) by decide +kernel) rfl ?_
        exact xv_w (sb195_54 E B a0 v1 v2 v3 q_8.1 (((5 : Int32) * v2) + v3) o_2 q_8.2 h hN) rfl
theorem sb195_69 (E : xE G p (xRm 3 (h_sz M' - z0) (h_sl M' - y0)) s m args c prog_14_method_32_code "ZonedFabricModel" z0 y0 (h_sz M') (h_sl M') 5) (B : xB ym195 none meth) (a0 : Nat) (v2 : Int32) (M : hM) {res : xRes} (h : b195_69 a0 v2 M = some res) (hN : xN (pg195 p l e s m args below meth c G z0 y0 r M') r M' res) : xV G p l e (xRm 3 (h_sz M' - z0) (h_sl M' - y0)) s m args below meth c z0 y0 (h_sz M') (h_sl M') 5 (MQ below (xQc G r M') args s (h_sz M' - z0) (h_sl M' - y0) (xFr G)) 69 [(0, .inr (.inr (some a0))), (2, .inl v2)] [] M := by
  unfold b195_69 at h
  refine xv_b E [.iload_n 2, .iconst 5] (pc' := 71) (lv' := [(0, .inr (.inr (some a0))), (2, .inl v2)]) (st' := [.inl (5 : Int32), .inl v2]) (by decide +kernel) rfl rfl ?_
  by_cases q17 : (5 : Int32) ≤ v2
  · rw [if_pos q17] at h
    refine xv_icmp_ge E 155 (show decode prog_14_method_32_code 71 = .ok (.if_icmp .ge (84), 3) by decide +kernel) rfl (fun _ => ?_) (fun z => absurd q17 z)
    obtain rfl := Option.some.inj h
    obtain ⟨rfl, rfl⟩ := Prod.mk.inj (show ((none : Option aV), M) = (r, M') from hN)
    exact xv_rv E B.1 B.2.1 (show decode prog_14_method_32_code 155 = .ok (.return_, 1) by decide +kernel) rfl rfl
  · rw [if_neg q17] at h
    refine xv_icmp_ge E 155 (show decode prog_14_method_32_code 71 = .ok (.if_icmp .ge (84), 3) by decide +kernel) rfl (fun z => absurd z q17) (fun _ => ?_)
    refine xv_b E [.iconst 0, .istore_n 3] (pc' := 76) (lv' := [(3, .inl (0 : Int32)), (0, .inr (.inr (some a0))), (2, .inl v2)]) (st' := []) (by decide +kernel) rfl rfl ?_
    obtain rfl := Option.some.inj h
    exact xv_w hN rfl
theorem sb195_76 (E : xE G p (xRm 3 (h_sz M' - z0) (h_sl M' - y0)) s m args c prog_14_method_32_code "ZonedFabricModel" z0 y0 (h_sz M') (h_sl M') 5) (B : xB ym195 none meth) (a0 : Nat) (v2 : Int32) (v3 : Int32) (M : hM) {res : xRes} (h : b195_76 a0 v2 v3 M = some res) (hN : xN (pg195 p l e s m args below meth c G z0 y0 r M') r M' res) : xV G p l e (xRm 3 (h_sz M' - z0) (h_sl M' - y0)) s m args below meth c z0 y0 (h_sz M') (h_sl M') 5 (MQ below (xQc G r M') args s (h_sz M' - z0) (h_sl M' - y0) (xFr G)) 76 [(0, .inr (.inr (some a0))), (2, .inl v2), (3, .inl v3)] [] M := by
  unfold b195_76 at h
  refine xv_b E [.iload_n 3, .iconst 5] (pc' := 78) (lv' := [(0, .inr (.inr (some a0))), (2, .inl v2), (3, .inl v3)]) (st' := [.inl (5 : Int32), .inl v3]) (by decide +kernel) rfl rfl ?_
  by_cases q18 : (5 : Int32) ≤ v3
  · rw [if_pos q18] at h
    refine xv_icmp_ge E 149 (show decode prog_14_method_32_code 78 = .ok (.if_icmp .ge (71), 3) by decide +kernel) rfl (fun _ => ?_) (fun z => absurd q18 z)
    refine xv_b E [.iinc 2 1] (pc' := 152) (lv' := [(2, .inl (v2 + (1 : Int32))), (0, .inr (.inr (some a0))), (3, .inl v3)]) (st' := []) (by decide +kernel) rfl rfl ?_
    refine xv_goto E 69 (show decode prog_14_method_32_code 152 = .ok (.goto (-83), 3) by decide +kernel) rfl ?_
    obtain rfl := Option.some.inj h
    exact xv_w hN rfl
  · rw [if_neg q18] at h
    refine xv_icmp_ge E 149 (show decode prog_14_method_32_code 78 = .ok (.if_icmp .ge (71), 3) by decide +kernel) rfl (fun z => absurd z q18) (fun _ => ?_)
    refine xv_b E [.iconst 0, .istore 4] (pc' := 84) (lv' := [(4, .inl (0 : Int32)), (0, .inr (.inr (some a0))), (2, .inl v2), (3, .inl v3)]) (st' := []) (by decide +kernel) rfl rfl ?_
    obtain rfl := Option.some.inj h
    exact xv_w hN rfl
theorem sb195_84 (E : xE G p (xRm 3 (h_sz M' - z0) (h_sl M' - y0)) s m args c prog_14_method_32_code "ZonedFabricModel" z0 y0 (h_sz M') (h_sl M') 5) (B : xB ym195 none meth) (a0 : Nat) (v2 : Int32) (v3 : Int32) (v4 : Int32) (M : hM) {res : xRes} (h : b195_84 a0 v2 v3 v4 M = some res) (hN : xN (pg195 p l e s m args below meth c G z0 y0 r M') r M' res) : xV G p l e (xRm 3 (h_sz M' - z0) (h_sl M' - y0)) s m args below meth c z0 y0 (h_sz M') (h_sl M') 5 (MQ below (xQc G r M') args s (h_sz M' - z0) (h_sl M' - y0) (xFr G)) 84 [(0, .inr (.inr (some a0))), (2, .inl v2), (3, .inl v3), (4, .inl v4)] [] M := by
  unfold b195_84 at h
  refine xv_b E [.iload 4, .iconst 5] (pc' := 87) (lv' := [(0, .inr (.inr (some a0))), (2, .inl v2), (3, .inl v3), (4, .inl v4)]) (st' := [.inl (5 : Int32), .inl v4]) (by decide +kernel) rfl rfl ?_
  by_cases q35 : (5 : Int32) ≤ v4
  · rw [if_pos q35] at h
    refine xv_icmp_ge E 143 (show decode prog_14_method_32_code 87 = .ok (.if_icmp .ge (56), 3) by decide +kernel) rfl (fun _ => ?_) (fun z => absurd q35 z)
    refine xv_b E [.iinc 3 1] (pc' := 146) (lv' := [(3, .inl (v3 + (1 : Int32))), (0, .inr (.inr (some a0))), (2, .inl v2), (4, .inl v4)]) (st' := []) (by decide +kernel) rfl rfl ?_
    refine xv_goto E 76 (show decode prog_14_method_32_code 146 = .ok (.goto (-70), 3) by decide +kernel) rfl ?_
    obtain rfl := Option.some.inj h
    exact xv_w hN rfl
  · rw [if_neg q35] at h
    refine xv_icmp_ge E 143 (show decode prog_14_method_32_code 87 = .ok (.if_icmp .ge (56), 3) by decide +kernel) rfl (fun z => absurd z q35) (fun _ => ?_)
    refine xv_b E [.aload_n 0] (pc' := 91) (lv' := [(0, .inr (.inr (some a0))), (2, .inl v2), (3, .inl v3), (4, .inl v4)]) (st' := [.inr (.inr (some a0))]) (by decide +kernel) rfl rfl ?_
    obtain ⟨o_19, h20, h⟩ := bd h
    refine xg_r E 12 32 h20 mw892 (show decode prog_14_method_32_code 91 = .ok (.getfield 91, 3) by decide +kernel) ?_
    refine xv_b E [.iconst 5, .iload_n 3, .imul, .iload 4, .iadd, .aload_n 0] (pc' := 101) (lv' := [(0, .inr (.inr (some a0))), (2, .inl v2), (3, .inl v3), (4, .inl v4)]) (st' := [.inr (.inr (some a0)), .inl (((5 : Int32) * v3) + v4), .inr (.inr o_19)]) (by decide +kernel) rfl rfl ?_
    obtain ⟨o_21, h22, h⟩ := bd h
    refine xg_r E 12 32 h22 mw892 (show decode prog_14_method_32_code 101 = .ok (.getfield 91, 3) by decide +kernel) ?_
    refine xv_b E [.iconst 5, .iload_n 3, .imul, .iload 4, .iadd] (pc' := 110) (lv' := [(0, .inr (.inr (some a0))), (2, .inl v2), (3, .inl v3), (4, .inl v4)]) (st' := [.inl (((5 : Int32) * v3) + v4), .inr (.inr o_21), .inl (((5 : Int32) * v3) + v4), .inr (.inr o_19)]) (by decide +kernel) rfl rfl ?_
    obtain ⟨v_23, h24, h⟩ := bd h
    refine xa_i E h24 (show decode prog_14_method_32_code 110 = .ok (.iaload, 1) by decide +kernel) ?_
    refine xv_b E [.aload_n 0] (pc' := 112) (lv' := [(0, .inr (.inr (some a0))), (2, .inl v2), (3, .inl v3), (4, .inl v4)]) (st' := [.inr (.inr (some a0)), .inl v_23, .inl (((5 : Int32) * v3) + v4), .inr (.inr o_19)]) (by decide +kernel) rfl rfl ?_
    obtain ⟨o_25, h26, h⟩ := bd h
    refine xg_r E 12 32 h26 mw892 (show decode prog_14_method_32_code 112 = .ok (.getfield 91, 3) by decide +kernel) ?_
    refine xv_b E [.iconst 5, .iload_n 3, .imul, .iload_n 2, .iadd] (pc' := 120) (lv' := [(0, .inr (.inr (some a0))), (2, .inl v2), (3, .inl v3), (4, .inl v4)]) (st' := [.inl (((5 : Int32) * v3) + v2), .inr (.inr o_25), .inl v_23, .inl (((5 : Int32) * v3) + v4), .inr (.inr o_19)]) (by decide +kernel) rfl rfl ?_
    obtain ⟨v_27, h28, h⟩ := bd h
    refine xa_i E h28 (show decode prog_14_method_32_code 120 = .ok (.iaload, 1) by decide +kernel) ?_
    refine xv_b E [.aload_n 0] (pc' := 122) (lv' := [(0, .inr (.inr (some a0))), (2, .inl v2), (3, .inl v3), (4, .inl v4)]) (st' := [.inr (.inr (some a0)), .inl v_27, .inl v_23, .inl (((5 : Int32) * v3) + v4), .inr (.inr o_19)]) (by decide +kernel) rfl rfl ?_
    obtain ⟨o_29, h30, h⟩ := bd h
    refine xg_r E 12 32 h30 mw892 (show decode prog_14_method_32_code 122 = .ok (.getfield 91, 3) by decide +kernel) ?_
    refine xv_b E [.iconst 5, .iload_n 2, .imul, .iload 4, .iadd] (pc' := 131) (lv' := [(0, .inr (.inr (some a0))), (2, .inl v2), (3, .inl v3), (4, .inl v4)]) (st' := [.inl (((5 : Int32) * v2) + v4), .inr (.inr o_29), .inl v_27, .inl v_23, .inl (((5 : Int32) * v3) + v4), .inr (.inr o_19)]) (by decide +kernel) rfl rfl ?_
    obtain ⟨v_31, h32, h⟩ := bd h
    refine xa_i E h32 (show decode prog_14_method_32_code 131 = .ok (.iaload, 1) by decide +kernel) ?_
    refine xv_b E [.iadd] (pc' := 133) (lv' := [(0, .inr (.inr (some a0))), (2, .inl v2), (3, .inl v3), (4, .inl v4)]) (st' := [.inl (v_27 + v_31), .inl v_23, .inl (((5 : Int32) * v3) + v4), .inr (.inr o_19)]) (by decide +kernel) rfl rfl ?_
    refine xv_min E mw1010 mw235 mw236 mwMin (show decode prog_14_method_32_code 133 = .ok (.invokestatic 252, 3) by decide +kernel) (Nat.le_of_ble_eq_true rfl) ⟨Nat.le_of_ble_eq_true rfl, Nat.le_of_ble_eq_true rfl⟩ ?_
    obtain ⟨M33, h34, h⟩ := bd h
    refine xs_i E h34 (show decode prog_14_method_32_code 136 = .ok (.iastore, 1) by decide +kernel) ?_
    refine xv_b E [.iinc 4 1] (pc' := 140) (lv' := [(4, .inl (v4 + (1 : Int32))), (0, .inr (.inr (some a0))), (2, .inl v2), (3, .inl v3)]) (st' := []) (by decide +kernel) rfl rfl ?_
    refine xv_goto E 84 (show decode prog_14_method_32_code 140 = .ok (.goto (-56), 3) by decide +kernel) rfl ?_
    obtain rfl := Option.some.inj h
    exact xv_w hN rfl
end
theorem t195 (G : gX) (l : Launch) {as : List aV} {M : hM} {r : Option aV} {M' : hM} (h : f195 as M = some (r, M')) : xM G l ym195 prog_14_method_32_code 5 none 3 as M r M' := by
  unfold f195 at h
  split at h
  · have hle : ∀ h as M res, k195 h as M = some res → h_sz M ≤ r_sz res ∧ h_sl M ≤ r_sl res := by
      intro h as M res hb
      unfold k195 at hb
      by_cases e0 : h = 2
      · rw [if_pos e0] at hb
        split at hb
        · exact lb195_2 G l _ _ _ M hb
        · cases hb
      · rw [if_neg e0] at hb
        by_cases e1 : h = 9
        · rw [if_pos e1] at hb
          split at hb
          · exact lb195_9 G l _ _ _ _ M hb
          · cases hb
        · rw [if_neg e1] at hb
          by_cases e2 : h = 69
          · rw [if_pos e2] at hb
            split at hb
            · exact lb195_69 G l _ _ M hb
            · cases hb
          · rw [if_neg e2] at hb
            by_cases e3 : h = 76
            · rw [if_pos e3] at hb
              split at hb
              · exact lb195_76 G l _ _ _ M hb
              · cases hb
            · rw [if_neg e3] at hb
              by_cases e4 : h = 84
              · rw [if_pos e4] at hb
                split at hb
                · exact lb195_84 G l _ _ _ _ M hb
                · cases hb
              · rw [if_neg e4] at hb
                cases hb
    obtain ⟨res, hx, hres⟩ := x_go_ok h
    refine xM_of (by decide) (Nat.le_of_ble_eq_true rfl) ?_ ?_
    · have e1 := lb195_0 G l _ _ M hx
      have e2 := x_go_le hle hres
      omega
    · intro p e s m args below meth c E B
      refine sb195_0 E B _ _ M hx (hres _ ?_)
      intro h as M res hb hN
      unfold k195 at hb
      unfold pg195
      by_cases e0 : h = 2
      · rw [if_pos e0] at hb ⊢
        split at hb
        · exact sb195_2 E B _ _ _ M hb hN
        · cases hb
      · rw [if_neg e0] at hb ⊢
        by_cases e1 : h = 9
        · rw [if_pos e1] at hb ⊢
          split at hb
          · exact sb195_9 E B _ _ _ _ M hb hN
          · cases hb
        · rw [if_neg e1] at hb ⊢
          by_cases e2 : h = 69
          · rw [if_pos e2] at hb ⊢
            split at hb
            · exact sb195_69 E B _ _ M hb hN
            · cases hb
          · rw [if_neg e2] at hb ⊢
            by_cases e3 : h = 76
            · rw [if_pos e3] at hb ⊢
              split at hb
              · exact sb195_76 E B _ _ _ M hb hN
              · cases hb
            · rw [if_neg e3] at hb ⊢
              by_cases e4 : h = 84
              · rw [if_pos e4] at hb ⊢
                split at hb
                · exact sb195_84 E B _ _ _ _ M hb hN
                · cases hb
              · rw [if_neg e4] at hb ⊢
                cases hb
  · cases h
