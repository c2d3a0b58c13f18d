theorem mw856 : Cond.code ⟨"ZonedFabric", "address", "(I)I"⟩ prog_1_method_20_code 2 (some FieldType.int) ∈ xTs := xTs_in (tk5 (List.mem_of_getElem? (i := 178) (by decide +kernel))) rfl
theorem mw857 : Cond.fieldLink "ZonedFabric" 237 "ZonedFabric$Node" "address" "I" ∈ xTs := xTs_in (tk2 (List.mem_of_getElem? (i := 9) (by decide +kernel))) rfl
theorem mw858 : Cond.code ⟨"ZonedFabric", "frame", "(III)J"⟩ prog_1_method_21_code 9 (some FieldType.long) ∈ xTs := xTs_in (tk5 (List.mem_of_getElem? (i := 182) (by decide +kernel))) rfl
theorem mw859 : Cond.methodLink "ZonedFabric" 240 ⟨"ZonedFabric$Frame", "byteAt", "(I)I"⟩ ∈ xTs := xTs_in (tk5 (List.mem_of_getElem? (i := 183) (by decide +kernel))) rfl
theorem mw860 : Cond.code ⟨"ZonedFabric", "count", "(I)I"⟩ prog_1_method_22_code 2 (some FieldType.int) ∈ xTs := xTs_in (tk5 (List.mem_of_getElem? (i := 187) (by decide +kernel))) rfl
theorem mw861 : Cond.fieldLink "ZonedFabric" 246 "ZonedFabric$Shared" "counts" "[I" ∈ xTs := xTs_in (tk1 (List.mem_of_getElem? (i := 47) (by decide +kernel))) rfl
theorem mw862 : Cond.code ⟨"ZonedFabric", "broken", "(I)I"⟩ prog_1_method_23_code 2 (some FieldType.int) ∈ xTs := xTs_in (tk5 (List.mem_of_getElem? (i := 191) (by decide +kernel))) rfl
theorem mw863 : Cond.code ⟨"ZonedFabricModel", "<init>", "(III)V"⟩ prog_14_method_1_code 5 none ∈ xTs := xTs_in (tk5 (List.mem_of_getElem? (i := 199) (by decide +kernel))) rfl
theorem mw864 : Cond.initialized "ZonedFabricModel" ∈ xTs := xTs_in (tk1 (List.mem_of_getElem? (i := 9) (by decide +kernel))) rfl
theorem mw865 : Cond.fieldLink "ZonedFabricModel" 7 "ZonedFabricModel" "counts" "[I" ∈ xTs := xTs_in (tk5 (List.mem_of_getElem? (i := 206) (by decide +kernel))) rfl
theorem mw866 : Cond.fieldLink "ZonedFabricModel" 13 "ZonedFabricModel" "books" "[I" ∈ xTs := xTs_in (tk5 (List.mem_of_getElem? (i := 207) (by decide +kernel))) rfl
theorem mw867 : Cond.fieldLink "ZonedFabricModel" 17 "ZonedFabricModel" "bytes" "[B" ∈ xTs := xTs_in (tk5 (List.mem_of_getElem? (i := 208) (by decide +kernel))) rfl
theorem mw868 : Cond.fieldLink "ZonedFabricModel" 21 "ZonedFabricModel" "size" "[I" ∈ xTs := xTs_in (tk5 (List.mem_of_getElem? (i := 209) (by decide +kernel))) rfl
theorem mw869 : Cond.fieldLink "ZonedFabricModel" 24 "ZonedFabricModel" "free" "[I" ∈ xTs := xTs_in (tk5 (List.mem_of_getElem? (i := 210) (by decide +kernel))) rfl
theorem mw870 : Cond.fieldLink "ZonedFabricModel" 27 "ZonedFabricModel" "ends" "[I" ∈ xTs := xTs_in (tk5 (List.mem_of_getElem? (i := 212) (by decide +kernel))) rfl
theorem mw871 : Cond.fieldLink "ZonedFabricModel" 30 "ZonedFabricModel" "costs" "[I" ∈ xTs := xTs_in (tk5 (List.mem_of_getElem? (i := 213) (by decide +kernel))) rfl
theorem mw872 : Cond.arrayClass .boolean ∈ xTs := xTs_in (tk6 (List.mem_of_getElem? (i := 146) (by decide +kernel))) rfl
theorem mw873 : Cond.fieldLink "ZonedFabricModel" 33 "ZonedFabricModel" "ups" "[Z" ∈ xTs := xTs_in (tk5 (List.mem_of_getElem? (i := 214) (by decide +kernel))) rfl
theorem mw874 : Cond.fieldLink "ZonedFabricModel" 37 "ZonedFabricModel" "wireOf" "[I" ∈ xTs := xTs_in (tk5 (List.mem_of_getElem? (i := 216) (by decide +kernel))) rfl
theorem mw875 : Cond.fieldLink "ZonedFabricModel" 40 "ZonedFabricModel" "onWay" "[I" ∈ xTs := xTs_in (tk5 (List.mem_of_getElem? (i := 217) (by decide +kernel))) rfl
theorem mw876 : Cond.fieldLink "ZonedFabricModel" 43 "ZonedFabricModel" "buffers" "[I" ∈ xTs := xTs_in (tk5 (List.mem_of_getElem? (i := 218) (by decide +kernel))) rfl
theorem mw877 : Cond.fieldLink "ZonedFabricModel" 46 "ZonedFabricModel" "buffered" "[I" ∈ xTs := xTs_in (tk5 (List.mem_of_getElem? (i := 219) (by decide +kernel))) rfl
theorem mw878 : Cond.fieldLink "ZonedFabricModel" 49 "ZonedFabricModel" "queues" "[I" ∈ xTs := xTs_in (tk5 (List.mem_of_getElem? (i := 220) (by decide +kernel))) rfl
theorem mw879 : Cond.fieldLink "ZonedFabricModel" 52 "ZonedFabricModel" "queued" "[I" ∈ xTs := xTs_in (tk5 (List.mem_of_getElem? (i := 221) (by decide +kernel))) rfl
theorem mw880 : Cond.fieldLink "ZonedFabricModel" 55 "ZonedFabricModel" "left" "[I" ∈ xTs := xTs_in (tk5 (List.mem_of_getElem? (i := 222) (by decide +kernel))) rfl
theorem mw881 : Cond.fieldLink "ZonedFabricModel" 58 "ZonedFabricModel" "stays" "[I" ∈ xTs := xTs_in (tk5 (List.mem_of_getElem? (i := 223) (by decide +kernel))) rfl
theorem mw882 : Cond.fieldLink "ZonedFabricModel" 61 "ZonedFabricModel" "sent" "[Z" ∈ xTs := xTs_in (tk5 (List.mem_of_getElem? (i := 224) (by decide +kernel))) rfl
theorem mw883 : Cond.fieldLink "ZonedFabricModel" 64 "ZonedFabricModel" "neighbour" "[I" ∈ xTs := xTs_in (tk5 (List.mem_of_getElem? (i := 225) (by decide +kernel))) rfl
theorem mw884 : Cond.fieldLink "ZonedFabricModel" 67 "ZonedFabricModel" "helloAt" "[I" ∈ xTs := xTs_in (tk5 (List.mem_of_getElem? (i := 226) (by decide +kernel))) rfl
theorem mw885 : Cond.fieldLink "ZonedFabricModel" 70 "ZonedFabricModel" "given" "[I" ∈ xTs := xTs_in (tk5 (List.mem_of_getElem? (i := 227) (by decide +kernel))) rfl
theorem mw886 : Cond.fieldLink "ZonedFabricModel" 73 "ZonedFabricModel" "domains" "[I" ∈ xTs := xTs_in (tk5 (List.mem_of_getElem? (i := 228) (by decide +kernel))) rfl
theorem mw887 : Cond.fieldLink "ZonedFabricModel" 76 "ZonedFabricModel" "kept" "[Z" ∈ xTs := xTs_in (tk5 (List.mem_of_getElem? (i := 229) (by decide +kernel))) rfl
theorem mw888 : Cond.fieldLink "ZonedFabricModel" 79 "ZonedFabricModel" "keptAt" "[I" ∈ xTs := xTs_in (tk5 (List.mem_of_getElem? (i := 230) (by decide +kernel))) rfl
theorem mw889 : Cond.fieldLink "ZonedFabricModel" 82 "ZonedFabricModel" "told" "[I" ∈ xTs := xTs_in (tk5 (List.mem_of_getElem? (i := 231) (by decide +kernel))) rfl
theorem mw890 : Cond.fieldLink "ZonedFabricModel" 85 "ZonedFabricModel" "toldMany" "[I" ∈ xTs := xTs_in (tk5 (List.mem_of_getElem? (i := 232) (by decide +kernel))) rfl
theorem mw891 : Cond.fieldLink "ZonedFabricModel" 88 "ZonedFabricModel" "fresh" "[I" ∈ xTs := xTs_in (tk5 (List.mem_of_getElem? (i := 233) (by decide +kernel))) rfl
theorem mw892 : Cond.fieldLink "ZonedFabricModel" 91 "ZonedFabricModel" "sums" "[I" ∈ xTs := xTs_in (tk5 (List.mem_of_getElem? (i := 234) (by decide +kernel))) rfl
theorem mw893 : Cond.fieldLink "ZonedFabricModel" 94 "ZonedFabricModel" "isDisc" "[Z" ∈ xTs := xTs_in (tk5 (List.mem_of_getElem? (i := 235) (by decide +kernel))) rfl
theorem mw894 : Cond.fieldLink "ZonedFabricModel" 97 "ZonedFabricModel" "commanded" "[Z" ∈ xTs := xTs_in (tk5 (List.mem_of_getElem? (i := 236) (by decide +kernel))) rfl
theorem mw895 : Cond.fieldLink "ZonedFabricModel" 100 "ZonedFabricModel" "addresses" "[I" ∈ xTs := xTs_in (tk5 (List.mem_of_getElem? (i := 237) (by decide +kernel))) rfl
theorem mw896 : Cond.fieldLink "ZonedFabricModel" 103 "ZonedFabricModel" "flogiAt" "[I" ∈ xTs := xTs_in (tk5 (List.mem_of_getElem? (i := 238) (by decide +kernel))) rfl
theorem mw897 : Cond.fieldLink "ZonedFabricModel" 106 "ZonedFabricModel" "zones" "[I" ∈ xTs := xTs_in (tk5 (List.mem_of_getElem? (i := 239) (by decide +kernel))) rfl
theorem mw898 : Cond.fieldLink "ZonedFabricModel" 109 "ZonedFabricModel" "loginAt" "[I" ∈ xTs := xTs_in (tk6 (List.mem_of_getElem? (i := 1) (by decide +kernel))) rfl
theorem mw899 : Cond.fieldLink "ZonedFabricModel" 112 "ZonedFabricModel" "logged" "[I" ∈ xTs := xTs_in (tk6 (List.mem_of_getElem? (i := 2) (by decide +kernel))) rfl
theorem mw900 : Cond.fieldLink "ZonedFabricModel" 115 "ZonedFabricModel" "loggedMany" "[I" ∈ xTs := xTs_in (tk6 (List.mem_of_getElem? (i := 3) (by decide +kernel))) rfl
theorem mw901 : Cond.fieldLink "ZonedFabricModel" 118 "ZonedFabricModel" "blocks" "[J" ∈ xTs := xTs_in (tk6 (List.mem_of_getElem? (i := 4) (by decide +kernel))) rfl
theorem mw902 : Cond.fieldLink "ZonedFabricModel" 122 "ZonedFabricModel" "lastRx" "[I" ∈ xTs := xTs_in (tk6 (List.mem_of_getElem? (i := 5) (by decide +kernel))) rfl
theorem mw903 : Cond.fieldLink "ZonedFabricModel" 125 "ZonedFabricModel" "open" "[I" ∈ xTs := xTs_in (tk6 (List.mem_of_getElem? (i := 6) (by decide +kernel))) rfl
theorem mw904 : Cond.fieldLink "ZonedFabricModel" 128 "ZonedFabricModel" "openValues" "[J" ∈ xTs := xTs_in (tk6 (List.mem_of_getElem? (i := 7) (by decide +kernel))) rfl
theorem mw905 : Cond.fieldLink "ZonedFabricModel" 131 "ZonedFabricModel" "openMany" "[I" ∈ xTs := xTs_in (tk6 (List.mem_of_getElem? (i := 8) (by decide +kernel))) rfl
theorem mw906 : Cond.fieldLink "ZonedFabricModel" 134 "ZonedFabricModel" "host" "[I" ∈ xTs := xTs_in (tk6 (List.mem_of_getElem? (i := 10) (by decide +kernel))) rfl
theorem mw907 : Cond.fieldLink "ZonedFabricModel" 137 "ZonedFabricModel" "target" "[I" ∈ xTs := xTs_in (tk6 (List.mem_of_getElem? (i := 11) (by decide +kernel))) rfl
theorem mw908 : Cond.fieldLink "ZonedFabricModel" 140 "ZonedFabricModel" "writes" "[Z" ∈ xTs := xTs_in (tk6 (List.mem_of_getElem? (i := 12) (by decide +kernel))) rfl
theorem mw909 : Cond.fieldLink "ZonedFabricModel" 143 "ZonedFabricModel" "unit" "[I" ∈ xTs := xTs_in (tk6 (List.mem_of_getElem? (i := 13) (by decide +kernel))) rfl
theorem mw910 : Cond.fieldLink "ZonedFabricModel" 146 "ZonedFabricModel" "first" "[I" ∈ xTs := xTs_in (tk6 (List.mem_of_getElem? (i := 14) (by decide +kernel))) rfl
theorem mw911 : Cond.fieldLink "ZonedFabricModel" 149 "ZonedFabricModel" "many" "[I" ∈ xTs := xTs_in (tk6 (List.mem_of_getElem? (i := 15) (by decide +kernel))) rfl
theorem mw912 : Cond.fieldLink "ZonedFabricModel" 152 "ZonedFabricModel" "values" "[J" ∈ xTs := xTs_in (tk6 (List.mem_of_getElem? (i := 16) (by decide +kernel))) rfl
theorem mw913 : Cond.fieldLink "ZonedFabricModel" 155 "ZonedFabricModel" "came" "[I" ∈ xTs := xTs_in (tk6 (List.mem_of_getElem? (i := 17) (by decide +kernel))) rfl
theorem mw914 : Cond.fieldLink "ZonedFabricModel" 158 "ZonedFabricModel" "phase" "[I" ∈ xTs := xTs_in (tk6 (List.mem_of_getElem? (i := 18) (by decide +kernel))) rfl
theorem mw915 : Cond.fieldLink "ZonedFabricModel" 161 "ZonedFabricModel" "phaseAt" "[I" ∈ xTs := xTs_in (tk6 (List.mem_of_getElem? (i := 19) (by decide +kernel))) rfl
theorem mw916 : Cond.fieldLink "ZonedFabricModel" 164 "ZonedFabricModel" "began" "[I" ∈ xTs := xTs_in (tk6 (List.mem_of_getElem? (i := 20) (by decide +kernel))) rfl
theorem mw917 : Cond.fieldLink "ZonedFabricModel" 167 "ZonedFabricModel" "ended" "[I" ∈ xTs := xTs_in (tk6 (List.mem_of_getElem? (i := 21) (by decide +kernel))) rfl
theorem mw918 : Cond.fieldLink "ZonedFabricModel" 170 "ZonedFabricModel" "goal" "[I" ∈ xTs := xTs_in (tk6 (List.mem_of_getElem? (i := 22) (by decide +kernel))) rfl
theorem mw919 : Cond.constant "ZonedFabricModel" 16 (144000) ∈ xTs := xTs_in (tk5 (List.mem_of_getElem? (i := 201) (by decide +kernel))) rfl
theorem mw920 : Cond.methodLink "ZonedFabricModel" 1 ⟨"java/lang/Object", "<init>", "()V"⟩ ∈ xTs := xTs_in (tk5 (List.mem_of_getElem? (i := 200) (by decide +kernel))) rfl
theorem mw921 : Cond.fieldLink "ZonedFabricModel" 173 "ZonedFabricModel" "switches" "I" ∈ xTs := xTs_in (tk5 (List.mem_of_getElem? (i := 202) (by decide +kernel))) rfl
theorem mw922 : Cond.fieldLink "ZonedFabricModel" 177 "ZonedFabricModel" "nodes" "I" ∈ xTs := xTs_in (tk5 (List.mem_of_getElem? (i := 203) (by decide +kernel))) rfl
theorem mw923 : Cond.fieldLink "ZonedFabricModel" 180 "ZonedFabricModel" "room" "I" ∈ xTs := xTs_in (tk5 (List.mem_of_getElem? (i := 204) (by decide +kernel))) rfl
theorem mw924 : Cond.fieldLink "ZonedFabricModel" 183 "ZonedFabricModel" "frees" "I" ∈ xTs := xTs_in (tk5 (List.mem_of_getElem? (i := 211) (by decide +kernel))) rfl
theorem mw925 : Cond.code ⟨"ZonedFabricModel", "at", "(II)I"⟩ prog_14_method_2_code 3 (some FieldType.int) ∈ xTs := xTs_in (tk7 (List.mem_of_getElem? (i := 49) (by decide +kernel))) rfl
theorem mw926 : Cond.code ⟨"ZonedFabricModel", "number", "(III)I"⟩ prog_14_method_3_code 6 (some FieldType.int) ∈ xTs := xTs_in (tk7 (List.mem_of_getElem? (i := 103) (by decide +kernel))) rfl
theorem mw927 : Cond.methodLink "ZonedFabricModel" 186 ⟨"ZonedFabricModel", "at", "(II)I"⟩ ∈ xTs := xTs_in (tk7 (List.mem_of_getElem? (i := 46) (by decide +kernel))) rfl
theorem mw928 : Cond.instanceMethod ⟨"ZonedFabricModel", "at", "(II)I"⟩ ∈ xTs := xTs_in (tk7 (List.mem_of_getElem? (i := 48) (by decide +kernel))) rfl
theorem mw929 : Cond.selects "ZonedFabricModel" ⟨"ZonedFabricModel", "at", "(II)I"⟩ ⟨"ZonedFabricModel", "at", "(II)I"⟩ ∈ xTs := xTs_in (List.mem_append_left _ (List.mem_of_getElem? (i := 83) (by decide +kernel))) rfl
theorem mw930 : Cond.code ⟨"ZonedFabricModel", "add", "(IJI)V"⟩ prog_14_method_4_code 6 none ∈ xTs := xTs_in (tk7 (List.mem_of_getElem? (i := 33) (by decide +kernel))) rfl
theorem mw931 : Cond.code ⟨"ZonedFabricModel", "begins", "(IIIIII)I"⟩ prog_14_method_5_code 8 (some FieldType.int) ∈ xTs := xTs_in (tk7 (List.mem_of_getElem? (i := 29) (by decide +kernel))) rfl
theorem mw932 : Cond.methodLink "ZonedFabricModel" 190 ⟨"ZonedFabricModel", "add", "(IJI)V"⟩ ∈ xTs := xTs_in (tk7 (List.mem_of_getElem? (i := 30) (by decide +kernel))) rfl
theorem mw933 : Cond.instanceMethod ⟨"ZonedFabricModel", "add", "(IJI)V"⟩ ∈ xTs := xTs_in (tk7 (List.mem_of_getElem? (i := 32) (by decide +kernel))) rfl
theorem mw934 : Cond.selects "ZonedFabricModel" ⟨"ZonedFabricModel", "add", "(IJI)V"⟩ ⟨"ZonedFabricModel", "add", "(IJI)V"⟩ ∈ xTs := xTs_in (List.mem_append_left _ (List.mem_of_getElem? (i := 79) (by decide +kernel))) rfl
theorem mw935 : Cond.code ⟨"ZonedFabricModel", "check", "(II)I"⟩ prog_14_method_8_code 7 (some FieldType.int) ∈ xTs := xTs_in (tk7 (List.mem_of_getElem? (i := 45) (by decide +kernel))) rfl
theorem mw936 : Cond.constant "ZonedFabricModel" 197 (-306674912) ∈ xTs := xTs_in (tk7 (List.mem_of_getElem? (i := 50) (by decide +kernel))) rfl
theorem mw937 : Cond.code ⟨"ZonedFabricModel", "closes", "(I)V"⟩ prog_14_method_6_code 2 none ∈ xTs := xTs_in (tk7 (List.mem_of_getElem? (i := 41) (by decide +kernel))) rfl
theorem mw938 : Cond.methodLink "ZonedFabricModel" 194 ⟨"ZonedFabricModel", "check", "(II)I"⟩ ∈ xTs := xTs_in (tk7 (List.mem_of_getElem? (i := 42) (by decide +kernel))) rfl
theorem mw939 : Cond.instanceMethod ⟨"ZonedFabricModel", "check", "(II)I"⟩ ∈ xTs := xTs_in (tk7 (List.mem_of_getElem? (i := 44) (by decide +kernel))) rfl
theorem mw940 : Cond.selects "ZonedFabricModel" ⟨"ZonedFabricModel", "check", "(II)I"⟩ ⟨"ZonedFabricModel", "check", "(II)I"⟩ ∈ xTs := xTs_in (List.mem_append_left _ (List.mem_of_getElem? (i := 82) (by decide +kernel))) rfl
theorem mw941 : Cond.code ⟨"ZonedFabricModel", "drops", "(I)V"⟩ prog_14_method_7_code 2 none ∈ xTs := xTs_in (tk6 (List.mem_of_getElem? (i := 170) (by decide +kernel))) rfl
theorem mw942 : Cond.code ⟨"ZonedFabricModel", "isRecord", "(II)Z"⟩ prog_14_method_11_code 11 (some FieldType.boolean) ∈ xTs := xTs_in (tk7 (List.mem_of_getElem? (i := 115) (by decide +kernel))) rfl
/-! ZF.address(I)I -/
def ym160 : MethodName := ⟨"ZonedFabric", "address", "(I)I"⟩
theorem cd160 : xCd ym160 prog_1_method_20_code 2 (some FieldType.int) 1 := ⟨mw856, mw71, by decide, by decide, by decide +kernel⟩
def b160_24 (si0 : Int32) (M : hM) : Option xRes :=
  some (.inl (some (.inl si0), M))
def b160_0 (a0 : Nat) (v1 : Int32) (M : hM) : Option xRes :=
  Option.bind (g_r M 11 0 (some a0)) fun o_1 =>
  Option.bind (g_o M 9 o_1) fun b_5 =>
  Option.bind (c_I (f8 [.inr (.inr (some b_5)), .inl v1] M)) fun q_3 =>
  if q_3.1 = 0 then
    (b160_24 (-1 : Int32) q_3.2)
  else
    (Option.bind (g_r q_3.2 11 2 (some a0)) fun o_7 =>
    Option.bind (al_r q_3.2 35 o_7 v1) fun o_9 =>
    Option.bind (g_i q_3.2 5 3 o_9) fun v_11 =>
    b160_24 v_11 q_3.2)
def f160 (as : List aV) (M : hM) : xO := match as with
  | [.inr (.inr (some a0)), .inl v1] => x_out (b160_0 a0 v1 M)
  | _ => none
theorem lb160_24 (G : gX) (l : Launch) (si0 : Int32) (M : hM) {res : xRes} (h : b160_24 si0 M = some res) : h_sz M ≤ r_sz res ∧ h_sl M ≤ r_sl res := by
  unfold b160_24 at h
  obtain rfl := Option.some.inj h
  show h_sz M ≤ h_sz M ∧ h_sl M ≤ h_sl M
  omega
theorem lb160_0 (G : gX) (l : Launch) (a0 : Nat) (v1 : Int32) (M : hM) {res : xRes} (h : b160_0 a0 v1 M = some res) : h_sz M ≤ r_sz res ∧ h_sl M ≤ r_sl res := by
  unfold b160_0 at h
  obtain ⟨o_1, h2, h⟩ := bd h
  obtain ⟨b_5, h6, h⟩ := bd h
  obtain ⟨q_3, h4, h⟩ := bd h
  have eh4 := (t8 G l (c_I_some h4)).1
  by_cases q13 : q_3.1 = 0
  · rw [if_pos q13] at h
    have e := lb160_24 G l (-1 : Int32) q_3.2 h
    omega
  · rw [if_neg q13] at h
    obtain ⟨o_7, h8, h⟩ := bd h
    obtain ⟨o_9, h10, h⟩ := bd h
    obtain ⟨v_11, h12, h⟩ := bd h
    have e := lb160_24 G l v_11 q_3.2 h
    omega
section
variable {p : Program} {l : Launch} {e : Env} {s : State} {m : MethodId} {args : Array Value} {below : List Frame} {meth : Method} {c : Code} {G : gX} {z0 y0 : Nat} {r : Option aV} {M' : hM}
theorem sb160_24 (E : xE G p (xRm 1 (h_sz M' - z0) (h_sl M' - y0)) s m args c prog_1_method_20_code "ZonedFabric" z0 y0 (h_sz M') (h_sl M') 2) (B : xB ym160 (some FieldType.int) meth) (si0 : Int32) (M : hM) {res : xRes} (h : b160_24 si0 M = some res) (hN : xN (fun _ _ _ => False) r M' res) : xV G p l e (xRm 1 (h_sz M' - z0) (h_sl M' - y0)) s m args below meth c z0 y0 (h_sz M') (h_sl M') 2 (MQ below (xQc G r M') args s (h_sz M' - z0) (h_sl M' - y0) (xFr G)) 24 [] [.inl si0] M := by
  unfold b160_24 at h
  obtain rfl := Option.some.inj h
  obtain ⟨rfl, rfl⟩ := Prod.mk.inj (show ((some (.inl si0) : Option aV), M) = (r, M') from hN)
  exact xv_ri E B.1 rfl B.2.1 (show decode prog_1_method_20_code 24 = .ok (.ireturn, 1) by decide +kernel) rfl rfl
theorem sb160_0 (E : xE G p (xRm 1 (h_sz M' - z0) (h_sl M' - y0)) s m args c prog_1_method_20_code "ZonedFabric" z0 y0 (h_sz M') (h_sl M') 2) (B : xB ym160 (some FieldType.int) meth) (a0 : Nat) (v1 : Int32) (M : hM) {res : xRes} (h : b160_0 a0 v1 M = some res) (hN : xN (fun _ _ _ => False) r M' res) : xV G p l e (xRm 1 (h_sz M' - z0) (h_sl M' - y0)) s m args below meth c z0 y0 (h_sz M') (h_sl M') 2 (MQ below (xQc G r M') args s (h_sz M' - z0) (h_sl M' - y0) (xFr G)) 0 [(0, .inr (.inr (some a0))), (1, .inl v1)] [] M := by
  unfold b160_0 at h
  refine xv_b E [.aload_n 0] (pc' := 1) (lv' := [(0, .inr (.inr (some a0))), (1, .inl v1)]) (st' := [.inr (.inr (some a0))]) (by decide +kernel) rfl rfl ?_
  obtain ⟨o_1, h2, h⟩ := bd h
  refine xg_r E 11 0 h2 mw82 (show decode prog_1_method_20_code 1 = .ok (.getfield 29, 3) by decide +kernel) ?_
  refine xv_b E [.iload_n 1] (pc' := 5) (lv' := [(0, .inr (.inr (some a0))), (1, .inl v1)]) (st' := [.inl v1, .inr (.inr o_1)]) (by decide +kernel) rfl rfl ?_
  obtain ⟨b_5, h6, h⟩ := bd h
  obtain ⟨eh6, th6⟩ := g_o_some h6
  obtain ⟨q_3, h4, h⟩ := bd h
  refine xv_cvo E eh6 9 (as := [.inl v1]) (t8 G l (c_I_some h4)) cd8 mw116 mw117 mw118 (show decode prog_1_method_20_code 5 = .ok (.invokevirtual 58, 3) by decide +kernel) th6 rfl rfl (Nat.le_of_ble_eq_true rfl) ⟨Nat.le_of_ble_eq_true rfl, Nat.le_of_ble_eq_true rfl⟩ ?_
  by_cases q13 : q_3.1 = 0
  · rw [if_pos q13] at h
    refine xv_if_eq E 23 (show decode prog_1_method_20_code 8 = .ok (.ifCond .eq (15), 3) by decide +kernel) rfl (fun _ => ?_) (fun z => absurd q13 z)
    refine xv_b E [.iconst (-1)] (pc' := 24) (lv' := [(0, .inr (.inr (some a0))), (1, .inl v1)]) (st' := [.inl (-1 : Int32)]) (by decide +kernel) rfl rfl ?_
    exact xv_w (sb160_24 E B (-1 : Int32) q_3.2 h hN) rfl
  · rw [if_neg q13] at h
    refine xv_if_eq E 23 (show decode prog_1_method_20_code 8 = .ok (.ifCond .eq (15), 3) by decide +kernel) rfl (fun z => absurd z q13) (fun _ => ?_)
    refine xv_b E [.aload_n 0] (pc' := 12) (lv' := [(0, .inr (.inr (some a0))), (1, .inl v1)]) (st' := [.inr (.inr (some a0))]) (by decide +kernel) rfl rfl ?_
    obtain ⟨o_7, h8, h⟩ := bd h
    refine xg_r E 11 2 h8 mw86 (show decode prog_1_method_20_code 12 = .ok (.getfield 44, 3) by decide +kernel) ?_
    refine xv_b E [.iload_n 1] (pc' := 16) (lv' := [(0, .inr (.inr (some a0))), (1, .inl v1)]) (st' := [.inl v1, .inr (.inr o_7)]) (by decide +kernel) rfl rfl ?_
    obtain ⟨o_9, h10, h⟩ := bd h
    refine xa_r E 35 h10 (show decode prog_1_method_20_code 16 = .ok (.aaload, 1) by decide +kernel) ?_
    obtain ⟨v_11, h12, h⟩ := bd h
    refine xg_i E 5 3 h12 mw857 (show decode prog_1_method_20_code 17 = .ok (.getfield 237, 3) by decide +kernel) ?_
    refine xv_goto E 24 (show decode prog_1_method_20_code 20 = .ok (.goto (4), 3) by decide +kernel) rfl ?_
    exact xv_w (sb160_24 E B v_11 q_3.2 h hN) rfl
end
theorem t160 (G : gX) (l : Launch) {as : List aV} {M : hM} {r : Option aV} {M' : hM} (h : f160 as M = some (r, M')) : xM G l ym160 prog_1_method_20_code 2 (some FieldType.int) 1 as M r M' := by
  unfold f160 at h
  split at h
  · have h := x_out_ok h
    refine xM_of (by decide) (Nat.le_of_ble_eq_true rfl) (lb160_0 G l _ _ M h) ?_
    intro p e s m args below meth c E B
    exact sb160_0 E B _ _ M h rfl
  · cases h
/-! ZF.frame(III)J -/
def ym161 : MethodName := ⟨"ZonedFabric", "frame", "(III)J"⟩
theorem cd161 : xCd ym161 prog_1_method_21_code 9 (some FieldType.long) 3 := ⟨mw858, mw71, by decide, by decide, by decide +kernel⟩
def b161_17  (M : hM) : Option xRes :=
  some (.inl (some (.inr (.inl (0 : Int64))), M))
def b161_0 (a0 : Nat) (v1 : Int32) (v2 : Int32) (v3 : Int32) (M : hM) : Option xRes :=
  Option.bind (g_o M 11 (some a0)) fun b_3 =>
  Option.bind (c_R (f29 [.inr (.inr (some b_3)), .inl v1, .inl v2] M)) fun q_1 =>
  if q_1.1 = none then
    (b161_17  q_1.2)
  else
    (if 0 ≤ v3 then
      (some (.inr (25, [.inl v3, .inr (.inr q_1.1), .inr (.inl (0 : Int64)), .inl (0 : Int32)], q_1.2)))
    else
      (b161_17  q_1.2))
def b161_57 (v3 : Int32) (o4 : Option Nat) (w5 : Int64) (v7 : Int32) (si0 : Int32) (M : hM) : Option xRes :=
  some (.inr (25, [.inl v3, .inr (.inr o4), .inr (.inl ((w5 <<< (Int32.toInt64 (8 : Int32) &&& 63)) ||| (Int32.toInt64 si0))), .inl (v7 + (1 : Int32))], M))
def b161_25 (v3 : Int32) (o4 : Option Nat) (w5 : Int64) (v7 : Int32) (M : hM) : Option xRes :=
  if (8 : Int32) ≤ v7 then
    (some (.inl (some (.inr (.inl w5)), M)))
  else
    (Option.bind (g_i M 2 1 o4) fun v_7 =>
    if (v_7 - v7) ≤ v3 then
      (b161_57 v3 o4 w5 v7 (0 : Int32) M)
    else
      (Option.bind (g_o M 2 o4) fun b_11 =>
      Option.bind (c_I (f55 [.inr (.inr (some b_11)), .inl (v3 + v7)] M)) fun q_9 =>
      b161_57 v3 o4 w5 v7 q_9.1 q_9.2))
def k161 (h : Nat) (as : List aV) (M : hM) : Option xRes :=
  if h = 25 then (match as with | [.inl v3, .inr (.inr o4), .inr (.inl w5), .inl v7] => b161_25 v3 o4 w5 v7 M | _ => none) else
  none
def f161 (as : List aV) (M : hM) : xO := match as with
  | [.inr (.inr (some a0)), .inl v1, .inl v2, .inl v3] => x_go k161 (b161_0 a0 v1 v2 v3 M)
  | _ => none
theorem lb161_17 (G : gX) (l : Launch)  (M : hM) {res : xRes} (h : b161_17  M = some res) : h_sz M ≤ r_sz res ∧ h_sl M ≤ r_sl res := by
  unfold b161_17 at h
  obtain rfl := Option.some.inj h
  show h_sz M ≤ h_sz M ∧ h_sl M ≤ h_sl M
  omega
theorem lb161_0 (G : gX) (l : Launch) (a0 : Nat) (v1 : Int32) (v2 : Int32) (v3 : Int32) (M : hM) {res : xRes} (h : b161_0 a0 v1 v2 v3 M = some res) : h_sz M ≤ r_sz res ∧ h_sl M ≤ r_sl res := by
  unfold b161_0 at h
  obtain ⟨b_3, h4, h⟩ := bd h
  obtain ⟨q_1, h2, h⟩ := bd h
  have eh2 := (t29 G l (c_R_some h2)).1
  by_cases q6 : q_1.1 = none
  · rw [if_pos q6] at h
    have e := lb161_17 G l  q_1.2 h
    omega
  · rw [if_neg q6] at h
    by_cases q5 : 0 ≤ v3
    · rw [if_pos q5] at h
      obtain rfl := Option.some.inj h
      show h_sz M ≤ h_sz q_1.2 ∧ h_sl M ≤ h_sl q_1.2
      omega
    · rw [if_neg q5] at h
      have e := lb161_17 G l  q_1.2 h
      omega
theorem lb161_57 (G : gX) (l : Launch) (v3 : Int32) (o4 : Option Nat) (w5 : Int64) (v7 : Int32) (si0 : Int32) (M : hM) {res : xRes} (h : b161_57 v3 o4 w5 v7 si0 M = some res) : h_sz M ≤ r_sz res ∧ h_sl M ≤ r_sl res := by
  unfold b161_57 at h
  obtain rfl := Option.some.inj h
  show h_sz M ≤ h_sz M ∧ h_sl M ≤ h_sl M
  omega
theorem lb161_25 (G : gX) (l : Launch) (v3 : Int32) (o4 : Option Nat) (w5 : Int64) (v7 : Int32) (M : hM) {res : xRes} (h : b161_25 v3 o4 w5 v7 M = some res) : h_sz M ≤ r_sz res ∧ h_sl M ≤ r_sl res := by
  unfold b161_25 at h
  by_cases q14 : (8 : Int32) ≤ v7
  · rw [if_pos q14] at h
    obtain rfl := Option.some.inj h
    show h_sz M ≤ h_sz M ∧ h_sl M ≤ h_sl M
    omega
  · rw [if_neg q14] at h
    obtain ⟨v_7, h8, h⟩ := bd h
    by_cases q13 : (v_7 - v7) ≤ v3
    · rw [if_pos q13] at h
      have e := lb161_57 G l v3 o4 w5 v7 (0 : Int32) M h
      omega
    · rw [if_neg q13] at h
      obtain ⟨b_11, h12, h⟩ := bd h
      obtain ⟨q_9, h10, h⟩ := bd h
      have eh10 := (t55 G l (c_I_some h10)).1
      have e := lb161_57 G l v3 o4 w5 v7 q_9.1 q_9.2 h
      omega
section
variable {p : Program} {l : Launch} {e : Env} {s : State} {m : MethodId} {args : Array Value} {below : List Frame} {meth : Method} {c : Code} {G : gX} {z0 y0 : Nat} {r : Option aV} {M' : hM}
def pg161 (p : Program) (l : Launch) (e : Env) (s : State) (m : MethodId) (args : Array Value) (below : List Frame) (meth : Method) (c : Code) (G : gX) (z0 y0 : Nat) (r : Option aV) (M' : hM) (h : Nat) (as : List aV) (M : hM) : Prop :=
  if h = 25 then (match as with | [.inl v3, .inr (.inr o4), .inr (.inl w5), .inl v7] => xV G p l e (xRm 2 (h_sz M' - z0) (h_sl M' - y0)) s m args below meth c z0 y0 (h_sz M') (h_sl M') 9 (MQ below (xQc G r M') args s (h_sz M' - z0) (h_sl M' - y0) (xFr G)) 25 [(3, .inl v3), (4, .inr (.inr o4)), (5, .inr (.inl w5)), (7, .inl v7)] [] M | _ => False) else
  False
theorem sb161_17 (E : xE G p (xRm 2 (h_sz M' - z0) (h_sl M' - y0)) s m args c prog_1_method_21_code "ZonedFabric" z0 y0 (h_sz M') (h_sl M') 9) (B : xB ym161 (some FieldType.long) meth)  (M : hM) {res : xRes} (h : b161_17  M = some res) (hN : xN (pg161 p l e s m args below meth c G z0 y0 r M') r M' res) : xV G p l e (xRm 2 (h_sz M' - z0) (h_sl M' - y0)) s m args below meth c z0 y0 (h_sz M') (h_sl M') 9 (MQ below (xQc G r M') args s (h_sz M' - z0) (h_sl M' - y0) (xFr G)) 17 [] [] M := by
  unfold b161_17 at h
  refine xv_b E [.lconst 0] (pc' := 18) (lv' := []) (st' := [.inr (.inl (0 : Int64))]) (by decide +kernel) rfl rfl ?_
  obtain rfl := Option.some.inj h
  obtain ⟨rfl, rfl⟩ := Prod.mk.inj (show ((some (.inr (.inl (0 : Int64))) : Option aV), M) = (r, M') from hN)
  exact xv_rl E B.1 B.2.1 (show decode prog_1_method_21_code 18 = .ok (.lreturn, 1) by decide +kernel) rfl rfl
theorem sb161_0 (E : xE G p (xRm 2 (h_sz M' - z0) (h_sl M' - y0)) s m args c prog_1_method_21_code "ZonedFabric" z0 y0 (h_sz M') (h_sl M') 9) (B : xB ym161 (some FieldType.long) meth) (a0 : Nat) (v1 : Int32) (v2 : Int32) (v3 : Int32) (M : hM) {res : xRes} (h : b161_0 a0 v1 v2 v3 M = some res) (hN : xN (pg161 p l e s m args below meth c G z0 y0 r M') r M' res) : xV G p l e (xRm 2 (h_sz M' - z0) (h_sl M' - y0)) s m args below meth c z0 y0 (h_sz M') (h_sl M') 9 (MQ below (xQc G r M') args s (h_sz M' - z0) (h_sl M' - y0) (xFr G)) 0 [(0, .inr (.inr (some a0))), (1, .inl v1), (2, .inl v2), (3, .inl v3)] [] M := by
  unfold b161_0 at h
  refine xv_b E [.aload_n 0, .iload_n 1, .iload_n 2] (pc' := 3) (lv' := [(0, .inr (.inr (some a0))), (1, .inl v1), (2, .inl v2), (3, .inl v3)]) (st' := [.inl v2, .inl v1, .inr (.inr (some a0))]) (by decide +kernel) rfl rfl ?_
  obtain ⟨b_3, h4, h⟩ := bd h
  obtain ⟨eh4, th4⟩ := g_o_some h4
  obtain ⟨q_1, h2, h⟩ := bd h
  refine xv_cvo E eh4 11 (as := [.inl v1, .inl v2]) (t29 G l (c_R_some h2)) cd29 mw211 mw212 mw213 (show decode prog_1_method_21_code 3 = .ok (.invokevirtual 122, 3) by decide +kernel) th4 rfl rfl (Nat.le_of_ble_eq_true rfl) ⟨Nat.le_of_ble_eq_true rfl, Nat.le_of_ble_eq_true rfl⟩ ?_
  refine xv_b E [.astore 4, .aload 4] (pc' := 10) (lv' := [(4, .inr (.inr q_1.1)), (0, .inr (.inr (some a0))), (1, .inl v1), (2, .inl v2), (3, .inl v3)]) (st' := [.inr (.inr q_1.1)]) (by decide +kernel) rfl rfl ?_
  by_cases q6 : q_1.1 = none
  · rw [if_pos q6] at h
    refine xi_null E 17 (show decode prog_1_method_21_code 10 = .ok (.ifnull (7), 3) by decide +kernel) rfl (fun _ => ?_) (fun z => absurd q6 z)
    exact xv_w (sb161_17 E B  q_1.2 h hN) rfl
  · rw [if_neg q6] at h
    refine xi_null E 17 (show decode prog_1_method_21_code 10 = .ok (.ifnull (7), 3) by decide +kernel) rfl (fun z => absurd z q6) (fun _ => ?_)
    refine xv_b E [.iload_n 3] (pc' := 14) (lv' := [(4, .inr (.inr q_1.1)), (0, .inr (.inr (some a0))), (1, .inl v1), (2, .inl v2), (3, .inl v3)]) (st' := [.inl v3]) (by decide +kernel) rfl rfl ?_
    by_cases q5 : 0 ≤ v3
    · rw [if_pos q5] at h
      refine xv_if_ge E 19 (show decode prog_1_method_21_code 14 = .ok (.ifCond .ge (5), 3) by decide +kernel) rfl (fun _ => ?_) (fun z => absurd q5 z)
      refine xv_b E [.lconst 0, .lstore 5, .iconst 0, .istore 7] (pc' := 25) (lv' := [(7, .inl (0 : Int32)), (5, .inr (.inl (0 : Int64))), (4, .inr (.inr q_1.1)), (0, .inr (.inr (some a0))), (1, .inl v1), (2, .inl v2), (3, .inl v3)]) (st' := []) (by decide +kernel) rfl rfl ?_
      obtain rfl := Option.some.inj h
      exact xv_w hN rfl
    · rw [if_neg q5] at h
      refine xv_if_ge E 19 (show decode prog_1_method_21_code 14 = .ok (.ifCond .ge (5), 3) by decide +kernel) rfl (fun z => absurd z q5) (fun _ => ?_)
      exact xv_w (sb161_17 E B  q_1.2 h hN) rfl
theorem sb161_57 (E : xE G p (xRm 2 (h_sz M' - z0) (h_sl M' - y0)) s m args c prog_1_method_21_code "ZonedFabric" z0 y0 (h_sz M') (h_sl M') 9) (B : xB ym161 (some FieldType.long) meth) (v3 : Int32) (o4 : Option Nat) (w5 : Int64) (v7 : Int32) (si0 : Int32) (M : hM) {res : xRes} (h : b161_57 v3 o4 w5 v7 si0 M = some res) (hN : xN (pg161 p l e s m args below meth c G z0 y0 r M') r M' res) : xV G p l e (xRm 2 (h_sz M' - z0) (h_sl M' - y0)) s m args below meth c z0 y0 (h_sz M') (h_sl M') 9 (MQ below (xQc G r M') args s (h_sz M' - z0) (h_sl M' - y0) (xFr G)) 57 [(3, .inl v3), (4, .inr (.inr o4)), (5, .inr (.inl w5)), (7, .inl v7)] [.inl si0] M := by
  unfold b161_57 at h
  refine xv_b E [.istore 8, .lload 5, .bipush 8, .lshl, .iload 8, .i2l, .lor, .lstore 5, .iinc 7 1] (pc' := 73) (lv' := [(7, .inl (v7 + (1 : Int32))), (5, .inr (.inl ((w5 <<< (Int32.toInt64 (8 : Int32) &&& 63)) ||| (Int32.toInt64 si0)))), (8, .inl si0), (3, .inl v3), (4, .inr (.inr o4))]) (st' := []) (by decide +kernel) rfl rfl ?_
  refine xv_goto E 25 (show decode prog_1_method_21_code 73 = .ok (.goto (-48), 3) by decide +kernel) rfl ?_
  obtain rfl := Option.some.inj h
  exact xv_w hN rfl
theorem sb161_25 (E : xE G p (xRm 2 (h_sz M' - z0) (h_sl M' - y0)) s m args c prog_1_method_21_code "ZonedFabric" z0 y0 (h_sz M') (h_sl M') 9) (B : xB ym161 (some FieldType.long) meth) (v3 : Int32) (o4 : Option Nat) (w5 : Int64) (v7 : Int32) (M : hM) {res : xRes} (h : b161_25 v3 o4 w5 v7 M = some res) (hN : xN (pg161 p l e s m args below meth c G z0 y0 r M') r M' res) : xV G p l e (xRm 2 (h_sz M' - z0) (h_sl M' - y0)) s m args below meth c z0 y0 (h_sz M') (h_sl M') 9 (MQ below (xQc G r M') args s (h_sz M' - z0) (h_sl M' - y0) (xFr G)) 25 [(3, .inl v3), (4, .inr (.inr o4)), (5, .inr (.inl w5)), (7, .inl v7)] [] M := by
  unfold b161_25 at h
  refine xv_b E [.iload 7, .bipush 8] (pc' := 29) (lv' := [(3, .inl v3), (4, .inr (.inr o4)), (5, .inr (.inl w5)), (7, .inl v7)]) (st' := [.inl (8 : Int32), .inl v7]) (by decide +kernel) rfl rfl ?_
  by_cases q14 : (8 : Int32) ≤ v7
  · rw [if_pos q14] at h
    refine xv_icmp_ge E 76 (show decode prog_1_method_21_code 29 = .ok (.if_icmp .ge (47), 3) by decide +kernel) rfl (fun _ => ?_) (fun z => absurd q14 z)
    refine xv_b E [.lload 5] (pc' := 78) (lv' := [(3, .inl v3), (4, .inr (.inr o4)), (5, .inr (.inl w5)), (7, .inl v7)]) (st' := [.inr (.inl w5)]) (by decide +kernel) rfl rfl ?_
    obtain rfl := Option.some.inj h
    obtain ⟨rfl, rfl⟩ := Prod.mk.inj (show ((some (.inr (.inl w5)) : Option aV), M) = (r, M') from hN)
    exact xv_rl E B.1 B.2.1 (show decode prog_1_method_21_code 78 = .ok (.lreturn, 1) by decide +kernel) rfl rfl
  · rw [if_neg q14] at h
    refine xv_icmp_ge E 76 (show decode prog_1_method_21_code 29 = .ok (.if_icmp .ge (47), 3) by decide +kernel) rfl (fun z => absurd z q14) (fun _ => ?_)
    refine xv_b E [.iload_n 3, .aload 4] (pc' := 35) (lv' := [(3, .inl v3), (4, .inr (.inr o4)), (5, .inr (.inl w5)), (7, .inl v7)]) (st' := [.inr (.inr o4), .inl v3]) (by decide +kernel) rfl rfl ?_
    obtain ⟨v_7, h8, h⟩ := bd h
    refine xg_i E 2 1 h8 mw214 (show decode prog_1_method_21_code 35 = .ok (.getfield 126, 3) by decide +kernel) ?_
    refine xv_b E [.iload 7, .isub] (pc' := 41) (lv' := [(3, .inl v3), (4, .inr (.inr o4)), (5, .inr (.inl w5)), (7, .inl v7)]) (st' := [.inl (v_7 - v7), .inl v3]) (by decide +kernel) rfl rfl ?_
    by_cases q13 : (v_7 - v7) ≤ v3
    · rw [if_pos q13] at h
      refine xv_icmp_ge E 56 (show decode prog_1_method_21_code 41 = .ok (.if_icmp .ge (15), 3) by decide +kernel) rfl (fun _ => ?_) (fun z => absurd q13 z)
      refine xv_b E [.iconst 0] (pc' := 57) (lv' := [(3, .inl v3), (4, .inr (.inr o4)), (5, .inr (.inl w5)), (7, .inl v7)]) (st' := [.inl (0 : Int32)]) (by decide +kernel) rfl rfl ?_
      exact xv_w (sb161_57 E B v3 o4 w5 v7 (0 : Int32) M h hN) rfl
    · rw [if_neg q13] at h
      refine xv_icmp_ge E 56 (show decode prog_1_method_21_code 41 = .ok (.if_icmp .ge (15), 3) by decide +kernel) rfl (fun z => absurd z q13) (fun _ => ?_)
      refine xv_b E [.aload 4, .iload_n 3, .iload 7, .iadd] (pc' := 50) (lv' := [(3, .inl v3), (4, .inr (.inr o4)), (5, .inr (.inl w5)), (7, .inl v7)]) (st' := [.inl (v3 + v7), .inr (.inr o4)]) (by decide +kernel) rfl rfl ?_
      obtain ⟨b_11, h12, h⟩ := bd h
      obtain ⟨eh12, th12⟩ := g_o_some h12
      obtain ⟨q_9, h10, h⟩ := bd h
      refine xv_cvo E eh12 2 (as := [.inl (v3 + v7)]) (t55 G l (c_I_some h10)) cd55 mw859 mw333 mw334 (show decode prog_1_method_21_code 50 = .ok (.invokevirtual 240, 3) by decide +kernel) th12 rfl rfl (Nat.le_of_ble_eq_true rfl) ⟨Nat.le_of_ble_eq_true rfl, Nat.le_of_ble_eq_true rfl⟩ ?_
      refine xv_goto E 57 (show decode prog_1_method_21_code 53 = .ok (.goto (4), 3) by decide +kernel) rfl ?_
      exact xv_w (sb161_57 E B v3 o4 w5 v7 q_9.1 q_9.2 h hN) rfl
end
theorem t161 (G : gX) (l : Launch) {as : List aV} {M : hM} {r : Option aV} {M' : hM} (h : f161 as M = some (r, M')) : xM G l ym161 prog_1_method_21_code 9 (some FieldType.long) 2 as M r M' := by
  unfold f161 at h
  split at h
  · have hle : ∀ h as M res, k161 h as M = some res → h_sz M ≤ r_sz res ∧ h_sl M ≤ r_sl res := by
      intro h as M res hb
      unfold k161 at hb
      by_cases e0 : h = 25
      · rw [if_pos e0] at hb
        split at hb
        · exact lb161_25 G l _ _ _ _ M hb
        · cases hb
      · rw [if_neg e0] at hb
        cases hb
    obtain ⟨res, hx, hres⟩ := x_go_ok h
    refine xM_of (by decide) (Nat.le_of_ble_eq_true rfl) ?_ ?_
    · have e1 := lb161_0 G l _ _ _ _ M hx
      have e2 := x_go_le hle hres
      omega
    · intro p e s m args below meth c E B
      refine sb161_0 E B _ _ _ _ M hx (hres _ ?_)
      intro h as M res hb hN
      unfold k161 at hb
      unfold pg161
      by_cases e0 : h = 25
      · rw [if_pos e0] at hb ⊢
        split at hb
        · exact sb161_25 E B _ _ _ _ M hb hN
        · cases hb
      · rw [if_neg e0] at hb ⊢
        cases hb
  · cases h
/-! ZF.count(I)I -/
def ym162 : MethodName := ⟨"ZonedFabric", "count", "(I)I"⟩
theorem cd162 : xCd ym162 prog_1_method_22_code 2 (some FieldType.int) 1 := ⟨mw860, mw71, by decide, by decide, by decide +kernel⟩
def b162_57 (si0 : Int32) (M : hM) : Option xRes :=
  some (.inl (some (.inl si0), M))
def b162_56  (M : hM) : Option xRes :=
  b162_57 (-1 : Int32) M
def b162_0 (a0 : Nat) (v1 : Int32) (M : hM) : Option xRes :=
  if v1 = 0 then
    (Option.bind (g_r M 11 0 (some a0)) fun o_15 =>
    Option.bind (g_i M 9 3 o_15) fun v_17 =>
    some (.inl (some (.inl v_17), M)))
  else
    (if v1 = (9 : Int32) then
      (Option.bind (g_i M 11 5 (some a0)) fun v_12 =>
      some (.inl (some (.inl v_12), M)))
    else
      (if v1 = (10 : Int32) then
        (Option.bind (g_i M 11 7 (some a0)) fun v_9 =>
        some (.inl (some (.inl v_9), M)))
      else
        (if v1 ≤ 0 then
          (b162_56  M)
        else
          (if (9 : Int32) ≤ v1 then
            (b162_56  M)
          else
            (Option.bind (g_r M 11 0 (some a0)) fun o_1 =>
            Option.bind (g_r M 9 4 o_1) fun o_3 =>
            Option.bind (al_i M 20 o_3 v1) fun v_5 =>
            b162_57 v_5 M)))))
def f162 (as : List aV) (M : hM) : xO := match as with
  | [.inr (.inr (some a0)), .inl v1] => x_out (b162_0 a0 v1 M)
  | _ => none
theorem lb162_57 (G : gX) (l : Launch) (si0 : Int32) (M : hM) {res : xRes} (h : b162_57 si0 M = some res) : h_sz M ≤ r_sz res ∧ h_sl M ≤ r_sl res := by
  unfold b162_57 at h
  obtain rfl := Option.some.inj h
  show h_sz M ≤ h_sz M ∧ h_sl M ≤ h_sl M
  omega
theorem lb162_56 (G : gX) (l : Launch)  (M : hM) {res : xRes} (h : b162_56  M = some res) : h_sz M ≤ r_sz res ∧ h_sl M ≤ r_sl res := by
  unfold b162_56 at h
  have e := lb162_57 G l (-1 : Int32) M h
  omega
theorem lb162_0 (G : gX) (l : Launch) (a0 : Nat) (v1 : Int32) (M : hM) {res : xRes} (h : b162_0 a0 v1 M = some res) : h_sz M ≤ r_sz res ∧ h_sl M ≤ r_sl res := by
  unfold b162_0 at h
  by_cases q19 : v1 = 0
  · rw [if_pos q19] at h
    obtain ⟨o_15, h16, h⟩ := bd h
    obtain ⟨v_17, h18, h⟩ := bd h
    obtain rfl := Option.some.inj h
    show h_sz M ≤ h_sz M ∧ h_sl M ≤ h_sl M
    omega
  · rw [if_neg q19] at h
    by_cases q14 : v1 = (9 : Int32)
    · rw [if_pos q14] at h
      obtain ⟨v_12, h13, h⟩ := bd h
      obtain rfl := Option.some.inj h
      show h_sz M ≤ h_sz M ∧ h_sl M ≤ h_sl M
      omega
    · rw [if_neg q14] at h
      by_cases q11 : v1 = (10 : Int32)
      · rw [if_pos q11] at h
        obtain ⟨v_9, h10, h⟩ := bd h
        obtain rfl := Option.some.inj h
        show h_sz M ≤ h_sz M ∧ h_sl M ≤ h_sl M
        omega
      · rw [if_neg q11] at h
        by_cases q8 : v1 ≤ 0
        · rw [if_pos q8] at h
          have e := lb162_56 G l  M h
          omega
        · rw [if_neg q8] at h
          by_cases q7 : (9 : Int32) ≤ v1
          · rw [if_pos q7] at h
            have e := lb162_56 G l  M h
            omega
          · rw [if_neg q7] at h
            obtain ⟨o_1, h2, h⟩ := bd h
            obtain ⟨o_3, h4, h⟩ := bd h
            obtain ⟨v_5, h6, h⟩ := bd h
            have e := lb162_57 G l v_5 M h
            omega
section
variable {p : Program} {l : Launch} {e : Env} {s : State} {m : MethodId} {args : Array Value} {below : List Frame} {meth : Method} {c : Code} {G : gX} {z0 y0 : Nat} {r : Option aV} {M' : hM}
theorem sb162_57 (E : xE G p (xRm 0 (h_sz M' - z0) (h_sl M' - y0)) s m args c prog_1_method_22_code "ZonedFabric" z0 y0 (h_sz M') (h_sl M') 2) (B : xB ym162 (some FieldType.int) meth) (si0 : Int32) (M : hM) {res : xRes} (h : b162_57 si0 M = some res) (hN : xN (fun _ _ _ => False) r M' res) : xV G p l e (xRm 0 (h_sz M' - z0) (h_sl M' - y0)) s m args below meth c z0 y0 (h_sz M') (h_sl M') 2 (MQ below (xQc G r M') args s (h_sz M' - z0) (h_sl M' - y0) (xFr G)) 57 [] [.inl si0] M := by
  unfold b162_57 at h
  obtain rfl := Option.some.inj h
  obtain ⟨rfl, rfl⟩ := Prod.mk.inj (show ((some (.inl si0) : Option aV), M) = (r, M') from hN)
  exact xv_ri E B.1 rfl B.2.1 (show decode prog_1_method_22_code 57 = .ok (.ireturn, 1) by decide +kernel) rfl rfl
theorem sb162_56 (E : xE G p (xRm 0 (h_sz M' - z0) (h_sl M' - y0)) s m args c prog_1_method_22_code "ZonedFabric" z0 y0 (h_sz M') (h_sl M') 2) (B : xB ym162 (some FieldType.int) meth)  (M : hM) {res : xRes} (h : b162_56  M = some res) (hN : xN (fun _ _ _ => False) r M' res) : xV G p l e (xRm 0 (h_sz M' - z0) (h_sl M' - y0)) s m args below meth c z0 y0 (h_sz M') (h_sl M') 2 (MQ below (xQc G r M') args s (h_sz M' - z0) (h_sl M' - y0) (xFr G)) 56 [] [] M := by
  unfold b162_56 at h
  refine xv_b E [.iconst (-1)] (pc' := 57) (lv' := []) (st' := [.inl (-1 : Int32)]) (by decide +kernel) rfl rfl ?_
  exact xv_w (sb162_57 E B (-1 : Int32) M h hN) rfl
theorem sb162_0 (E : xE G p (xRm 0 (h_sz M' - z0) (h_sl M' - y0)) s m args c prog_1_method_22_code "ZonedFabric" z0 y0 (h_sz M') (h_sl M') 2) (B : xB ym162 (some FieldType.int) meth) (a0 : Nat) (v1 : Int32) (M : hM) {res : xRes} (h : b162_0 a0 v1 M = some res) (hN : xN (fun _ _ _ => False) r M' res) : xV G p l e (xRm 0 (h_sz M' - z0) (h_sl M' - y0)) s m args below meth c z0 y0 (h_sz M') (h_sl M') 2 (MQ below (xQc G r M') args s (h_sz M' - z0) (h_sl M' - y0) (xFr G)) 0 [(0, .inr (.inr (some a0))), (1, .inl v1)] [] M := by
  unfold b162_0 at h
  refine xv_b E [.iload_n 1] (pc' := 1) (lv' := [(0, .inr (.inr (some a0))), (1, .inl v1)]) (st' := [.inl v1]) (by decide +kernel) rfl rfl ?_
  by_cases q19 : v1 = 0
  · rw [if_pos q19] at h
    refine xv_if_ne E 12 (show decode prog_1_method_22_code 1 = .ok (.ifCond .ne (11), 3) by decide +kernel) rfl (fun z => absurd q19 z) (fun _ => ?_)
    refine xv_b E [.aload_n 0] (pc' := 5) (lv' := [(0, .inr (.inr (some a0))), (1, .inl v1)]) (st' := [.inr (.inr (some a0))]) (by decide +kernel) rfl rfl ?_
    obtain ⟨o_15, h16, h⟩ := bd h
    refine xg_r E 11 0 h16 mw82 (show decode prog_1_method_22_code 5 = .ok (.getfield 29, 3) by decide +kernel) ?_
    obtain ⟨v_17, h18, h⟩ := bd h
    refine xg_i E 9 3 h18 mw770 (show decode prog_1_method_22_code 8 = .ok (.getfield 135, 3) by decide +kernel) ?_
    obtain rfl := Option.some.inj h
    obtain ⟨rfl, rfl⟩ := Prod.mk.inj (show ((some (.inl v_17) : Option aV), M) = (r, M') from hN)
    exact xv_ri E B.1 rfl B.2.1 (show decode prog_1_method_22_code 11 = .ok (.ireturn, 1) by decide +kernel) rfl rfl
  · rw [if_neg q19] at h
    refine xv_if_ne E 12 (show decode prog_1_method_22_code 1 = .ok (.ifCond .ne (11), 3) by decide +kernel) rfl (fun _ => ?_) (fun z => absurd z q19)
    refine xv_b E [.iload_n 1, .bipush 9] (pc' := 15) (lv' := [(0, .inr (.inr (some a0))), (1, .inl v1)]) (st' := [.inl (9 : Int32), .inl v1]) (by decide +kernel) rfl rfl ?_
    by_cases q14 : v1 = (9 : Int32)
    · rw [if_pos q14] at h
      refine xv_icmp_ne E 23 (show decode prog_1_method_22_code 15 = .ok (.if_icmp .ne (8), 3) by decide +kernel) rfl (fun z => absurd q14 z) (fun _ => ?_)
      refine xv_b E [.aload_n 0] (pc' := 19) (lv' := [(0, .inr (.inr (some a0))), (1, .inl v1)]) (st' := [.inr (.inr (some a0))]) (by decide +kernel) rfl rfl ?_
      obtain ⟨v_12, h13, h⟩ := bd h
      refine xg_i E 11 5 h13 mw138 (show decode prog_1_method_22_code 19 = .ok (.getfield 80, 3) by decide +kernel) ?_
      obtain rfl := Option.some.inj h
      obtain ⟨rfl, rfl⟩ := Prod.mk.inj (show ((some (.inl v_12) : Option aV), M) = (r, M') from hN)
      exact xv_ri E B.1 rfl B.2.1 (show decode prog_1_method_22_code 22 = .ok (.ireturn, 1) by decide +kernel) rfl rfl
    · rw [if_neg q14] at h
      refine xv_icmp_ne E 23 (show decode prog_1_method_22_code 15 = .ok (.if_icmp .ne (8), 3) by decide +kernel) rfl (fun _ => ?_) (fun z => absurd z q14)
      refine xv_b E [.iload_n 1, .bipush 10] (pc' := 26) (lv' := [(0, .inr (.inr (some a0))), (1, .inl v1)]) (st' := [.inl (10 : Int32), .inl v1]) (by decide +kernel) rfl rfl ?_
      by_cases q11 : v1 = (10 : Int32)
      · rw [if_pos q11] at h
        refine xv_icmp_ne E 34 (show decode prog_1_method_22_code 26 = .ok (.if_icmp .ne (8), 3) by decide +kernel) rfl (fun z => absurd q11 z) (fun _ => ?_)
        refine xv_b E [.aload_n 0] (pc' := 30) (lv' := [(0, .inr (.inr (some a0))), (1, .inl v1)]) (st' := [.inr (.inr (some a0))]) (by decide +kernel) rfl rfl ?_
        obtain ⟨v_9, h10, h⟩ := bd h
        refine xg_i E 11 7 h10 mw790 (show decode prog_1_method_22_code 30 = .ok (.getfield 243, 3) by decide +kernel) ?_
        obtain rfl := Option.some.inj h
        obtain ⟨rfl, rfl⟩ := Prod.mk.inj (show ((some (.inl v_9) : Option aV), M) = (r, M') from hN)
        exact xv_ri E B.1 rfl B.2.1 (show decode prog_1_method_22_code 33 = .ok (.ireturn, 1) by decide +kernel) rfl rfl
      · rw [if_neg q11] at h
        refine xv_icmp_ne E 34 (show decode prog_1_method_22_code 26 = .ok (.if_icmp .ne (8), 3) by decide +kernel) rfl (fun _ => ?_) (fun z => absurd z q11)
        refine xv_b E [.iload_n 1] (pc' := 35) (lv' := [(0, .inr (.inr (some a0))), (1, .inl v1)]) (st' := [.inl v1]) (by decide +kernel) rfl rfl ?_
        by_cases q8 : v1 ≤ 0
        · rw [if_pos q8] at h
          refine xv_if_le E 56 (show decode prog_1_method_22_code 35 = .ok (.ifCond .le (21), 3) by decide +kernel) rfl (fun _ => ?_) (fun z => absurd q8 z)
          exact xv_w (sb162_56 E B  M h hN) rfl
        · rw [if_neg q8] at h
          refine xv_if_le E 56 (show decode prog_1_method_22_code 35 = .ok (.ifCond .le (21), 3) by decide +kernel) rfl (fun z => absurd z q8) (fun _ => ?_)
          refine xv_b E [.iload_n 1, .bipush 9] (pc' := 41) (lv' := [(0, .inr (.inr (some a0))), (1, .inl v1)]) (st' := [.inl (9 : Int32), .inl v1]) (by decide +kernel) rfl rfl ?_
          by_cases q7 : (9 : Int32) ≤ v1
          · rw [if_pos q7] at h
            refine xv_icmp_ge E 56 (show decode prog_1_method_22_code 41 = .ok (.if_icmp .ge (15), 3) by decide +kernel) rfl (fun _ => ?_) (fun z => absurd q7 z)
            exact xv_w (sb162_56 E B  M h hN) rfl
          · rw [if_neg q7] at h
            refine xv_icmp_ge E 56 (show decode prog_1_method_22_code 41 = .ok (.if_icmp .ge (15), 3) by decide +kernel) rfl (fun z => absurd z q7) (fun _ => ?_)
            refine xv_b E [.aload_n 0] (pc' := 45) (lv' := [(0, .inr (.inr (some a0))), (1, .inl v1)]) (st' := [.inr (.inr (some a0))]) (by decide +kernel) rfl rfl ?_
            obtain ⟨o_1, h2, h⟩ := bd h
            refine xg_r E 11 0 h2 mw82 (show decode prog_1_method_22_code 45 = .ok (.getfield 29, 3) by decide +kernel) ?_
            obtain ⟨o_3, h4, h⟩ := bd h
            refine xg_r E 9 4 h4 mw861 (show decode prog_1_method_22_code 48 = .ok (.getfield 246, 3) by decide +kernel) ?_
            refine xv_b E [.iload_n 1] (pc' := 52) (lv' := [(0, .inr (.inr (some a0))), (1, .inl v1)]) (st' := [.inl v1, .inr (.inr o_3)]) (by decide +kernel) rfl rfl ?_
            obtain ⟨v_5, h6, h⟩ := bd h
            refine xa_i E h6 (show decode prog_1_method_22_code 52 = .ok (.iaload, 1) by decide +kernel) ?_
            refine xv_goto E 57 (show decode prog_1_method_22_code 53 = .ok (.goto (4), 3) by decide +kernel) rfl ?_
            exact xv_w (sb162_57 E B v_5 M h hN) rfl
end
theorem t162 (G : gX) (l : Launch) {as : List aV} {M : hM} {r : Option aV} {M' : hM} (h : f162 as M = some (r, M')) : xM G l ym162 prog_1_method_22_code 2 (some FieldType.int) 0 as M r M' := by
  unfold f162 at h
  split at h
  · have h := x_out_ok h
    refine xM_of (by decide) (Nat.le_of_ble_eq_true rfl) (lb162_0 G l _ _ M h) ?_
    intro p e s m args below meth c E B
    exact sb162_0 E B _ _ M h rfl
  · cases h
/-! ZF.broken(I)I -/
def ym163 : MethodName := ⟨"ZonedFabric", "broken", "(I)I"⟩
theorem cd163 : xCd ym163 prog_1_method_23_code 2 (some FieldType.int) 1 := ⟨mw862, mw71, by decide, by decide, by decide +kernel⟩
def b163_0 (a0 : Nat) (v1 : Int32) (M : hM) : Option xRes :=
  some (.inl (some (.inl (0 : Int32)), M))
def f163 (as : List aV) (M : hM) : xO := match as with
  | [.inr (.inr (some a0)), .inl v1] => x_out (b163_0 a0 v1 M)
  | _ => none
theorem lb163_0 (G : gX) (l : Launch) (a0 : Nat) (v1 : Int32) (M : hM) {res : xRes} (h : b163_0 a0 v1 M = some res) : h_sz M ≤ r_sz res ∧ h_sl M ≤ r_sl res := by
  unfold b163_0 at h
  obtain rfl := Option.some.inj h
  show h_sz M ≤ h_sz M ∧ h_sl M ≤ h_sl M
  omega
section
variable {p : Program} {l : Launch} {e : Env} {s : State} {m : MethodId} {args : Array Value} {below : List Frame} {meth : Method} {c : Code} {G : gX} {z0 y0 : Nat} {r : Option aV} {M' : hM}
theorem sb163_0 (E : xE G p (xRm 0 (h_sz M' - z0) (h_sl M' - y0)) s m args c prog_1_method_23_code "ZonedFabric" z0 y0 (h_sz M') (h_sl M') 2) (B : xB ym163 (some FieldType.int) meth) (a0 : Nat) (v1 : Int32) (M : hM) {res : xRes} (h : b163_0 a0 v1 M = some res) (hN : xN (fun _ _ _ => False) r M' res) : xV G p l e (xRm 0 (h_sz M' - z0) (h_sl M' - y0)) s m args below meth c z0 y0 (h_sz M') (h_sl M') 2 (MQ below (xQc G r M') args s (h_sz M' - z0) (h_sl M' - y0) (xFr G)) 0 [(0, .inr (.inr (some a0))), (1, .inl v1)] [] M := by
  unfold b163_0 at h
  refine xv_b E [.iconst 0] (pc' := 1) (lv' := [(0, .inr (.inr (some a0))), (1, .inl v1)]) (st' := [.inl (0 : Int32)]) (by decide +kernel) rfl rfl ?_
  obtain rfl := Option.some.inj h
  obtain ⟨rfl, rfl⟩ := Prod.mk.inj (show ((some (.inl (0 : Int32)) : Option aV), M) = (r, M') from hN)
  exact xv_ri E B.1 rfl B.2.1 (show decode prog_1_method_23_code 1 = .ok (.ireturn, 1) by decide +kernel) rfl rfl
end
theorem t163 (G : gX) (l : Launch) {as : List aV} {M : hM} {r : Option aV} {M' : hM} (h : f163 as M = some (r, M')) : xM G l ym163 prog_1_method_23_code 2 (some FieldType.int) 0 as M r M' := by
  unfold f163 at h
  split at h
  · have h := x_out_ok h
    refine xM_of (by decide) (Nat.le_of_ble_eq_true rfl) (lb163_0 G l _ _ M h) ?_
    intro p e s m args below meth c E B
    exact sb163_0 E B _ _ M h rfl
  · cases h
/-! ZFModel.init(III)V -/
def ym164 : MethodName := ⟨"ZonedFabricModel", "<init>", "(III)V"⟩
theorem cd164 : xCd ym164 prog_14_method_1_code 5 none 3 := ⟨mw863, mw864, by decide, by decide, by decide +kernel⟩
def b164_502 (a0 : Nat) (si0 : Int32) (sr1 : Option Nat) (M : hM) : Option xRes :=
  Option.bind (p_i M 12 2 sr1 si0) fun M223 =>
  some (.inr (508, [.inr (.inr (some a0)), .inl (0 : Int32)], M223))
def b164_501 (a0 : Nat) (sr0 : Option Nat) (M : hM) : Option xRes :=
  b164_502 a0 (2 : Int32) sr0 M
def b164_483 (a0 : Nat) (v3 : Int32) (si0 : Int32) (sr1 : Option Nat) (M : hM) : Option xRes :=
  Option.bind (p_i M 12 1 sr1 si0) fun M219 =>
  if v3 < (1 : Int32) then
    (b164_501 a0 (some a0) M219)
  else
    (if (4 : Int32) < v3 then
      (b164_501 a0 (some a0) M219)
    else
      (b164_502 a0 v3 (some a0) M219))
def b164_482 (a0 : Nat) (v3 : Int32) (sr0 : Option Nat) (M : hM) : Option xRes :=
  b164_483 a0 v3 (2 : Int32) sr0 M
def b164_463 (a0 : Nat) (v2 : Int32) (v3 : Int32) (si0 : Int32) (sr1 : Option Nat) (M : hM) : Option xRes :=
  Option.bind (p_i M 12 0 sr1 si0) fun M215 =>
  if v2 < (1 : Int32) then
    (b164_482 a0 v3 (some a0) M215)
  else
    (if (8 : Int32) < v2 then
      (b164_482 a0 v3 (some a0) M215)
    else
      (b164_483 a0 v3 v2 (some a0) M215))
def b164_462 (a0 : Nat) (v2 : Int32) (v3 : Int32) (sr0 : Option Nat) (M : hM) : Option xRes :=
  b164_463 a0 v2 v3 (2 : Int32) sr0 M
def b164_0 (a0 : Nat) (v1 : Int32) (v2 : Int32) (v3 : Int32) (M : hM) : Option xRes :=
  Option.bind (n_a M 20 (11 : Int32)) fun M1 =>
  Option.bind (p_r M1 12 4 (some a0) (some (h_sz M))) fun M3 =>
  Option.bind (n_a M3 20 (3 : Int32)) fun M5 =>
  Option.bind (p_r M5 12 5 (some a0) (some (h_sz M3))) fun M7 =>
  Option.bind (n_a M7 21 (144000 : Int32)) fun M9 =>
  Option.bind (p_r M9 12 6 (some a0) (some (h_sz M7))) fun M11 =>
  Option.bind (n_a M11 20 (1800 : Int32)) fun M13 =>
  Option.bind (p_r M13 12 7 (some a0) (some (h_sz M11))) fun M15 =>
  Option.bind (n_a M15 20 (1800 : Int32)) fun M17 =>
  Option.bind (p_r M17 12 8 (some a0) (some (h_sz M15))) fun M19 =>
  Option.bind (n_a M19 20 (32 : Int32)) fun M21 =>
  Option.bind (p_r M21 12 10 (some a0) (some (h_sz M19))) fun M23 =>
  Option.bind (n_a M23 20 (16 : Int32)) fun M25 =>
  Option.bind (p_r M25 12 11 (some a0) (some (h_sz M23))) fun M27 =>
  Option.bind (n_a M27 22 (16 : Int32)) fun M29 =>
  Option.bind (p_r M29 12 12 (some a0) (some (h_sz M27))) fun M31 =>
  Option.bind (n_a M31 20 (48 : Int32)) fun M33 =>
  Option.bind (p_r M33 12 14 (some a0) (some (h_sz M31))) fun M35 =>
  Option.bind (n_a M35 20 (48 : Int32)) fun M37 =>
  Option.bind (p_r M37 12 15 (some a0) (some (h_sz M35))) fun M39 =>
  Option.bind (n_a M39 20 (192 : Int32)) fun M41 =>
  Option.bind (p_r M41 12 16 (some a0) (some (h_sz M39))) fun M43 =>
  Option.bind (n_a M43 20 (48 : Int32)) fun M45 =>
  Option.bind (p_r M45 12 17 (some a0) (some (h_sz M43))) fun M47 =>
  Option.bind (n_a M47 20 (1536 : Int32)) fun M49 =>
  Option.bind (p_r M49 12 18 (some a0) (some (h_sz M47))) fun M51 =>
  Option.bind (n_a M51 20 (48 : Int32)) fun M53 =>
  Option.bind (p_r M53 12 19 (some a0) (some (h_sz M51))) fun M55 =>
  Option.bind (n_a M55 20 (48 : Int32)) fun M57 =>
  Option.bind (p_r M57 12 20 (some a0) (some (h_sz M55))) fun M59 =>
  Option.bind (n_a M59 20 (48 : Int32)) fun M61 =>
  Option.bind (p_r M61 12 21 (some a0) (some (h_sz M59))) fun M63 =>
  Option.bind (n_a M63 22 (48 : Int32)) fun M65 =>
  Option.bind (p_r M65 12 22 (some a0) (some (h_sz M63))) fun M67 =>
  Option.bind (n_a M67 20 (48 : Int32)) fun M69 =>
  Option.bind (p_r M69 12 23 (some a0) (some (h_sz M67))) fun M71 =>
  Option.bind (n_a M71 20 (48 : Int32)) fun M73 =>
  Option.bind (p_r M73 12 24 (some a0) (some (h_sz M71))) fun M75 =>
  Option.bind (n_a M75 20 (48 : Int32)) fun M77 =>
  Option.bind (p_r M77 12 25 (some a0) (some (h_sz M75))) fun M79 =>
  Option.bind (n_a M79 20 (5 : Int32)) fun M81 =>
  Option.bind (p_r M81 12 26 (some a0) (some (h_sz M79))) fun M83 =>
  Option.bind (n_a M83 22 (25 : Int32)) fun M85 =>
  Option.bind (p_r M85 12 27 (some a0) (some (h_sz M83))) fun M87 =>
  Option.bind (n_a M87 20 (25 : Int32)) fun M89 =>
  Option.bind (p_r M89 12 28 (some a0) (some (h_sz M87))) fun M91 =>
  Option.bind (n_a M91 20 (1600 : Int32)) fun M93 =>
  Option.bind (p_r M93 12 29 (some a0) (some (h_sz M91))) fun M95 =>
  Option.bind (n_a M95 20 (25 : Int32)) fun M97 =>
  Option.bind (p_r M97 12 30 (some a0) (some (h_sz M95))) fun M99 =>
  Option.bind (n_a M99 20 (64 : Int32)) fun M101 =>
  Option.bind (p_r M101 12 31 (some a0) (some (h_sz M99))) fun M103 =>
  Option.bind (n_a M103 20 (25 : Int32)) fun M105 =>
  Option.bind (p_r M105 12 32 (some a0) (some (h_sz M103))) fun M107 =>
  Option.bind (n_a M107 22 (8 : Int32)) fun M109 =>
  Option.bind (p_r M109 12 33 (some a0) (some (h_sz M107))) fun M111 =>
  Option.bind (n_a M111 22 (8 : Int32)) fun M113 =>
  Option.bind (p_r M113 12 34 (some a0) (some (h_sz M111))) fun M115 =>
  Option.bind (n_a M115 20 (8 : Int32)) fun M117 =>
  Option.bind (p_r M117 12 35 (some a0) (some (h_sz M115))) fun M119 =>
  Option.bind (n_a M119 20 (8 : Int32)) fun M121 =>
  Option.bind (p_r M121 12 36 (some a0) (some (h_sz M119))) fun M123 =>
  Option.bind (n_a M123 20 (8 : Int32)) fun M125 =>
  Option.bind (p_r M125 12 37 (some a0) (some (h_sz M123))) fun M127 =>
  Option.bind (n_a M127 20 (64 : Int32)) fun M129 =>
  Option.bind (p_r M129 12 39 (some a0) (some (h_sz M127))) fun M131 =>
  Option.bind (n_a M131 20 (64 : Int32)) fun M133 =>
  Option.bind (p_r M133 12 40 (some a0) (some (h_sz M131))) fun M135 =>
  Option.bind (n_a M135 20 (8 : Int32)) fun M137 =>
  Option.bind (p_r M137 12 41 (some a0) (some (h_sz M135))) fun M139 =>
  Option.bind (n_a M139 23 (256 : Int32)) fun M141 =>
  Option.bind (p_r M141 12 42 (some a0) (some (h_sz M139))) fun M143 =>
  Option.bind (n_a M143 20 (8 : Int32)) fun M145 =>
  Option.bind (p_r M145 12 43 (some a0) (some (h_sz M143))) fun M147 =>
  Option.bind (n_a M147 20 (384 : Int32)) fun M149 =>
  Option.bind (p_r M149 12 44 (some a0) (some (h_sz M147))) fun M151 =>
  Option.bind (n_a M151 23 (192 : Int32)) fun M153 =>
  Option.bind (p_r M153 12 45 (some a0) (some (h_sz M151))) fun M155 =>
  Option.bind (n_a M155 20 (8 : Int32)) fun M157 =>
  Option.bind (p_r M157 12 46 (some a0) (some (h_sz M155))) fun M159 =>
  Option.bind (n_a M159 20 (300 : Int32)) fun M161 =>
  Option.bind (p_r M161 12 48 (some a0) (some (h_sz M159))) fun M163 =>
  Option.bind (n_a M163 20 (300 : Int32)) fun M165 =>
  Option.bind (p_r M165 12 49 (some a0) (some (h_sz M163))) fun M167 =>
  Option.bind (n_a M167 22 (300 : Int32)) fun M169 =>
  Option.bind (p_r M169 12 50 (some a0) (some (h_sz M167))) fun M171 =>
  Option.bind (n_a M171 20 (300 : Int32)) fun M173 =>
  Option.bind (p_r M173 12 51 (some a0) (some (h_sz M171))) fun M175 =>
  Option.bind (n_a M175 20 (300 : Int32)) fun M177 =>
  Option.bind (p_r M177 12 52 (some a0) (some (h_sz M175))) fun M179 =>
  Option.bind (n_a M179 20 (300 : Int32)) fun M181 =>
  Option.bind (p_r M181 12 53 (some a0) (some (h_sz M179))) fun M183 =>
  Option.bind (n_a M183 23 (1200 : Int32)) fun M185 =>
  Option.bind (p_r M185 12 54 (some a0) (some (h_sz M183))) fun M187 =>
  Option.bind (n_a M187 20 (300 : Int32)) fun M189 =>
  Option.bind (p_r M189 12 55 (some a0) (some (h_sz M187))) fun M191 =>
  Option.bind (n_a M191 20 (300 : Int32)) fun M193 =>
  Option.bind (p_r M193 12 56 (some a0) (some (h_sz M191))) fun M195 =>
  Option.bind (n_a M195 20 (300 : Int32)) fun M197 =>
  Option.bind (p_r M197 12 57 (some a0) (some (h_sz M195))) fun M199 =>
  Option.bind (n_a M199 20 (300 : Int32)) fun M201 =>
  Option.bind (p_r M201 12 58 (some a0) (some (h_sz M199))) fun M203 =>
  Option.bind (n_a M203 20 (300 : Int32)) fun M205 =>
  Option.bind (p_r M205 12 59 (some a0) (some (h_sz M203))) fun M207 =>
  Option.bind (n_a M207 20 (300 : Int32)) fun M209 =>
  Option.bind (p_r M209 12 60 (some a0) (some (h_sz M207))) fun M211 =>
  if v1 < (1 : Int32) then
    (b164_462 a0 v2 v3 (some a0) M211)
  else
    (if (5 : Int32) < v1 then
      (b164_462 a0 v2 v3 (some a0) M211)
    else
      (b164_463 a0 v2 v3 v1 (some a0) M211))
def b164_508 (a0 : Nat) (v4 : Int32) (M : hM) : Option xRes :=
  if (48 : Int32) ≤ v4 then
    (some (.inr (548, [.inr (.inr (some a0)), .inl (0 : Int32)], M)))
  else
    (Option.bind (g_r M 12 14 (some a0)) fun o_225 =>
    Option.bind (as_i M 20 o_225 v4 (-1 : Int32)) fun M227 =>
    Option.bind (g_r M227 12 15 (some a0)) fun o_229 =>
    Option.bind (as_i M227 20 o_229 v4 (-1 : Int32)) fun M231 =>
    Option.bind (g_r M231 12 23 (some a0)) fun o_233 =>
    Option.bind (as_i M231 20 o_233 v4 (-1 : Int32)) fun M235 =>
    some (.inr (508, [.inr (.inr (some a0)), .inl (v4 + (1 : Int32))], M235)))
def b164_548 (a0 : Nat) (v4 : Int32) (M : hM) : Option xRes :=
  if (5 : Int32) ≤ v4 then
    (some (.inr (574, [.inr (.inr (some a0)), .inl (0 : Int32)], M)))
  else
    (Option.bind (g_r M 12 26 (some a0)) fun o_238 =>
    Option.bind (as_i M 20 o_238 v4 (v4 + (1 : Int32))) fun M240 =>
    some (.inr (548, [.inr (.inr (some a0)), .inl (v4 + (1 : Int32))], M240)))
def b164_574 (a0 : Nat) (v4 : Int32) (M : hM) : Option xRes :=
  if (1800 : Int32) ≤ v4 then
    (Option.bind (p_i M 12 9 (some a0) (1800 : Int32)) fun M243 =>
    some (.inl (none, M243)))
  else
    (Option.bind (g_r M 12 8 (some a0)) fun o_245 =>
    Option.bind (as_i M 20 o_245 v4 v4) fun M247 =>
    some (.inr (574, [.inr (.inr (some a0)), .inl (v4 + (1 : Int32))], M247)))
def k164 (h : Nat) (as : List aV) (M : hM) : Option xRes :=
  if h = 508 then (match as with | [.inr (.inr (some a0)), .inl v4] => b164_508 a0 v4 M | _ => none) else
  if h = 548 then (match as with | [.inr (.inr (some a0)), .inl v4] => b164_548 a0 v4 M | _ => none) else
  if h = 574 then (match as with | [.inr (.inr (some a0)), .inl v4] => b164_574 a0 v4 M | _ => none) else
  none
def f164 (as : List aV) (M : hM) : xO := match as with
  | [.inr (.inr (some a0)), .inl v1, .inl v2, .inl v3] => x_go k164 (b164_0 a0 v1 v2 v3 M)
  | _ => none
theorem lb164_502 (G : gX) (l : Launch) (a0 : Nat) (si0 : Int32) (sr1 : Option Nat) (M : hM) {res : xRes} (h : b164_502 a0 si0 sr1 M = some res) : h_sz M ≤ r_sz res ∧ h_sl M ≤ r_sl res := by
  unfold b164_502 at h
  obtain ⟨M223, h224, h⟩ := bd h
  have eh224 := p_i_sz h224
  obtain rfl := Option.some.inj h
  show h_sz M ≤ h_sz M223 ∧ h_sl M ≤ h_sl M223
  omega
theorem lb164_501 (G : gX) (l : Launch) (a0 : Nat) (sr0 : Option Nat) (M : hM) {res : xRes} (h : b164_501 a0 sr0 M = some res) : h_sz M ≤ r_sz res ∧ h_sl M ≤ r_sl res := by
  unfold b164_501 at h
  have e := lb164_502 G l a0 (2 : Int32) sr0 M h
  omega
theorem lb164_483 (G : gX) (l : Launch) (a0 : Nat) (v3 : Int32) (si0 : Int32) (sr1 : Option Nat) (M : hM) {res : xRes} (h : b164_483 a0 v3 si0 sr1 M = some res) : h_sz M ≤ r_sz res ∧ h_sl M ≤ r_sl res := by
  unfold b164_483 at h
  obtain ⟨M219, h220, h⟩ := bd h
  have eh220 := p_i_sz h220
  by_cases q222 : v3 < (1 : Int32)
  · rw [if_pos q222] at h
    have e := lb164_501 G l a0 (some a0) M219 h
    omega
  · rw [if_neg q222] at h
    by_cases q221 : (4 : Int32) < v3
    · rw [if_pos q221] at h
      have e := lb164_501 G l a0 (some a0) M219 h
      omega
    · rw [if_neg q221] at h
      have e := lb164_502 G l a0 v3 (some a0) M219 h
      omega
theorem lb164_482 (G : gX) (l : Launch) (a0 : Nat) (v3 : Int32) (sr0 : Option Nat) (M : hM) {res : xRes} (h : b164_482 a0 v3 sr0 M = some res) : h_sz M ≤ r_sz res ∧ h_sl M ≤ r_sl res := by
  unfold b164_482 at h
  have e := lb164_483 G l a0 v3 (2 : Int32) sr0 M h
  omega
theorem lb164_463 (G : gX) (l : Launch) (a0 : Nat) (v2 : Int32) (v3 : Int32) (si0 : Int32) (sr1 : Option Nat) (M : hM) {res : xRes} (h : b164_463 a0 v2 v3 si0 sr1 M = some res) : h_sz M ≤ r_sz res ∧ h_sl M ≤ r_sl res := by
  unfold b164_463 at h
  obtain ⟨M215, h216, h⟩ := bd h
  have eh216 := p_i_sz h216
  by_cases q218 : v2 < (1 : Int32)
  · rw [if_pos q218] at h
    have e := lb164_482 G l a0 v3 (some a0) M215 h
    omega
  · rw [if_neg q218] at h
    by_cases q217 : (8 : Int32) < v2
    · rw [if_pos q217] at h
      have e := lb164_482 G l a0 v3 (some a0) M215 h
      omega
    · rw [if_neg q217] at h
      have e := lb164_483 G l a0 v3 v2 (some a0) M215 h
      omega
theorem lb164_462 (G : gX) (l : Launch) (a0 : Nat) (v2 : Int32) (v3 : Int32) (sr0 : Option Nat) (M : hM) {res : xRes} (h : b164_462 a0 v2 v3 sr0 M = some res) : h_sz M ≤ r_sz res ∧ h_sl M ≤ r_sl res := by
  unfold b164_462 at h
  have e := lb164_463 G l a0 v2 v3 (2 : Int32) sr0 M h
  omega
theorem lb164_0 (G : gX) (l : Launch) (a0 : Nat) (v1 : Int32) (v2 : Int32) (v3 : Int32) (M : hM) {res : xRes} (h : b164_0 a0 v1 v2 v3 M = some res) : h_sz M ≤ r_sz res ∧ h_sl M ≤ r_sl res := by
  unfold b164_0 at h
  obtain ⟨M1, h2, h⟩ := bd h
  have eh2 := n_a_sz h2
  obtain ⟨M3, h4, h⟩ := bd h
  have eh4 := p_r_sz h4
  obtain ⟨M5, h6, h⟩ := bd h
  have eh6 := n_a_sz h6
  obtain ⟨M7, h8, h⟩ := bd h
  have eh8 := p_r_sz h8
  obtain ⟨M9, h10, h⟩ := bd h
  have eh10 := n_a_sz h10
  obtain ⟨M11, h12, h⟩ := bd h
  have eh12 := p_r_sz h12
  obtain ⟨M13, h14, h⟩ := bd h
  have eh14 := n_a_sz h14
  obtain ⟨M15, h16, h⟩ := bd h
  have eh16 := p_r_sz h16
  obtain ⟨M17, h18, h⟩ := bd h
  have eh18 := n_a_sz h18
  obtain ⟨M19, h20, h⟩ := bd h
  have eh20 := p_r_sz h20
  obtain ⟨M21, h22, h⟩ := bd h
  have eh22 := n_a_sz h22
  obtain ⟨M23, h24, h⟩ := bd h
  have eh24 := p_r_sz h24
  obtain ⟨M25, h26, h⟩ := bd h
  have eh26 := n_a_sz h26
  obtain ⟨M27, h28, h⟩ := bd h
  have eh28 := p_r_sz h28
  obtain ⟨M29, h30, h⟩ := bd h
  have eh30 := n_a_sz h30
  obtain ⟨M31, h32, h⟩ := bd h
  have eh32 := p_r_sz h32
  obtain ⟨M33, h34, h⟩ := bd h
  have eh34 := n_a_sz h34
  obtain ⟨M35, h36, h⟩ := bd h
  have eh36 := p_r_sz h36
  obtain ⟨M37, h38, h⟩ := bd h
  have eh38 := n_a_sz h38
  obtain ⟨M39, h40, h⟩ := bd h
  have eh40 := p_r_sz h40
  obtain ⟨M41, h42, h⟩ := bd h
  have eh42 := n_a_sz h42
  obtain ⟨M43, h44, h⟩ := bd h
  have eh44 := p_r_sz h44
  obtain ⟨M45, h46, h⟩ := bd h
  have eh46 := n_a_sz h46
  obtain ⟨M47, h48, h⟩ := bd h
  have eh48 := p_r_sz h48
  obtain ⟨M49, h50, h⟩ := bd h
  have eh50 := n_a_sz h50
  obtain ⟨M51, h52, h⟩ := bd h
  have eh52 := p_r_sz h52
  obtain ⟨M53, h54, h⟩ := bd h
  have eh54 := n_a_sz h54
  obtain ⟨M55, h56, h⟩ := bd h
  have eh56 := p_r_sz h56
  obtain ⟨M57, h58, h⟩ := bd h
  have eh58 := n_a_sz h58
  obtain ⟨M59, h60, h⟩ := bd h
  have eh60 := p_r_sz h60
  obtain ⟨M61, h62, h⟩ := bd h
  have eh62 := n_a_sz h62
  obtain ⟨M63, h64, h⟩ := bd h
  have eh64 := p_r_sz h64
  obtain ⟨M65, h66, h⟩ := bd h
  have eh66 := n_a_sz h66
  obtain ⟨M67, h68, h⟩ := bd h
  have eh68 := p_r_sz h68
  obtain ⟨M69, h70, h⟩ := bd h
  have eh70 := n_a_sz h70
  obtain ⟨M71, h72, h⟩ := bd h
  have eh72 := p_r_sz h72
  obtain ⟨M73, h74, h⟩ := bd h
  have eh74 := n_a_sz h74
  obtain ⟨M75, h76, h⟩ := bd h
  have eh76 := p_r_sz h76
  obtain ⟨M77, h78, h⟩ := bd h
  have eh78 := n_a_sz h78
  obtain ⟨M79, h80, h⟩ := bd h
  have eh80 := p_r_sz h80
  obtain ⟨M81, h82, h⟩ := bd h
  have eh82 := n_a_sz h82
  obtain ⟨M83, h84, h⟩ := bd h
  have eh84 := p_r_sz h84
  obtain ⟨M85, h86, h⟩ := bd h
  have eh86 := n_a_sz h86
  obtain ⟨M87, h88, h⟩ := bd h
  have eh88 := p_r_sz h88
  obtain ⟨M89, h90, h⟩ := bd h
  have eh90 := n_a_sz h90
  obtain ⟨M91, h92, h⟩ := bd h
  have eh92 := p_r_sz h92
  obtain ⟨M93, h94, h⟩ := bd h
  have eh94 := n_a_sz h94
  obtain ⟨M95, h96, h⟩ := bd h
  have eh96 := p_r_sz h96
  obtain ⟨M97, h98, h⟩ := bd h
  have eh98 := n_a_sz h98
  obtain ⟨M99, h100, h⟩ := bd h
  have eh100 := p_r_sz h100
  obtain ⟨M101, h102, h⟩ := bd h
  have eh102 := n_a_sz h102
  obtain ⟨M103, h104, h⟩ := bd h
  have eh104 := p_r_sz h104
  obtain ⟨M105, h106, h⟩ := bd h
  have eh106 := n_a_sz h106
  obtain ⟨M107, h108, h⟩ := bd h
  have eh108 := p_r_sz h108
  obtain ⟨M109, h110, h⟩ := bd h
  have eh110 := n_a_sz h110
  obtain ⟨M111, h112, h⟩ := bd h
  have eh112 := p_r_sz h112
  obtain ⟨M113, h114, h⟩ := bd h
  have eh114 := n_a_sz h114
  obtain ⟨M115, h116, h⟩ := bd h
  have eh116 := p_r_sz h116
  obtain ⟨M117, h118, h⟩ := bd h
  have eh118 := n_a_sz h118
  obtain ⟨M119, h120, h⟩ := bd h
  have eh120 := p_r_sz h120
  obtain ⟨M121, h122, h⟩ := bd h
  have eh122 := n_a_sz h122
  obtain ⟨M123, h124, h⟩ := bd h
  have eh124 := p_r_sz h124
  obtain ⟨M125, h126, h⟩ := bd h
  have eh126 := n_a_sz h126
  obtain ⟨M127, h128, h⟩ := bd h
  have eh128 := p_r_sz h128
  obtain ⟨M129, h130, h⟩ := bd h
  have eh130 := n_a_sz h130
  obtain ⟨M131, h132, h⟩ := bd h
  have eh132 := p_r_sz h132
  obtain ⟨M133, h134, h⟩ := bd h
  have eh134 := n_a_sz h134
  obtain ⟨M135, h136, h⟩ := bd h
  have eh136 := p_r_sz h136
  obtain ⟨M137, h138, h⟩ := bd h
  have eh138 := n_a_sz h138
  obtain ⟨M139, h140, h⟩ := bd h
  have eh140 := p_r_sz h140
  obtain ⟨M141, h142, h⟩ := bd h
  have eh142 := n_a_sz h142
  obtain ⟨M143, h144, h⟩ := bd h
  have eh144 := p_r_sz h144
  obtain ⟨M145, h146, h⟩ := bd h
  have eh146 := n_a_sz h146
  obtain ⟨M147, h148, h⟩ := bd h
  have eh148 := p_r_sz h148
  obtain ⟨M149, h150, h⟩ := bd h
  have eh150 := n_a_sz h150
  obtain ⟨M151, h152, h⟩ := bd h
  have eh152 := p_r_sz h152
  obtain ⟨M153, h154, h⟩ := bd h
  have eh154 := n_a_sz h154
  obtain ⟨M155, h156, h⟩ := bd h
  have eh156 := p_r_sz h156
  obtain ⟨M157, h158, h⟩ := bd h
  have eh158 := n_a_sz h158
  obtain ⟨M159, h160, h⟩ := bd h
  have eh160 := p_r_sz h160
  obtain ⟨M161, h162, h⟩ := bd h
  have eh162 := n_a_sz h162
  obtain ⟨M163, h164, h⟩ := bd h
  have eh164 := p_r_sz h164
  obtain ⟨M165, h166, h⟩ := bd h
  have eh166 := n_a_sz h166
  obtain ⟨M167, h168, h⟩ := bd h
  have eh168 := p_r_sz h168
  obtain ⟨M169, h170, h⟩ := bd h
  have eh170 := n_a_sz h170
  obtain ⟨M171, h172, h⟩ := bd h
  have eh172 := p_r_sz h172
  obtain ⟨M173, h174, h⟩ := bd h
  have eh174 := n_a_sz h174
  obtain ⟨M175, h176, h⟩ := bd h
  have eh176 := p_r_sz h176
  obtain ⟨M177, h178, h⟩ := bd h
  have eh178 := n_a_sz h178
  obtain ⟨M179, h180, h⟩ := bd h
  have eh180 := p_r_sz h180
  obtain ⟨M181, h182, h⟩ := bd h
  have eh182 := n_a_sz h182
  obtain ⟨M183, h184, h⟩ := bd h
  have eh184 := p_r_sz h184
  obtain ⟨M185, h186, h⟩ := bd h
  have eh186 := n_a_sz h186
  obtain ⟨M187, h188, h⟩ := bd h
  have eh188 := p_r_sz h188
  obtain ⟨M189, h190, h⟩ := bd h
  have eh190 := n_a_sz h190
  obtain ⟨M191, h192, h⟩ := bd h
  have eh192 := p_r_sz h192
  obtain ⟨M193, h194, h⟩ := bd h
  have eh194 := n_a_sz h194
  obtain ⟨M195, h196, h⟩ := bd h
  have eh196 := p_r_sz h196
  obtain ⟨M197, h198, h⟩ := bd h
  have eh198 := n_a_sz h198
  obtain ⟨M199, h200, h⟩ := bd h
  have eh200 := p_r_sz h200
  obtain ⟨M201, h202, h⟩ := bd h
  have eh202 := n_a_sz h202
  obtain ⟨M203, h204, h⟩ := bd h
  have eh204 := p_r_sz h204
  obtain ⟨M205, h206, h⟩ := bd h
  have eh206 := n_a_sz h206
  obtain ⟨M207, h208, h⟩ := bd h
  have eh208 := p_r_sz h208
  obtain ⟨M209, h210, h⟩ := bd h
  have eh210 := n_a_sz h210
  obtain ⟨M211, h212, h⟩ := bd h
  have eh212 := p_r_sz h212
  by_cases q214 : v1 < (1 : Int32)
  · rw [if_pos q214] at h
    have e := lb164_462 G l a0 v2 v3 (some a0) M211 h
    omega
  · rw [if_neg q214] at h
    by_cases q213 : (5 : Int32) < v1
    · rw [if_pos q213] at h
      have e := lb164_462 G l a0 v2 v3 (some a0) M211 h
      omega
    · rw [if_neg q213] at h
      have e := lb164_463 G l a0 v2 v3 v1 (some a0) M211 h
      omega
theorem lb164_508 (G : gX) (l : Launch) (a0 : Nat) (v4 : Int32) (M : hM) {res : xRes} (h : b164_508 a0 v4 M = some res) : h_sz M ≤ r_sz res ∧ h_sl M ≤ r_sl res := by
  unfold b164_508 at h
  by_cases q237 : (48 : Int32) ≤ v4
  · rw [if_pos q237] at h
    obtain rfl := Option.some.inj h
    show h_sz M ≤ h_sz M ∧ h_sl M ≤ h_sl M
    omega
  · rw [if_neg q237] at h
    obtain ⟨o_225, h226, h⟩ := bd h
    obtain ⟨M227, h228, h⟩ := bd h
    have eh228 := as_i_sz h228
    obtain ⟨o_229, h230, h⟩ := bd h
    obtain ⟨M231, h232, h⟩ := bd h
    have eh232 := as_i_sz h232
    obtain ⟨o_233, h234, h⟩ := bd h
    obtain ⟨M235, h236, h⟩ := bd h
    have eh236 := as_i_sz h236
    obtain rfl := Option.some.inj h
    show h_sz M ≤ h_sz M235 ∧ h_sl M ≤ h_sl M235
    omega
theorem lb164_548 (G : gX) (l : Launch) (a0 : Nat) (v4 : Int32) (M : hM) {res : xRes} (h : b164_548 a0 v4 M = some res) : h_sz M ≤ r_sz res ∧ h_sl M ≤ r_sl res := by
  unfold b164_548 at h
  by_cases q242 : (5 : Int32) ≤ v4
  · rw [if_pos q242] at h
    obtain rfl := Option.some.inj h
    show h_sz M ≤ h_sz M ∧ h_sl M ≤ h_sl M
    omega
  · rw [if_neg q242] at h
    obtain ⟨o_238, h239, h⟩ := bd h
    obtain ⟨M240, h241, h⟩ := bd h
    have eh241 := as_i_sz h241
    obtain rfl := Option.some.inj h
    show h_sz M ≤ h_sz M240 ∧ h_sl M ≤ h_sl M240
    omega
theorem lb164_574 (G : gX) (l : Launch) (a0 : Nat) (v4 : Int32) (M : hM) {res : xRes} (h : b164_574 a0 v4 M = some res) : h_sz M ≤ r_sz res ∧ h_sl M ≤ r_sl res := by
  unfold b164_574 at h
  by_cases q249 : (1800 : Int32) ≤ v4
  · rw [if_pos q249] at h
    obtain ⟨M243, h244, h⟩ := bd h
    have eh244 := p_i_sz h244
    obtain rfl := Option.some.inj h
    show h_sz M ≤ h_sz M243 ∧ h_sl M ≤ h_sl M243
    omega
  · rw [if_neg q249] at h
    obtain ⟨o_245, h246, h⟩ := bd h
    obtain ⟨M247, h248, h⟩ := bd h
    have eh248 := as_i_sz h248
    obtain rfl := Option.some.inj h
    show h_sz M ≤ h_sz M247 ∧ h_sl M ≤ h_sl M247
    omega
section
variable {p : Program} {l : Launch} {e : Env} {s : State} {m : MethodId} {args : Array Value} {below : List Frame} {meth : Method} {c : Code} {G : gX} {z0 y0 : Nat} {r : Option aV} {M' : hM}
def pg164 (p : Program) (l : Launch) (e : Env) (s : State) (m : MethodId) (args : Array Value) (below : List Frame) (meth : Method) (c : Code) (G : gX) (z0 y0 : Nat) (r : Option aV) (M' : hM) (h : Nat) (as : List aV) (M : hM) : Prop :=
  if h = 508 then (match as with | [.inr (.inr (some a0)), .inl v4] => xV G p l e (xRm 1 (h_sz M' - z0) (h_sl M' - y0)) s m args below meth c z0 y0 (h_sz M') (h_sl M') 5 (MQ below (xQc G r M') args s (h_sz M' - z0) (h_sl M' - y0) (xFr G)) 508 [(0, .inr (.inr (some a0))), (4, .inl v4)] [] M | _ => False) else
  if h = 548 then (match as with | [.inr (.inr (some a0)), .inl v4] => xV G p l e (xRm 1 (h_sz M' - z0) (h_sl M' - y0)) s m args below meth c z0 y0 (h_sz M') (h_sl M') 5 (MQ below (xQc G r M') args s (h_sz M' - z0) (h_sl M' - y0) (xFr G)) 548 [(0, .inr (.inr (some a0))), (4, .inl v4)] [] M | _ => False) else
  if h = 574 then (match as with | [.inr (.inr (some a0)), .inl v4] => xV G p l e (xRm 1 (h_sz M' - z0) (h_sl M' - y0)) s m args below meth c z0 y0 (h_sz M') (h_sl M') 5 (MQ below (xQc G r M') args s (h_sz M' - z0) (h_sl M' - y0) (xFr G)) 574 [(0, .inr (.inr (some a0))), (4, .inl v4)] [] M | _ => False) else
  False
theorem sb164_502 (E : xE G p (xRm 1 (h_sz M' - z0) (h_sl M' - y0)) s m args c prog_14_method_1_code "ZonedFabricModel" z0 y0 (h_sz M') (h_sl M') 5) (B : xB ym164 none meth) (a0 : Nat) (si0 : Int32) (sr1 : Option Nat) (M : hM) {res : xRes} (h : b164_502 a0 si0 sr1 M = some res) (hN : xN (pg164 p l e s m args below meth c G z0 y0 r M') r M' res) : xV G p l e (xRm 1 (h_sz M' - z0) (h_sl M' - y0)) s m args below meth c z0 y0 (h_sz M') (h_sl M') 5 (MQ below (xQc G r M') args s (h_sz M' - z0) (h_sl M' - y0) (xFr G)) 502 [(0, .inr (.inr (some a0)))] [.inl si0, .inr (.inr sr1)] M := by
  unfold b164_502 at h
  obtain ⟨M223, h224, h⟩ := bd h
  refine xp_i E 12 2 h224 mw923 (show decode prog_14_method_1_code 502 = .ok (.putfield 180, 3) by decide +kernel) (Or.inr ⟨rfl, B.2.2, rfl⟩) ?_
  refine xv_b E [.iconst 0, .istore 4] (pc' := 508) (lv' := [(4, .inl (0 : Int32)), (0, .inr (.inr (some a0)))]) (st' := []) (by decide +kernel) rfl rfl ?_
  obtain rfl := Option.some.inj h
  exact xv_w hN rfl
theorem sb164_501 (E : xE G p (xRm 1 (h_sz M' - z0) (h_sl M' - y0)) s m args c prog_14_method_1_code "ZonedFabricModel" z0 y0 (h_sz M') (h_sl M') 5) (B : xB ym164 none meth) (a0 : Nat) (sr0 : Option Nat) (M : hM) {res : xRes} (h : b164_501 a0 sr0 M = some res) (hN : xN (pg164 p l e s m args below meth c G z0 y0 r M') r M' res) : xV G p l e (xRm 1 (h_sz M' - z0) (h_sl M' - y0)) s m args below meth c z0 y0 (h_sz M') (h_sl M') 5 (MQ below (xQc G r M') args s (h_sz M' - z0) (h_sl M' - y0) (xFr G)) 501 [(0, .inr (.inr (some a0)))] [.inr (.inr sr0)] M := by
  unfold b164_501 at h
  refine xv_b E [.iconst 2] (pc' := 502) (lv' := [(0, .inr (.inr (some a0)))]) (st' := [.inl (2 : Int32), .inr (.inr sr0)]) (by decide +kernel) rfl rfl ?_
  exact xv_w (sb164_502 E B a0 (2 : Int32) sr0 M h hN) rfl
theorem sb164_483 (E : xE G p (xRm 1 (h_sz M' - z0) (h_sl M' - y0)) s m args c prog_14_method_1_code "ZonedFabricModel" z0 y0 (h_sz M') (h_sl M') 5) (B : xB ym164 none meth) (a0 : Nat) (v3 : Int32) (si0 : Int32) (sr1 : Option Nat) (M : hM) {res : xRes} (h : b164_483 a0 v3 si0 sr1 M = some res) (hN : xN (pg164 p l e s m args below meth c G z0 y0 r M') r M' res) : xV G p l e (xRm 1 (h_sz M' - z0) (h_sl M' - y0)) s m args below meth c z0 y0 (h_sz M') (h_sl M') 5 (MQ below (xQc G r M') args s (h_sz M' - z0) (h_sl M' - y0) (xFr G)) 483 [(0, .inr (.inr (some a0))), (3, .inl v3)] [.inl si0, .inr (.inr sr1)] M := by
  unfold b164_483 at h
  obtain ⟨M219, h220, h⟩ := bd h
  refine xp_i E 12 1 h220 mw922 (show decode prog_14_method_1_code 483 = .ok (.putfield 177, 3) by decide +kernel) (Or.inr ⟨rfl, B.2.2, rfl⟩) ?_
  refine xv_b E [.aload_n 0, .iload_n 3, .iconst 1] (pc' := 489) (lv' := [(0, .inr (.inr (some a0))), (3, .inl v3)]) (st' := [.inl (1 : Int32), .inl v3, .inr (.inr (some a0))]) (by decide +kernel) rfl rfl ?_
  by_cases q222 : v3 < (1 : Int32)
  · rw [if_pos q222] at h
    refine xv_icmp_lt E 501 (show decode prog_14_method_1_code 489 = .ok (.if_icmp .lt (12), 3) by decide +kernel) rfl (fun _ => ?_) (fun z => absurd q222 z)
    exact xv_w (sb164_501 E B a0 (some a0) M219 h hN) rfl
  · rw [if_neg q222] at h
    refine xv_icmp_lt E 501 (show decode prog_14_method_1_code 489 = .ok (.if_icmp .lt (12), 3) by decide +kernel) rfl (fun z => absurd z q222) (fun _ => ?_)
    refine xv_b E [.iload_n 3, .iconst 4] (pc' := 494) (lv' := [(0, .inr (.inr (some a0))), (3, .inl v3)]) (st' := [.inl (4 : Int32), .inl v3, .inr (.inr (some a0))]) (by decide +kernel) rfl rfl ?_
    by_cases q221 : (4 : Int32) < v3
    · rw [if_pos q221] at h
      refine xv_icmp_gt E 501 (show decode prog_14_method_1_code 494 = .ok (.if_icmp .gt (7), 3) by decide +kernel) rfl (fun _ => ?_) (fun z => absurd q221 z)
      exact xv_w (sb164_501 E B a0 (some a0) M219 h hN) rfl
    · rw [if_neg q221] at h
      refine xv_icmp_gt E 501 (show decode prog_14_method_1_code 494 = .ok (.if_icmp .gt (7), 3) by decide +kernel) rfl (fun z => absurd z q221) (fun _ => ?_)
      refine xv_b E [.iload_n 3] (pc' := 498) (lv' := [(0, .inr (.inr (some a0))), (3, .inl v3)]) (st' := [.inl v3, .inr (.inr (some a0))]) (by decide +kernel) rfl rfl ?_
      refine xv_goto E 502 (show decode prog_14_method_1_code 498 = .ok (.goto (4), 3) by decide +kernel) rfl ?_
      exact xv_w (sb164_502 E B a0 v3 (some a0) M219 h hN) rfl
theorem sb164_482 (E : xE G p (xRm 1 (h_sz M' - z0) (h_sl M' - y0)) s m args c prog_14_method_1_code "ZonedFabricModel" z0 y0 (h_sz M') (h_sl M') 5) (B : xB ym164 none meth) (a0 : Nat) (v3 : Int32) (sr0 : Option Nat) (M : hM) {res : xRes} (h : b164_482 a0 v3 sr0 M = some res) (hN : xN (pg164 p l e s m args below meth c G z0 y0 r M') r M' res) : xV G p l e (xRm 1 (h_sz M' - z0) (h_sl M' - y0)) s m args below meth c z0 y0 (h_sz M') (h_sl M') 5 (MQ below (xQc G r M') args s (h_sz M' - z0) (h_sl M' - y0) (xFr G)) 482 [(0, .inr (.inr (some a0))), (3, .inl v3)] [.inr (.inr sr0)] M := by
  unfold b164_482 at h
  refine xv_b E [.iconst 2] (pc' := 483) (lv' := [(0, .inr (.inr (some a0))), (3, .inl v3)]) (st' := [.inl (2 : Int32), .inr (.inr sr0)]) (by decide +kernel) rfl rfl ?_
  exact xv_w (sb164_483 E B a0 v3 (2 : Int32) sr0 M h hN) rfl
theorem sb164_463 (E : xE G p (xRm 1 (h_sz M' - z0) (h_sl M' - y0)) s m args c prog_14_method_1_code "ZonedFabricModel" z0 y0 (h_sz M') (h_sl M') 5) (B : xB ym164 none meth) (a0 : Nat) (v2 : Int32) (v3 : Int32) (si0 : Int32) (sr1 : Option Nat) (M : hM) {res : xRes} (h : b164_463 a0 v2 v3 si0 sr1 M = some res) (hN : xN (pg164 p l e s m args below meth c G z0 y0 r M') r M' res) : xV G p l e (xRm 1 (h_sz M' - z0) (h_sl M' - y0)) s m args below meth c z0 y0 (h_sz M') (h_sl M') 5 (MQ below (xQc G r M') args s (h_sz M' - z0) (h_sl M' - y0) (xFr G)) 463 [(0, .inr (.inr (some a0))), (2, .inl v2), (3, .inl v3)] [.inl si0, .inr (.inr sr1)] M := by
  unfold b164_463 at h
  obtain ⟨M215, h216, h⟩ := bd h
  refine xp_i E 12 0 h216 mw921 (show decode prog_14_method_1_code 463 = .ok (.putfield 173, 3) by decide +kernel) (Or.inr ⟨rfl, B.2.2, rfl⟩) ?_
  refine xv_b E [.aload_n 0, .iload_n 2, .iconst 1] (pc' := 469) (lv' := [(0, .inr (.inr (some a0))), (2, .inl v2), (3, .inl v3)]) (st' := [.inl (1 : Int32), .inl v2, .inr (.inr (some a0))]) (by decide +kernel) rfl rfl ?_
  by_cases q218 : v2 < (1 : Int32)
  · rw [if_pos q218] at h
    refine xv_icmp_lt E 482 (show decode prog_14_method_1_code 469 = .ok (.if_icmp .lt (13), 3) by decide +kernel) rfl (fun _ => ?_) (fun z => absurd q218 z)
    exact xv_w (sb164_482 E B a0 v3 (some a0) M215 h hN) rfl
  · rw [if_neg q218] at h
    refine xv_icmp_lt E 482 (show decode prog_14_method_1_code 469 = .ok (.if_icmp .lt (13), 3) by decide +kernel) rfl (fun z => absurd z q218) (fun _ => ?_)
    refine xv_b E [.iload_n 2, .bipush 8] (pc' := 475) (lv' := [(0, .inr (.inr (some a0))), (2, .inl v2), (3, .inl v3)]) (st' := [.inl (8 : Int32), .inl v2, .inr (.inr (some a0))]) (by decide +kernel) rfl rfl ?_
    by_cases q217 : (8 : Int32) < v2
    · rw [if_pos q217] at h
      refine xv_icmp_gt E 482 (show decode prog_14_method_1_code 475 = .ok (.if_icmp .gt (7), 3) by decide +kernel) rfl (fun _ => ?_) (fun z => absurd q217 z)
      exact xv_w (sb164_482 E B a0 v3 (some a0) M215 h hN) rfl
    · rw [if_neg q217] at h
      refine xv_icmp_gt E 482 (show decode prog_14_method_1_code 475 = .ok (.if_icmp .gt (7), 3) by decide +kernel) rfl (fun z => absurd z q217) (fun _ => ?_)
      refine xv_b E [.iload_n 2] (pc' := 479) (lv' := [(0, .inr (.inr (some a0))), (2, .inl v2), (3, .inl v3)]) (st' := [.inl v2, .inr (.inr (some a0))]) (by decide +kernel) rfl rfl ?_
      refine xv_goto E 483 (show decode prog_14_method_1_code 479 = .ok (.goto (4), 3) by decide +kernel) rfl ?_
      exact xv_w (sb164_483 E B a0 v3 v2 (some a0) M215 h hN) rfl
theorem sb164_462 (E : xE G p (xRm 1 (h_sz M' - z0) (h_sl M' - y0)) s m args c prog_14_method_1_code "ZonedFabricModel" z0 y0 (h_sz M') (h_sl M') 5) (B : xB ym164 none meth) (a0 : Nat) (v2 : Int32) (v3 : Int32) (sr0 : Option Nat) (M : hM) {res : xRes} (h : b164_462 a0 v2 v3 sr0 M = some res) (hN : xN (pg164 p l e s m args below meth c G z0 y0 r M') r M' res) : xV G p l e (xRm 1 (h_sz M' - z0) (h_sl M' - y0)) s m args below meth c z0 y0 (h_sz M') (h_sl M') 5 (MQ below (xQc G r M') args s (h_sz M' - z0) (h_sl M' - y0) (xFr G)) 462 [(0, .inr (.inr (some a0))), (2, .inl v2), (3, .inl v3)] [.inr (.inr sr0)] M := by
  unfold b164_462 at h
  refine xv_b E [.iconst 2] (pc' := 463) (lv' := [(0, .inr (.inr (some a0))), (2, .inl v2), (3, .inl v3)]) (st' := [.inl (2 : Int32), .inr (.inr sr0)]) (by decide +kernel) rfl rfl ?_
  exact xv_w (sb164_463 E B a0 v2 v3 (2 : Int32) sr0 M h hN) rfl
theorem sb164_0 (E : xE G p (xRm 1 (h_sz M' - z0) (h_sl M' - y0)) s m args c prog_14_method_1_code "ZonedFabricModel" z0 y0 (h_sz M') (h_sl M') 5) (B : xB ym164 none meth) (a0 : Nat) (v1 : Int32) (v2 : Int32) (v3 : Int32) (M : hM) {res : xRes} (h : b164_0 a0 v1 v2 v3 M = some res) (hN : xN (pg164 p l e s m args below meth c G z0 y0 r M') r M' res) : xV G p l e (xRm 1 (h_sz M' - z0) (h_sl M' - y0)) s m args below meth c z0 y0 (h_sz M') (h_sl M') 5 (MQ below (xQc G r M') args s (h_sz M' - z0) (h_sl M' - y0) (xFr G)) 0 [(0, .inr (.inr (some a0))), (1, .inl v1), (2, .inl v2), (3, .inl v3)] [] M := by
  unfold b164_0 at h
  refine xv_b E [.aload_n 0] (pc' := 1) (lv' := [(0, .inr (.inr (some a0))), (1, .inl v1), (2, .inl v2), (3, .inl v3)]) (st' := [.inr (.inr (some a0))]) (by decide +kernel) rfl rfl ?_
  refine xv_co E mw920 mw9 mwObj (show decode prog_14_method_1_code 1 = .ok (.invokespecial 1, 3) by decide +kernel) (Nat.le_of_ble_eq_true rfl) ⟨Nat.le_of_ble_eq_true rfl, Nat.le_of_ble_eq_true rfl⟩ ?_
  refine xv_b E [.aload_n 0, .bipush 11] (pc' := 7) (lv' := [(0, .inr (.inr (some a0))), (1, .inl v1), (2, .inl v2), (3, .inl v3)]) (st' := [.inl (11 : Int32), .inr (.inr (some a0))]) (by decide +kernel) rfl rfl ?_
  obtain ⟨M1, h2, h⟩ := bd h
  refine xn_a E 20 h2 mw2 (show decode prog_14_method_1_code 7 = .ok (.newarray .int, 2) by decide +kernel) ?_
  obtain ⟨M3, h4, h⟩ := bd h
  refine xp_r E 12 4 h4 mw865 (show decode prog_14_method_1_code 9 = .ok (.putfield 7, 3) by decide +kernel) (Or.inr ⟨rfl, B.2.2, rfl⟩) ?_
  refine xv_b E [.aload_n 0, .iconst 3] (pc' := 14) (lv' := [(0, .inr (.inr (some a0))), (1, .inl v1), (2, .inl v2), (3, .inl v3)]) (st' := [.inl (3 : Int32), .inr (.inr (some a0))]) (by decide +kernel) rfl rfl ?_
  obtain ⟨M5, h6, h⟩ := bd h
  refine xn_a E 20 h6 mw2 (show decode prog_14_method_1_code 14 = .ok (.newarray .int, 2) by decide +kernel) ?_
  obtain ⟨M7, h8, h⟩ := bd h
  refine xp_r E 12 5 h8 mw866 (show decode prog_14_method_1_code 16 = .ok (.putfield 13, 3) by decide +kernel) (Or.inr ⟨rfl, B.2.2, rfl⟩) ?_
  refine xv_b E [.aload_n 0] (pc' := 20) (lv' := [(0, .inr (.inr (some a0))), (1, .inl v1), (2, .inl v2), (3, .inl v3)]) (st' := [.inr (.inr (some a0))]) (by decide +kernel) rfl rfl ?_
  refine xv_ldc E (144000 : Int32) mw919 (show decode prog_14_method_1_code 20 = .ok (.ldc 16, 2) by decide +kernel) ?_
  obtain ⟨M9, h10, h⟩ := bd h
  refine xn_a E 21 h10 mw47 (show decode prog_14_method_1_code 22 = .ok (.newarray .byte, 2) by decide +kernel) ?_
  obtain ⟨M11, h12, h⟩ := bd h
  refine xp_r E 12 6 h12 mw867 (show decode prog_14_method_1_code 24 = .ok (.putfield 17, 3) by decide +kernel) (Or.inr ⟨rfl, B.2.2, rfl⟩) ?_
  refine xv_b E [.aload_n 0, .sipush 1800] (pc' := 31) (lv' := [(0, .inr (.inr (some a0))), (1, .inl v1), (2, .inl v2), (3, .inl v3)]) (st' := [.inl (1800 : Int32), .inr (.inr (some a0))]) (by decide +kernel) rfl rfl ?_
  obtain ⟨M13, h14, h⟩ := bd h
  refine xn_a E 20 h14 mw2 (show decode prog_14_method_1_code 31 = .ok (.newarray .int, 2) by decide +kernel) ?_
  obtain ⟨M15, h16, h⟩ := bd h
  refine xp_r E 12 7 h16 mw868 (show decode prog_14_method_1_code 33 = .ok (.putfield 21, 3) by decide +kernel) (Or.inr ⟨rfl, B.2.2, rfl⟩) ?_
  refine xv_b E [.aload_n 0, .sipush 1800] (pc' := 40) (lv' := [(0, .inr (.inr (some a0))), (1, .inl v1), (2, .inl v2), (3, .inl v3)]) (st' := [.inl (1800 : Int32), .inr (.inr (some a0))]) (by decide +kernel) rfl rfl ?_
  obtain ⟨M17, h18, h⟩ := bd h
  refine xn_a E 20 h18 mw2 (show decode prog_14_method_1_code 40 = .ok (.newarray .int, 2) by decide +kernel) ?_
  obtain ⟨M19, h20, h⟩ := bd h
  refine xp_r E 12 8 h20 mw869 (show decode prog_14_method_1_code 42 = .ok (.putfield 24, 3) by decide +kernel) (Or.inr ⟨rfl, B.2.2, rfl⟩) ?_
  refine xv_b E [.aload_n 0, .bipush 32] (pc' := 48) (lv' := [(0, .inr (.inr (some a0))), (1, .inl v1), (2, .inl v2), (3, .inl v3)]) (st' := [.inl (32 : Int32), .inr (.inr (some a0))]) (by decide +kernel) rfl rfl ?_
  obtain ⟨M21, h22, h⟩ := bd h
  refine xn_a E 20 h22 mw2 (show decode prog_14_method_1_code 48 = .ok (.newarray .int, 2) by decide +kernel) ?_
  obtain ⟨M23, h24, h⟩ := bd h
  refine xp_r E 12 10 h24 mw870 (show decode prog_14_method_1_code 50 = .ok (.putfield 27, 3) by decide +kernel) (Or.inr ⟨rfl, B.2.2, rfl⟩) ?_
  refine xv_b E [.aload_n 0, .bipush 16] (pc' := 56) (lv' := [(0, .inr (.inr (some a0))), (1, .inl v1), (2, .inl v2), (3, .inl v3)]) (st' := [.inl (16 : Int32), .inr (.inr (some a0))]) (by decide +kernel) rfl rfl ?_
  obtain ⟨M25, h26, h⟩ := bd h
  refine xn_a E 20 h26 mw2 (show decode prog_14_method_1_code 56 = .ok (.newarray .int, 2) by decide +kernel) ?_
  obtain ⟨M27, h28, h⟩ := bd h
  refine xp_r E 12 11 h28 mw871 (show decode prog_14_method_1_code 58 = .ok (.putfield 30, 3) by decide +kernel) (Or.inr ⟨rfl, B.2.2, rfl⟩) ?_
  refine xv_b E [.aload_n 0, .bipush 16] (pc' := 64) (lv' := [(0, .inr (.inr (some a0))), (1, .inl v1), (2, .inl v2), (3, .inl v3)]) (st' := [.inl (16 : Int32), .inr (.inr (some a0))]) (by decide +kernel) rfl rfl ?_
  obtain ⟨M29, h30, h⟩ := bd h
  refine xn_a E 22 h30 mw872 (show decode prog_14_method_1_code 64 = .ok (.newarray .boolean, 2) by decide +kernel) ?_
  obtain ⟨M31, h32, h⟩ := bd h
  refine xp_r E 12 12 h32 mw873 (show decode prog_14_method_1_code 66 = .ok (.putfield 33, 3) by decide +kernel) (Or.inr ⟨rfl, B.2.2, rfl⟩) ?_
  refine xv_b E [.aload_n 0, .bipush 48] (pc' := 72) (lv' := [(0, .inr (.inr (some a0))), (1, .inl v1), (2, .inl v2), (3, .inl v3)]) (st' := [.inl (48 : Int32), .inr (.inr (some a0))]) (by decide +kernel) rfl rfl ?_
  obtain ⟨M33, h34, h⟩ := bd h
  refine xn_a E 20 h34 mw2 (show decode prog_14_method_1_code 72 = .ok (.newarray .int, 2) by decide +kernel) ?_
  obtain ⟨M35, h36, h⟩ := bd h
  refine xp_r E 12 14 h36 mw874 (show decode prog_14_method_1_code 74 = .ok (.putfield 37, 3) by decide +kernel) (Or.inr ⟨rfl, B.2.2, rfl⟩) ?_
  refine xv_b E [.aload_n 0, .bipush 48] (pc' := 80) (lv' := [(0, .inr (.inr (some a0))), (1, .inl v1), (2, .inl v2), (3, .inl v3)]) (st' := [.inl (48 : Int32), .inr (.inr (some a0))]) (by decide +kernel) rfl rfl ?_
  obtain ⟨M37, h38, h⟩ := bd h
  refine xn_a E 20 h38 mw2 (show decode prog_14_method_1_code 80 = .ok (.newarray .int, 2) by decide +kernel) ?_
  obtain ⟨M39, h40, h⟩ := bd h
  refine xp_r E 12 15 h40 mw875 (show decode prog_14_method_1_code 82 = .ok (.putfield 40, 3) by decide +kernel) (Or.inr ⟨rfl, B.2.2, rfl⟩) ?_
  refine xv_b E [.aload_n 0, .sipush 192] (pc' := 89) (lv' := [(0, .inr (.inr (some a0))), (1, .inl v1), (2, .inl v2), (3, .inl v3)]) (st' := [.inl (192 : Int32), .inr (.inr (some a0))]) (by decide +kernel) rfl rfl ?_
  obtain ⟨M41, h42, h⟩ := bd h
  refine xn_a E 20 h42 mw2 (show decode prog_14_method_1_code 89 = .ok (.newarray .int, 2) by decide +kernel) ?_
  obtain ⟨M43, h44, h⟩ := bd h
  refine xp_r E 12 16 h44 mw876 (show decode prog_14_method_1_code 91 = .ok (.putfield 43, 3) by decide +kernel) (Or.inr ⟨rfl, B.2.2, rfl⟩) ?_
  refine xv_b E [.aload_n 0, .bipush 48] (pc' := 97) (lv' := [(0, .inr (.inr (some a0))), (1, .inl v1), (2, .inl v2), (3, .inl v3)]) (st' := [.inl (48 : Int32), .inr (.inr (some a0))]) (by decide +kernel) rfl rfl ?_
  obtain ⟨M45, h46, h⟩ := bd h
  refine xn_a E 20 h46 mw2 (show decode prog_14_method_1_code 97 = .ok (.newarray .int, 2) by decide +kernel) ?_
  obtain ⟨M47, h48, h⟩ := bd h
  refine xp_r E 12 17 h48 mw877 (show decode prog_14_method_1_code 99 = .ok (.putfield 46, 3) by decide +kernel) (Or.inr ⟨rfl, B.2.2, rfl⟩) ?_
  refine xv_b E [.aload_n 0, .sipush 1536] (pc' := 106) (lv' := [(0, .inr (.inr (some a0))), (1, .inl v1), (2, .inl v2), (3, .inl v3)]) (st' := [.inl (1536 : Int32), .inr (.inr (some a0))]) (by decide +kernel) rfl rfl ?_
  obtain ⟨M49, h50, h⟩ := bd h
  refine xn_a E 20 h50 mw2 (show decode prog_14_method_1_code 106 = .ok (.newarray .int, 2) by decide +kernel) ?_
  obtain ⟨M51, h52, h⟩ := bd h
  refine xp_r E 12 18 h52 mw878 (show decode prog_14_method_1_code 108 = .ok (.putfield 49, 3) by decide +kernel) (Or.inr ⟨rfl, B.2.2, rfl⟩) ?_
  refine xv_b E [.aload_n 0, .bipush 48] (pc' := 114) (lv' := [(0, .inr (.inr (some a0))), (1, .inl v1), (2, .inl v2), (3, .inl v3)]) (st' := [.inl (48 : Int32), .inr (.inr (some a0))]) (by decide +kernel) rfl rfl ?_
  obtain ⟨M53, h54, h⟩ := bd h
  refine xn_a E 20 h54 mw2 (show decode prog_14_method_1_code 114 = .ok (.newarray .int, 2) by decide +kernel) ?_
  obtain ⟨M55, h56, h⟩ := bd h
  refine xp_r E 12 19 h56 mw879 (show decode prog_14_method_1_code 116 = .ok (.putfield 52, 3) by decide +kernel) (Or.inr ⟨rfl, B.2.2, rfl⟩) ?_
  refine xv_b E [.aload_n 0, .bipush 48] (pc' := 122) (lv' := [(0, .inr (.inr (some a0))), (1, .inl v1), (2, .inl v2), (3, .inl v3)]) (st' := [.inl (48 : Int32), .inr (.inr (some a0))]) (by decide +kernel) rfl rfl ?_
  obtain ⟨M57, h58, h⟩ := bd h
  refine xn_a E 20 h58 mw2 (show decode prog_14_method_1_code 122 = .ok (.newarray .int, 2) by decide +kernel) ?_
  obtain ⟨M59, h60, h⟩ := bd h
  refine xp_r E 12 20 h60 mw880 (show decode prog_14_method_1_code 124 = .ok (.putfield 55, 3) by decide +kernel) (Or.inr ⟨rfl, B.2.2, rfl⟩) ?_
  refine xv_b E [.aload_n 0, .bipush 48] (pc' := 130) (lv' := [(0, .inr (.inr (some a0))), (1, .inl v1), (2, .inl v2), (3, .inl v3)]) (st' := [.inl (48 : Int32), .inr (.inr (some a0))]) (by decide +kernel) rfl rfl ?_
  obtain ⟨M61, h62, h⟩ := bd h
  refine xn_a E 20 h62 mw2 (show decode prog_14_method_1_code 130 = .ok (.newarray .int, 2) by decide +kernel) ?_
  obtain ⟨M63, h64, h⟩ := bd h
  refine xp_r E 12 21 h64 mw881 (show decode prog_14_method_1_code 132 = .ok (.putfield 58, 3) by decide +kernel) (Or.inr ⟨rfl, B.2.2, rfl⟩) ?_
  refine xv_b E [.aload_n 0, .bipush 48] (pc' := 138) (lv' := [(0, .inr (.inr (some a0))), (1, .inl v1), (2, .inl v2), (3, .inl v3)]) (st' := [.inl (48 : Int32), .inr (.inr (some a0))]) (by decide +kernel) rfl rfl ?_
  obtain ⟨M65, h66, h⟩ := bd h
  refine xn_a E 22 h66 mw872 (show decode prog_14_method_1_code 138 = .ok (.newarray .boolean, 2) by decide +kernel) ?_
  obtain ⟨M67, h68, h⟩ := bd h
  refine xp_r E 12 22 h68 mw882 (show decode prog_14_method_1_code 140 = .ok (.putfield 61, 3) by decide +kernel) (Or.inr ⟨rfl, B.2.2, rfl⟩) ?_
  refine xv_b E [.aload_n 0, .bipush 48] (pc' := 146) (lv' := [(0, .inr (.inr (some a0))), (1, .inl v1), (2, .inl v2), (3, .inl v3)]) (st' := [.inl (48 : Int32), .inr (.inr (some a0))]) (by decide +kernel) rfl rfl ?_
  obtain ⟨M69, h70, h⟩ := bd h
  refine xn_a E 20 h70 mw2 (show decode prog_14_method_1_code 146 = .ok (.newarray .int, 2) by decide +kernel) ?_
  obtain ⟨M71, h72, h⟩ := bd h
  refine xp_r E 12 23 h72 mw883 (show decode prog_14_method_1_code 148 = .ok (.putfield 64, 3) by decide +kernel) (Or.inr ⟨rfl, B.2.2, rfl⟩) ?_
  refine xv_b E [.aload_n 0, .bipush 48] (pc' := 154) (lv' := [(0, .inr (.inr (some a0))), (1, .inl v1), (2, .inl v2), (3, .inl v3)]) (st' := [.inl (48 : Int32), .inr (.inr (some a0))]) (by decide +kernel) rfl rfl ?_
  obtain ⟨M73, h74, h⟩ := bd h
  refine xn_a E 20 h74 mw2 (show decode prog_14_method_1_code 154 = .ok (.newarray .int, 2) by decide +kernel) ?_
  obtain ⟨M75, h76, h⟩ := bd h
  refine xp_r E 12 24 h76 mw884 (show decode prog_14_method_1_code 156 = .ok (.putfield 67, 3) by decide +kernel) (Or.inr ⟨rfl, B.2.2, rfl⟩) ?_
  refine xv_b E [.aload_n 0, .bipush 48] (pc' := 162) (lv' := [(0, .inr (.inr (some a0))), (1, .inl v1), (2, .inl v2), (3, .inl v3)]) (st' := [.inl (48 : Int32), .inr (.inr (some a0))]) (by decide +kernel) rfl rfl ?_
  obtain ⟨M77, h78, h⟩ := bd h
  refine xn_a E 20 h78 mw2 (show decode prog_14_method_1_code 162 = .ok (.newarray .int, 2) by decide +kernel) ?_
  obtain ⟨M79, h80, h⟩ := bd h
  refine xp_r E 12 25 h80 mw885 (show decode prog_14_method_1_code 164 = .ok (.putfield 70, 3) by decide +kernel) (Or.inr ⟨rfl, B.2.2, rfl⟩) ?_
  refine xv_b E [.aload_n 0, .iconst 5] (pc' := 169) (lv' := [(0, .inr (.inr (some a0))), (1, .inl v1), (2, .inl v2), (3, .inl v3)]) (st' := [.inl (5 : Int32), .inr (.inr (some a0))]) (by decide +kernel) rfl rfl ?_
  obtain ⟨M81, h82, h⟩ := bd h
  refine xn_a E 20 h82 mw2 (show decode prog_14_method_1_code 169 = .ok (.newarray .int, 2) by decide +kernel) ?_
  obtain ⟨M83, h84, h⟩ := bd h
  refine xp_r E 12 26 h84 mw886 (show decode prog_14_method_1_code 171 = .ok (.putfield 73, 3) by decide +kernel) (Or.inr ⟨rfl, B.2.2, rfl⟩) ?_
  refine xv_b E [.aload_n 0, .bipush 25] (pc' := 177) (lv' := [(0, .inr (.inr (some a0))), (1, .inl v1), (2, .inl v2), (3, .inl v3)]) (st' := [.inl (25 : Int32), .inr (.inr (some a0))]) (by decide +kernel) rfl rfl ?_
  obtain ⟨M85, h86, h⟩ := bd h
  refine xn_a E 22 h86 mw872 (show decode prog_14_method_1_code 177 = .ok (.newarray .boolean, 2) by decide +kernel) ?_
  obtain ⟨M87, h88, h⟩ := bd h
  refine xp_r E 12 27 h88 mw887 (show decode prog_14_method_1_code 179 = .ok (.putfield 76, 3) by decide +kernel) (Or.inr ⟨rfl, B.2.2, rfl⟩) ?_
  refine xv_b E [.aload_n 0, .bipush 25] (pc' := 185) (lv' := [(0, .inr (.inr (some a0))), (1, .inl v1), (2, .inl v2), (3, .inl v3)]) (st' := [.inl (25 : Int32), .inr (.inr (some a0))]) (by decide +kernel) rfl rfl ?_
  obtain ⟨M89, h90, h⟩ := bd h
  refine xn_a E 20 h90 mw2 (show decode prog_14_method_1_code 185 = .ok (.newarray .int, 2) by decide +kernel) ?_
  obtain ⟨M91, h92, h⟩ := bd h
  refine xp_r E 12 28 h92 mw888 (show decode prog_14_method_1_code 187 = .ok (.putfield 79, 3) by decide +kernel) (Or.inr ⟨rfl, B.2.2, rfl⟩) ?_
  refine xv_b E [.aload_n 0, .sipush 1600] (pc' := 194) (lv' := [(0, .inr (.inr (some a0))), (1, .inl v1), (2, .inl v2), (3, .inl v3)]) (st' := [.inl (1600 : Int32), .inr (.inr (some a0))]) (by decide +kernel) rfl rfl ?_
  obtain ⟨M93, h94, h⟩ := bd h
  refine xn_a E 20 h94 mw2 (show decode prog_14_method_1_code 194 = .ok (.newarray .int, 2) by decide +kernel) ?_
  obtain ⟨M95, h96, h⟩ := bd h
  refine xp_r E 12 29 h96 mw889 (show decode prog_14_method_1_code 196 = .ok (.putfield 82, 3) by decide +kernel) (Or.inr ⟨rfl, B.2.2, rfl⟩) ?_
  refine xv_b E [.aload_n 0, .bipush 25] (pc' := 202) (lv' := [(0, .inr (.inr (some a0))), (1, .inl v1), (2, .inl v2), (3, .inl v3)]) (st' := [.inl (25 : Int32), .inr (.inr (some a0))]) (by decide +kernel) rfl rfl ?_
  obtain ⟨M97, h98, h⟩ := bd h
  refine xn_a E 20 h98 mw2 (show decode prog_14_method_1_code 202 = .ok (.newarray .int, 2) by decide +kernel) ?_
  obtain ⟨M99, h100, h⟩ := bd h
  refine xp_r E 12 30 h100 mw890 (show decode prog_14_method_1_code 204 = .ok (.putfield 85, 3) by decide +kernel) (Or.inr ⟨rfl, B.2.2, rfl⟩) ?_
  refine xv_b E [.aload_n 0, .bipush 64] (pc' := 210) (lv' := [(0, .inr (.inr (some a0))), (1, .inl v1), (2, .inl v2), (3, .inl v3)]) (st' := [.inl (64 : Int32), .inr (.inr (some a0))]) (by decide +kernel) rfl rfl ?_
  obtain ⟨M101, h102, h⟩ := bd h
  refine xn_a E 20 h102 mw2 (show decode prog_14_method_1_code 210 = .ok (.newarray .int, 2) by decide +kernel) ?_
  obtain ⟨M103, h104, h⟩ := bd h
  refine xp_r E 12 31 h104 mw891 (show decode prog_14_method_1_code 212 = .ok (.putfield 88, 3) by decide +kernel) (Or.inr ⟨rfl, B.2.2, rfl⟩) ?_
  refine xv_b E [.aload_n 0, .bipush 25] (pc' := 218) (lv' := [(0, .inr (.inr (some a0))), (1, .inl v1), (2, .inl v2), (3, .inl v3)]) (st' := [.inl (25 : Int32), .inr (.inr (some a0))]) (by decide +kernel) rfl rfl ?_
  obtain ⟨M105, h106, h⟩ := bd h
  refine xn_a E 20 h106 mw2 (show decode prog_14_method_1_code 218 = .ok (.newarray .int, 2) by decide +kernel) ?_
  obtain ⟨M107, h108, h⟩ := bd h
  refine xp_r E 12 32 h108 mw892 (show decode prog_14_method_1_code 220 = .ok (.putfield 91, 3) by decide +kernel) (Or.inr ⟨rfl, B.2.2, rfl⟩) ?_
  refine xv_b E [.aload_n 0, .bipush 8] (pc' := 226) (lv' := [(0, .inr (.inr (some a0))), (1, .inl v1), (2, .inl v2), (3, .inl v3)]) (st' := [.inl (8 : Int32), .inr (.inr (some a0))]) (by decide +kernel) rfl rfl ?_
  obtain ⟨M109, h110, h⟩ := bd h
  refine xn_a E 22 h110 mw872 (show decode prog_14_method_1_code 226 = .ok (.newarray .boolean, 2) by decide +kernel) ?_
  obtain ⟨M111, h112, h⟩ := bd h
  refine xp_r E 12 33 h112 mw893 (show decode prog_14_method_1_code 228 = .ok (.putfield 94, 3) by decide +kernel) (Or.inr ⟨rfl, B.2.2, rfl⟩) ?_
  refine xv_b E [.aload_n 0, .bipush 8] (pc' := 234) (lv' := [(0, .inr (.inr (some a0))), (1, .inl v1), (2, .inl v2), (3, .inl v3)]) (st' := [.inl (8 : Int32), .inr (.inr (some a0))]) (by decide +kernel) rfl rfl ?_
  obtain ⟨M113, h114, h⟩ := bd h
  refine xn_a E 22 h114 mw872 (show decode prog_14_method_1_code 234 = .ok (.newarray .boolean, 2) by decide +kernel) ?_
  obtain ⟨M115, h116, h⟩ := bd h
  refine xp_r E 12 34 h116 mw894 (show decode prog_14_method_1_code 236 = .ok (.putfield 97, 3) by decide +kernel) (Or.inr ⟨rfl, B.2.2, rfl⟩) ?_
  refine xv_b E [.aload_n 0, .bipush 8] (pc' := 242) (lv' := [(0, .inr (.inr (some a0))), (1, .inl v1), (2, .inl v2), (3, .inl v3)]) (st' := [.inl (8 : Int32), .inr (.inr (some a0))]) (by decide +kernel) rfl rfl ?_
  obtain ⟨M117, h118, h⟩ := bd h
  refine xn_a E 20 h118 mw2 (show decode prog_14_method_1_code 242 = .ok (.newarray .int, 2) by decide +kernel) ?_
  obtain ⟨M119, h120, h⟩ := bd h
  refine xp_r E 12 35 h120 mw895 (show decode prog_14_method_1_code 244 = .ok (.putfield 100, 3) by decide +kernel) (Or.inr ⟨rfl, B.2.2, rfl⟩) ?_
  refine xv_b E [.aload_n 0, .bipush 8] (pc' := 250) (lv' := [(0, .inr (.inr (some a0))), (1, .inl v1), (2, .inl v2), (3, .inl v3)]) (st' := [.inl (8 : Int32), .inr (.inr (some a0))]) (by decide +kernel) rfl rfl ?_
  obtain ⟨M121, h122, h⟩ := bd h
  refine xn_a E 20 h122 mw2 (show decode prog_14_method_1_code 250 = .ok (.newarray .int, 2) by decide +kernel) ?_
  obtain ⟨M123, h124, h⟩ := bd h
  refine xp_r E 12 36 h124 mw896 (show decode prog_14_method_1_code 252 = .ok (.putfield 103, 3) by decide +kernel) (Or.inr ⟨rfl, B.2.2, rfl⟩) ?_
  refine xv_b E [.aload_n 0, .bipush 8] (pc' := 258) (lv' := [(0, .inr (.inr (some a0))), (1, .inl v1), (2, .inl v2), (3, .inl v3)]) (st' := [.inl (8 : Int32), .inr (.inr (some a0))]) (by decide +kernel) rfl rfl ?_
  obtain ⟨M125, h126, h⟩ := bd h
  refine xn_a E 20 h126 mw2 (show decode prog_14_method_1_code 258 = .ok (.newarray .int, 2) by decide +kernel) ?_
  obtain ⟨M127, h128, h⟩ := bd h
  refine xp_r E 12 37 h128 mw897 (show decode prog_14_method_1_code 260 = .ok (.putfield 106, 3) by decide +kernel) (Or.inr ⟨rfl, B.2.2, rfl⟩) ?_
  refine xv_b E [.aload_n 0, .bipush 64] (pc' := 266) (lv' := [(0, .inr (.inr (some a0))), (1, .inl v1), (2, .inl v2), (3, .inl v3)]) (st' := [.inl (64 : Int32), .inr (.inr (some a0))]) (by decide +kernel) rfl rfl ?_
  obtain ⟨M129, h130, h⟩ := bd h
  refine xn_a E 20 h130 mw2 (show decode prog_14_method_1_code 266 = .ok (.newarray .int, 2) by decide +kernel) ?_
  obtain ⟨M131, h132, h⟩ := bd h
  refine xp_r E 12 39 h132 mw898 (show decode prog_14_method_1_code 268 = .ok (.putfield 109, 3) by decide +kernel) (Or.inr ⟨rfl, B.2.2, rfl⟩) ?_
  refine xv_b E [.aload_n 0, .bipush 64] (pc' := 274) (lv' := [(0, .inr (.inr (some a0))), (1, .inl v1), (2, .inl v2), (3, .inl v3)]) (st' := [.inl (64 : Int32), .inr (.inr (some a0))]) (by decide +kernel) rfl rfl ?_
  obtain ⟨M133, h134, h⟩ := bd h
  refine xn_a E 20 h134 mw2 (show decode prog_14_method_1_code 274 = .ok (.newarray .int, 2) by decide +kernel) ?_
  obtain ⟨M135, h136, h⟩ := bd h
  refine xp_r E 12 40 h136 mw899 (show decode prog_14_method_1_code 276 = .ok (.putfield 112, 3) by decide +kernel) (Or.inr ⟨rfl, B.2.2, rfl⟩) ?_
  refine xv_b E [.aload_n 0, .bipush 8] (pc' := 282) (lv' := [(0, .inr (.inr (some a0))), (1, .inl v1), (2, .inl v2), (3, .inl v3)]) (st' := [.inl (8 : Int32), .inr (.inr (some a0))]) (by decide +kernel) rfl rfl ?_
  obtain ⟨M137, h138, h⟩ := bd h
  refine xn_a E 20 h138 mw2 (show decode prog_14_method_1_code 282 = .ok (.newarray .int, 2) by decide +kernel) ?_
  obtain ⟨M139, h140, h⟩ := bd h
  refine xp_r E 12 41 h140 mw900 (show decode prog_14_method_1_code 284 = .ok (.putfield 115, 3) by decide +kernel) (Or.inr ⟨rfl, B.2.2, rfl⟩) ?_
  refine xv_b E [.aload_n 0, .sipush 256] (pc' := 291) (lv' := [(0, .inr (.inr (some a0))), (1, .inl v1), (2, .inl v2), (3, .inl v3)]) (st' := [.inl (256 : Int32), .inr (.inr (some a0))]) (by decide +kernel) rfl rfl ?_
  obtain ⟨M141, h142, h⟩ := bd h
  refine xn_a E 23 h142 mw101 (show decode prog_14_method_1_code 291 = .ok (.newarray .long, 2) by decide +kernel) ?_
  obtain ⟨M143, h144, h⟩ := bd h
  refine xp_r E 12 42 h144 mw901 (show decode prog_14_method_1_code 293 = .ok (.putfield 118, 3) by decide +kernel) (Or.inr ⟨rfl, B.2.2, rfl⟩) ?_
  refine xv_b E [.aload_n 0, .bipush 8] (pc' := 299) (lv' := [(0, .inr (.inr (some a0))), (1, .inl v1), (2, .inl v2), (3, .inl v3)]) (st' := [.inl (8 : Int32), .inr (.inr (some a0))]) (by decide +kernel) rfl rfl ?_
  obtain ⟨M145, h146, h⟩ := bd h
  refine xn_a E 20 h146 mw2 (show decode prog_14_method_1_code 299 = .ok (.newarray .int, 2) by decide +kernel) ?_
  obtain ⟨M147, h148, h⟩ := bd h
  refine xp_r E 12 43 h148 mw902 (show decode prog_14_method_1_code 301 = .ok (.putfield 122, 3) by decide +kernel) (Or.inr ⟨rfl, B.2.2, rfl⟩) ?_
  refine xv_b E [.aload_n 0, .sipush 384] (pc' := 308) (lv' := [(0, .inr (.inr (some a0))), (1, .inl v1), (2, .inl v2), (3, .inl v3)]) (st' := [.inl (384 : Int32), .inr (.inr (some a0))]) (by decide +kernel) rfl rfl ?_
  obtain ⟨M149, h150, h⟩ := bd h
  refine xn_a E 20 h150 mw2 (show decode prog_14_method_1_code 308 = .ok (.newarray .int, 2) by decide +kernel) ?_
  obtain ⟨M151, h152, h⟩ := bd h
  refine xp_r E 12 44 h152 mw903 (show decode prog_14_method_1_code 310 = .ok (.putfield 125, 3) by decide +kernel) (Or.inr ⟨rfl, B.2.2, rfl⟩) ?_
  refine xv_b E [.aload_n 0, .sipush 192] (pc' := 317) (lv' := [(0, .inr (.inr (some a0))), (1, .inl v1), (2, .inl v2), (3, .inl v3)]) (st' := [.inl (192 : Int32), .inr (.inr (some a0))]) (by decide +kernel) rfl rfl ?_
  obtain ⟨M153, h154, h⟩ := bd h
  refine xn_a E 23 h154 mw101 (show decode prog_14_method_1_code 317 = .ok (.newarray .long, 2) by decide +kernel) ?_
  obtain ⟨M155, h156, h⟩ := bd h
  refine xp_r E 12 45 h156 mw904 (show decode prog_14_method_1_code 319 = .ok (.putfield 128, 3) by decide +kernel) (Or.inr ⟨rfl, B.2.2, rfl⟩) ?_
  refine xv_b E [.aload_n 0, .bipush 8] (pc' := 325) (lv' := [(0, .inr (.inr (some a0))), (1, .inl v1), (2, .inl v2), (3, .inl v3)]) (st' := [.inl (8 : Int32), .inr (.inr (some a0))]) (by decide +kernel) rfl rfl ?_
  obtain ⟨M157, h158, h⟩ := bd h
  refine xn_a E 20 h158 mw2 (show decode prog_14_method_1_code 325 = .ok (.newarray .int, 2) by decide +kernel) ?_
  obtain ⟨M159, h160, h⟩ := bd h
  refine xp_r E 12 46 h160 mw905 (show decode prog_14_method_1_code 327 = .ok (.putfield 131, 3) by decide +kernel) (Or.inr ⟨rfl, B.2.2, rfl⟩) ?_
  refine xv_b E [.aload_n 0, .sipush 300] (pc' := 334) (lv' := [(0, .inr (.inr (some a0))), (1, .inl v1), (2, .inl v2), (3, .inl v3)]) (st' := [.inl (300 : Int32), .inr (.inr (some a0))]) (by decide +kernel) rfl rfl ?_
  obtain ⟨M161, h162, h⟩ := bd h
  refine xn_a E 20 h162 mw2 (show decode prog_14_method_1_code 334 = .ok (.newarray .int, 2) by decide +kernel) ?_
  obtain ⟨M163, h164, h⟩ := bd h
  refine xp_r E 12 48 h164 mw906 (show decode prog_14_method_1_code 336 = .ok (.putfield 134, 3) by decide +kernel) (Or.inr ⟨rfl, B.2.2, rfl⟩) ?_
  refine xv_b E [.aload_n 0, .sipush 300] (pc' := 343) (lv' := [(0, .inr (.inr (some a0))), (1, .inl v1), (2, .inl v2), (3, .inl v3)]) (st' := [.inl (300 : Int32), .inr (.inr (some a0))]) (by decide +kernel) rfl rfl ?_
  obtain ⟨M165, h166, h⟩ := bd h
  refine xn_a E 20 h166 mw2 (show decode prog_14_method_1_code 343 = .ok (.newarray .int, 2) by decide +kernel) ?_
  obtain ⟨M167, h168, h⟩ := bd h
  refine xp_r E 12 49 h168 mw907 (show decode prog_14_method_1_code 345 = .ok (.putfield 137, 3) by decide +kernel) (Or.inr ⟨rfl, B.2.2, rfl⟩) ?_
  refine xv_b E [.aload_n 0, .sipush 300] (pc' := 352) (lv' := [(0, .inr (.inr (some a0))), (1, .inl v1), (2, .inl v2), (3, .inl v3)]) (st' := [.inl (300 : Int32), .inr (.inr (some a0))]) (by decide +kernel) rfl rfl ?_
  obtain ⟨M169, h170, h⟩ := bd h
  refine xn_a E 22 h170 mw872 (show decode prog_14_method_1_code 352 = .ok (.newarray .boolean, 2) by decide +kernel) ?_
  obtain ⟨M171, h172, h⟩ := bd h
  refine xp_r E 12 50 h172 mw908 (show decode prog_14_method_1_code 354 = .ok (.putfield 140, 3) by decide +kernel) (Or.inr ⟨rfl, B.2.2, rfl⟩) ?_
  refine xv_b E [.aload_n 0, .sipush 300] (pc' := 361) (lv' := [(0, .inr (.inr (some a0))), (1, .inl v1), (2, .inl v2), (3, .inl v3)]) (st' := [.inl (300 : Int32), .inr (.inr (some a0))]) (by decide +kernel) rfl rfl ?_
  obtain ⟨M173, h174, h⟩ := bd h
  refine xn_a E 20 h174 mw2 (show decode prog_14_method_1_code 361 = .ok (.newarray .int, 2) by decide +kernel) ?_
  obtain ⟨M175, h176, h⟩ := bd h
  refine xp_r E 12 51 h176 mw909 (show decode prog_14_method_1_code 363 = .ok (.putfield 143, 3) by decide +kernel) (Or.inr ⟨rfl, B.2.2, rfl⟩) ?_
  refine xv_b E [.aload_n 0, .sipush 300] (pc' := 370) (lv' := [(0, .inr (.inr (some a0))), (1, .inl v1), (2, .inl v2), (3, .inl v3)]) (st' := [.inl (300 : Int32), .inr (.inr (some a0))]) (by decide +kernel) rfl rfl ?_
  obtain ⟨M177, h178, h⟩ := bd h
  refine xn_a E 20 h178 mw2 (show decode prog_14_method_1_code 370 = .ok (.newarray .int, 2) by decide +kernel) ?_
  obtain ⟨M179, h180, h⟩ := bd h
  refine xp_r E 12 52 h180 mw910 (show decode prog_14_method_1_code 372 = .ok (.putfield 146, 3) by decide +kernel) (Or.inr ⟨rfl, B.2.2, rfl⟩) ?_
  refine xv_b E [.aload_n 0, .sipush 300] (pc' := 379) (lv' := [(0, .inr (.inr (some a0))), (1, .inl v1), (2, .inl v2), (3, .inl v3)]) (st' := [.inl (300 : Int32), .inr (.inr (some a0))]) (by decide +kernel) rfl rfl ?_
  obtain ⟨M181, h182, h⟩ := bd h
  refine xn_a E 20 h182 mw2 (show decode prog_14_method_1_code 379 = .ok (.newarray .int, 2) by decide +kernel) ?_
  obtain ⟨M183, h184, h⟩ := bd h
  refine xp_r E 12 53 h184 mw911 (show decode prog_14_method_1_code 381 = .ok (.putfield 149, 3) by decide +kernel) (Or.inr ⟨rfl, B.2.2, rfl⟩) ?_
  refine xv_b E [.aload_n 0, .sipush 1200] (pc' := 388) (lv' := [(0, .inr (.inr (some a0))), (1, .inl v1), (2, .inl v2), (3, .inl v3)]) (st' := [.inl (1200 : Int32), .inr (.inr (some a0))]) (by decide +kernel) rfl rfl ?_
  obtain ⟨M185, h186, h⟩ := bd h
  refine xn_a E 23 h186 mw101 (show decode prog_14_method_1_code 388 = .ok (.newarray .long, 2) by decide +kernel) ?_
  obtain ⟨M187, h188, h⟩ := bd h
  refine xp_r E 12 54 h188 mw912 (show decode prog_14_method_1_code 390 = .ok (.putfield 152, 3) by decide +kernel) (Or.inr ⟨rfl, B.2.2, rfl⟩) ?_
  refine xv_b E [.aload_n 0, .sipush 300] (pc' := 397) (lv' := [(0, .inr (.inr (some a0))), (1, .inl v1), (2, .inl v2), (3, .inl v3)]) (st' := [.inl (300 : Int32), .inr (.inr (some a0))]) (by decide +kernel) rfl rfl ?_
  obtain ⟨M189, h190, h⟩ := bd h
  refine xn_a E 20 h190 mw2 (show decode prog_14_method_1_code 397 = .ok (.newarray .int, 2) by decide +kernel) ?_
  obtain ⟨M191, h192, h⟩ := bd h
  refine xp_r E 12 55 h192 mw913 (show decode prog_14_method_1_code 399 = .ok (.putfield 155, 3) by decide +kernel) (Or.inr ⟨rfl, B.2.2, rfl⟩) ?_
  refine xv_b E [.aload_n 0, .sipush 300] (pc' := 406) (lv' := [(0, .inr (.inr (some a0))), (1, .inl v1), (2, .inl v2), (3, .inl v3)]) (st' := [.inl (300 : Int32), .inr (.inr (some a0))]) (by decide +kernel) rfl rfl ?_
  obtain ⟨M193, h194, h⟩ := bd h
  refine xn_a E 20 h194 mw2 (show decode prog_14_method_1_code 406 = .ok (.newarray .int, 2) by decide +kernel) ?_
  obtain ⟨M195, h196, h⟩ := bd h
  refine xp_r E 12 56 h196 mw914 (show decode prog_14_method_1_code 408 = .ok (.putfield 158, 3) by decide +kernel) (Or.inr ⟨rfl, B.2.2, rfl⟩) ?_
  refine xv_b E [.aload_n 0, .sipush 300] (pc' := 415) (lv' := [(0, .inr (.inr (some a0))), (1, .inl v1), (2, .inl v2), (3, .inl v3)]) (st' := [.inl (300 : Int32), .inr (.inr (some a0))]) (by decide +kernel) rfl rfl ?_
  obtain ⟨M197, h198, h⟩ := bd h
  refine xn_a E 20 h198 mw2 (show decode prog_14_method_1_code 415 = .ok (.newarray .int, 2) by decide +kernel) ?_
  obtain ⟨M199, h200, h⟩ := bd h
  refine xp_r E 12 57 h200 mw915 (show decode prog_14_method_1_code 417 = .ok (.putfield 161, 3) by decide +kernel) (Or.inr ⟨rfl, B.2.2, rfl⟩) ?_
  refine xv_b E [.aload_n 0, .sipush 300] (pc' := 424) (lv' := [(0, .inr (.inr (some a0))), (1, .inl v1), (2, .inl v2), (3, .inl v3)]) (st' := [.inl (300 : Int32), .inr (.inr (some a0))]) (by decide +kernel) rfl rfl ?_
  obtain ⟨M201, h202, h⟩ := bd h
  refine xn_a E 20 h202 mw2 (show decode prog_14_method_1_code 424 = .ok (.newarray .int, 2) by decide +kernel) ?_
  obtain ⟨M203, h204, h⟩ := bd h
  refine xp_r E 12 58 h204 mw916 (show decode prog_14_method_1_code 426 = .ok (.putfield 164, 3) by decide +kernel) (Or.inr ⟨rfl, B.2.2, rfl⟩) ?_
  refine xv_b E [.aload_n 0, .sipush 300] (pc' := 433) (lv' := [(0, .inr (.inr (some a0))), (1, .inl v1), (2, .inl v2), (3, .inl v3)]) (st' := [.inl (300 : Int32), .inr (.inr (some a0))]) (by decide +kernel) rfl rfl ?_
  obtain ⟨M205, h206, h⟩ := bd h
  refine xn_a E 20 h206 mw2 (show decode prog_14_method_1_code 433 = .ok (.newarray .int, 2) by decide +kernel) ?_
  obtain ⟨M207, h208, h⟩ := bd h
  refine xp_r E 12 59 h208 mw917 (show decode prog_14_method_1_code 435 = .ok (.putfield 167, 3) by decide +kernel) (Or.inr ⟨rfl, B.2.2, rfl⟩) ?_
  refine xv_b E [.aload_n 0, .sipush 300] (pc' := 442) (lv' := [(0, .inr (.inr (some a0))), (1, .inl v1), (2, .inl v2), (3, .inl v3)]) (st' := [.inl (300 : Int32), .inr (.inr (some a0))]) (by decide +kernel) rfl rfl ?_
  obtain ⟨M209, h210, h⟩ := bd h
  refine xn_a E 20 h210 mw2 (show decode prog_14_method_1_code 442 = .ok (.newarray .int, 2) by decide +kernel) ?_
  obtain ⟨M211, h212, h⟩ := bd h
  refine xp_r E 12 60 h212 mw918 (show decode prog_14_method_1_code 444 = .ok (.putfield 170, 3) by decide +kernel) (Or.inr ⟨rfl, B.2.2, rfl⟩) ?_
  refine xv_b E [.aload_n 0, .iload_n 1, .iconst 1] (pc' := 450) (lv' := [(0, .inr (.inr (some a0))), (1, .inl v1), (2, .inl v2), (3, .inl v3)]) (st' := [.inl (1 : Int32), .inl v1, .inr (.inr (some a0))]) (by decide +kernel) rfl rfl ?_
  by_cases q214 : v1 < (1 : Int32)
  · rw [if_pos q214] at h
    refine xv_icmp_lt E 462 (show decode prog_14_method_1_code 450 = .ok (.if_icmp .lt (12), 3) by decide +kernel) rfl (fun _ => ?_) (fun z => absurd q214 z)
    exact xv_w (sb164_462 E B a0 v2 v3 (some a0) M211 h hN) rfl
  · rw [if_neg q214] at h
    refine xv_icmp_lt E 462 (show decode prog_14_method_1_code 450 = .ok (.if_icmp .lt (12), 3) by decide +kernel) rfl (fun z => absurd z q214) (fun _ => ?_)
    refine xv_b E [.iload_n 1, .iconst 5] (pc' := 455) (lv' := [(0, .inr (.inr (some a0))), (1, .inl v1), (2, .inl v2), (3, .inl v3)]) (st' := [.inl (5 : Int32), .inl v1, .inr (.inr (some a0))]) (by decide +kernel) rfl rfl ?_
    by_cases q213 : (5 : Int32) < v1
    · rw [if_pos q213] at h
      refine xv_icmp_gt E 462 (show decode prog_14_method_1_code 455 = .ok (.if_icmp .gt (7), 3) by decide +kernel) rfl (fun _ => ?_) (fun z => absurd q213 z)
      exact xv_w (sb164_462 E B a0 v2 v3 (some a0) M211 h hN) rfl
    · rw [if_neg q213] at h
      refine xv_icmp_gt E 462 (show decode prog_14_method_1_code 455 = .ok (.if_icmp .gt (7), 3) by decide +kernel) rfl (fun z => absurd z q213) (fun _ => ?_)
      refine xv_b E [.iload_n 1] (pc' := 459) (lv' := [(0, .inr (.inr (some a0))), (1, .inl v1), (2, .inl v2), (3, .inl v3)]) (st' := [.inl v1, .inr (.inr (some a0))]) (by decide +kernel) rfl rfl ?_
      refine xv_goto E 463 (show decode prog_14_method_1_code 459 = .ok (.goto (4), 3) by decide +kernel) rfl ?_
      exact xv_w (sb164_463 E B a0 v2 v3 v1 (some a0) M211 h hN) rfl
theorem sb164_508 (E : xE G p (xRm 1 (h_sz M' - z0) (h_sl M' - y0)) s m args c prog_14_method_1_code "ZonedFabricModel" z0 y0 (h_sz M') (h_sl M') 5) (B : xB ym164 none meth) (a0 : Nat) (v4 : Int32) (M : hM) {res : xRes} (h : b164_508 a0 v4 M = some res) (hN : xN (pg164 p l e s m args below meth c G z0 y0 r M') r M' res) : xV G p l e (xRm 1 (h_sz M' - z0) (h_sl M' - y0)) s m args below meth c z0 y0 (h_sz M') (h_sl M') 5 (MQ below (xQc G r M') args s (h_sz M' - z0) (h_sl M' - y0) (xFr G)) 508 [(0, .inr (.inr (some a0))), (4, .inl v4)] [] M := by
  unfold b164_508 at h
  refine xv_b E [.iload 4, .bipush 48] (pc' := 512) (lv' := [(0, .inr (.inr (some a0))), (4, .inl v4)]) (st' := [.inl (48 : Int32), .inl v4]) (by decide +kernel) rfl rfl ?_
  by_cases q237 : (48 : Int32) ≤ v4
  · rw [if_pos q237] at h
    refine xv_icmp_ge E 545 (show decode prog_14_method_1_code 512 = .ok (.if_icmp .ge (33), 3) by decide +kernel) rfl (fun _ => ?_) (fun z => absurd q237 z)
    refine xv_b E [.iconst 0, .istore 4] (pc' := 548) (lv' := [(4, .inl (0 : Int32)), (0, .inr (.inr (some a0)))]) (st' := []) (by decide +kernel) rfl rfl ?_
    obtain rfl := Option.some.inj h
    exact xv_w hN rfl
  · rw [if_neg q237] at h
    refine xv_icmp_ge E 545 (show decode prog_14_method_1_code 512 = .ok (.if_icmp .ge (33), 3) by decide +kernel) rfl (fun z => absurd z q237) (fun _ => ?_)
    refine xv_b E [.aload_n 0] (pc' := 516) (lv' := [(0, .inr (.inr (some a0))), (4, .inl v4)]) (st' := [.inr (.inr (some a0))]) (by decide +kernel) rfl rfl ?_
    obtain ⟨o_225, h226, h⟩ := bd h
    refine xg_r E 12 14 h226 mw874 (show decode prog_14_method_1_code 516 = .ok (.getfield 37, 3) by decide +kernel) ?_
    refine xv_b E [.iload 4, .iconst (-1)] (pc' := 522) (lv' := [(0, .inr (.inr (some a0))), (4, .inl v4)]) (st' := [.inl (-1 : Int32), .inl v4, .inr (.inr o_225)]) (by decide +kernel) rfl rfl ?_
    obtain ⟨M227, h228, h⟩ := bd h
    refine xs_i E h228 (show decode prog_14_method_1_code 522 = .ok (.iastore, 1) by decide +kernel) ?_
    refine xv_b E [.aload_n 0] (pc' := 524) (lv' := [(0, .inr (.inr (some a0))), (4, .inl v4)]) (st' := [.inr (.inr (some a0))]) (by decide +kernel) rfl rfl ?_
    obtain ⟨o_229, h230, h⟩ := bd h
    refine xg_r E 12 15 h230 mw875 (show decode prog_14_method_1_code 524 = .ok (.getfield 40, 3) by decide +kernel) ?_
    refine xv_b E [.iload 4, .iconst (-1)] (pc' := 530) (lv' := [(0, .inr (.inr (some a0))), (4, .inl v4)]) (st' := [.inl (-1 : Int32), .inl v4, .inr (.inr o_229)]) (by decide +kernel) rfl rfl ?_
    obtain ⟨M231, h232, h⟩ := bd h
    refine xs_i E h232 (show decode prog_14_method_1_code 530 = .ok (.iastore, 1) by decide +kernel) ?_
    refine xv_b E [.aload_n 0] (pc' := 532) (lv' := [(0, .inr (.inr (some a0))), (4, .inl v4)]) (st' := [.inr (.inr (some a0))]) (by decide +kernel) rfl rfl ?_
    obtain ⟨o_233, h234, h⟩ := bd h
    refine xg_r E 12 23 h234 mw883 (show decode prog_14_method_1_code 532 = .ok (.getfield 64, 3) by decide +kernel) ?_
    refine xv_b E [.iload 4, .iconst (-1)] (pc' := 538) (lv' := [(0, .inr (.inr (some a0))), (4, .inl v4)]) (st' := [.inl (-1 : Int32), .inl v4, .inr (.inr o_233)]) (by decide +kernel) rfl rfl ?_
    obtain ⟨M235, h236, h⟩ := bd h
    refine xs_i E h236 (show decode prog_14_method_1_code 538 = .ok (.iastore, 1) by decide +kernel) ?_
    refine xv_b E [.iinc 4 1] (pc' := 542) (lv' := [(4, .inl (v4 + (1 : Int32))), (0, .inr (.inr (some a0)))]) (st' := []) (by decide +kernel) rfl rfl ?_
    refine xv_goto E 508 (show decode prog_14_method_1_code 542 = .ok (.goto (-34), 3) by decide +kernel) rfl ?_
    obtain rfl := Option.some.inj h
    exact xv_w hN rfl
theorem sb164_548 (E : xE G p (xRm 1 (h_sz M' - z0) (h_sl M' - y0)) s m args c prog_14_method_1_code "ZonedFabricModel" z0 y0 (h_sz M') (h_sl M') 5) (B : xB ym164 none meth) (a0 : Nat) (v4 : Int32) (M : hM) {res : xRes} (h : b164_548 a0 v4 M = some res) (hN : xN (pg164 p l e s m args below meth c G z0 y0 r M') r M' res) : xV G p l e (xRm 1 (h_sz M' - z0) (h_sl M' - y0)) s m args below meth c z0 y0 (h_sz M') (h_sl M') 5 (MQ below (xQc G r M') args s (h_sz M' - z0) (h_sl M' - y0) (xFr G)) 548 [(0, .inr (.inr (some a0))), (4, .inl v4)] [] M := by
  unfold b164_548 at h
  refine xv_b E [.iload 4, .iconst 5] (pc' := 551) (lv' := [(0, .inr (.inr (some a0))), (4, .inl v4)]) (st' := [.inl (5 : Int32), .inl v4]) (by decide +kernel) rfl rfl ?_
  by_cases q242 : (5 : Int32) ≤ v4
  · rw [if_pos q242] at h
    refine xv_icmp_ge E 571 (show decode prog_14_method_1_code 551 = .ok (.if_icmp .ge (20), 3) by decide +kernel) rfl (fun _ => ?_) (fun z => absurd q242 z)
    refine xv_b E [.iconst 0, .istore 4] (pc' := 574) (lv' := [(4, .inl (0 : Int32)), (0, .inr (.inr (some a0)))]) (st' := []) (by decide +kernel) rfl rfl ?_
    obtain rfl := Option.some.inj h
    exact xv_w hN rfl
  · rw [if_neg q242] at h
    refine xv_icmp_ge E 571 (show decode prog_14_method_1_code 551 = .ok (.if_icmp .ge (20), 3) by decide +kernel) rfl (fun z => absurd z q242) (fun _ => ?_)
    refine xv_b E [.aload_n 0] (pc' := 555) (lv' := [(0, .inr (.inr (some a0))), (4, .inl v4)]) (st' := [.inr (.inr (some a0))]) (by decide +kernel) rfl rfl ?_
    obtain ⟨o_238, h239, h⟩ := bd h
    refine xg_r E 12 26 h239 mw886 (show decode prog_14_method_1_code 555 = .ok (.getfield 73, 3) by decide +kernel) ?_
    refine xv_b E [.iload 4, .iload 4, .iconst 1, .iadd] (pc' := 564) (lv' := [(0, .inr (.inr (some a0))), (4, .inl v4)]) (st' := [.inl (v4 + (1 : Int32)), .inl v4, .inr (.inr o_238)]) (by decide +kernel) rfl rfl ?_
    obtain ⟨M240, h241, h⟩ := bd h
    refine xs_i E h241 (show decode prog_14_method_1_code 564 = .ok (.iastore, 1) by decide +kernel) ?_
    refine xv_b E [.iinc 4 1] (pc' := 568) (lv' := [(4, .inl (v4 + (1 : Int32))), (0, .inr (.inr (some a0)))]) (st' := []) (by decide +kernel) rfl rfl ?_
    refine xv_goto E 548 (show decode prog_14_method_1_code 568 = .ok (.goto (-20), 3) by decide +kernel) rfl ?_
    obtain rfl := Option.some.inj h
    exact xv_w hN rfl
theorem sb164_574 (E : xE G p (xRm 1 (h_sz M' - z0) (h_sl M' - y0)) s m args c prog_14_method_1_code "ZonedFabricModel" z0 y0 (h_sz M') (h_sl M') 5) (B : xB ym164 none meth) (a0 : Nat) (v4 : Int32) (M : hM) {res : xRes} (h : b164_574 a0 v4 M = some res) (hN : xN (pg164 p l e s m args below meth c G z0 y0 r M') r M' res) : xV G p l e (xRm 1 (h_sz M' - z0) (h_sl M' - y0)) s m args below meth c z0 y0 (h_sz M') (h_sl M') 5 (MQ below (xQc G r M') args s (h_sz M' - z0) (h_sl M' - y0) (xFr G)) 574 [(0, .inr (.inr (some a0))), (4, .inl v4)] [] M := by
  unfold b164_574 at h
  refine xv_b E [.iload 4, .sipush 1800] (pc' := 579) (lv' := [(0, .inr (.inr (some a0))), (4, .inl v4)]) (st' := [.inl (1800 : Int32), .inl v4]) (by decide +kernel) rfl rfl ?_
  by_cases q249 : (1800 : Int32) ≤ v4
  · rw [if_pos q249] at h
    refine xv_icmp_ge E 597 (show decode prog_14_method_1_code 579 = .ok (.if_icmp .ge (18), 3) by decide +kernel) rfl (fun _ => ?_) (fun z => absurd q249 z)
    refine xv_b E [.aload_n 0, .sipush 1800] (pc' := 601) (lv' := [(0, .inr (.inr (some a0))), (4, .inl v4)]) (st' := [.inl (1800 : Int32), .inr (.inr (some a0))]) (by decide +kernel) rfl rfl ?_
    obtain ⟨M243, h244, h⟩ := bd h
    refine xp_i E 12 9 h244 mw924 (show decode prog_14_method_1_code 601 = .ok (.putfield 183, 3) by decide +kernel) (Or.inl rfl) ?_
    obtain rfl := Option.some.inj h
    obtain ⟨rfl, rfl⟩ := Prod.mk.inj (show ((none : Option aV), M243) = (r, M') from hN)
    exact xv_rv E B.1 B.2.1 (show decode prog_14_method_1_code 604 = .ok (.return_, 1) by decide +kernel) rfl rfl
  · rw [if_neg q249] at h
    refine xv_icmp_ge E 597 (show decode prog_14_method_1_code 579 = .ok (.if_icmp .ge (18), 3) by decide +kernel) rfl (fun z => absurd z q249) (fun _ => ?_)
    refine xv_b E [.aload_n 0] (pc' := 583) (lv' := [(0, .inr (.inr (some a0))), (4, .inl v4)]) (st' := [.inr (.inr (some a0))]) (by decide +kernel) rfl rfl ?_
    obtain ⟨o_245, h246, h⟩ := bd h
    refine xg_r E 12 8 h246 mw869 (show decode prog_14_method_1_code 583 = .ok (.getfield 24, 3) by decide +kernel) ?_
    refine xv_b E [.iload 4, .iload 4] (pc' := 590) (lv' := [(0, .inr (.inr (some a0))), (4, .inl v4)]) (st' := [.inl v4, .inl v4, .inr (.inr o_245)]) (by decide +kernel) rfl rfl ?_
    obtain ⟨M247, h248, h⟩ := bd h
    refine xs_i E h248 (show decode prog_14_method_1_code 590 = .ok (.iastore, 1) by decide +kernel) ?_
    refine xv_b E [.iinc 4 1] (pc' := 594) (lv' := [(4, .inl (v4 + (1 : Int32))), (0, .inr (.inr (some a0)))]) (st' := []) (by decide +kernel) rfl rfl ?_
    refine xv_goto E 574 (show decode prog_14_method_1_code 594 = .ok (.goto (-20), 3) by decide +kernel) rfl ?_
    obtain rfl := Option.some.inj h
    exact xv_w hN rfl
end
theorem t164 (G : gX) (l : Launch) {as : List aV} {M : hM} {r : Option aV} {M' : hM} (h : f164 as M = some (r, M')) : xM G l ym164 prog_14_method_1_code 5 none 1 as M r M' := by
  unfold f164 at h
  split at h
  · have hle : ∀ h as M res, k164 h as M = some res → h_sz M ≤ r_sz res ∧ h_sl M ≤ r_sl res := by
      intro h as M res hb
      unfold k164 at hb
      by_cases e0 : h = 508
      · rw [if_pos e0] at hb
        split at hb
        · exact lb164_508 G l _ _ M hb
        · cases hb
      · rw [if_neg e0] at hb
        by_cases e1 : h = 548
        · rw [if_pos e1] at hb
          split at hb
          · exact lb164_548 G l _ _ M hb
          · cases hb
        · rw [if_neg e1] at hb
          by_cases e2 : h = 574
          · rw [if_pos e2] at hb
            split at hb
            · exact lb164_574 G l _ _ M hb
            · cases hb
          · rw [if_neg e2] at hb
            cases hb
    obtain ⟨res, hx, hres⟩ := x_go_ok h
    refine xM_of (by decide) (Nat.le_of_ble_eq_true rfl) ?_ ?_
    · have e1 := lb164_0 G l _ _ _ _ M hx
      have e2 := x_go_le hle hres
      omega
    · intro p e s m args below meth c E B
      refine sb164_0 E B _ _ _ _ M hx (hres _ ?_)
      intro h as M res hb hN
      unfold k164 at hb
      unfold pg164
      by_cases e0 : h = 508
      · rw [if_pos e0] at hb ⊢
        split at hb
        · exact sb164_508 E B _ _ M hb hN
        · cases hb
      · rw [if_neg e0] at hb ⊢
        by_cases e1 : h = 548
        · rw [if_pos e1] at hb ⊢
          split at hb
          · exact sb164_548 E B _ _ M hb hN
          · cases hb
        · rw [if_neg e1] at hb ⊢
          by_cases e2 : h = 574
          · rw [if_pos e2] at hb ⊢
            split at hb
            · exact sb164_574 E B _ _ M hb hN
            · cases hb
          · rw [if_neg e2] at hb ⊢
            cases hb
  · cases h
/-! ZFModel.at(II)I -/
def ym165 : MethodName := ⟨"ZonedFabricModel", "at", "(II)I"⟩
theorem cd165 : xCd ym165 prog_14_method_2_code 3 (some FieldType.int) 2 := ⟨mw925, mw864, by decide, by decide, by decide +kernel⟩
def b165_0 (a0 : Nat) (v1 : Int32) (v2 : Int32) (M : hM) : Option xRes :=
  Option.bind (g_r M 12 6 (some a0)) fun o_1 =>
  Option.bind (al_i M 21 o_1 ((v1 * (80 : Int32)) + v2)) fun v_3 =>
  some (.inl (some (.inl (v_3 &&& (255 : Int32))), M))
def f165 (as : List aV) (M : hM) : xO := match as with
  | [.inr (.inr (some a0)), .inl v1, .inl v2] => x_out (b165_0 a0 v1 v2 M)
  | _ => none
theorem lb165_0 (G : gX) (l : Launch) (a0 : Nat) (v1 : Int32) (v2 : Int32) (M : hM) {res : xRes} (h : b165_0 a0 v1 v2 M = some res) : h_sz M ≤ r_sz res ∧ h_sl M ≤ r_sl res := by
  unfold b165_0 at h
  obtain ⟨o_1, h2, h⟩ := bd h
  obtain ⟨v_3, h4, h⟩ := bd h
  obtain rfl := Option.some.inj h
  show h_sz M ≤ h_sz M ∧ h_sl M ≤ h_sl M
  omega
section
variable {p : Program} {l : Launch} {e : Env} {s : State} {m : MethodId} {args : Array Value} {below : List Frame} {meth : Method} {c : Code} {G : gX} {z0 y0 : Nat} {r : Option aV} {M' : hM}
theorem sb165_0 (E : xE G p (xRm 0 (h_sz M' - z0) (h_sl M' - y0)) s m args c prog_14_method_2_code "ZonedFabricModel" z0 y0 (h_sz M') (h_sl M') 3) (B : xB ym165 (some FieldType.int) meth) (a0 : Nat) (v1 : Int32) (v2 : Int32) (M : hM) {res : xRes} (h : b165_0 a0 v1 v2 M = some res) (hN : xN (fun _ _ _ => False) r M' res) : xV G p l e (xRm 0 (h_sz M' - z0) (h_sl M' - y0)) s m args below meth c z0 y0 (h_sz M') (h_sl M') 3 (MQ below (xQc G r M') args s (h_sz M' - z0) (h_sl M' - y0) (xFr G)) 0 [(0, .inr (.inr (some a0))), (1, .inl v1), (2, .inl v2)] [] M := by
  unfold b165_0 at h
  refine xv_b E [.aload_n 0] (pc' := 1) (lv' := [(0, .inr (.inr (some a0))), (1, .inl v1), (2, .inl v2)]) (st' := [.inr (.inr (some a0))]) (by decide +kernel) rfl rfl ?_
  obtain ⟨o_1, h2, h⟩ := bd h
  refine xg_r E 12 6 h2 mw867 (show decode prog_14_method_2_code 1 = .ok (.getfield 17, 3) by decide +kernel) ?_
  refine xv_b E [.iload_n 1, .bipush 80, .imul, .iload_n 2, .iadd] (pc' := 10) (lv' := [(0, .inr (.inr (some a0))), (1, .inl v1), (2, .inl v2)]) (st' := [.inl ((v1 * (80 : Int32)) + v2), .inr (.inr o_1)]) (by decide +kernel) rfl rfl ?_
  obtain ⟨v_3, h4, h⟩ := bd h
  refine xa_b E h4 (show decode prog_14_method_2_code 10 = .ok (.baload, 1) by decide +kernel) ?_
  refine xv_b E [.sipush 255, .iand] (pc' := 15) (lv' := [(0, .inr (.inr (some a0))), (1, .inl v1), (2, .inl v2)]) (st' := [.inl (v_3 &&& (255 : Int32))]) (by decide +kernel) rfl rfl ?_
  obtain rfl := Option.some.inj h
  obtain ⟨rfl, rfl⟩ := Prod.mk.inj (show ((some (.inl (v_3 &&& (255 : Int32))) : Option aV), M) = (r, M') from hN)
  exact xv_ri E B.1 rfl B.2.1 (show decode prog_14_method_2_code 15 = .ok (.ireturn, 1) by decide +kernel) rfl rfl
end
theorem t165 (G : gX) (l : Launch) {as : List aV} {M : hM} {r : Option aV} {M' : hM} (h : f165 as M = some (r, M')) : xM G l ym165 prog_14_method_2_code 3 (some FieldType.int) 0 as M r M' := by
  unfold f165 at h
  split at h
  · have h := x_out_ok h
    refine xM_of (by decide) (Nat.le_of_ble_eq_true rfl) (lb165_0 G l _ _ _ M h) ?_
    intro p e s m args below meth c E B
    exact sb165_0 E B _ _ _ M h rfl
  · cases h
/-! ZFModel.number(III)I -/
def ym166 : MethodName := ⟨"ZonedFabricModel", "number", "(III)I"⟩
theorem cd166 : xCd ym166 prog_14_method_3_code 6 (some FieldType.int) 3 := ⟨mw926, mw864, by decide, by decide, by decide +kernel⟩
def b166_0 (a0 : Nat) (v1 : Int32) (v2 : Int32) (v3 : Int32) (M : hM) : Option xRes :=
  some (.inr (6, [.inr (.inr (some a0)), .inl v1, .inl v2, .inl v3, .inl (0 : Int32), .inl (0 : Int32)], M))
def b166_6 (a0 : Nat) (v1 : Int32) (v2 : Int32) (v3 : Int32) (v4 : Int32) (v5 : Int32) (M : hM) : Option xRes :=
  if v3 ≤ v5 then
    (some (.inl (some (.inl v4), M)))
  else
    (Option.bind (g_o M 12 (some a0)) fun b_3 =>
    Option.bind (c_I (f165 [.inr (.inr (some b_3)), .inl v1, .inl (v2 + v5)] M)) fun q_1 =>
    some (.inr (6, [.inr (.inr (some a0)), .inl v1, .inl v2, .inl v3, .inl ((v4 <<< ((8 : Int32) &&& 31)) ||| q_1.1), .inl (v5 + (1 : Int32))], q_1.2)))
def k166 (h : Nat) (as : List aV) (M : hM) : Option xRes :=
  if h = 6 then (match as with | [.inr (.inr (some a0)), .inl v1, .inl v2, .inl v3, .inl v4, .inl v5] => b166_6 a0 v1 v2 v3 v4 v5 M | _ => none) else
  none
def f166 (as : List aV) (M : hM) : xO := match as with
  | [.inr (.inr (some a0)), .inl v1, .inl v2, .inl v3] => x_go k166 (b166_0 a0 v1 v2 v3 M)
  | _ => none
theorem lb166_0 (G : gX) (l : Launch) (a0 : Nat) (v1 : Int32) (v2 : Int32) (v3 : Int32) (M : hM) {res : xRes} (h : b166_0 a0 v1 v2 v3 M = some res) : h_sz M ≤ r_sz res ∧ h_sl M ≤ r_sl res := by
  unfold b166_0 at h
  obtain rfl := Option.some.inj h
  show h_sz M ≤ h_sz M ∧ h_sl M ≤ h_sl M
  omega
theorem lb166_6 (G : gX) (l : Launch) (a0 : Nat) (v1 : Int32) (v2 : Int32) (v3 : Int32) (v4 : Int32) (v5 : Int32) (M : hM) {res : xRes} (h : b166_6 a0 v1 v2 v3 v4 v5 M = some res) : h_sz M ≤ r_sz res ∧ h_sl M ≤ r_sl res := by
  unfold b166_6 at h
  by_cases q5 : v3 ≤ v5
  · rw [if_pos q5] at h
    obtain rfl := Option.some.inj h
    show h_sz M ≤ h_sz M ∧ h_sl M ≤ h_sl M
    omega
  · rw [if_neg q5] at h
    obtain ⟨b_3, h4, h⟩ := bd h
    obtain ⟨q_1, h2, h⟩ := bd h
    have eh2 := (t165 G l (c_I_some h2)).1
    obtain rfl := Option.some.inj h
    show h_sz M ≤ h_sz q_1.2 ∧ h_sl M ≤ h_sl q_1.2
    omega
section
variable {p : Program} {l : Launch} {e : Env} {s : State} {m : MethodId} {args : Array Value} {below : List Frame} {meth : Method} {c : Code} {G : gX} {z0 y0 : Nat} {r : Option aV} {M' : hM}
def pg166 (p : Program) (l : Launch) (e : Env) (s : State) (m : MethodId) (args : Array Value) (below : List Frame) (meth : Method) (c : Code) (G : gX) (z0 y0 : Nat) (r : Option aV) (M' : hM) (h : Nat) (as : List aV) (M : hM) : Prop :=
  if h = 6 then (match as with | [.inr (.inr (some a0)), .inl v1, .inl v2, .inl v3, .inl v4, .inl v5] => xV G p l e (xRm 1 (h_sz M' - z0) (h_sl M' - y0)) s m args below meth c z0 y0 (h_sz M') (h_sl M') 6 (MQ below (xQc G r M') args s (h_sz M' - z0) (h_sl M' - y0) (xFr G)) 6 [(0, .inr (.inr (some a0))), (1, .inl v1), (2, .inl v2), (3, .inl v3), (4, .inl v4), (5, .inl v5)] [] M | _ => False) else
  False
theorem sb166_0 (E : xE G p (xRm 1 (h_sz M' - z0) (h_sl M' - y0)) s m args c prog_14_method_3_code "ZonedFabricModel" z0 y0 (h_sz M') (h_sl M') 6) (B : xB ym166 (some FieldType.int) meth) (a0 : Nat) (v1 : Int32) (v2 : Int32) (v3 : Int32) (M : hM) {res : xRes} (h : b166_0 a0 v1 v2 v3 M = some res) (hN : xN (pg166 p l e s m args below meth c G z0 y0 r M') r M' res) : xV G p l e (xRm 1 (h_sz M' - z0) (h_sl M' - y0)) s m args below meth c z0 y0 (h_sz M') (h_sl M') 6 (MQ below (xQc G r M') args s (h_sz M' - z0) (h_sl M' - y0) (xFr G)) 0 [(0, .inr (.inr (some a0))), (1, .inl v1), (2, .inl v2), (3, .inl v3)] [] M := by
  unfold b166_0 at h
  refine xv_b E [.iconst 0, .istore 4, .iconst 0, .istore 5] (pc' := 6) (lv' := [(5, .inl (0 : Int32)), (4, .inl (0 : Int32)), (0, .inr (.inr (some a0))), (1, .inl v1), (2, .inl v2), (3, .inl v3)]) (st' := []) (by decide +kernel) rfl rfl ?_
  obtain rfl := Option.some.inj h
  exact xv_w hN rfl
theorem sb166_6 (E : xE G p (xRm 1 (h_sz M' - z0) (h_sl M' - y0)) s m args c prog_14_method_3_code "ZonedFabricModel" z0 y0 (h_sz M') (h_sl M') 6) (B : xB ym166 (some FieldType.int) meth) (a0 : Nat) (v1 : Int32) (v2 : Int32) (v3 : Int32) (v4 : Int32) (v5 : Int32) (M : hM) {res : xRes} (h : b166_6 a0 v1 v2 v3 v4 v5 M = some res) (hN : xN (pg166 p l e s m args below meth c G z0 y0 r M') r M' res) : xV G p l e (xRm 1 (h_sz M' - z0) (h_sl M' - y0)) s m args below meth c z0 y0 (h_sz M') (h_sl M') 6 (MQ below (xQc G r M') args s (h_sz M' - z0) (h_sl M' - y0) (xFr G)) 6 [(0, .inr (.inr (some a0))), (1, .inl v1), (2, .inl v2), (3, .inl v3), (4, .inl v4), (5, .inl v5)] [] M := by
  unfold b166_6 at h
  refine xv_b E [.iload 5, .iload_n 3] (pc' := 9) (lv' := [(0, .inr (.inr (some a0))), (1, .inl v1), (2, .inl v2), (3, .inl v3), (4, .inl v4), (5, .inl v5)]) (st' := [.inl v3, .inl v5]) (by decide +kernel) rfl rfl ?_
  by_cases q5 : v3 ≤ v5
  · rw [if_pos q5] at h
    refine xv_icmp_ge E 35 (show decode prog_14_method_3_code 9 = .ok (.if_icmp .ge (26), 3) by decide +kernel) rfl (fun _ => ?_) (fun z => absurd q5 z)
    refine xv_b E [.iload 4] (pc' := 37) (lv' := [(0, .inr (.inr (some a0))), (1, .inl v1), (2, .inl v2), (3, .inl v3), (4, .inl v4), (5, .inl v5)]) (st' := [.inl v4]) (by decide +kernel) rfl rfl ?_
    obtain rfl := Option.some.inj h
    obtain ⟨rfl, rfl⟩ := Prod.mk.inj (show ((some (.inl v4) : Option aV), M) = (r, M') from hN)
    exact xv_ri E B.1 rfl B.2.1 (show decode prog_14_method_3_code 37 = .ok (.ireturn, 1) by decide +kernel) rfl rfl
  · rw [if_neg q5] at h
    refine xv_icmp_ge E 35 (show decode prog_14_method_3_code 9 = .ok (.if_icmp .ge (26), 3) by decide +kernel) rfl (fun z => absurd z q5) (fun _ => ?_)
    refine xv_b E [.iload 4, .bipush 8, .ishl, .aload_n 0, .iload_n 1, .iload_n 2, .iload 5, .iadd] (pc' := 23) (lv' := [(0, .inr (.inr (some a0))), (1, .inl v1), (2, .inl v2), (3, .inl v3), (4, .inl v4), (5, .inl v5)]) (st' := [.inl (v2 + v5), .inl v1, .inr (.inr (some a0)), .inl (v4 <<< ((8 : Int32) &&& 31))]) (by decide +kernel) rfl rfl ?_
    obtain ⟨b_3, h4, h⟩ := bd h
    obtain ⟨eh4, th4⟩ := g_o_some h4
    obtain ⟨q_1, h2, h⟩ := bd h
    refine xv_cvo E eh4 12 (as := [.inl v1, .inl (v2 + v5)]) (t165 G l (c_I_some h2)) cd165 mw927 mw928 mw929 (show decode prog_14_method_3_code 23 = .ok (.invokevirtual 186, 3) by decide +kernel) th4 rfl rfl (Nat.le_of_ble_eq_true rfl) ⟨Nat.le_of_ble_eq_true rfl, Nat.le_of_ble_eq_true rfl⟩ ?_
    refine xv_b E [.ior, .istore 4, .iinc 5 1] (pc' := 32) (lv' := [(5, .inl (v5 + (1 : Int32))), (4, .inl ((v4 <<< ((8 : Int32) &&& 31)) ||| q_1.1)), (0, .inr (.inr (some a0))), (1, .inl v1), (2, .inl v2), (3, .inl v3)]) (st' := []) (by decide +kernel) rfl rfl ?_
    refine xv_goto E 6 (show decode prog_14_method_3_code 32 = .ok (.goto (-26), 3) by decide +kernel) rfl ?_
    obtain rfl := Option.some.inj h
    exact xv_w hN rfl
end
theorem t166 (G : gX) (l : Launch) {as : List aV} {M : hM} {r : Option aV} {M' : hM} (h : f166 as M = some (r, M')) : xM G l ym166 prog_14_method_3_code 6 (some FieldType.int) 1 as M r M' := by
  unfold f166 at h
  split at h
  · have hle : ∀ h as M res, k166 h as M = some res → h_sz M ≤ r_sz res ∧ h_sl M ≤ r_sl res := by
      intro h as M res hb
      unfold k166 at hb
      by_cases e0 : h = 6
      · rw [if_pos e0] at hb
        split at hb
        · exact lb166_6 G l _ _ _ _ _ _ M hb
        · cases hb
      · rw [if_neg e0] at hb
        cases hb
    obtain ⟨res, hx, hres⟩ := x_go_ok h
    refine xM_of (by decide) (Nat.le_of_ble_eq_true rfl) ?_ ?_
    · have e1 := lb166_0 G l _ _ _ _ M hx
      have e2 := x_go_le hle hres
      omega
    · intro p e s m args below meth c E B
      refine sb166_0 E B _ _ _ _ M hx (hres _ ?_)
      intro h as M res hb hN
      unfold k166 at hb
      unfold pg166
      by_cases e0 : h = 6
      · rw [if_pos e0] at hb ⊢
        split at hb
        · exact sb166_6 E B _ _ _ _ _ _ M hb hN
        · cases hb
      · rw [if_neg e0] at hb ⊢
        cases hb
  · cases h
/-! ZFModel.add(IJI)V -/
def ym167 : MethodName := ⟨"ZonedFabricModel", "add", "(IJI)V"⟩
theorem cd167 : xCd ym167 prog_14_method_4_code 6 none 3 := ⟨mw930, mw864, by decide, by decide, by decide +kernel⟩
def b167_0 (a0 : Nat) (v1 : Int32) (w2 : Int64) (v4 : Int32) (M : hM) : Option xRes :=
  some (.inr (6, [.inr (.inr (some a0)), .inl v1, .inr (.inl w2), .inl (v4 - (1 : Int32))], M))
def b167_6 (a0 : Nat) (v1 : Int32) (w2 : Int64) (v5 : Int32) (M : hM) : Option xRes :=
  if v5 < 0 then
    (some (.inl (none, M)))
  else
    (Option.bind (g_r M 12 6 (some a0)) fun o_1 =>
    Option.bind (g_r M 12 7 (some a0)) fun o_3 =>
    Option.bind (al_i M 20 o_3 v1) fun v_5 =>
    Option.bind (as_b M 21 o_1 ((v1 * (80 : Int32)) + v_5) (Int32.toInt8 (Int64.toInt32 (w2 >>> (Int32.toInt64 ((8 : Int32) * v5) &&& 63)))).toInt32) fun M7 =>
    Option.bind (g_r M7 12 7 (some a0)) fun o_9 =>
    Option.bind (al_i M7 20 o_9 v1) fun v_11 =>
    Option.bind (as_i M7 20 o_9 v1 (v_11 + (1 : Int32))) fun M13 =>
    some (.inr (6, [.inr (.inr (some a0)), .inl v1, .inr (.inl w2), .inl (v5 + (-1 : Int32))], M13)))
def k167 (h : Nat) (as : List aV) (M : hM) : Option xRes :=
  if h = 6 then (match as with | [.inr (.inr (some a0)), .inl v1, .inr (.inl w2), .inl v5] => b167_6 a0 v1 w2 v5 M | _ => none) else
  none
def f167 (as : List aV) (M : hM) : xO := match as with
  | [.inr (.inr (some a0)), .inl v1, .inr (.inl w2), .inl v4] => x_go k167 (b167_0 a0 v1 w2 v4 M)
  | _ => none
theorem lb167_0 (G : gX) (l : Launch) (a0 : Nat) (v1 : Int32) (w2 : Int64) (v4 : Int32) (M : hM) {res : xRes} (h : b167_0 a0 v1 w2 v4 M = some res) : h_sz M ≤ r_sz res ∧ h_sl M ≤ r_sl res := by
  unfold b167_0 at h
  obtain rfl := Option.some.inj h
  show h_sz M ≤ h_sz M ∧ h_sl M ≤ h_sl M
  omega
theorem lb167_6 (G : gX) (l : Launch) (a0 : Nat) (v1 : Int32) (w2 : Int64) (v5 : Int32) (M : hM) {res : xRes} (h : b167_6 a0 v1 w2 v5 M = some res) : h_sz M ≤ r_sz res ∧ h_sl M ≤ r_sl res := by
  unfold b167_6 at h
  by_cases q15 : v5 < 0
  · rw [if_pos q15] at h
    obtain rfl := Option.some.inj h
    show h_sz M ≤ h_sz M ∧ h_sl M ≤ h_sl M
    omega
  · rw [if_neg q15] at h
    obtain ⟨o_1, h2, h⟩ := bd h
    obtain ⟨o_3, h4, h⟩ := bd h
    obtain ⟨v_5, h6, h⟩ := bd h
    obtain ⟨M7, h8, h⟩ := bd h
    have eh8 := as_b_sz h8
    obtain ⟨o_9, h10, h⟩ := bd h
    obtain ⟨v_11, h12, h⟩ := bd h
    obtain ⟨M13, h14, h⟩ := bd h
    have eh14 := as_i_sz h14
    obtain rfl := Option.some.inj h
    show h_sz M ≤ h_sz M13 ∧ h_sl M ≤ h_sl M13
    omega
section
variable {p : Program} {l : Launch} {e : Env} {s : State} {m : MethodId} {args : Array Value} {below : List Frame} {meth : Method} {c : Code} {G : gX} {z0 y0 : Nat} {r : Option aV} {M' : hM}
def pg167 (p : Program) (l : Launch) (e : Env) (s : State) (m : MethodId) (args : Array Value) (below : List Frame) (meth : Method) (c : Code) (G : gX) (z0 y0 : Nat) (r : Option aV) (M' : hM) (h : Nat) (as : List aV) (M : hM) : Prop :=
  if h = 6 then (match as with | [.inr (.inr (some a0)), .inl v1, .inr (.inl w2), .inl v5] => xV G p l e (xRm 0 (h_sz M' - z0) (h_sl M' - y0)) s m args below meth c z0 y0 (h_sz M') (h_sl M') 6 (MQ below (xQc G r M') args s (h_sz M' - z0) (h_sl M' - y0) (xFr G)) 6 [(0, .inr (.inr (some a0))), (1, .inl v1), (2, .inr (.inl w2)), (5, .inl v5)] [] M | _ => False) else
  False
theorem sb167_0 (E : xE G p (xRm 0 (h_sz M' - z0) (h_sl M' - y0)) s m args c prog_14_method_4_code "ZonedFabricModel" z0 y0 (h_sz M') (h_sl M') 6) (B : xB ym167 none meth) (a0 : Nat) (v1 : Int32) (w2 : Int64) (v4 : Int32) (M : hM) {res : xRes} (h : b167_0 a0 v1 w2 v4 M = some res) (hN : xN (pg167 p l e s m args below meth c G z0 y0 r M') r M' res) : xV G p l e (xRm 0 (h_sz M' - z0) (h_sl M' - y0)) s m args below meth c z0 y0 (h_sz M') (h_sl M') 6 (MQ below (xQc G r M') args s (h_sz M' - z0) (h_sl M' - y0) (xFr G)) 0 [(0, .inr (.inr (some a0))), (1, .inl v1), (2, .inr (.inl w2)), (4, .inl v4)] [] M := by
  unfold b167_0 at h
  refine xv_b E [.iload 4, .iconst 1, .isub, .istore 5] (pc' := 6) (lv' := [(5, .inl (v4 - (1 : Int32))), (0, .inr (.inr (some a0))), (1, .inl v1), (2, .inr (.inl w2)), (4, .inl v4)]) (st' := []) (by decide +kernel) rfl rfl ?_
  obtain rfl := Option.some.inj h
  exact xv_w hN rfl
theorem sb167_6 (E : xE G p (xRm 0 (h_sz M' - z0) (h_sl M' - y0)) s m args c prog_14_method_4_code "ZonedFabricModel" z0 y0 (h_sz M') (h_sl M') 6) (B : xB ym167 none meth) (a0 : Nat) (v1 : Int32) (w2 : Int64) (v5 : Int32) (M : hM) {res : xRes} (h : b167_6 a0 v1 w2 v5 M = some res) (hN : xN (pg167 p l e s m args below meth c G z0 y0 r M') r M' res) : xV G p l e (xRm 0 (h_sz M' - z0) (h_sl M' - y0)) s m args below meth c z0 y0 (h_sz M') (h_sl M') 6 (MQ below (xQc G r M') args s (h_sz M' - z0) (h_sl M' - y0) (xFr G)) 6 [(0, .inr (.inr (some a0))), (1, .inl v1), (2, .inr (.inl w2)), (5, .inl v5)] [] M := by
  unfold b167_6 at h
  refine xv_b E [.iload 5] (pc' := 8) (lv' := [(0, .inr (.inr (some a0))), (1, .inl v1), (2, .inr (.inl w2)), (5, .inl v5)]) (st' := [.inl v5]) (by decide +kernel) rfl rfl ?_
  by_cases q15 : v5 < 0
  · rw [if_pos q15] at h
    refine xv_if_lt E 52 (show decode prog_14_method_4_code 8 = .ok (.ifCond .lt (44), 3) by decide +kernel) rfl (fun _ => ?_) (fun z => absurd q15 z)
    obtain rfl := Option.some.inj h
    obtain ⟨rfl, rfl⟩ := Prod.mk.inj (show ((none : Option aV), M) = (r, M') from hN)
    exact xv_rv E B.1 B.2.1 (show decode prog_14_method_4_code 52 = .ok (.return_, 1) by decide +kernel) rfl rfl
  · rw [if_neg q15] at h
    refine xv_if_lt E 52 (show decode prog_14_method_4_code 8 = .ok (.ifCond .lt (44), 3) by decide +kernel) rfl (fun z => absurd z q15) (fun _ => ?_)
    refine xv_b E [.aload_n 0] (pc' := 12) (lv' := [(0, .inr (.inr (some a0))), (1, .inl v1), (2, .inr (.inl w2)), (5, .inl v5)]) (st' := [.inr (.inr (some a0))]) (by decide +kernel) rfl rfl ?_
    obtain ⟨o_1, h2, h⟩ := bd h
    refine xg_r E 12 6 h2 mw867 (show decode prog_14_method_4_code 12 = .ok (.getfield 17, 3) by decide +kernel) ?_
    refine xv_b E [.iload_n 1, .bipush 80, .imul, .aload_n 0] (pc' := 20) (lv' := [(0, .inr (.inr (some a0))), (1, .inl v1), (2, .inr (.inl w2)), (5, .inl v5)]) (st' := [.inr (.inr (some a0)), .inl (v1 * (80 : Int32)), .inr (.inr o_1)]) (by decide +kernel) rfl rfl ?_
    obtain ⟨o_3, h4, h⟩ := bd h
    refine xg_r E 12 7 h4 mw868 (show decode prog_14_method_4_code 20 = .ok (.getfield 21, 3) by decide +kernel) ?_
    refine xv_b E [.iload_n 1] (pc' := 24) (lv' := [(0, .inr (.inr (some a0))), (1, .inl v1), (2, .inr (.inl w2)), (5, .inl v5)]) (st' := [.inl v1, .inr (.inr o_3), .inl (v1 * (80 : Int32)), .inr (.inr o_1)]) (by decide +kernel) rfl rfl ?_
    obtain ⟨v_5, h6, h⟩ := bd h
    refine xa_i E h6 (show decode prog_14_method_4_code 24 = .ok (.iaload, 1) by decide +kernel) ?_
    refine xv_b E [.iadd, .lload_n 2, .bipush 8, .iload 5, .imul, .lshr, .l2i, .i2b] (pc' := 35) (lv' := [(0, .inr (.inr (some a0))), (1, .inl v1), (2, .inr (.inl w2)), (5, .inl v5)]) (st' := [.inl (Int32.toInt8 (Int64.toInt32 (w2 >>> (Int32.toInt64 ((8 : Int32) * v5) &&& 63)))).toInt32, .inl ((v1 * (80 : Int32)) + v_5), .inr (.inr o_1)]) (by decide +kernel) rfl rfl ?_
    obtain ⟨M7, h8, h⟩ := bd h
    refine xs_b E h8 (show decode prog_14_method_4_code 35 = .ok (.bastore, 1) by decide +kernel) ?_
    refine xv_b E [.aload_n 0] (pc' := 37) (lv' := [(0, .inr (.inr (some a0))), (1, .inl v1), (2, .inr (.inl w2)), (5, .inl v5)]) (st' := [.inr (.inr (some a0))]) (by decide +kernel) rfl rfl ?_
    obtain ⟨o_9, h10, h⟩ := bd h
    refine xg_r E 12 7 h10 mw868 (show decode prog_14_method_4_code 37 = .ok (.getfield 21, 3) by decide +kernel) ?_
    refine xv_b E [.iload_n 1, .dup2] (pc' := 42) (lv' := [(0, .inr (.inr (some a0))), (1, .inl v1), (2, .inr (.inl w2)), (5, .inl v5)]) (st' := [.inl v1, .inr (.inr o_9), .inl v1, .inr (.inr o_9)]) (by decide +kernel) rfl rfl ?_
    obtain ⟨v_11, h12, h⟩ := bd h
    refine xa_i E h12 (show decode prog_14_method_4_code 42 = .ok (.iaload, 1) by decide +kernel) ?_
    refine xv_b E [.iconst 1, .iadd] (pc' := 45) (lv' := [(0, .inr (.inr (some a0))), (1, .inl v1), (2, .inr (.inl w2)), (5, .inl v5)]) (st' := [.inl (v_11 + (1 : Int32)), .inl v1, .inr (.inr o_9)]) (by decide +kernel) rfl rfl ?_
    obtain ⟨M13, h14, h⟩ := bd h
    refine xs_i E h14 (show decode prog_14_method_4_code 45 = .ok (.iastore, 1) by decide +kernel) ?_
    refine xv_b E [.iinc 5 (-1)] (pc' := 49) (lv' := [(5, .inl (v5 + (-1 : Int32))), (0, .inr (.inr (some a0))), (1, .inl v1), (2, .inr (.inl w2))]) (st' := []) (by decide +kernel) rfl rfl ?_
    refine xv_goto E 6 (show decode prog_14_method_4_code 49 = .ok (.goto (-43), 3) by decide +kernel) rfl ?_
    obtain rfl := Option.some.inj h
    exact xv_w hN rfl
end
theorem t167 (G : gX) (l : Launch) {as : List aV} {M : hM} {r : Option aV} {M' : hM} (h : f167 as M = some (r, M')) : xM G l ym167 prog_14_method_4_code 6 none 0 as M r M' := by
  unfold f167 at h
  split at h
  · have hle : ∀ h as M res, k167 h as M = some res → h_sz M ≤ r_sz res ∧ h_sl M ≤ r_sl res := by
      intro h as M res hb
      unfold k167 at hb
      by_cases e0 : h = 6
      · rw [if_pos e0] at hb
        split at hb
        · exact lb167_6 G l _ _ _ _ M hb
        · cases hb
      · rw [if_neg e0] at hb
        cases hb
    obtain ⟨res, hx, hres⟩ := x_go_ok h
    refine xM_of (by decide) (Nat.le_of_ble_eq_true rfl) ?_ ?_
    · have e1 := lb167_0 G l _ _ _ _ M hx
      have e2 := x_go_le hle hres
      omega
    · intro p e s m args below meth c E B
      refine sb167_0 E B _ _ _ _ M hx (hres _ ?_)
      intro h as M res hb hN
      unfold k167 at hb
      unfold pg167
      by_cases e0 : h = 6
      · rw [if_pos e0] at hb ⊢
        split at hb
        · exact sb167_6 E B _ _ _ _ M hb hN
        · cases hb
      · rw [if_neg e0] at hb ⊢
        cases hb
  · cases h
/-! ZFModel.begins(IIIIII)I -/
def ym168 : MethodName := ⟨"ZonedFabricModel", "begins", "(IIIIII)I"⟩
theorem cd168 : xCd ym168 prog_14_method_5_code 8 (some FieldType.int) 6 := ⟨mw931, mw864, by decide, by decide, by decide +kernel⟩
def b168_0 (a0 : Nat) (v1 : Int32) (v2 : Int32) (v3 : Int32) (v4 : Int32) (v5 : Int32) (v6 : Int32) (M : hM) : Option xRes :=
  Option.bind (g_i M 12 9 (some a0)) fun v_1 =>
  Option.bind (p_i M 12 9 (some a0) (v_1 - (1 : Int32))) fun M3 =>
  Option.bind (g_r M3 12 8 (some a0)) fun o_5 =>
  Option.bind (g_i M3 12 9 (some a0)) fun v_7 =>
  Option.bind (al_i M3 20 o_5 v_7) fun v_9 =>
  Option.bind (g_r M3 12 7 (some a0)) fun o_11 =>
  Option.bind (as_i M3 20 o_11 v_9 (0 : Int32)) fun M13 =>
  Option.bind (g_o M13 12 (some a0)) fun b_17 =>
  Option.bind (c_V (f167 [.inr (.inr (some b_17)), .inl v_9, .inr (.inl (Int32.toInt64 v1)), .inl (1 : Int32)] M13)) fun q_15 =>
  Option.bind (g_o q_15 12 (some a0)) fun b_21 =>
  Option.bind (c_V (f167 [.inr (.inr (some b_21)), .inl v_9, .inr (.inl (Int32.toInt64 v2)), .inl (3 : Int32)] q_15)) fun q_19 =>
  Option.bind (g_o q_19 12 (some a0)) fun b_25 =>
  Option.bind (c_V (f167 [.inr (.inr (some b_25)), .inl v_9, .inr (.inl (Int32.toInt64 v3)), .inl (3 : Int32)] q_19)) fun q_23 =>
  Option.bind (g_o q_23 12 (some a0)) fun b_29 =>
  Option.bind (c_V (f167 [.inr (.inr (some b_29)), .inl v_9, .inr (.inl (Int32.toInt64 v4)), .inl (2 : Int32)] q_23)) fun q_27 =>
  Option.bind (g_o q_27 12 (some a0)) fun b_33 =>
  Option.bind (c_V (f167 [.inr (.inr (some b_33)), .inl v_9, .inr (.inl (Int32.toInt64 v5)), .inl (2 : Int32)] q_27)) fun q_31 =>
  Option.bind (g_o q_31 12 (some a0)) fun b_37 =>
  Option.bind (c_V (f167 [.inr (.inr (some b_37)), .inl v_9, .inr (.inl (Int32.toInt64 v6)), .inl (1 : Int32)] q_31)) fun q_35 =>
  Option.bind (g_o q_35 12 (some a0)) fun b_41 =>
  Option.bind (c_V (f167 [.inr (.inr (some b_41)), .inl v_9, .inr (.inl (0 : Int64)), .inl (1 : Int32)] q_35)) fun q_39 =>
  some (.inl (some (.inl v_9), q_39))
def f168 (as : List aV) (M : hM) : xO := match as with
  | [.inr (.inr (some a0)), .inl v1, .inl v2, .inl v3, .inl v4, .inl v5, .inl v6] => x_out (b168_0 a0 v1 v2 v3 v4 v5 v6 M)
  | _ => none
theorem lb168_0 (G : gX) (l : Launch) (a0 : Nat) (v1 : Int32) (v2 : Int32) (v3 : Int32) (v4 : Int32) (v5 : Int32) (v6 : Int32) (M : hM) {res : xRes} (h : b168_0 a0 v1 v2 v3 v4 v5 v6 M = some res) : h_sz M ≤ r_sz res ∧ h_sl M ≤ r_sl res := by
  unfold b168_0 at h
  obtain ⟨v_1, h2, h⟩ := bd h
  obtain ⟨M3, h4, h⟩ := bd h
  have eh4 := p_i_sz h4
  obtain ⟨o_5, h6, h⟩ := bd h
  obtain ⟨v_7, h8, h⟩ := bd h
  obtain ⟨v_9, h10, h⟩ := bd h
  obtain ⟨o_11, h12, h⟩ := bd h
  obtain ⟨M13, h14, h⟩ := bd h
  have eh14 := as_i_sz h14
  obtain ⟨b_17, h18, h⟩ := bd h
  obtain ⟨q_15, h16, h⟩ := bd h
  have eh16 := (t167 G l (c_V_some h16)).1
  obtain ⟨b_21, h22, h⟩ := bd h
  obtain ⟨q_19, h20, h⟩ := bd h
  have eh20 := (t167 G l (c_V_some h20)).1
  obtain ⟨b_25, h26, h⟩ := bd h
  obtain ⟨q_23, h24, h⟩ := bd h
  have eh24 := (t167 G l (c_V_some h24)).1
  obtain ⟨b_29, h30, h⟩ := bd h
  obtain ⟨q_27, h28, h⟩ := bd h
  have eh28 := (t167 G l (c_V_some h28)).1
  obtain ⟨b_33, h34, h⟩ := bd h
  obtain ⟨q_31, h32, h⟩ := bd h
  have eh32 := (t167 G l (c_V_some h32)).1
  obtain ⟨b_37, h38, h⟩ := bd h
  obtain ⟨q_35, h36, h⟩ := bd h
  have eh36 := (t167 G l (c_V_some h36)).1
  obtain ⟨b_41, h42, h⟩ := bd h
  obtain ⟨q_39, h40, h⟩ := bd h
  have eh40 := (t167 G l (c_V_some h40)).1
  obtain rfl := Option.some.inj h
  show h_sz M ≤ h_sz q_39 ∧ h_sl M ≤ h_sl q_39
  omega
section
variable {p : Program} {l : Launch} {e : Env} {s : State} {m : MethodId} {args : Array Value} {below : List Frame} {meth : Method} {c : Code} {G : gX} {z0 y0 : Nat} {r : Option aV} {M' : hM}
theorem sb168_0 (E : xE G p (xRm 1 (h_sz M' - z0) (h_sl M' - y0)) s m args c prog_14_method_5_code "ZonedFabricModel" z0 y0 (h_sz M') (h_sl M') 8) (B : xB ym168 (some FieldType.int) meth) (a0 : Nat) (v1 : Int32) (v2 : Int32) (v3 : Int32) (v4 : Int32) (v5 : Int32) (v6 : Int32) (M : hM) {res : xRes} (h : b168_0 a0 v1 v2 v3 v4 v5 v6 M = some res) (hN : xN (fun _ _ _ => False) r M' res) : xV G p l e (xRm 1 (h_sz M' - z0) (h_sl M' - y0)) s m args below meth c z0 y0 (h_sz M') (h_sl M') 8 (MQ below (xQc G r M') args s (h_sz M' - z0) (h_sl M' - y0) (xFr G)) 0 [(0, .inr (.inr (some a0))), (1, .inl v1), (2, .inl v2), (3, .inl v3), (4, .inl v4), (5, .inl v5), (6, .inl v6)] [] M := by
  unfold b168_0 at h
  refine xv_b E [.aload_n 0, .dup] (pc' := 2) (lv' := [(0, .inr (.inr (some a0))), (1, .inl v1), (2, .inl v2), (3, .inl v3), (4, .inl v4), (5, .inl v5), (6, .inl v6)]) (st' := [.inr (.inr (some a0)), .inr (.inr (some a0))]) (by decide +kernel) rfl rfl ?_
  obtain ⟨v_1, h2, h⟩ := bd h
  refine xg_i E 12 9 h2 mw924 (show decode prog_14_method_5_code 2 = .ok (.getfield 183, 3) by decide +kernel) ?_
  refine xv_b E [.iconst 1, .isub] (pc' := 7) (lv' := [(0, .inr (.inr (some a0))), (1, .inl v1), (2, .inl v2), (3, .inl v3), (4, .inl v4), (5, .inl v5), (6, .inl v6)]) (st' := [.inl (v_1 - (1 : Int32)), .inr (.inr (some a0))]) (by decide +kernel) rfl rfl ?_
  obtain ⟨M3, h4, h⟩ := bd h
  refine xp_i E 12 9 h4 mw924 (show decode prog_14_method_5_code 7 = .ok (.putfield 183, 3) by decide +kernel) (Or.inl rfl) ?_
  refine xv_b E [.aload_n 0] (pc' := 11) (lv' := [(0, .inr (.inr (some a0))), (1, .inl v1), (2, .inl v2), (3, .inl v3), (4, .inl v4), (5, .inl v5), (6, .inl v6)]) (st' := [.inr (.inr (some a0))]) (by decide +kernel) rfl rfl ?_
  obtain ⟨o_5, h6, h⟩ := bd h
  refine xg_r E 12 8 h6 mw869 (show decode prog_14_method_5_code 11 = .ok (.getfield 24, 3) by decide +kernel) ?_
  refine xv_b E [.aload_n 0] (pc' := 15) (lv' := [(0, .inr (.inr (some a0))), (1, .inl v1), (2, .inl v2), (3, .inl v3), (4, .inl v4), (5, .inl v5), (6, .inl v6)]) (st' := [.inr (.inr (some a0)), .inr (.inr o_5)]) (by decide +kernel) rfl rfl ?_
  obtain ⟨v_7, h8, h⟩ := bd h
  refine xg_i E 12 9 h8 mw924 (show decode prog_14_method_5_code 15 = .ok (.getfield 183, 3) by decide +kernel) ?_
  obtain ⟨v_9, h10, h⟩ := bd h
  refine xa_i E h10 (show decode prog_14_method_5_code 18 = .ok (.iaload, 1) by decide +kernel) ?_
  refine xv_b E [.istore 7, .aload_n 0] (pc' := 22) (lv' := [(7, .inl v_9), (0, .inr (.inr (some a0))), (1, .inl v1), (2, .inl v2), (3, .inl v3), (4, .inl v4), (5, .inl v5), (6, .inl v6)]) (st' := [.inr (.inr (some a0))]) (by decide +kernel) rfl rfl ?_
  obtain ⟨o_11, h12, h⟩ := bd h
  refine xg_r E 12 7 h12 mw868 (show decode prog_14_method_5_code 22 = .ok (.getfield 21, 3) by decide +kernel) ?_
  refine xv_b E [.iload 7, .iconst 0] (pc' := 28) (lv' := [(7, .inl v_9), (0, .inr (.inr (some a0))), (1, .inl v1), (2, .inl v2), (3, .inl v3), (4, .inl v4), (5, .inl v5), (6, .inl v6)]) (st' := [.inl (0 : Int32), .inl v_9, .inr (.inr o_11)]) (by decide +kernel) rfl rfl ?_
  obtain ⟨M13, h14, h⟩ := bd h
  refine xs_i E h14 (show decode prog_14_method_5_code 28 = .ok (.iastore, 1) by decide +kernel) ?_
  refine xv_b E [.aload_n 0, .iload 7, .iload_n 1, .i2l, .iconst 1] (pc' := 35) (lv' := [(7, .inl v_9), (0, .inr (.inr (some a0))), (1, .inl v1), (2, .inl v2), (3, .inl v3), (4, .inl v4), (5, .inl v5), (6, .inl v6)]) (st' := [.inl (1 : Int32), .inr (.inl (Int32.toInt64 v1)), .inl v_9, .inr (.inr (some a0))]) (by decide +kernel) rfl rfl ?_
  obtain ⟨b_17, h18, h⟩ := bd h
  obtain ⟨eh18, th18⟩ := g_o_some h18
  obtain ⟨q_15, h16, h⟩ := bd h
  refine xv_cvo E eh18 12 (as := [.inl v_9, .inr (.inl (Int32.toInt64 v1)), .inl (1 : Int32)]) (t167 G l (c_V_some h16)) cd167 mw932 mw933 mw934 (show decode prog_14_method_5_code 35 = .ok (.invokevirtual 190, 3) by decide +kernel) th18 rfl rfl (Nat.le_of_ble_eq_true rfl) ⟨Nat.le_of_ble_eq_true rfl, Nat.le_of_ble_eq_true rfl⟩ ?_
  refine xv_b E [.aload_n 0, .iload 7, .iload_n 2, .i2l, .iconst 3] (pc' := 44) (lv' := [(7, .inl v_9), (0, .inr (.inr (some a0))), (1, .inl v1), (2, .inl v2), (3, .inl v3), (4, .inl v4), (5, .inl v5), (6, .inl v6)]) (st' := [.inl (3 : Int32), .inr (.inl (Int32.toInt64 v2)), .inl v_9, .inr (.inr (some a0))]) (by decide +kernel) rfl rfl ?_
  obtain ⟨b_21, h22, h⟩ := bd h
  obtain ⟨eh22, th22⟩ := g_o_some h22
  obtain ⟨q_19, h20, h⟩ := bd h
  refine xv_cvo E eh22 12 (as := [.inl v_9, .inr (.inl (Int32.toInt64 v2)), .inl (3 : Int32)]) (t167 G l (c_V_some h20)) cd167 mw932 mw933 mw934 (show decode prog_14_method_5_code 44 = .ok (.invokevirtual 190, 3) by decide +kernel) th22 rfl rfl (Nat.le_of_ble_eq_true rfl) ⟨Nat.le_of_ble_eq_true rfl, Nat.le_of_ble_eq_true rfl⟩ ?_
  refine xv_b E [.aload_n 0, .iload 7, .iload_n 3, .i2l, .iconst 3] (pc' := 53) (lv' := [(7, .inl v_9), (0, .inr (.inr (some a0))), (1, .inl v1), (2, .inl v2), (3, .inl v3), (4, .inl v4), (5, .inl v5), (6, .inl v6)]) (st' := [.inl (3 : Int32), .inr (.inl (Int32.toInt64 v3)), .inl v_9, .inr (.inr (some a0))]) (by decide +kernel) rfl rfl ?_
  obtain ⟨b_25, h26, h⟩ := bd h
  obtain ⟨eh26, th26⟩ := g_o_some h26
  obtain ⟨q_23, h24, h⟩ := bd h
  refine xv_cvo E eh26 12 (as := [.inl v_9, .inr (.inl (Int32.toInt64 v3)), .inl (3 : Int32)]) (t167 G l (c_V_some h24)) cd167 mw932 mw933 mw934 (show decode prog_14_method_5_code 53 = .ok (.invokevirtual 190, 3) by decide +kernel) th26 rfl rfl (Nat.le_of_ble_eq_true rfl) ⟨Nat.le_of_ble_eq_true rfl, Nat.le_of_ble_eq_true rfl⟩ ?_
  refine xv_b E [.aload_n 0, .iload 7, .iload 4, .i2l, .iconst 2] (pc' := 63) (lv' := [(7, .inl v_9), (0, .inr (.inr (some a0))), (1, .inl v1), (2, .inl v2), (3, .inl v3), (4, .inl v4), (5, .inl v5), (6, .inl v6)]) (st' := [.inl (2 : Int32), .inr (.inl (Int32.toInt64 v4)), .inl v_9, .inr (.inr (some a0))]) (by decide +kernel) rfl rfl ?_
  obtain ⟨b_29, h30, h⟩ := bd h
  obtain ⟨eh30, th30⟩ := g_o_some h30
  obtain ⟨q_27, h28, h⟩ := bd h
  refine xv_cvo E eh30 12 (as := [.inl v_9, .inr (.inl (Int32.toInt64 v4)), .inl (2 : Int32)]) (t167 G l (c_V_some h28)) cd167 mw932 mw933 mw934 (show decode prog_14_method_5_code 63 = .ok (.invokevirtual 190, 3) by decide +kernel) th30 rfl rfl (Nat.le_of_ble_eq_true rfl) ⟨Nat.le_of_ble_eq_true rfl, Nat.le_of_ble_eq_true rfl⟩ ?_
  refine xv_b E [.aload_n 0, .iload 7, .iload 5, .i2l, .iconst 2] (pc' := 73) (lv' := [(7, .inl v_9), (0, .inr (.inr (some a0))), (1, .inl v1), (2, .inl v2), (3, .inl v3), (4, .inl v4), (5, .inl v5), (6, .inl v6)]) (st' := [.inl (2 : Int32), .inr (.inl (Int32.toInt64 v5)), .inl v_9, .inr (.inr (some a0))]) (by decide +kernel) rfl rfl ?_
  obtain ⟨b_33, h34, h⟩ := bd h
  obtain ⟨eh34, th34⟩ := g_o_some h34
  obtain ⟨q_31, h32, h⟩ := bd h
  refine xv_cvo E eh34 12 (as := [.inl v_9, .inr (.inl (Int32.toInt64 v5)), .inl (2 : Int32)]) (t167 G l (c_V_some h32)) cd167 mw932 mw933 mw934 (show decode prog_14_method_5_code 73 = .ok (.invokevirtual 190, 3) by decide +kernel) th34 rfl rfl (Nat.le_of_ble_eq_true rfl) ⟨Nat.le_of_ble_eq_true rfl, Nat.le_of_ble_eq_true rfl⟩ ?_
  refine xv_b E [.aload_n 0, .iload 7, .iload 6, .i2l, .iconst 1] (pc' := 83) (lv' := [(7, .inl v_9), (0, .inr (.inr (some a0))), (1, .inl v1), (2, .inl v2), (3, .inl v3), (4, .inl v4), (5, .inl v5), (6, .inl v6)]) (st' := [.inl (1 : Int32), .inr (.inl (Int32.toInt64 v6)), .inl v_9, .inr (.inr (some a0))]) (by decide +kernel) rfl rfl ?_
  obtain ⟨b_37, h38, h⟩ := bd h
  obtain ⟨eh38, th38⟩ := g_o_some h38
  obtain ⟨q_35, h36, h⟩ := bd h
  refine xv_cvo E eh38 12 (as := [.inl v_9, .inr (.inl (Int32.toInt64 v6)), .inl (1 : Int32)]) (t167 G l (c_V_some h36)) cd167 mw932 mw933 mw934 (show decode prog_14_method_5_code 83 = .ok (.invokevirtual 190, 3) by decide +kernel) th38 rfl rfl (Nat.le_of_ble_eq_true rfl) ⟨Nat.le_of_ble_eq_true rfl, Nat.le_of_ble_eq_true rfl⟩ ?_
  refine xv_b E [.aload_n 0, .iload 7, .lconst 0, .iconst 1] (pc' := 91) (lv' := [(7, .inl v_9), (0, .inr (.inr (some a0))), (1, .inl v1), (2, .inl v2), (3, .inl v3), (4, .inl v4), (5, .inl v5), (6, .inl v6)]) (st' := [.inl (1 : Int32), .inr (.inl (0 : Int64)), .inl v_9, .inr (.inr (some a0))]) (by decide +kernel) rfl rfl ?_
  obtain ⟨b_41, h42, h⟩ := bd h
  obtain ⟨eh42, th42⟩ := g_o_some h42
  obtain ⟨q_39, h40, h⟩ := bd h
  refine xv_cvo E eh42 12 (as := [.inl v_9, .inr (.inl (0 : Int64)), .inl (1 : Int32)]) (t167 G l (c_V_some h40)) cd167 mw932 mw933 mw934 (show decode prog_14_method_5_code 91 = .ok (.invokevirtual 190, 3) by decide +kernel) th42 rfl rfl (Nat.le_of_ble_eq_true rfl) ⟨Nat.le_of_ble_eq_true rfl, Nat.le_of_ble_eq_true rfl⟩ ?_
  refine xv_b E [.iload 7] (pc' := 96) (lv' := [(7, .inl v_9), (0, .inr (.inr (some a0))), (1, .inl v1), (2, .inl v2), (3, .inl v3), (4, .inl v4), (5, .inl v5), (6, .inl v6)]) (st' := [.inl v_9]) (by decide +kernel) rfl rfl ?_
  obtain rfl := Option.some.inj h
  obtain ⟨rfl, rfl⟩ := Prod.mk.inj (show ((some (.inl v_9) : Option aV), q_39) = (r, M') from hN)
  exact xv_ri E B.1 rfl B.2.1 (show decode prog_14_method_5_code 96 = .ok (.ireturn, 1) by decide +kernel) rfl rfl
end
theorem t168 (G : gX) (l : Launch) {as : List aV} {M : hM} {r : Option aV} {M' : hM} (h : f168 as M = some (r, M')) : xM G l ym168 prog_14_method_5_code 8 (some FieldType.int) 1 as M r M' := by
  unfold f168 at h
  split at h
  · have h := x_out_ok h
    refine xM_of (by decide) (Nat.le_of_ble_eq_true rfl) (lb168_0 G l _ _ _ _ _ _ _ M h) ?_
    intro p e s m args below meth c E B
    exact sb168_0 E B _ _ _ _ _ _ _ M h rfl
  · cases h
/-! ZFModel.check(II)I -/
def ym169 : MethodName := ⟨"ZonedFabricModel", "check", "(II)I"⟩
theorem cd169 : xCd ym169 prog_14_method_8_code 7 (some FieldType.int) 2 := ⟨mw935, mw864, by decide, by decide, by decide +kernel⟩
def b169_0 (a0 : Nat) (v1 : Int32) (v2 : Int32) (M : hM) : Option xRes :=
  some (.inr (5, [.inr (.inr (some a0)), .inl v1, .inl v2, .inl (-1 : Int32), .inl (0 : Int32)], M))
def b169_5 (a0 : Nat) (v1 : Int32) (v2 : Int32) (v3 : Int32) (v4 : Int32) (M : hM) : Option xRes :=
  if v2 ≤ v4 then
    (some (.inl (some (.inl (v3 ^^^ (-1 : Int32))), M)))
  else
    (Option.bind (g_o M 12 (some a0)) fun b_3 =>
    Option.bind (c_I (f165 [.inr (.inr (some b_3)), .inl v1, .inl v4] M)) fun q_1 =>
    some (.inr (24, [.inr (.inr (some a0)), .inl v1, .inl v2, .inl (v3 ^^^ q_1.1), .inl v4, .inl (0 : Int32)], q_1.2)))
def b169_51 (a0 : Nat) (v1 : Int32) (v2 : Int32) (v3 : Int32) (v4 : Int32) (v5 : Int32) (M : hM) : Option xRes :=
  some (.inr (24, [.inr (.inr (some a0)), .inl v1, .inl v2, .inl v3, .inl v4, .inl (v5 + (1 : Int32))], M))
def b169_24 (a0 : Nat) (v1 : Int32) (v2 : Int32) (v3 : Int32) (v4 : Int32) (v5 : Int32) (M : hM) : Option xRes :=
  if (8 : Int32) ≤ v5 then
    (some (.inr (5, [.inr (.inr (some a0)), .inl v1, .inl v2, .inl v3, .inl (v4 + (1 : Int32))], M)))
  else
    (if (v3 &&& (1 : Int32)) = (1 : Int32) then
      (b169_51 a0 v1 v2 ((Int32.toUInt32 v3 >>> (Int32.toUInt32 (1 : Int32) &&& Int32.toUInt32 31)).toInt32 ^^^ (-306674912 : Int32)) v4 v5 M)
    else
      (b169_51 a0 v1 v2 (Int32.toUInt32 v3 >>> (Int32.toUInt32 (1 : Int32) &&& Int32.toUInt32 31)).toInt32 v4 v5 M))
def k169 (h : Nat) (as : List aV) (M : hM) : Option xRes :=
  if h = 5 then (match as with | [.inr (.inr (some a0)), .inl v1, .inl v2, .inl v3, .inl v4] => b169_5 a0 v1 v2 v3 v4 M | _ => none) else
  if h = 24 then (match as with | [.inr (.inr (some a0)), .inl v1, .inl v2, .inl v3, .inl v4, .inl v5] => b169_24 a0 v1 v2 v3 v4 v5 M | _ => none) else
  none
def f169 (as : List aV) (M : hM) : xO := match as with
  | [.inr (.inr (some a0)), .inl v1, .inl v2] => x_go k169 (b169_0 a0 v1 v2 M)
  | _ => none
theorem lb169_0 (G : gX) (l : Launch) (a0 : Nat) (v1 : Int32) (v2 : Int32) (M : hM) {res : xRes} (h : b169_0 a0 v1 v2 M = some res) : h_sz M ≤ r_sz res ∧ h_sl M ≤ r_sl res := by
  unfold b169_0 at h
  obtain rfl := Option.some.inj h
  show h_sz M ≤ h_sz M ∧ h_sl M ≤ h_sl M
  omega
theorem lb169_5 (G : gX) (l : Launch) (a0 : Nat) (v1 : Int32) (v2 : Int32) (v3 : Int32) (v4 : Int32) (M : hM) {res : xRes} (h : b169_5 a0 v1 v2 v3 v4 M = some res) : h_sz M ≤ r_sz res ∧ h_sl M ≤ r_sl res := by
  unfold b169_5 at h
  by_cases q5 : v2 ≤ v4
  · rw [if_pos q5] at h
    obtain rfl := Option.some.inj h
    show h_sz M ≤ h_sz M ∧ h_sl M ≤ h_sl M
    omega
  · rw [if_neg q5] at h
    obtain ⟨b_3, h4, h⟩ := bd h
    obtain ⟨q_1, h2, h⟩ := bd h
    have eh2 := (t165 G l (c_I_some h2)).1
    obtain rfl := Option.some.inj h
    show h_sz M ≤ h_sz q_1.2 ∧ h_sl M ≤ h_sl q_1.2
    omega
theorem lb169_51 (G : gX) (l : Launch) (a0 : Nat) (v1 : Int32) (v2 : Int32) (v3 : Int32) (v4 : Int32) (v5 : Int32) (M : hM) {res : xRes} (h : b169_51 a0 v1 v2 v3 v4 v5 M = some res) : h_sz M ≤ r_sz res ∧ h_sl M ≤ r_sl res := by
  unfold b169_51 at h
  obtain rfl := Option.some.inj h
  show h_sz M ≤ h_sz M ∧ h_sl M ≤ h_sl M
  omega
theorem lb169_24 (G : gX) (l : Launch) (a0 : Nat) (v1 : Int32) (v2 : Int32) (v3 : Int32) (v4 : Int32) (v5 : Int32) (M : hM) {res : xRes} (h : b169_24 a0 v1 v2 v3 v4 v5 M = some res) : h_sz M ≤ r_sz res ∧ h_sl M ≤ r_sl res := by
  unfold b169_24 at h
  by_cases q7 : (8 : Int32) ≤ v5
  · rw [if_pos q7] at h
    obtain rfl := Option.some.inj h
    show h_sz M ≤ h_sz M ∧ h_sl M ≤ h_sl M
    omega
  · rw [if_neg q7] at h
    by_cases q6 : (v3 &&& (1 : Int32)) = (1 : Int32)
    · rw [if_pos q6] at h
      have e := lb169_51 G l a0 v1 v2 ((Int32.toUInt32 v3 >>> (Int32.toUInt32 (1 : Int32) &&& Int32.toUInt32 31)).toInt32 ^^^ (-306674912 : Int32)) v4 v5 M h
      omega
    · rw [if_neg q6] at h
      have e := lb169_51 G l a0 v1 v2 (Int32.toUInt32 v3 >>> (Int32.toUInt32 (1 : Int32) &&& Int32.toUInt32 31)).toInt32 v4 v5 M h
      omega
section
variable {p : Program} {l : Launch} {e : Env} {s : State} {m : MethodId} {args : Array Value} {below : List Frame} {meth : Method} {c : Code} {G : gX} {z0 y0 : Nat} {r : Option aV} {M' : hM}
def pg169 (p : Program) (l : Launch) (e : Env) (s : State) (m : MethodId) (args : Array Value) (below : List Frame) (meth : Method) (c : Code) (G : gX) (z0 y0 : Nat) (r : Option aV) (M' : hM) (h : Nat) (as : List aV) (M : hM) : Prop :=
  if h = 5 then (match as with | [.inr (.inr (some a0)), .inl v1, .inl v2, .inl v3, .inl v4] => xV G p l e (xRm 1 (h_sz M' - z0) (h_sl M' - y0)) s m args below meth c z0 y0 (h_sz M') (h_sl M') 7 (MQ below (xQc G r M') args s (h_sz M' - z0) (h_sl M' - y0) (xFr G)) 5 [(0, .inr (.inr (some a0))), (1, .inl v1), (2, .inl v2), (3, .inl v3), (4, .inl v4)] [] M | _ => False) else
  if h = 24 then (match as with | [.inr (.inr (some a0)), .inl v1, .inl v2, .inl v3, .inl v4, .inl v5] => xV G p l e (xRm 1 (h_sz M' - z0) (h_sl M' - y0)) s m args below meth c z0 y0 (h_sz M') (h_sl M') 7 (MQ below (xQc G r M') args s (h_sz M' - z0) (h_sl M' - y0) (xFr G)) 24 [(0, .inr (.inr (some a0))), (1, .inl v1), (2, .inl v2), (3, .inl v3), (4, .inl v4), (5, .inl v5)] [] M | _ => False) else
  False
theorem sb169_0 (E : xE G p (xRm 1 (h_sz M' - z0) (h_sl M' - y0)) s m args c prog_14_method_8_code "ZonedFabricModel" z0 y0 (h_sz M') (h_sl M') 7) (B : xB ym169 (some FieldType.int) meth) (a0 : Nat) (v1 : Int32) (v2 : Int32) (M : hM) {res : xRes} (h : b169_0 a0 v1 v2 M = some res) (hN : xN (pg169 p l e s m args below meth c G z0 y0 r M') r M' res) : xV G p l e (xRm 1 (h_sz M' - z0) (h_sl M' - y0)) s m args below meth c z0 y0 (h_sz M') (h_sl M') 7 (MQ below (xQc G r M') args s (h_sz M' - z0) (h_sl M' - y0) (xFr G)) 0 [(0, .inr (.inr (some a0))), (1, .inl v1), (2, .inl v2)] [] M := by
  unfold b169_0 at h
  refine xv_b E [.iconst (-1), .istore_n 3, .iconst 0, .istore 4] (pc' := 5) (lv' := [(4, .inl (0 : Int32)), (3, .inl (-1 : Int32)), (0, .inr (.inr (some a0))), (1, .inl v1), (2, .inl v2)]) (st' := []) (by decide +kernel) rfl rfl ?_
  obtain rfl := Option.some.inj h
  exact xv_w hN rfl
theorem sb169_5 (E : xE G p (xRm 1 (h_sz M' - z0) (h_sl M' - y0)) s m args c prog_14_method_8_code "ZonedFabricModel" z0 y0 (h_sz M') (h_sl M') 7) (B : xB ym169 (some FieldType.int) meth) (a0 : Nat) (v1 : Int32) (v2 : Int32) (v3 : Int32) (v4 : Int32) (M : hM) {res : xRes} (h : b169_5 a0 v1 v2 v3 v4 M = some res) (hN : xN (pg169 p l e s m args below meth c G z0 y0 r M') r M' res) : xV G p l e (xRm 1 (h_sz M' - z0) (h_sl M' - y0)) s m args below meth c z0 y0 (h_sz M') (h_sl M') 7 (MQ below (xQc G r M') args s (h_sz M' - z0) (h_sl M' - y0) (xFr G)) 5 [(0, .inr (.inr (some a0))), (1, .inl v1), (2, .inl v2), (3, .inl v3), (4, .inl v4)] [] M := by
  unfold b169_5 at h
  refine xv_b E [.iload 4, .iload_n 2] (pc' := 8) (lv' := [(0, .inr (.inr (some a0))), (1, .inl v1), (2, .inl v2), (3, .inl v3), (4, .inl v4)]) (st' := [.inl v2, .inl v4]) (by decide +kernel) rfl rfl ?_
  by_cases q5 : v2 ≤ v4
  · rw [if_pos q5] at h
    refine xv_icmp_ge E 63 (show decode prog_14_method_8_code 8 = .ok (.if_icmp .ge (55), 3) by decide +kernel) rfl (fun _ => ?_) (fun z => absurd q5 z)
    refine xv_b E [.iload_n 3, .iconst (-1), .ixor] (pc' := 66) (lv' := [(0, .inr (.inr (some a0))), (1, .inl v1), (2, .inl v2), (3, .inl v3), (4, .inl v4)]) (st' := [.inl (v3 ^^^ (-1 : Int32))]) (by decide +kernel) rfl rfl ?_
    obtain rfl := Option.some.inj h
    obtain ⟨rfl, rfl⟩ := Prod.mk.inj (show ((some (.inl (v3 ^^^ (-1 : Int32))) : Option aV), M) = (r, M') from hN)
    exact xv_ri E B.1 rfl B.2.1 (show decode prog_14_method_8_code 66 = .ok (.ireturn, 1) by decide +kernel) rfl rfl
  · rw [if_neg q5] at h
    refine xv_icmp_ge E 63 (show decode prog_14_method_8_code 8 = .ok (.if_icmp .ge (55), 3) by decide +kernel) rfl (fun z => absurd z q5) (fun _ => ?_)
    refine xv_b E [.iload_n 3, .aload_n 0, .iload_n 1, .iload 4] (pc' := 16) (lv' := [(0, .inr (.inr (some a0))), (1, .inl v1), (2, .inl v2), (3, .inl v3), (4, .inl v4)]) (st' := [.inl v4, .inl v1, .inr (.inr (some a0)), .inl v3]) (by decide +kernel) rfl rfl ?_
    obtain ⟨b_3, h4, h⟩ := bd h
    obtain ⟨eh4, th4⟩ := g_o_some h4
    obtain ⟨q_1, h2, h⟩ := bd h
    refine xv_cvo E eh4 12 (as := [.inl v1, .inl v4]) (t165 G l (c_I_some h2)) cd165 mw927 mw928 mw929 (show decode prog_14_method_8_code 16 = .ok (.invokevirtual 186, 3) by decide +kernel) th4 rfl rfl (Nat.le_of_ble_eq_true rfl) ⟨Nat.le_of_ble_eq_true rfl, Nat.le_of_ble_eq_true rfl⟩ ?_
    refine xv_b E [.ixor, .istore_n 3, .iconst 0, .istore 5] (pc' := 24) (lv' := [(5, .inl (0 : Int32)), (3, .inl (v3 ^^^ q_1.1)), (0, .inr (.inr (some a0))), (1, .inl v1), (2, .inl v2), (4, .inl v4)]) (st' := []) (by decide +kernel) rfl rfl ?_
    obtain rfl := Option.some.inj h
    exact xv_w hN rfl
theorem sb169_51 (E : xE G p (xRm 1 (h_sz M' - z0) (h_sl M' - y0)) s m args c prog_14_method_8_code "ZonedFabricModel" z0 y0 (h_sz M') (h_sl M') 7) (B : xB ym169 (some FieldType.int) meth) (a0 : Nat) (v1 : Int32) (v2 : Int32) (v3 : Int32) (v4 : Int32) (v5 : Int32) (M : hM) {res : xRes} (h : b169_51 a0 v1 v2 v3 v4 v5 M = some res) (hN : xN (pg169 p l e s m args below meth c G z0 y0 r M') r M' res) : xV G p l e (xRm 1 (h_sz M' - z0) (h_sl M' - y0)) s m args below meth c z0 y0 (h_sz M') (h_sl M') 7 (MQ below (xQc G r M') args s (h_sz M' - z0) (h_sl M' - y0) (xFr G)) 51 [(0, .inr (.inr (some a0))), (1, .inl v1), (2, .inl v2), (3, .inl v3), (4, .inl v4), (5, .inl v5)] [] M := by
  unfold b169_51 at h
  refine xv_b E [.iinc 5 1] (pc' := 54) (lv' := [(5, .inl (v5 + (1 : Int32))), (0, .inr (.inr (some a0))), (1, .inl v1), (2, .inl v2), (3, .inl v3), (4, .inl v4)]) (st' := []) (by decide +kernel) rfl rfl ?_
  refine xv_goto E 24 (show decode prog_14_method_8_code 54 = .ok (.goto (-30), 3) by decide +kernel) rfl ?_
  obtain rfl := Option.some.inj h
  exact xv_w hN rfl
theorem sb169_24 (E : xE G p (xRm 1 (h_sz M' - z0) (h_sl M' - y0)) s m args c prog_14_method_8_code "ZonedFabricModel" z0 y0 (h_sz M') (h_sl M') 7) (B : xB ym169 (some FieldType.int) meth) (a0 : Nat) (v1 : Int32) (v2 : Int32) (v3 : Int32) (v4 : Int32) (v5 : Int32) (M : hM) {res : xRes} (h : b169_24 a0 v1 v2 v3 v4 v5 M = some res) (hN : xN (pg169 p l e s m args below meth c G z0 y0 r M') r M' res) : xV G p l e (xRm 1 (h_sz M' - z0) (h_sl M' - y0)) s m args below meth c z0 y0 (h_sz M') (h_sl M') 7 (MQ below (xQc G r M') args s (h_sz M' - z0) (h_sl M' - y0) (xFr G)) 24 [(0, .inr (.inr (some a0))), (1, .inl v1), (2, .inl v2), (3, .inl v3), (4, .inl v4), (5, .inl v5)] [] M := by
  unfold b169_24 at h
  refine xv_b E [.iload 5, .bipush 8] (pc' := 28) (lv' := [(0, .inr (.inr (some a0))), (1, .inl v1), (2, .inl v2), (3, .inl v3), (4, .inl v4), (5, .inl v5)]) (st' := [.inl (8 : Int32), .inl v5]) (by decide +kernel) rfl rfl ?_
  by_cases q7 : (8 : Int32) ≤ v5
  · rw [if_pos q7] at h
    refine xv_icmp_ge E 57 (show decode prog_14_method_8_code 28 = .ok (.if_icmp .ge (29), 3) by decide +kernel) rfl (fun _ => ?_) (fun z => absurd q7 z)
    refine xv_b E [.iinc 4 1] (pc' := 60) (lv' := [(4, .inl (v4 + (1 : Int32))), (0, .inr (.inr (some a0))), (1, .inl v1), (2, .inl v2), (3, .inl v3), (5, .inl v5)]) (st' := []) (by decide +kernel) rfl rfl ?_
    refine xv_goto E 5 (show decode prog_14_method_8_code 60 = .ok (.goto (-55), 3) by decide +kernel) rfl ?_
    obtain rfl := Option.some.inj h
    exact xv_w hN rfl
  · rw [if_neg q7] at h
    refine xv_icmp_ge E 57 (show decode prog_14_method_8_code 28 = .ok (.if_icmp .ge (29), 3) by decide +kernel) rfl (fun z => absurd z q7) (fun _ => ?_)
    refine xv_b E [.iload_n 3, .iconst 1, .iand, .istore 6, .iload_n 3, .iconst 1, .iushr, .istore_n 3, .iload 6, .iconst 1] (pc' := 43) (lv' := [(3, .inl (Int32.toUInt32 v3 >>> (Int32.toUInt32 (1 : Int32) &&& Int32.toUInt32 31)).toInt32), (6, .inl (v3 &&& (1 : Int32))), (0, .inr (.inr (some a0))), (1, .inl v1), (2, .inl v2), (4, .inl v4), (5, .inl v5)]) (st' := [.inl (1 : Int32), .inl (v3 &&& (1 : Int32))]) (by decide +kernel) rfl rfl ?_
    by_cases q6 : (v3 &&& (1 : Int32)) = (1 : Int32)
    · rw [if_pos q6] at h
      refine xv_icmp_ne E 51 (show decode prog_14_method_8_code 43 = .ok (.if_icmp .ne (8), 3) by decide +kernel) rfl (fun z => absurd q6 z) (fun _ => ?_)
      refine xv_b E [.iload_n 3] (pc' := 47) (lv' := [(3, .inl (Int32.toUInt32 v3 >>> (Int32.toUInt32 (1 : Int32) &&& Int32.toUInt32 31)).toInt32), (6, .inl (v3 &&& (1 : Int32))), (0, .inr (.inr (some a0))), (1, .inl v1), (2, .inl v2), (4, .inl v4), (5, .inl v5)]) (st' := [.inl (Int32.toUInt32 v3 >>> (Int32.toUInt32 (1 : Int32) &&& Int32.toUInt32 31)).toInt32]) (by decide +kernel) rfl rfl ?_
      refine xv_ldc E (-306674912 : Int32) mw936 (show decode prog_14_method_8_code 47 = .ok (.ldc 197, 2) by decide +kernel) ?_
      refine xv_b E [.ixor, .istore_n 3] (pc' := 51) (lv' := [(3, .inl ((Int32.toUInt32 v3 >>> (Int32.toUInt32 (1 : Int32) &&& Int32.toUInt32 31)).toInt32 ^^^ (-306674912 : Int32))), (6, .inl (v3 &&& (1 : Int32))), (0, .inr (.inr (some a0))), (1, .inl v1), (2, .inl v2), (4, .inl v4), (5, .inl v5)]) (st' := []) (by decide +kernel) rfl rfl ?_
      exact xv_w (sb169_51 E B a0 v1 v2 ((Int32.toUInt32 v3 >>> (Int32.toUInt32 (1 : Int32) &&& Int32.toUInt32 31)).toInt32 ^^^ (-306674912 : Int32)) v4 v5 M h hN) rfl
    · rw [if_neg q6] at h
      refine xv_icmp_ne E 51 (show decode prog_14_method_8_code 43 = .ok (.if_icmp .ne (8), 3) by decide +kernel) rfl (fun _ => ?_) (fun z => absurd z q6)
      exact xv_w (sb169_51 E B a0 v1 v2 (Int32.toUInt32 v3 >>> (Int32.toUInt32 (1 : Int32) &&& Int32.toUInt32 31)).toInt32 v4 v5 M h hN) rfl
end
theorem t169 (G : gX) (l : Launch) {as : List aV} {M : hM} {r : Option aV} {M' : hM} (h : f169 as M = some (r, M')) : xM G l ym169 prog_14_method_8_code 7 (some FieldType.int) 1 as M r M' := by
  unfold f169 at h
  split at h
  · have hle : ∀ h as M res, k169 h as M = some res → h_sz M ≤ r_sz res ∧ h_sl M ≤ r_sl res := by
      intro h as M res hb
      unfold k169 at hb
      by_cases e0 : h = 5
      · rw [if_pos e0] at hb
        split at hb
        · exact lb169_5 G l _ _ _ _ _ M hb
        · cases hb
      · rw [if_neg e0] at hb
        by_cases e1 : h = 24
        · rw [if_pos e1] at hb
          split at hb
          · exact lb169_24 G l _ _ _ _ _ _ M hb
          · cases hb
        · rw [if_neg e1] at hb
          cases hb
    obtain ⟨res, hx, hres⟩ := x_go_ok h
    refine xM_of (by decide) (Nat.le_of_ble_eq_true rfl) ?_ ?_
    · have e1 := lb169_0 G l _ _ _ M hx
      have e2 := x_go_le hle hres
      omega
    · intro p e s m args below meth c E B
      refine sb169_0 E B _ _ _ M hx (hres _ ?_)
      intro h as M res hb hN
      unfold k169 at hb
      unfold pg169
      by_cases e0 : h = 5
      · rw [if_pos e0] at hb ⊢
        split at hb
        · exact sb169_5 E B _ _ _ _ _ M hb hN
        · cases hb
      · rw [if_neg e0] at hb ⊢
        by_cases e1 : h = 24
        · rw [if_pos e1] at hb ⊢
          split at hb
          · exact sb169_24 E B _ _ _ _ _ _ M hb hN
          · cases hb
        · rw [if_neg e1] at hb ⊢
          cases hb
  · cases h
/-! ZFModel.closes(I)V -/
def ym170 : MethodName := ⟨"ZonedFabricModel", "closes", "(I)V"⟩
theorem cd170 : xCd ym170 prog_14_method_6_code 2 none 1 := ⟨mw937, mw864, by decide, by decide, by decide +kernel⟩
def b170_0 (a0 : Nat) (v1 : Int32) (M : hM) : Option xRes :=
  Option.bind (g_r M 12 6 (some a0)) fun o_1 =>
  Option.bind (g_r M 12 7 (some a0)) fun o_3 =>
  Option.bind (al_i M 20 o_3 v1) fun v_5 =>
  Option.bind (as_b M 21 o_1 ((v1 * (80 : Int32)) + (12 : Int32)) (Int32.toInt8 (v_5 - (13 : Int32))).toInt32) fun M7 =>
  Option.bind (g_r M7 12 7 (some a0)) fun o_9 =>
  Option.bind (al_i M7 20 o_9 v1) fun v_11 =>
  Option.bind (g_o M7 12 (some a0)) fun b_15 =>
  Option.bind (c_I (f169 [.inr (.inr (some b_15)), .inl v1, .inl v_11] M7)) fun q_13 =>
  Option.bind (g_o q_13.2 12 (some a0)) fun b_19 =>
  Option.bind (c_V (f167 [.inr (.inr (some b_19)), .inl v1, .inr (.inl (Int32.toInt64 q_13.1)), .inl (4 : Int32)] q_13.2)) fun q_17 =>
  some (.inl (none, q_17))
def f170 (as : List aV) (M : hM) : xO := match as with
  | [.inr (.inr (some a0)), .inl v1] => x_out (b170_0 a0 v1 M)
  | _ => none
theorem lb170_0 (G : gX) (l : Launch) (a0 : Nat) (v1 : Int32) (M : hM) {res : xRes} (h : b170_0 a0 v1 M = some res) : h_sz M ≤ r_sz res ∧ h_sl M ≤ r_sl res := by
  unfold b170_0 at h
  obtain ⟨o_1, h2, h⟩ := bd h
  obtain ⟨o_3, h4, h⟩ := bd h
  obtain ⟨v_5, h6, h⟩ := bd h
  obtain ⟨M7, h8, h⟩ := bd h
  have eh8 := as_b_sz h8
  obtain ⟨o_9, h10, h⟩ := bd h
  obtain ⟨v_11, h12, h⟩ := bd h
  obtain ⟨b_15, h16, h⟩ := bd h
  obtain ⟨q_13, h14, h⟩ := bd h
  have eh14 := (t169 G l (c_I_some h14)).1
  obtain ⟨b_19, h20, h⟩ := bd h
  obtain ⟨q_17, h18, h⟩ := bd h
  have eh18 := (t167 G l (c_V_some h18)).1
  obtain rfl := Option.some.inj h
  show h_sz M ≤ h_sz q_17 ∧ h_sl M ≤ h_sl q_17
  omega
section
variable {p : Program} {l : Launch} {e : Env} {s : State} {m : MethodId} {args : Array Value} {below : List Frame} {meth : Method} {c : Code} {G : gX} {z0 y0 : Nat} {r : Option aV} {M' : hM}
theorem sb170_0 (E : xE G p (xRm 2 (h_sz M' - z0) (h_sl M' - y0)) s m args c prog_14_method_6_code "ZonedFabricModel" z0 y0 (h_sz M') (h_sl M') 2) (B : xB ym170 none meth) (a0 : Nat) (v1 : Int32) (M : hM) {res : xRes} (h : b170_0 a0 v1 M = some res) (hN : xN (fun _ _ _ => False) r M' res) : xV G p l e (xRm 2 (h_sz M' - z0) (h_sl M' - y0)) s m args below meth c z0 y0 (h_sz M') (h_sl M') 2 (MQ below (xQc G r M') args s (h_sz M' - z0) (h_sl M' - y0) (xFr G)) 0 [(0, .inr (.inr (some a0))), (1, .inl v1)] [] M := by
  unfold b170_0 at h
  refine xv_b E [.aload_n 0] (pc' := 1) (lv' := [(0, .inr (.inr (some a0))), (1, .inl v1)]) (st' := [.inr (.inr (some a0))]) (by decide +kernel) rfl rfl ?_
  obtain ⟨o_1, h2, h⟩ := bd h
  refine xg_r E 12 6 h2 mw867 (show decode prog_14_method_6_code 1 = .ok (.getfield 17, 3) by decide +kernel) ?_
  refine xv_b E [.iload_n 1, .bipush 80, .imul, .bipush 12, .iadd, .aload_n 0] (pc' := 12) (lv' := [(0, .inr (.inr (some a0))), (1, .inl v1)]) (st' := [.inr (.inr (some a0)), .inl ((v1 * (80 : Int32)) + (12 : Int32)), .inr (.inr o_1)]) (by decide +kernel) rfl rfl ?_
  obtain ⟨o_3, h4, h⟩ := bd h
  refine xg_r E 12 7 h4 mw868 (show decode prog_14_method_6_code 12 = .ok (.getfield 21, 3) by decide +kernel) ?_
  refine xv_b E [.iload_n 1] (pc' := 16) (lv' := [(0, .inr (.inr (some a0))), (1, .inl v1)]) (st' := [.inl v1, .inr (.inr o_3), .inl ((v1 * (80 : Int32)) + (12 : Int32)), .inr (.inr o_1)]) (by decide +kernel) rfl rfl ?_
  obtain ⟨v_5, h6, h⟩ := bd h
  refine xa_i E h6 (show decode prog_14_method_6_code 16 = .ok (.iaload, 1) by decide +kernel) ?_
  refine xv_b E [.bipush 13, .isub, .i2b] (pc' := 21) (lv' := [(0, .inr (.inr (some a0))), (1, .inl v1)]) (st' := [.inl (Int32.toInt8 (v_5 - (13 : Int32))).toInt32, .inl ((v1 * (80 : Int32)) + (12 : Int32)), .inr (.inr o_1)]) (by decide +kernel) rfl rfl ?_
  obtain ⟨M7, h8, h⟩ := bd h
  refine xs_b E h8 (show decode prog_14_method_6_code 21 = .ok (.bastore, 1) by decide +kernel) ?_
  refine xv_b E [.aload_n 0, .iload_n 1, .aload_n 0, .iload_n 1, .aload_n 0] (pc' := 27) (lv' := [(0, .inr (.inr (some a0))), (1, .inl v1)]) (st' := [.inr (.inr (some a0)), .inl v1, .inr (.inr (some a0)), .inl v1, .inr (.inr (some a0))]) (by decide +kernel) rfl rfl ?_
  obtain ⟨o_9, h10, h⟩ := bd h
  refine xg_r E 12 7 h10 mw868 (show decode prog_14_method_6_code 27 = .ok (.getfield 21, 3) by decide +kernel) ?_
  refine xv_b E [.iload_n 1] (pc' := 31) (lv' := [(0, .inr (.inr (some a0))), (1, .inl v1)]) (st' := [.inl v1, .inr (.inr o_9), .inl v1, .inr (.inr (some a0)), .inl v1, .inr (.inr (some a0))]) (by decide +kernel) rfl rfl ?_
  obtain ⟨v_11, h12, h⟩ := bd h
  refine xa_i E h12 (show decode prog_14_method_6_code 31 = .ok (.iaload, 1) by decide +kernel) ?_
  obtain ⟨b_15, h16, h⟩ := bd h
  obtain ⟨eh16, th16⟩ := g_o_some h16
  obtain ⟨q_13, h14, h⟩ := bd h
  refine xv_cvo E eh16 12 (as := [.inl v1, .inl v_11]) (t169 G l (c_I_some h14)) cd169 mw938 mw939 mw940 (show decode prog_14_method_6_code 32 = .ok (.invokevirtual 194, 3) by decide +kernel) th16 rfl rfl (Nat.le_of_ble_eq_true rfl) ⟨Nat.le_of_ble_eq_true rfl, Nat.le_of_ble_eq_true rfl⟩ ?_
  refine xv_b E [.i2l, .iconst 4] (pc' := 37) (lv' := [(0, .inr (.inr (some a0))), (1, .inl v1)]) (st' := [.inl (4 : Int32), .inr (.inl (Int32.toInt64 q_13.1)), .inl v1, .inr (.inr (some a0))]) (by decide +kernel) rfl rfl ?_
  obtain ⟨b_19, h20, h⟩ := bd h
  obtain ⟨eh20, th20⟩ := g_o_some h20
  obtain ⟨q_17, h18, h⟩ := bd h
  refine xv_cvo E eh20 12 (as := [.inl v1, .inr (.inl (Int32.toInt64 q_13.1)), .inl (4 : Int32)]) (t167 G l (c_V_some h18)) cd167 mw932 mw933 mw934 (show decode prog_14_method_6_code 37 = .ok (.invokevirtual 190, 3) by decide +kernel) th20 rfl rfl (Nat.le_of_ble_eq_true rfl) ⟨Nat.le_of_ble_eq_true rfl, Nat.le_of_ble_eq_true rfl⟩ ?_
  obtain rfl := Option.some.inj h
  obtain ⟨rfl, rfl⟩ := Prod.mk.inj (show ((none : Option aV), q_17) = (r, M') from hN)
  exact xv_rv E B.1 B.2.1 (show decode prog_14_method_6_code 40 = .ok (.return_, 1) by decide +kernel) rfl rfl
end
theorem t170 (G : gX) (l : Launch) {as : List aV} {M : hM} {r : Option aV} {M' : hM} (h : f170 as M = some (r, M')) : xM G l ym170 prog_14_method_6_code 2 none 2 as M r M' := by
  unfold f170 at h
  split at h
  · have h := x_out_ok h
    refine xM_of (by decide) (Nat.le_of_ble_eq_true rfl) (lb170_0 G l _ _ M h) ?_
    intro p e s m args below meth c E B
    exact sb170_0 E B _ _ M h rfl
  · cases h
/-! ZFModel.drops(I)V -/
def ym171 : MethodName := ⟨"ZonedFabricModel", "drops", "(I)V"⟩
theorem cd171 : xCd ym171 prog_14_method_7_code 2 none 1 := ⟨mw941, mw864, by decide, by decide, by decide +kernel⟩
def b171_0 (a0 : Nat) (v1 : Int32) (M : hM) : Option xRes :=
  Option.bind (g_r M 12 8 (some a0)) fun o_1 =>
  Option.bind (g_i M 12 9 (some a0)) fun v_3 =>
  Option.bind (as_i M 20 o_1 v_3 v1) fun M5 =>
  Option.bind (g_i M5 12 9 (some a0)) fun v_7 =>
  Option.bind (p_i M5 12 9 (some a0) (v_7 + (1 : Int32))) fun M9 =>
  some (.inl (none, M9))
def f171 (as : List aV) (M : hM) : xO := match as with
  | [.inr (.inr (some a0)), .inl v1] => x_out (b171_0 a0 v1 M)
  | _ => none
theorem lb171_0 (G : gX) (l : Launch) (a0 : Nat) (v1 : Int32) (M : hM) {res : xRes} (h : b171_0 a0 v1 M = some res) : h_sz M ≤ r_sz res ∧ h_sl M ≤ r_sl res := by
  unfold b171_0 at h
  obtain ⟨o_1, h2, h⟩ := bd h
  obtain ⟨v_3, h4, h⟩ := bd h
  obtain ⟨M5, h6, h⟩ := bd h
  have eh6 := as_i_sz h6
  obtain ⟨v_7, h8, h⟩ := bd h
  obtain ⟨M9, h10, h⟩ := bd h
  have eh10 := p_i_sz h10
  obtain rfl := Option.some.inj h
  show h_sz M ≤ h_sz M9 ∧ h_sl M ≤ h_sl M9
  omega
section
variable {p : Program} {l : Launch} {e : Env} {s : State} {m : MethodId} {args : Array Value} {below : List Frame} {meth : Method} {c : Code} {G : gX} {z0 y0 : Nat} {r : Option aV} {M' : hM}
theorem sb171_0 (E : xE G p (xRm 0 (h_sz M' - z0) (h_sl M' - y0)) s m args c prog_14_method_7_code "ZonedFabricModel" z0 y0 (h_sz M') (h_sl M') 2) (B : xB ym171 none meth) (a0 : Nat) (v1 : Int32) (M : hM) {res : xRes} (h : b171_0 a0 v1 M = some res) (hN : xN (fun _ _ _ => False) r M' res) : xV G p l e (xRm 0 (h_sz M' - z0) (h_sl M' - y0)) s m args below meth c z0 y0 (h_sz M') (h_sl M') 2 (MQ below (xQc G r M') args s (h_sz M' - z0) (h_sl M' - y0) (xFr G)) 0 [(0, .inr (.inr (some a0))), (1, .inl v1)] [] M := by
  unfold b171_0 at h
  refine xv_b E [.aload_n 0] (pc' := 1) (lv' := [(0, .inr (.inr (some a0))), (1, .inl v1)]) (st' := [.inr (.inr (some a0))]) (by decide +kernel) rfl rfl ?_
  obtain ⟨o_1, h2, h⟩ := bd h
  refine xg_r E 12 8 h2 mw869 (show decode prog_14_method_7_code 1 = .ok (.getfield 24, 3) by decide +kernel) ?_
  refine xv_b E [.aload_n 0] (pc' := 5) (lv' := [(0, .inr (.inr (some a0))), (1, .inl v1)]) (st' := [.inr (.inr (some a0)), .inr (.inr o_1)]) (by decide +kernel) rfl rfl ?_
  obtain ⟨v_3, h4, h⟩ := bd h
  refine xg_i E 12 9 h4 mw924 (show decode prog_14_method_7_code 5 = .ok (.getfield 183, 3) by decide +kernel) ?_
  refine xv_b E [.iload_n 1] (pc' := 9) (lv' := [(0, .inr (.inr (some a0))), (1, .inl v1)]) (st' := [.inl v1, .inl v_3, .inr (.inr o_1)]) (by decide +kernel) rfl rfl ?_
  obtain ⟨M5, h6, h⟩ := bd h
  refine xs_i E h6 (show decode prog_14_method_7_code 9 = .ok (.iastore, 1) by decide +kernel) ?_
  refine xv_b E [.aload_n 0, .dup] (pc' := 12) (lv' := [(0, .inr (.inr (some a0))), (1, .inl v1)]) (st' := [.inr (.inr (some a0)), .inr (.inr (some a0))]) (by decide +kernel) rfl rfl ?_
  obtain ⟨v_7, h8, h⟩ := bd h
  refine xg_i E 12 9 h8 mw924 (show decode prog_14_method_7_code 12 = .ok (.getfield 183, 3) by decide +kernel) ?_
  refine xv_b E [.iconst 1, .iadd] (pc' := 17) (lv' := [(0, .inr (.inr (some a0))), (1, .inl v1)]) (st' := [.inl (v_7 + (1 : Int32)), .inr (.inr (some a0))]) (by decide +kernel) rfl rfl ?_
  obtain ⟨M9, h10, h⟩ := bd h
  refine xp_i E 12 9 h10 mw924 (show decode prog_14_method_7_code 17 = .ok (.putfield 183, 3) by decide +kernel) (Or.inl rfl) ?_
  obtain rfl := Option.some.inj h
  obtain ⟨rfl, rfl⟩ := Prod.mk.inj (show ((none : Option aV), M9) = (r, M') from hN)
  exact xv_rv E B.1 B.2.1 (show decode prog_14_method_7_code 20 = .ok (.return_, 1) by decide +kernel) rfl rfl
end
theorem t171 (G : gX) (l : Launch) {as : List aV} {M : hM} {r : Option aV} {M' : hM} (h : f171 as M = some (r, M')) : xM G l ym171 prog_14_method_7_code 2 none 0 as M r M' := by
  unfold f171 at h
  split at h
  · have h := x_out_ok h
    refine xM_of (by decide) (Nat.le_of_ble_eq_true rfl) (lb171_0 G l _ _ M h) ?_
    intro p e s m args below meth c E B
    exact sb171_0 E B _ _ M h rfl
  · cases h
/-! ZFModel.isRecord(II)Z -/
def ym172 : MethodName := ⟨"ZonedFabricModel", "isRecord", "(II)Z"⟩
theorem cd172 : xCd ym172 prog_14_method_11_code 11 (some FieldType.boolean) 2 := ⟨mw942, mw864, by decide, by decide, by decide +kernel⟩
def b172_99 (a0 : Nat) (v1 : Int32) (v3 : Int32) (v4 : Int32) (si0 : Int32) (M : hM) : Option xRes :=
  some (.inr (107, [.inr (.inr (some a0)), .inl v1, .inl v3, .inl v4, .inl si0, .inl (-1 : Int32), .inl (0 : Int32)], M))
def b172_98 (a0 : Nat) (v1 : Int32) (v3 : Int32) (v4 : Int32) (M : hM) : Option xRes :=
  b172_99 a0 v1 v3 v4 (0 : Int32) M
def b172_0 (a0 : Nat) (v1 : Int32) (v2 : Int32) (M : hM) : Option xRes :=
  if (7 : Int32) ≤ v2 then
    (Option.bind (g_o M 12 (some a0)) fun b_3 =>
    Option.bind (c_I (f165 [.inr (.inr (some b_3)), .inl v1, .inl (18 : Int32)] M)) fun q_1 =>
    if ((7 : Int32) + ((3 : Int32) * q_1.1)) ≤ v2 then
      (Option.bind (g_o q_1.2 12 (some a0)) fun b_7 =>
      Option.bind (c_I (f165 [.inr (.inr (some b_7)), .inl v1, .inl ((19 : Int32) + ((3 : Int32) * q_1.1))] q_1.2)) fun q_5 =>
      if (((7 : Int32) + ((3 : Int32) * q_1.1)) + ((2 : Int32) * q_5.1)) = v2 then
        (Option.bind (g_o q_5.2 12 (some a0)) fun b_11 =>
        Option.bind (c_I (f165 [.inr (.inr (some b_11)), .inl v1, .inl (17 : Int32)] q_5.2)) fun q_9 =>
        Option.bind (g_o q_9.2 12 (some a0)) fun b_15 =>
        Option.bind (c_I (f165 [.inr (.inr (some b_15)), .inl v1, .inl (13 : Int32)] q_9.2)) fun q_13 =>
        Option.bind (g_i q_13.2 12 0 (some a0)) fun v_17 =>
        if v_17 ≤ q_13.1 then
          (b172_98 a0 v1 q_1.1 q_5.1 q_13.2)
        else
          (if q_9.1 < (1 : Int32) then
            (b172_98 a0 v1 q_1.1 q_5.1 q_13.2)
          else
            (if (15 : Int32) < q_9.1 then
              (b172_98 a0 v1 q_1.1 q_5.1 q_13.2)
            else
              (b172_99 a0 v1 q_1.1 q_5.1 (1 : Int32) q_13.2))))
      else
        (some (.inl (some (.inl (0 : Int32)), q_5.2))))
    else
      (some (.inl (some (.inl (0 : Int32)), q_1.2))))
  else
    (some (.inl (some (.inl (0 : Int32)), M)))
def b172_199 (a0 : Nat) (v1 : Int32) (v3 : Int32) (v4 : Int32) (v8 : Int32) (v9 : Int32) (si0 : Int32) (M : hM) : Option xRes :=
  Option.bind (g_o M 12 (some a0)) fun b_56 =>
  Option.bind (c_I (f165 [.inr (.inr (some b_56)), .inl v1, .inl v9] M)) fun q_54 =>
  some (.inr (107, [.inr (.inr (some a0)), .inl v1, .inl v3, .inl v4, .inl si0, .inl q_54.1, .inl (v8 + (1 : Int32))], q_54.2))
def b172_198 (a0 : Nat) (v1 : Int32) (v3 : Int32) (v4 : Int32) (v8 : Int32) (v9 : Int32) (M : hM) : Option xRes :=
  b172_199 a0 v1 v3 v4 v8 v9 (0 : Int32) M
def b172_107 (a0 : Nat) (v1 : Int32) (v3 : Int32) (v4 : Int32) (v6 : Int32) (v7 : Int32) (v8 : Int32) (M : hM) : Option xRes :=
  if v3 ≤ v8 then
    (some (.inr (225, [.inr (.inr (some a0)), .inl v1, .inl v3, .inl v4, .inl v6, .inl (-1 : Int32), .inl (0 : Int32), .inl (0 : Int32)], M)))
  else
    (if v6 = 0 then
      (b172_198 a0 v1 v3 v4 v8 ((19 : Int32) + ((3 : Int32) * v8)) M)
    else
      (Option.bind (g_o M 12 (some a0)) fun b_27 =>
      Option.bind (c_I (f165 [.inr (.inr (some b_27)), .inl v1, .inl ((19 : Int32) + ((3 : Int32) * v8))] M)) fun q_25 =>
      if q_25.1 ≤ v7 then
        (b172_198 a0 v1 v3 v4 v8 ((19 : Int32) + ((3 : Int32) * v8)) q_25.2)
      else
        (Option.bind (g_o q_25.2 12 (some a0)) fun b_31 =>
        Option.bind (c_I (f165 [.inr (.inr (some b_31)), .inl v1, .inl ((19 : Int32) + ((3 : Int32) * v8))] q_25.2)) fun q_29 =>
        if (8 : Int32) ≤ q_29.1 then
          (b172_198 a0 v1 v3 v4 v8 ((19 : Int32) + ((3 : Int32) * v8)) q_29.2)
        else
          (Option.bind (g_o q_29.2 12 (some a0)) fun b_35 =>
          Option.bind (c_I (f165 [.inr (.inr (some b_35)), .inl v1, .inl (((19 : Int32) + ((3 : Int32) * v8)) + (1 : Int32))] q_29.2)) fun q_33 =>
          Option.bind (g_i q_33.2 12 0 (some a0)) fun v_37 =>
          if v_37 ≤ q_33.1 then
            (b172_198 a0 v1 v3 v4 v8 ((19 : Int32) + ((3 : Int32) * v8)) q_33.2)
          else
            (Option.bind (g_o q_33.2 12 (some a0)) fun b_41 =>
            Option.bind (c_I (f165 [.inr (.inr (some b_41)), .inl v1, .inl (((19 : Int32) + ((3 : Int32) * v8)) + (2 : Int32))] q_33.2)) fun q_39 =>
            if q_39.1 < (1 : Int32) then
              (b172_198 a0 v1 v3 v4 v8 ((19 : Int32) + ((3 : Int32) * v8)) q_39.2)
            else
              (Option.bind (g_o q_39.2 12 (some a0)) fun b_45 =>
              Option.bind (c_I (f165 [.inr (.inr (some b_45)), .inl v1, .inl (((19 : Int32) + ((3 : Int32) * v8)) + (2 : Int32))] q_39.2)) fun q_43 =>
              if (9 : Int32) < q_43.1 then
                (b172_198 a0 v1 v3 v4 v8 ((19 : Int32) + ((3 : Int32) * v8)) q_43.2)
              else
                (b172_199 a0 v1 v3 v4 v8 ((19 : Int32) + ((3 : Int32) * v8)) (1 : Int32) q_43.2)))))))
def b172_333 (a0 : Nat) (v1 : Int32) (v3 : Int32) (v4 : Int32) (v6 : Int32) (v8 : Int32) (v9 : Int32) (v10 : Int32) (M : hM) : Option xRes :=
  Option.bind (g_o M 12 (some a0)) fun b_90 =>
  Option.bind (c_I (f165 [.inr (.inr (some b_90)), .inl v1, .inl (v10 + (1 : Int32))] M)) fun q_88 =>
  some (.inr (225, [.inr (.inr (some a0)), .inl v1, .inl v3, .inl v4, .inl v6, .inl q_88.1, .inl v8, .inl (v9 + (1 : Int32))], q_88.2))
def b172_312 (a0 : Nat) (v1 : Int32) (v3 : Int32) (v4 : Int32) (v8 : Int32) (v9 : Int32) (v10 : Int32) (si0 : Int32) (M : hM) : Option xRes :=
  if si0 = 0 then
    (b172_333 a0 v1 v3 v4 si0 v8 v9 v10 M)
  else
    (Option.bind (g_o M 12 (some a0)) fun b_85 =>
    Option.bind (c_I (f165 [.inr (.inr (some b_85)), .inl v1, .inl v10] M)) fun q_83 =>
    b172_333 a0 v1 v3 v4 si0 (v8 ||| ((1 : Int32) <<< (q_83.1 &&& 31))) v9 v10 q_83.2)
def b172_311 (a0 : Nat) (v1 : Int32) (v3 : Int32) (v4 : Int32) (v8 : Int32) (v9 : Int32) (v10 : Int32) (M : hM) : Option xRes :=
  b172_312 a0 v1 v3 v4 v8 v9 v10 (0 : Int32) M
def b172_225 (a0 : Nat) (v1 : Int32) (v3 : Int32) (v4 : Int32) (v6 : Int32) (v7 : Int32) (v8 : Int32) (v9 : Int32) (M : hM) : Option xRes :=
  if v4 ≤ v9 then
    (if v6 = 0 ∨ v6 = 1 then
      (some (.inl (some (.inl v6), M)))
    else
      none)
  else
    (if v6 = 0 then
      (b172_311 a0 v1 v3 v4 v8 v9 (((20 : Int32) + ((3 : Int32) * v3)) + ((2 : Int32) * v9)) M)
    else
      (Option.bind (g_o M 12 (some a0)) fun b_61 =>
      Option.bind (c_I (f165 [.inr (.inr (some b_61)), .inl v1, .inl (((20 : Int32) + ((3 : Int32) * v3)) + ((2 : Int32) * v9))] M)) fun q_59 =>
      Option.bind (g_i q_59.2 12 1 (some a0)) fun v_63 =>
      if v_63 ≤ q_59.1 then
        (b172_311 a0 v1 v3 v4 v8 v9 (((20 : Int32) + ((3 : Int32) * v3)) + ((2 : Int32) * v9)) q_59.2)
      else
        (Option.bind (g_o q_59.2 12 (some a0)) fun b_67 =>
        Option.bind (c_I (f165 [.inr (.inr (some b_67)), .inl v1, .inl (((20 : Int32) + ((3 : Int32) * v3)) + ((2 : Int32) * v9))] q_59.2)) fun q_65 =>
        if ((v8 >>> (q_65.1 &&& 31)) &&& (1 : Int32)) = 0 then
          (Option.bind (g_o q_65.2 12 (some a0)) fun b_71 =>
          Option.bind (c_I (f165 [.inr (.inr (some b_71)), .inl v1, .inl ((((20 : Int32) + ((3 : Int32) * v3)) + ((2 : Int32) * v9)) + (1 : Int32))] q_65.2)) fun q_69 =>
          if q_69.1 ≤ v7 then
            (b172_311 a0 v1 v3 v4 v8 v9 (((20 : Int32) + ((3 : Int32) * v3)) + ((2 : Int32) * v9)) q_69.2)
          else
            (Option.bind (g_o q_69.2 12 (some a0)) fun b_75 =>
            Option.bind (c_I (f165 [.inr (.inr (some b_75)), .inl v1, .inl ((((20 : Int32) + ((3 : Int32) * v3)) + ((2 : Int32) * v9)) + (1 : Int32))] q_69.2)) fun q_73 =>
            if (8 : Int32) ≤ q_73.1 then
              (b172_311 a0 v1 v3 v4 v8 v9 (((20 : Int32) + ((3 : Int32) * v3)) + ((2 : Int32) * v9)) q_73.2)
            else
              (b172_312 a0 v1 v3 v4 v8 v9 (((20 : Int32) + ((3 : Int32) * v3)) + ((2 : Int32) * v9)) (1 : Int32) q_73.2)))
        else
          (b172_311 a0 v1 v3 v4 v8 v9 (((20 : Int32) + ((3 : Int32) * v3)) + ((2 : Int32) * v9)) q_65.2))))
def k172 (h : Nat) (as : List aV) (M : hM) : Option xRes :=
  if h = 107 then (match as with | [.inr (.inr (some a0)), .inl v1, .inl v3, .inl v4, .inl v6, .inl v7, .inl v8] => b172_107 a0 v1 v3 v4 v6 v7 v8 M | _ => none) else
  if h = 225 then (match as with | [.inr (.inr (some a0)), .inl v1, .inl v3, .inl v4, .inl v6, .inl v7, .inl v8, .inl v9] => b172_225 a0 v1 v3 v4 v6 v7 v8 v9 M | _ => none) else
  none
def f172 (as : List aV) (M : hM) : xO := match as with
  | [.inr (.inr (some a0)), .inl v1, .inl v2] => x_go k172 (b172_0 a0 v1 v2 M)
  | _ => none
theorem lb172_99 (G : gX) (l : Launch) (a0 : Nat) (v1 : Int32) (v3 : Int32) (v4 : Int32) (si0 : Int32) (M : hM) {res : xRes} (h : b172_99 a0 v1 v3 v4 si0 M = some res) : h_sz M ≤ r_sz res ∧ h_sl M ≤ r_sl res := by
  unfold b172_99 at h
  obtain rfl := Option.some.inj h
  show h_sz M ≤ h_sz M ∧ h_sl M ≤ h_sl M
  omega
theorem lb172_98 (G : gX) (l : Launch) (a0 : Nat) (v1 : Int32) (v3 : Int32) (v4 : Int32) (M : hM) {res : xRes} (h : b172_98 a0 v1 v3 v4 M = some res) : h_sz M ≤ r_sz res ∧ h_sl M ≤ r_sl res := by
  unfold b172_98 at h
  have e := lb172_99 G l a0 v1 v3 v4 (0 : Int32) M h
  omega
theorem lb172_0 (G : gX) (l : Launch) (a0 : Nat) (v1 : Int32) (v2 : Int32) (M : hM) {res : xRes} (h : b172_0 a0 v1 v2 M = some res) : h_sz M ≤ r_sz res ∧ h_sl M ≤ r_sl res := by
  unfold b172_0 at h
  by_cases q24 : (7 : Int32) ≤ v2
  · rw [if_pos q24] at h
    obtain ⟨b_3, h4, h⟩ := bd h
    obtain ⟨q_1, h2, h⟩ := bd h
    have eh2 := (t165 G l (c_I_some h2)).1
    by_cases q23 : ((7 : Int32) + ((3 : Int32) * q_1.1)) ≤ v2
    · rw [if_pos q23] at h
      obtain ⟨b_7, h8, h⟩ := bd h
      obtain ⟨q_5, h6, h⟩ := bd h
      have eh6 := (t165 G l (c_I_some h6)).1
      by_cases q22 : (((7 : Int32) + ((3 : Int32) * q_1.1)) + ((2 : Int32) * q_5.1)) = v2
      · rw [if_pos q22] at h
        obtain ⟨b_11, h12, h⟩ := bd h
        obtain ⟨q_9, h10, h⟩ := bd h
        have eh10 := (t165 G l (c_I_some h10)).1
        obtain ⟨b_15, h16, h⟩ := bd h
        obtain ⟨q_13, h14, h⟩ := bd h
        have eh14 := (t165 G l (c_I_some h14)).1
        obtain ⟨v_17, h18, h⟩ := bd h
        by_cases q21 : v_17 ≤ q_13.1
        · rw [if_pos q21] at h
          have e := lb172_98 G l a0 v1 q_1.1 q_5.1 q_13.2 h
          omega
        · rw [if_neg q21] at h
          by_cases q20 : q_9.1 < (1 : Int32)
          · rw [if_pos q20] at h
            have e := lb172_98 G l a0 v1 q_1.1 q_5.1 q_13.2 h
            omega
          · rw [if_neg q20] at h
            by_cases q19 : (15 : Int32) < q_9.1
            · rw [if_pos q19] at h
              have e := lb172_98 G l a0 v1 q_1.1 q_5.1 q_13.2 h
              omega
            · rw [if_neg q19] at h
              have e := lb172_99 G l a0 v1 q_1.1 q_5.1 (1 : Int32) q_13.2 h
              omega
      · rw [if_neg q22] at h
        obtain rfl := Option.some.inj h
        show h_sz M ≤ h_sz q_5.2 ∧ h_sl M ≤ h_sl q_5.2
        omega
    · rw [if_neg q23] at h
      obtain rfl := Option.some.inj h
      show h_sz M ≤ h_sz q_1.2 ∧ h_sl M ≤ h_sl q_1.2
      omega
  · rw [if_neg q24] at h
    obtain rfl := Option.some.inj h
    show h_sz M ≤ h_sz M ∧ h_sl M ≤ h_sl M
    omega
theorem lb172_199 (G : gX) (l : Launch) (a0 : Nat) (v1 : Int32) (v3 : Int32) (v4 : Int32) (v8 : Int32) (v9 : Int32) (si0 : Int32) (M : hM) {res : xRes} (h : b172_199 a0 v1 v3 v4 v8 v9 si0 M = some res) : h_sz M ≤ r_sz res ∧ h_sl M ≤ r_sl res := by
  unfold b172_199 at h
  obtain ⟨b_56, h57, h⟩ := bd h
  obtain ⟨q_54, h55, h⟩ := bd h
  have eh55 := (t165 G l (c_I_some h55)).1
  obtain rfl := Option.some.inj h
  show h_sz M ≤ h_sz q_54.2 ∧ h_sl M ≤ h_sl q_54.2
  omega
theorem lb172_198 (G : gX) (l : Launch) (a0 : Nat) (v1 : Int32) (v3 : Int32) (v4 : Int32) (v8 : Int32) (v9 : Int32) (M : hM) {res : xRes} (h : b172_198 a0 v1 v3 v4 v8 v9 M = some res) : h_sz M ≤ r_sz res ∧ h_sl M ≤ r_sl res := by
  unfold b172_198 at h
  have e := lb172_199 G l a0 v1 v3 v4 v8 v9 (0 : Int32) M h
  omega
theorem lb172_107 (G : gX) (l : Launch) (a0 : Nat) (v1 : Int32) (v3 : Int32) (v4 : Int32) (v6 : Int32) (v7 : Int32) (v8 : Int32) (M : hM) {res : xRes} (h : b172_107 a0 v1 v3 v4 v6 v7 v8 M = some res) : h_sz M ≤ r_sz res ∧ h_sl M ≤ r_sl res := by
  unfold b172_107 at h
  by_cases q53 : v3 ≤ v8
  · rw [if_pos q53] at h
    obtain rfl := Option.some.inj h
    show h_sz M ≤ h_sz M ∧ h_sl M ≤ h_sl M
    omega
  · rw [if_neg q53] at h
    by_cases q52 : v6 = 0
    · rw [if_pos q52] at h
      have e := lb172_198 G l a0 v1 v3 v4 v8 ((19 : Int32) + ((3 : Int32) * v8)) M h
      omega
    · rw [if_neg q52] at h
      obtain ⟨b_27, h28, h⟩ := bd h
      obtain ⟨q_25, h26, h⟩ := bd h
      have eh26 := (t165 G l (c_I_some h26)).1
      by_cases q51 : q_25.1 ≤ v7
      · rw [if_pos q51] at h
        have e := lb172_198 G l a0 v1 v3 v4 v8 ((19 : Int32) + ((3 : Int32) * v8)) q_25.2 h
        omega
      · rw [if_neg q51] at h
        obtain ⟨b_31, h32, h⟩ := bd h
        obtain ⟨q_29, h30, h⟩ := bd h
        have eh30 := (t165 G l (c_I_some h30)).1
        by_cases q50 : (8 : Int32) ≤ q_29.1
        · rw [if_pos q50] at h
          have e := lb172_198 G l a0 v1 v3 v4 v8 ((19 : Int32) + ((3 : Int32) * v8)) q_29.2 h
          omega
        · rw [if_neg q50] at h
          obtain ⟨b_35, h36, h⟩ := bd h
          obtain ⟨q_33, h34, h⟩ := bd h
          have eh34 := (t165 G l (c_I_some h34)).1
          obtain ⟨v_37, h38, h⟩ := bd h
          by_cases q49 : v_37 ≤ q_33.1
          · rw [if_pos q49] at h
            have e := lb172_198 G l a0 v1 v3 v4 v8 ((19 : Int32) + ((3 : Int32) * v8)) q_33.2 h
            omega
          · rw [if_neg q49] at h
            obtain ⟨b_41, h42, h⟩ := bd h
            obtain ⟨q_39, h40, h⟩ := bd h
            have eh40 := (t165 G l (c_I_some h40)).1
            by_cases q48 : q_39.1 < (1 : Int32)
            · rw [if_pos q48] at h
              have e := lb172_198 G l a0 v1 v3 v4 v8 ((19 : Int32) + ((3 : Int32) * v8)) q_39.2 h
              omega
            · rw [if_neg q48] at h
              obtain ⟨b_45, h46, h⟩ := bd h
              obtain ⟨q_43, h44, h⟩ := bd h
              have eh44 := (t165 G l (c_I_some h44)).1
              by_cases q47 : (9 : Int32) < q_43.1
              · rw [if_pos q47] at h
                have e := lb172_198 G l a0 v1 v3 v4 v8 ((19 : Int32) + ((3 : Int32) * v8)) q_43.2 h
                omega
              · rw [if_neg q47] at h
                have e := lb172_199 G l a0 v1 v3 v4 v8 ((19 : Int32) + ((3 : Int32) * v8)) (1 : Int32) q_43.2 h
                omega
theorem lb172_333 (G : gX) (l : Launch) (a0 : Nat) (v1 : Int32) (v3 : Int32) (v4 : Int32) (v6 : Int32) (v8 : Int32) (v9 : Int32) (v10 : Int32) (M : hM) {res : xRes} (h : b172_333 a0 v1 v3 v4 v6 v8 v9 v10 M = some res) : h_sz M ≤ r_sz res ∧ h_sl M ≤ r_sl res := by
  unfold b172_333 at h
  obtain ⟨b_90, h91, h⟩ := bd h
  obtain ⟨q_88, h89, h⟩ := bd h
  have eh89 := (t165 G l (c_I_some h89)).1
  obtain rfl := Option.some.inj h
  show h_sz M ≤ h_sz q_88.2 ∧ h_sl M ≤ h_sl q_88.2
  omega
theorem lb172_312 (G : gX) (l : Launch) (a0 : Nat) (v1 : Int32) (v3 : Int32) (v4 : Int32) (v8 : Int32) (v9 : Int32) (v10 : Int32) (si0 : Int32) (M : hM) {res : xRes} (h : b172_312 a0 v1 v3 v4 v8 v9 v10 si0 M = some res) : h_sz M ≤ r_sz res ∧ h_sl M ≤ r_sl res := by
  unfold b172_312 at h
  by_cases q87 : si0 = 0
  · rw [if_pos q87] at h
    have e := lb172_333 G l a0 v1 v3 v4 si0 v8 v9 v10 M h
    omega
  · rw [if_neg q87] at h
    obtain ⟨b_85, h86, h⟩ := bd h
    obtain ⟨q_83, h84, h⟩ := bd h
    have eh84 := (t165 G l (c_I_some h84)).1
    have e := lb172_333 G l a0 v1 v3 v4 si0 (v8 ||| ((1 : Int32) <<< (q_83.1 &&& 31))) v9 v10 q_83.2 h
    omega
theorem lb172_311 (G : gX) (l : Launch) (a0 : Nat) (v1 : Int32) (v3 : Int32) (v4 : Int32) (v8 : Int32) (v9 : Int32) (v10 : Int32) (M : hM) {res : xRes} (h : b172_311 a0 v1 v3 v4 v8 v9 v10 M = some res) : h_sz M ≤ r_sz res ∧ h_sl M ≤ r_sl res := by
  unfold b172_311 at h
  have e := lb172_312 G l a0 v1 v3 v4 v8 v9 v10 (0 : Int32) M h
  omega
theorem lb172_225 (G : gX) (l : Launch) (a0 : Nat) (v1 : Int32) (v3 : Int32) (v4 : Int32) (v6 : Int32) (v7 : Int32) (v8 : Int32) (v9 : Int32) (M : hM) {res : xRes} (h : b172_225 a0 v1 v3 v4 v6 v7 v8 v9 M = some res) : h_sz M ≤ r_sz res ∧ h_sl M ≤ r_sl res := by
  unfold b172_225 at h
  by_cases q82 : v4 ≤ v9
  · rw [if_pos q82] at h
    by_cases q58 : v6 = 0 ∨ v6 = 1
    · rw [if_pos q58] at h
      obtain rfl := Option.some.inj h
      show h_sz M ≤ h_sz M ∧ h_sl M ≤ h_sl M
      omega
    · rw [if_neg q58] at h
      cases h
  · rw [if_neg q82] at h
    by_cases q81 : v6 = 0
    · rw [if_pos q81] at h
      have e := lb172_311 G l a0 v1 v3 v4 v8 v9 (((20 : Int32) + ((3 : Int32) * v3)) + ((2 : Int32) * v9)) M h
      omega
    · rw [if_neg q81] at h
      obtain ⟨b_61, h62, h⟩ := bd h
      obtain ⟨q_59, h60, h⟩ := bd h
      have eh60 := (t165 G l (c_I_some h60)).1
      obtain ⟨v_63, h64, h⟩ := bd h
      by_cases q80 : v_63 ≤ q_59.1
      · rw [if_pos q80] at h
        have e := lb172_311 G l a0 v1 v3 v4 v8 v9 (((20 : Int32) + ((3 : Int32) * v3)) + ((2 : Int32) * v9)) q_59.2 h
        omega
      · rw [if_neg q80] at h
        obtain ⟨b_67, h68, h⟩ := bd h
        obtain ⟨q_65, h66, h⟩ := bd h
        have eh66 := (t165 G l (c_I_some h66)).1
        by_cases q79 : ((v8 >>> (q_65.1 &&& 31)) &&& (1 : Int32)) = 0
        · rw [if_pos q79] at h
          obtain ⟨b_71, h72, h⟩ := bd h
          obtain ⟨q_69, h70, h⟩ := bd h
          have eh70 := (t165 G l (c_I_some h70)).1
          by_cases q78 : q_69.1 ≤ v7
          · rw [if_pos q78] at h
            have e := lb172_311 G l a0 v1 v3 v4 v8 v9 (((20 : Int32) + ((3 : Int32) * v3)) + ((2 : Int32) * v9)) q_69.2 h
            omega
          · rw [if_neg q78] at h
            obtain ⟨b_75, h76, h⟩ := bd h
            obtain ⟨q_73, h74, h⟩ := bd h
            have eh74 := (t165 G l (c_I_some h74)).1
            by_cases q77 : (8 : Int32) ≤ q_73.1
            · rw [if_pos q77] at h
              have e := lb172_311 G l a0 v1 v3 v4 v8 v9 (((20 : Int32) + ((3 : Int32) * v3)) + ((2 : Int32) * v9)) q_73.2 h
              omega
            · rw [if_neg q77] at h
              have e := lb172_312 G l a0 v1 v3 v4 v8 v9 (((20 : Int32) + ((3 : Int32) * v3)) + ((2 : Int32) * v9)) (1 : Int32) q_73.2 h
              omega
        · rw [if_neg q79] at h
          have e := lb172_311 G l a0 v1 v3 v4 v8 v9 (((20 : Int32) + ((3 : Int32) * v3)) + ((2 : Int32) * v9)) q_65.2 h
          omega
section
variable {p : Program} {l : Launch} {e : Env} {s : State} {m : MethodId} {args : Array Value} {below : List Frame} {meth : Method} {c : Code} {G : gX} {z0 y0 : Nat} {r : Option aV} {M' : hM}
def pg172 (p : Program) (l : Launch) (e : Env) (s : State) (m : MethodId) (args : Array Value) (below : List Frame) (meth : Method) (c : Code) (G : gX) (z0 y0 : Nat) (r : Option aV) (M' : hM) (h : Nat) (as : List aV) (M : hM) : Prop :=
  if h = 107 then (match as with | [.inr (.inr (some a0)), .inl v1, .inl v3, .inl v4, .inl v6, .inl v7, .inl v8] => xV G p l e (xRm 1 (h_sz M' - z0) (h_sl M' - y0)) s m args below meth c z0 y0 (h_sz M') (h_sl M') 11 (MQ below (xQc G r M') args s (h_sz M' - z0) (h_sl M' - y0) (xFr G)) 107 [(0, .inr (.inr (some a0))), (1, .inl v1), (3, .inl v3), (4, .inl v4), (6, .inl v6), (7, .inl v7), (8, .inl v8)] [] M | _ => False) else
  if h = 225 then (match as with | [.inr (.inr (some a0)), .inl v1, .inl v3, .inl v4, .inl v6, .inl v7, .inl v8, .inl v9] => xV G p l e (xRm 1 (h_sz M' - z0) (h_sl M' - y0)) s m args below meth c z0 y0 (h_sz M') (h_sl M') 11 (MQ below (xQc G r M') args s (h_sz M' - z0) (h_sl M' - y0) (xFr G)) 225 [(0, .inr (.inr (some a0))), (1, .inl v1), (3, .inl v3), (4, .inl v4), (6, .inl v6), (7, .inl v7), (8, .inl v8), (9, .inl v9)] [] M | _ => False) else
  False
theorem sb172_99 (E : xE G p (xRm 1 (h_sz M' - z0) (h_sl M' - y0)) s m args c prog_14_method_11_code "ZonedFabricModel" z0 y0 (h_sz M') (h_sl M') 11) (B : xB ym172 (some FieldType.boolean) meth) (a0 : Nat) (v1 : Int32) (v3 : Int32) (v4 : Int32) (si0 : Int32) (M : hM) {res : xRes} (h : b172_99 a0 v1 v3 v4 si0 M = some res) (hN : xN (pg172 p l e s m args below meth c G z0 y0 r M') r M' res) : xV G p l e (xRm 1 (h_sz M' - z0) (h_sl M' - y0)) s m args below meth c z0 y0 (h_sz M') (h_sl M') 11 (MQ below (xQc G r M') args s (h_sz M' - z0) (h_sl M' - y0) (xFr G)) 99 [(0, .inr (.inr (some a0))), (1, .inl v1), (3, .inl v3), (4, .inl v4)] [.inl si0] M := by
  unfold b172_99 at h
  refine xv_b E [.istore 6, .iconst (-1), .istore 7, .iconst 0, .istore 8] (pc' := 107) (lv' := [(8, .inl (0 : Int32)), (7, .inl (-1 : Int32)), (6, .inl si0), (0, .inr (.inr (some a0))), (1, .inl v1), (3, .inl v3), (4, .inl v4)]) (st' := []) (by decide +kernel) rfl rfl ?_
  obtain rfl := Option.some.inj h
  exact xv_w hN rfl
theorem sb172_98 (E : xE G p (xRm 1 (h_sz M' - z0) (h_sl M' - y0)) s m args c prog_14_method_11_code "ZonedFabricModel" z0 y0 (h_sz M') (h_sl M') 11) (B : xB ym172 (some FieldType.boolean) meth) (a0 : Nat) (v1 : Int32) (v3 : Int32) (v4 : Int32) (M : hM) {res : xRes} (h : b172_98 a0 v1 v3 v4 M = some res) (hN : xN (pg172 p l e s m args below meth c G z0 y0 r M') r M' res) : xV G p l e (xRm 1 (h_sz M' - z0) (h_sl M' - y0)) s m args below meth c z0 y0 (h_sz M') (h_sl M') 11 (MQ below (xQc G r M') args s (h_sz M' - z0) (h_sl M' - y0) (xFr G)) 98 [(0, .inr (.inr (some a0))), (1, .inl v1), (3, .inl v3), (4, .inl v4)] [] M := by
  unfold b172_98 at h
  refine xv_b E [.iconst 0] (pc' := 99) (lv' := [(0, .inr (.inr (some a0))), (1, .inl v1), (3, .inl v3), (4, .inl v4)]) (st' := [.inl (0 : Int32)]) (by decide +kernel) rfl rfl ?_
  exact xv_w (sb172_99 E B a0 v1 v3 v4 (0 : Int32) M h hN) rfl
theorem sb172_0 (E : xE G p (xRm 1 (h_sz M' - z0) (h_sl M' - y0)) s m args c prog_14_method_11_code "ZonedFabricModel" z0 y0 (h_sz M') (h_sl M') 11) (B : xB ym172 (some FieldType.boolean) meth) (a0 : Nat) (v1 : Int32) (v2 : Int32) (M : hM) {res : xRes} (h : b172_0 a0 v1 v2 M = some res) (hN : xN (pg172 p l e s m args below meth c G z0 y0 r M') r M' res) : xV G p l e (xRm 1 (h_sz M' - z0) (h_sl M' - y0)) s m args below meth c z0 y0 (h_sz M') (h_sl M') 11 (MQ below (xQc G r M') args s (h_sz M' - z0) (h_sl M' - y0) (xFr G)) 0 [(0, .inr (.inr (some a0))), (1, .inl v1), (2, .inl v2)] [] M := by
  unfold b172_0 at h
  refine xv_b E [.iload_n 2, .bipush 7] (pc' := 3) (lv' := [(0, .inr (.inr (some a0))), (1, .inl v1), (2, .inl v2)]) (st' := [.inl (7 : Int32), .inl v2]) (by decide +kernel) rfl rfl ?_
  by_cases q24 : (7 : Int32) ≤ v2
  · rw [if_pos q24] at h
    refine xv_icmp_ge E 8 (show decode prog_14_method_11_code 3 = .ok (.if_icmp .ge (5), 3) by decide +kernel) rfl (fun _ => ?_) (fun z => absurd q24 z)
    refine xv_b E [.aload_n 0, .iload_n 1, .bipush 18] (pc' := 12) (lv' := [(0, .inr (.inr (some a0))), (1, .inl v1), (2, .inl v2)]) (st' := [.inl (18 : Int32), .inl v1, .inr (.inr (some a0))]) (by decide +kernel) rfl rfl ?_
    obtain ⟨b_3, h4, h⟩ := bd h
    obtain ⟨eh4, th4⟩ := g_o_some h4
    obtain ⟨q_1, h2, h⟩ := bd h
    refine xv_cvo E eh4 12 (as := [.inl v1, .inl (18 : Int32)]) (t165 G l (c_I_some h2)) cd165 mw927 mw928 mw929 (show decode prog_14_method_11_code 12 = .ok (.invokevirtual 186, 3) by decide +kernel) th4 rfl rfl (Nat.le_of_ble_eq_true rfl) ⟨Nat.le_of_ble_eq_true rfl, Nat.le_of_ble_eq_true rfl⟩ ?_
    refine xv_b E [.istore_n 3, .bipush 7, .iconst 3, .iload_n 3, .imul, .iadd, .iload_n 2] (pc' := 23) (lv' := [(3, .inl q_1.1), (0, .inr (.inr (some a0))), (1, .inl v1), (2, .inl v2)]) (st' := [.inl v2, .inl ((7 : Int32) + ((3 : Int32) * q_1.1))]) (by decide +kernel) rfl rfl ?_
    by_cases q23 : ((7 : Int32) + ((3 : Int32) * q_1.1)) ≤ v2
    · rw [if_pos q23] at h
      refine xv_icmp_le E 28 (show decode prog_14_method_11_code 23 = .ok (.if_icmp .le (5), 3) by decide +kernel) rfl (fun _ => ?_) (fun z => absurd q23 z)
      refine xv_b E [.aload_n 0, .iload_n 1, .bipush 19, .iconst 3, .iload_n 3, .imul, .iadd] (pc' := 36) (lv' := [(3, .inl q_1.1), (0, .inr (.inr (some a0))), (1, .inl v1), (2, .inl v2)]) (st' := [.inl ((19 : Int32) + ((3 : Int32) * q_1.1)), .inl v1, .inr (.inr (some a0))]) (by decide +kernel) rfl rfl ?_
      obtain ⟨b_7, h8, h⟩ := bd h
      obtain ⟨eh8, th8⟩ := g_o_some h8
      obtain ⟨q_5, h6, h⟩ := bd h
      refine xv_cvo E eh8 12 (as := [.inl v1, .inl ((19 : Int32) + ((3 : Int32) * q_1.1))]) (t165 G l (c_I_some h6)) cd165 mw927 mw928 mw929 (show decode prog_14_method_11_code 36 = .ok (.invokevirtual 186, 3) by decide +kernel) th8 rfl rfl (Nat.le_of_ble_eq_true rfl) ⟨Nat.le_of_ble_eq_true rfl, Nat.le_of_ble_eq_true rfl⟩ ?_
      refine xv_b E [.istore 4, .bipush 7, .iconst 3, .iload_n 3, .imul, .iadd, .iconst 2, .iload 4, .imul, .iadd, .iload_n 2] (pc' := 53) (lv' := [(4, .inl q_5.1), (3, .inl q_1.1), (0, .inr (.inr (some a0))), (1, .inl v1), (2, .inl v2)]) (st' := [.inl v2, .inl (((7 : Int32) + ((3 : Int32) * q_1.1)) + ((2 : Int32) * q_5.1))]) (by decide +kernel) rfl rfl ?_
      by_cases q22 : (((7 : Int32) + ((3 : Int32) * q_1.1)) + ((2 : Int32) * q_5.1)) = v2
      · rw [if_pos q22] at h
        refine xv_icmp_eq E 58 (show decode prog_14_method_11_code 53 = .ok (.if_icmp .eq (5), 3) by decide +kernel) rfl (fun _ => ?_) (fun z => absurd q22 z)
        refine xv_b E [.aload_n 0, .iload_n 1, .bipush 17] (pc' := 62) (lv' := [(4, .inl q_5.1), (3, .inl q_1.1), (0, .inr (.inr (some a0))), (1, .inl v1), (2, .inl v2)]) (st' := [.inl (17 : Int32), .inl v1, .inr (.inr (some a0))]) (by decide +kernel) rfl rfl ?_
        obtain ⟨b_11, h12, h⟩ := bd h
        obtain ⟨eh12, th12⟩ := g_o_some h12
        obtain ⟨q_9, h10, h⟩ := bd h
        refine xv_cvo E eh12 12 (as := [.inl v1, .inl (17 : Int32)]) (t165 G l (c_I_some h10)) cd165 mw927 mw928 mw929 (show decode prog_14_method_11_code 62 = .ok (.invokevirtual 186, 3) by decide +kernel) th12 rfl rfl (Nat.le_of_ble_eq_true rfl) ⟨Nat.le_of_ble_eq_true rfl, Nat.le_of_ble_eq_true rfl⟩ ?_
        refine xv_b E [.istore 5, .aload_n 0, .iload_n 1, .bipush 13] (pc' := 71) (lv' := [(5, .inl q_9.1), (4, .inl q_5.1), (3, .inl q_1.1), (0, .inr (.inr (some a0))), (1, .inl v1), (2, .inl v2)]) (st' := [.inl (13 : Int32), .inl v1, .inr (.inr (some a0))]) (by decide +kernel) rfl rfl ?_
        obtain ⟨b_15, h16, h⟩ := bd h
        obtain ⟨eh16, th16⟩ := g_o_some h16
        obtain ⟨q_13, h14, h⟩ := bd h
        refine xv_cvo E eh16 12 (as := [.inl v1, .inl (13 : Int32)]) (t165 G l (c_I_some h14)) cd165 mw927 mw928 mw929 (show decode prog_14_method_11_code 71 = .ok (.invokevirtual 186, 3) by decide +kernel) th16 rfl rfl (Nat.le_of_ble_eq_true rfl) ⟨Nat.le_of_ble_eq_true rfl, Nat.le_of_ble_eq_true rfl⟩ ?_
        refine xv_b E [.aload_n 0] (pc' := 75) (lv' := [(5, .inl q_9.1), (4, .inl q_5.1), (3, .inl q_1.1), (0, .inr (.inr (some a0))), (1, .inl v1), (2, .inl v2)]) (st' := [.inr (.inr (some a0)), .inl q_13.1]) (by decide +kernel) rfl rfl ?_
        obtain ⟨v_17, h18, h⟩ := bd h
        refine xg_i E 12 0 h18 mw921 (show decode prog_14_method_11_code 75 = .ok (.getfield 173, 3) by decide +kernel) ?_
        by_cases q21 : v_17 ≤ q_13.1
        · rw [if_pos q21] at h
          refine xv_icmp_ge E 98 (show decode prog_14_method_11_code 78 = .ok (.if_icmp .ge (20), 3) by decide +kernel) rfl (fun _ => ?_) (fun z => absurd q21 z)
          exact xv_w (sb172_98 E B a0 v1 q_1.1 q_5.1 q_13.2 h hN) rfl
        · rw [if_neg q21] at h
          refine xv_icmp_ge E 98 (show decode prog_14_method_11_code 78 = .ok (.if_icmp .ge (20), 3) by decide +kernel) rfl (fun z => absurd z q21) (fun _ => ?_)
          refine xv_b E [.iload 5, .iconst 1] (pc' := 84) (lv' := [(5, .inl q_9.1), (4, .inl q_5.1), (3, .inl q_1.1), (0, .inr (.inr (some a0))), (1, .inl v1), (2, .inl v2)]) (st' := [.inl (1 : Int32), .inl q_9.1]) (by decide +kernel) rfl rfl ?_
          by_cases q20 : q_9.1 < (1 : Int32)
          · rw [if_pos q20] at h
            refine xv_icmp_lt E 98 (show decode prog_14_method_11_code 84 = .ok (.if_icmp .lt (14), 3) by decide +kernel) rfl (fun _ => ?_) (fun z => absurd q20 z)
            exact xv_w (sb172_98 E B a0 v1 q_1.1 q_5.1 q_13.2 h hN) rfl
          · rw [if_neg q20] at h
            refine xv_icmp_lt E 98 (show decode prog_14_method_11_code 84 = .ok (.if_icmp .lt (14), 3) by decide +kernel) rfl (fun z => absurd z q20) (fun _ => ?_)
            refine xv_b E [.iload 5, .bipush 15] (pc' := 91) (lv' := [(5, .inl q_9.1), (4, .inl q_5.1), (3, .inl q_1.1), (0, .inr (.inr (some a0))), (1, .inl v1), (2, .inl v2)]) (st' := [.inl (15 : Int32), .inl q_9.1]) (by decide +kernel) rfl rfl ?_
            by_cases q19 : (15 : Int32) < q_9.1
            · rw [if_pos q19] at h
              refine xv_icmp_gt E 98 (show decode prog_14_method_11_code 91 = .ok (.if_icmp .gt (7), 3) by decide +kernel) rfl (fun _ => ?_) (fun z => absurd q19 z)
              exact xv_w (sb172_98 E B a0 v1 q_1.1 q_5.1 q_13.2 h hN) rfl
            · rw [if_neg q19] at h
              refine xv_icmp_gt E 98 (show decode prog_14_method_11_code 91 = .ok (.if_icmp .gt (7), 3) by decide +kernel) rfl (fun z => absurd z q19) (fun _ => ?_)
              refine xv_b E [.iconst 1] (pc' := 95) (lv' := [(5, .inl q_9.1), (4, .inl q_5.1), (3, .inl q_1.1), (0, .inr (.inr (some a0))), (1, .inl v1), (2, .inl v2)]) (st' := [.inl (1 : Int32)]) (by decide +kernel) rfl rfl ?_
              refine xv_goto E 99 (show decode prog_14_method_11_code 95 = .ok (.goto (4), 3) by decide +kernel) rfl ?_
              exact xv_w (sb172_99 E B a0 v1 q_1.1 q_5.1 (1 : Int32) q_13.2 h hN) rfl
      · rw [if_neg q22] at h
        refine xv_icmp_eq E 58 (show decode prog_14_method_11_code 53 = .ok (.if_icmp .eq (5), 3) by decide +kernel) rfl (fun z => absurd z q22) (fun _ => ?_)
        refine xv_b E [.iconst 0] (pc' := 57) (lv' := [(4, .inl q_5.1), (3, .inl q_1.1), (0, .inr (.inr (some a0))), (1, .inl v1), (2, .inl v2)]) (st' := [.inl (0 : Int32)]) (by decide +kernel) rfl rfl ?_
        obtain rfl := Option.some.inj h
        obtain ⟨rfl, rfl⟩ := Prod.mk.inj (show ((some (.inl (0 : Int32)) : Option aV), q_5.2) = (r, M') from hN)
        exact xv_ri E B.1 rfl B.2.1 (show decode prog_14_method_11_code 57 = .ok (.ireturn, 1) by decide +kernel) rfl rfl
    · rw [if_neg q23] at h
      refine xv_icmp_le E 28 (show decode prog_14_method_11_code 23 = .ok (.if_icmp .le (5), 3) by decide +kernel) rfl (fun z => absurd z q23) (fun _ => ?_)
      refine xv_b E [.iconst 0] (pc' := 27) (lv' := [(3, .inl q_1.1), (0, .inr (.inr (some a0))), (1, .inl v1), (2, .inl v2)]) (st' := [.inl (0 : Int32)]) (by decide +kernel) rfl rfl ?_
      obtain rfl := Option.some.inj h
      obtain ⟨rfl, rfl⟩ := Prod.mk.inj (show ((some (.inl (0 : Int32)) : Option aV), q_1.2) = (r, M') from hN)
      exact xv_ri E B.1 rfl B.2.1 (show decode prog_14_method_11_code 27 = .ok (.ireturn, 1) by decide +kernel) rfl rfl
  · rw [if_neg q24] at h
    refine xv_icmp_ge E 8 (show decode prog_14_method_11_code 3 = .ok (.if_icmp .ge (5), 3) by decide +kernel) rfl (fun z => absurd z q24) (fun _ => ?_)
    refine xv_b E [.iconst 0] (pc' := 7) (lv' := [(0, .inr (.inr (some a0))), (1, .inl v1), (2, .inl v2)]) (st' := [.inl (0 : Int32)]) (by decide +kernel) rfl rfl ?_
    obtain rfl := Option.some.inj h
    obtain ⟨rfl, rfl⟩ := Prod.mk.inj (show ((some (.inl (0 : Int32)) : Option aV), M) = (r, M') from hN)
    exact xv_ri E B.1 rfl B.2.1 (show decode prog_14_method_11_code 7 = .ok (.ireturn, 1) by decide +kernel) rfl rfl
theorem sb172_199 (E : xE G p (xRm 1 (h_sz M' - z0) (h_sl M' - y0)) s m args c prog_14_method_11_code "ZonedFabricModel" z0 y0 (h_sz M') (h_sl M') 11) (B : xB ym172 (some FieldType.boolean) meth) (a0 : Nat) (v1 : Int32) (v3 : Int32) (v4 : Int32) (v8 : Int32) (v9 : Int32) (si0 : Int32) (M : hM) {res : xRes} (h : b172_199 a0 v1 v3 v4 v8 v9 si0 M = some res) (hN : xN (pg172 p l e s m args below meth c G z0 y0 r M') r M' res) : xV G p l e (xRm 1 (h_sz M' - z0) (h_sl M' - y0)) s m args below meth c z0 y0 (h_sz M') (h_sl M') 11 (MQ below (xQc G r M') args s (h_sz M' - z0) (h_sl M' - y0) (xFr G)) 199 [(0, .inr (.inr (some a0))), (1, .inl v1), (3, .inl v3), (4, .inl v4), (8, .inl v8), (9, .inl v9)] [.inl si0] M := by
  unfold b172_199 at h
  refine xv_b E [.istore 6, .aload_n 0, .iload_n 1, .iload 9] (pc' := 205) (lv' := [(6, .inl si0), (0, .inr (.inr (some a0))), (1, .inl v1), (3, .inl v3), (4, .inl v4), (8, .inl v8), (9, .inl v9)]) (st' := [.inl v9, .inl v1, .inr (.inr (some a0))]) (by decide +kernel) rfl rfl ?_
  obtain ⟨b_56, h57, h⟩ := bd h
  obtain ⟨eh57, th57⟩ := g_o_some h57
  obtain ⟨q_54, h55, h⟩ := bd h
  refine xv_cvo E eh57 12 (as := [.inl v1, .inl v9]) (t165 G l (c_I_some h55)) cd165 mw927 mw928 mw929 (show decode prog_14_method_11_code 205 = .ok (.invokevirtual 186, 3) by decide +kernel) th57 rfl rfl (Nat.le_of_ble_eq_true rfl) ⟨Nat.le_of_ble_eq_true rfl, Nat.le_of_ble_eq_true rfl⟩ ?_
  refine xv_b E [.istore 7, .iinc 8 1] (pc' := 213) (lv' := [(8, .inl (v8 + (1 : Int32))), (7, .inl q_54.1), (6, .inl si0), (0, .inr (.inr (some a0))), (1, .inl v1), (3, .inl v3), (4, .inl v4), (9, .inl v9)]) (st' := []) (by decide +kernel) rfl rfl ?_
  refine xv_goto E 107 (show decode prog_14_method_11_code 213 = .ok (.goto (-106), 3) by decide +kernel) rfl ?_
  obtain rfl := Option.some.inj h
  exact xv_w hN rfl
theorem sb172_198 (E : xE G p (xRm 1 (h_sz M' - z0) (h_sl M' - y0)) s m args c prog_14_method_11_code "ZonedFabricModel" z0 y0 (h_sz M') (h_sl M') 11) (B : xB ym172 (some FieldType.boolean) meth) (a0 : Nat) (v1 : Int32) (v3 : Int32) (v4 : Int32) (v8 : Int32) (v9 : Int32) (M : hM) {res : xRes} (h : b172_198 a0 v1 v3 v4 v8 v9 M = some res) (hN : xN (pg172 p l e s m args below meth c G z0 y0 r M') r M' res) : xV G p l e (xRm 1 (h_sz M' - z0) (h_sl M' - y0)) s m args below meth c z0 y0 (h_sz M') (h_sl M') 11 (MQ below (xQc G r M') args s (h_sz M' - z0) (h_sl M' - y0) (xFr G)) 198 [(0, .inr (.inr (some a0))), (1, .inl v1), (3, .inl v3), (4, .inl v4), (8, .inl v8), (9, .inl v9)] [] M := by
  unfold b172_198 at h
  refine xv_b E [.iconst 0] (pc' := 199) (lv' := [(0, .inr (.inr (some a0))), (1, .inl v1), (3, .inl v3), (4, .inl v4), (8, .inl v8), (9, .inl v9)]) (st' := [.inl (0 : Int32)]) (by decide +kernel) rfl rfl ?_
  exact xv_w (sb172_199 E B a0 v1 v3 v4 v8 v9 (0 : Int32) M h hN) rfl
theorem sb172_107 (E : xE G p (xRm 1 (h_sz M' - z0) (h_sl M' - y0)) s m args c prog_14_method_11_code "ZonedFabricModel" z0 y0 (h_sz M') (h_sl M') 11) (B : xB ym172 (some FieldType.boolean) meth) (a0 : Nat) (v1 : Int32) (v3 : Int32) (v4 : Int32) (v6 : Int32) (v7 : Int32) (v8 : Int32) (M : hM) {res : xRes} (h : b172_107 a0 v1 v3 v4 v6 v7 v8 M = some res) (hN : xN (pg172 p l e s m args below meth c G z0 y0 r M') r M' res) : xV G p l e (xRm 1 (h_sz M' - z0) (h_sl M' - y0)) s m args below meth c z0 y0 (h_sz M') (h_sl M') 11 (MQ below (xQc G r M') args s (h_sz M' - z0) (h_sl M' - y0) (xFr G)) 107 [(0, .inr (.inr (some a0))), (1, .inl v1), (3, .inl v3), (4, .inl v4), (6, .inl v6), (7, .inl v7), (8, .inl v8)] [] M := by
  unfold b172_107 at h
  refine xv_b E [.iload 8, .iload_n 3] (pc' := 110) (lv' := [(0, .inr (.inr (some a0))), (1, .inl v1), (3, .inl v3), (4, .inl v4), (6, .inl v6), (7, .inl v7), (8, .inl v8)]) (st' := [.inl v3, .inl v8]) (by decide +kernel) rfl rfl ?_
  by_cases q53 : v3 ≤ v8
  · rw [if_pos q53] at h
    refine xv_icmp_ge E 216 (show decode prog_14_method_11_code 110 = .ok (.if_icmp .ge (106), 3) by decide +kernel) rfl (fun _ => ?_) (fun z => absurd q53 z)
    refine xv_b E [.iconst (-1), .istore 7, .iconst 0, .istore 8, .iconst 0, .istore 9] (pc' := 225) (lv' := [(9, .inl (0 : Int32)), (8, .inl (0 : Int32)), (7, .inl (-1 : Int32)), (0, .inr (.inr (some a0))), (1, .inl v1), (3, .inl v3), (4, .inl v4), (6, .inl v6)]) (st' := []) (by decide +kernel) rfl rfl ?_
    obtain rfl := Option.some.inj h
    exact xv_w hN rfl
  · rw [if_neg q53] at h
    refine xv_icmp_ge E 216 (show decode prog_14_method_11_code 110 = .ok (.if_icmp .ge (106), 3) by decide +kernel) rfl (fun z => absurd z q53) (fun _ => ?_)
    refine xv_b E [.bipush 19, .iconst 3, .iload 8, .imul, .iadd, .istore 9, .iload 6] (pc' := 124) (lv' := [(9, .inl ((19 : Int32) + ((3 : Int32) * v8))), (0, .inr (.inr (some a0))), (1, .inl v1), (3, .inl v3), (4, .inl v4), (6, .inl v6), (7, .inl v7), (8, .inl v8)]) (st' := [.inl v6]) (by decide +kernel) rfl rfl ?_
    by_cases q52 : v6 = 0
    · rw [if_pos q52] at h
      refine xv_if_eq E 198 (show decode prog_14_method_11_code 124 = .ok (.ifCond .eq (74), 3) by decide +kernel) rfl (fun _ => ?_) (fun z => absurd q52 z)
      exact xv_w (sb172_198 E B a0 v1 v3 v4 v8 ((19 : Int32) + ((3 : Int32) * v8)) M h hN) rfl
    · rw [if_neg q52] at h
      refine xv_if_eq E 198 (show decode prog_14_method_11_code 124 = .ok (.ifCond .eq (74), 3) by decide +kernel) rfl (fun z => absurd z q52) (fun _ => ?_)
      refine xv_b E [.aload_n 0, .iload_n 1, .iload 9] (pc' := 131) (lv' := [(9, .inl ((19 : Int32) + ((3 : Int32) * v8))), (0, .inr (.inr (some a0))), (1, .inl v1), (3, .inl v3), (4, .inl v4), (6, .inl v6), (7, .inl v7), (8, .inl v8)]) (st' := [.inl ((19 : Int32) + ((3 : Int32) * v8)), .inl v1, .inr (.inr (some a0))]) (by decide +kernel) rfl rfl ?_
      obtain ⟨b_27, h28, h⟩ := bd h
      obtain ⟨eh28, th28⟩ := g_o_some h28
      obtain ⟨q_25, h26, h⟩ := bd h
      refine xv_cvo E eh28 12 (as := [.inl v1, .inl ((19 : Int32) + ((3 : Int32) * v8))]) (t165 G l (c_I_some h26)) cd165 mw927 mw928 mw929 (show decode prog_14_method_11_code 131 = .ok (.invokevirtual 186, 3) by decide +kernel) th28 rfl rfl (Nat.le_of_ble_eq_true rfl) ⟨Nat.le_of_ble_eq_true rfl, Nat.le_of_ble_eq_true rfl⟩ ?_
      refine xv_b E [.iload 7] (pc' := 136) (lv' := [(9, .inl ((19 : Int32) + ((3 : Int32) * v8))), (0, .inr (.inr (some a0))), (1, .inl v1), (3, .inl v3), (4, .inl v4), (6, .inl v6), (7, .inl v7), (8, .inl v8)]) (st' := [.inl v7, .inl q_25.1]) (by decide +kernel) rfl rfl ?_
      by_cases q51 : q_25.1 ≤ v7
      · rw [if_pos q51] at h
        refine xv_icmp_le E 198 (show decode prog_14_method_11_code 136 = .ok (.if_icmp .le (62), 3) by decide +kernel) rfl (fun _ => ?_) (fun z => absurd q51 z)
        exact xv_w (sb172_198 E B a0 v1 v3 v4 v8 ((19 : Int32) + ((3 : Int32) * v8)) q_25.2 h hN) rfl
      · rw [if_neg q51] at h
        refine xv_icmp_le E 198 (show decode prog_14_method_11_code 136 = .ok (.if_icmp .le (62), 3) by decide +kernel) rfl (fun z => absurd z q51) (fun _ => ?_)
        refine xv_b E [.aload_n 0, .iload_n 1, .iload 9] (pc' := 143) (lv' := [(9, .inl ((19 : Int32) + ((3 : Int32) * v8))), (0, .inr (.inr (some a0))), (1, .inl v1), (3, .inl v3), (4, .inl v4), (6, .inl v6), (7, .inl v7), (8, .inl v8)]) (st' := [.inl ((19 : Int32) + ((3 : Int32) * v8)), .inl v1, .inr (.inr (some a0))]) (by decide +kernel) rfl rfl ?_
        obtain ⟨b_31, h32, h⟩ := bd h
        obtain ⟨eh32, th32⟩ := g_o_some h32
        obtain ⟨q_29, h30, h⟩ := bd h
        refine xv_cvo E eh32 12 (as := [.inl v1, .inl ((19 : Int32) + ((3 : Int32) * v8))]) (t165 G l (c_I_some h30)) cd165 mw927 mw928 mw929 (show decode prog_14_method_11_code 143 = .ok (.invokevirtual 186, 3) by decide +kernel) th32 rfl rfl (Nat.le_of_ble_eq_true rfl) ⟨Nat.le_of_ble_eq_true rfl, Nat.le_of_ble_eq_true rfl⟩ ?_
        refine xv_b E [.bipush 8] (pc' := 148) (lv' := [(9, .inl ((19 : Int32) + ((3 : Int32) * v8))), (0, .inr (.inr (some a0))), (1, .inl v1), (3, .inl v3), (4, .inl v4), (6, .inl v6), (7, .inl v7), (8, .inl v8)]) (st' := [.inl (8 : Int32), .inl q_29.1]) (by decide +kernel) rfl rfl ?_
        by_cases q50 : (8 : Int32) ≤ q_29.1
        · rw [if_pos q50] at h
          refine xv_icmp_ge E 198 (show decode prog_14_method_11_code 148 = .ok (.if_icmp .ge (50), 3) by decide +kernel) rfl (fun _ => ?_) (fun z => absurd q50 z)
          exact xv_w (sb172_198 E B a0 v1 v3 v4 v8 ((19 : Int32) + ((3 : Int32) * v8)) q_29.2 h hN) rfl
        · rw [if_neg q50] at h
          refine xv_icmp_ge E 198 (show decode prog_14_method_11_code 148 = .ok (.if_icmp .ge (50), 3) by decide +kernel) rfl (fun z => absurd z q50) (fun _ => ?_)
          refine xv_b E [.aload_n 0, .iload_n 1, .iload 9, .iconst 1, .iadd] (pc' := 157) (lv' := [(9, .inl ((19 : Int32) + ((3 : Int32) * v8))), (0, .inr (.inr (some a0))), (1, .inl v1), (3, .inl v3), (4, .inl v4), (6, .inl v6), (7, .inl v7), (8, .inl v8)]) (st' := [.inl (((19 : Int32) + ((3 : Int32) * v8)) + (1 : Int32)), .inl v1, .inr (.inr (some a0))]) (by decide +kernel) rfl rfl ?_
          obtain ⟨b_35, h36, h⟩ := bd h
          obtain ⟨eh36, th36⟩ := g_o_some h36
          obtain ⟨q_33, h34, h⟩ := bd h
          refine xv_cvo E eh36 12 (as := [.inl v1, .inl (((19 : Int32) + ((3 : Int32) * v8)) + (1 : Int32))]) (t165 G l (c_I_some h34)) cd165 mw927 mw928 mw929 (show decode prog_14_method_11_code 157 = .ok (.invokevirtual 186, 3) by decide +kernel) th36 rfl rfl (Nat.le_of_ble_eq_true rfl) ⟨Nat.le_of_ble_eq_true rfl, Nat.le_of_ble_eq_true rfl⟩ ?_
          refine xv_b E [.aload_n 0] (pc' := 161) (lv' := [(9, .inl ((19 : Int32) + ((3 : Int32) * v8))), (0, .inr (.inr (some a0))), (1, .inl v1), (3, .inl v3), (4, .inl v4), (6, .inl v6), (7, .inl v7), (8, .inl v8)]) (st' := [.inr (.inr (some a0)), .inl q_33.1]) (by decide +kernel) rfl rfl ?_
          obtain ⟨v_37, h38, h⟩ := bd h
          refine xg_i E 12 0 h38 mw921 (show decode prog_14_method_11_code 161 = .ok (.getfield 173, 3) by decide +kernel) ?_
          by_cases q49 : v_37 ≤ q_33.1
          · rw [if_pos q49] at h
            refine xv_icmp_ge E 198 (show decode prog_14_method_11_code 164 = .ok (.if_icmp .ge (34), 3) by decide +kernel) rfl (fun _ => ?_) (fun z => absurd q49 z)
            exact xv_w (sb172_198 E B a0 v1 v3 v4 v8 ((19 : Int32) + ((3 : Int32) * v8)) q_33.2 h hN) rfl
          · rw [if_neg q49] at h
            refine xv_icmp_ge E 198 (show decode prog_14_method_11_code 164 = .ok (.if_icmp .ge (34), 3) by decide +kernel) rfl (fun z => absurd z q49) (fun _ => ?_)
            refine xv_b E [.aload_n 0, .iload_n 1, .iload 9, .iconst 2, .iadd] (pc' := 173) (lv' := [(9, .inl ((19 : Int32) + ((3 : Int32) * v8))), (0, .inr (.inr (some a0))), (1, .inl v1), (3, .inl v3), (4, .inl v4), (6, .inl v6), (7, .inl v7), (8, .inl v8)]) (st' := [.inl (((19 : Int32) + ((3 : Int32) * v8)) + (2 : Int32)), .inl v1, .inr (.inr (some a0))]) (by decide +kernel) rfl rfl ?_
            obtain ⟨b_41, h42, h⟩ := bd h
            obtain ⟨eh42, th42⟩ := g_o_some h42
            obtain ⟨q_39, h40, h⟩ := bd h
            refine xv_cvo E eh42 12 (as := [.inl v1, .inl (((19 : Int32) + ((3 : Int32) * v8)) + (2 : Int32))]) (t165 G l (c_I_some h40)) cd165 mw927 mw928 mw929 (show decode prog_14_method_11_code 173 = .ok (.invokevirtual 186, 3) by decide +kernel) th42 rfl rfl (Nat.le_of_ble_eq_true rfl) ⟨Nat.le_of_ble_eq_true rfl, Nat.le_of_ble_eq_true rfl⟩ ?_
            refine xv_b E [.iconst 1] (pc' := 177) (lv' := [(9, .inl ((19 : Int32) + ((3 : Int32) * v8))), (0, .inr (.inr (some a0))), (1, .inl v1), (3, .inl v3), (4, .inl v4), (6, .inl v6), (7, .inl v7), (8, .inl v8)]) (st' := [.inl (1 : Int32), .inl q_39.1]) (by decide +kernel) rfl rfl ?_
            by_cases q48 : q_39.1 < (1 : Int32)
            · rw [if_pos q48] at h
              refine xv_icmp_lt E 198 (show decode prog_14_method_11_code 177 = .ok (.if_icmp .lt (21), 3) by decide +kernel) rfl (fun _ => ?_) (fun z => absurd q48 z)
              exact xv_w (sb172_198 E B a0 v1 v3 v4 v8 ((19 : Int32) + ((3 : Int32) * v8)) q_39.2 h hN) rfl
            · rw [if_neg q48] at h
              refine xv_icmp_lt E 198 (show decode prog_14_method_11_code 177 = .ok (.if_icmp .lt (21), 3) by decide +kernel) rfl (fun z => absurd z q48) (fun _ => ?_)
              refine xv_b E [.aload_n 0, .iload_n 1, .iload 9, .iconst 2, .iadd] (pc' := 186) (lv' := [(9, .inl ((19 : Int32) + ((3 : Int32) * v8))), (0, .inr (.inr (some a0))), (1, .inl v1), (3, .inl v3), (4, .inl v4), (6, .inl v6), (7, .inl v7), (8, .inl v8)]) (st' := [.inl (((19 : Int32) + ((3 : Int32) * v8)) + (2 : Int32)), .inl v1, .inr (.inr (some a0))]) (by decide +kernel) rfl rfl ?_
              obtain ⟨b_45, h46, h⟩ := bd h
              obtain ⟨eh46, th46⟩ := g_o_some h46
              obtain ⟨q_43, h44, h⟩ := bd h
              refine xv_cvo E eh46 12 (as := [.inl v1, .inl (((19 : Int32) + ((3 : Int32) * v8)) + (2 : Int32))]) (t165 G l (c_I_some h44)) cd165 mw927 mw928 mw929 (show decode prog_14_method_11_code 186 = .ok (.invokevirtual 186, 3) by decide +kernel) th46 rfl rfl (Nat.le_of_ble_eq_true rfl) ⟨Nat.le_of_ble_eq_true rfl, Nat.le_of_ble_eq_true rfl⟩ ?_
              refine xv_b E [.bipush 9] (pc' := 191) (lv' := [(9, .inl ((19 : Int32) + ((3 : Int32) * v8))), (0, .inr (.inr (some a0))), (1, .inl v1), (3, .inl v3), (4, .inl v4), (6, .inl v6), (7, .inl v7), (8, .inl v8)]) (st' := [.inl (9 : Int32), .inl q_43.1]) (by decide +kernel) rfl rfl ?_
              by_cases q47 : (9 : Int32) < q_43.1
              · rw [if_pos q47] at h
                refine xv_icmp_gt E 198 (show decode prog_14_method_11_code 191 = .ok (.if_icmp .gt (7), 3) by decide +kernel) rfl (fun _ => ?_) (fun z => absurd q47 z)
                exact xv_w (sb172_198 E B a0 v1 v3 v4 v8 ((19 : Int32) + ((3 : Int32) * v8)) q_43.2 h hN) rfl
              · rw [if_neg q47] at h
                refine xv_icmp_gt E 198 (show decode prog_14_method_11_code 191 = .ok (.if_icmp .gt (7), 3) by decide +kernel) rfl (fun z => absurd z q47) (fun _ => ?_)
                refine xv_b E [.iconst 1] (pc' := 195) (lv' := [(9, .inl ((19 : Int32) + ((3 : Int32) * v8))), (0, .inr (.inr (some a0))), (1, .inl v1), (3, .inl v3), (4, .inl v4), (6, .inl v6), (7, .inl v7), (8, .inl v8)]) (st' := [.inl (1 : Int32)]) (by decide +kernel) rfl rfl ?_
                refine xv_goto E 199 (show decode prog_14_method_11_code 195 = .ok (.goto (4), 3) by decide +kernel) rfl ?_
                exact xv_w (sb172_199 E B a0 v1 v3 v4 v8 ((19 : Int32) + ((3 : Int32) * v8)) (1 : Int32) q_43.2 h hN) rfl
theorem sb172_333 (E : xE G p (xRm 1 (h_sz M' - z0) (h_sl M' - y0)) s m args c prog_14_method_11_code "ZonedFabricModel" z0 y0 (h_sz M') (h_sl M') 11) (B : xB ym172 (some FieldType.boolean) meth) (a0 : Nat) (v1 : Int32) (v3 : Int32) (v4 : Int32) (v6 : Int32) (v8 : Int32) (v9 : Int32) (v10 : Int32) (M : hM) {res : xRes} (h : b172_333 a0 v1 v3 v4 v6 v8 v9 v10 M = some res) (hN : xN (pg172 p l e s m args below meth c G z0 y0 r M') r M' res) : xV G p l e (xRm 1 (h_sz M' - z0) (h_sl M' - y0)) s m args below meth c z0 y0 (h_sz M') (h_sl M') 11 (MQ below (xQc G r M') args s (h_sz M' - z0) (h_sl M' - y0) (xFr G)) 333 [(0, .inr (.inr (some a0))), (1, .inl v1), (3, .inl v3), (4, .inl v4), (6, .inl v6), (8, .inl v8), (9, .inl v9), (10, .inl v10)] [] M := by
  unfold b172_333 at h
  refine xv_b E [.aload_n 0, .iload_n 1, .iload 10, .iconst 1, .iadd] (pc' := 339) (lv' := [(0, .inr (.inr (some a0))), (1, .inl v1), (3, .inl v3), (4, .inl v4), (6, .inl v6), (8, .inl v8), (9, .inl v9), (10, .inl v10)]) (st' := [.inl (v10 + (1 : Int32)), .inl v1, .inr (.inr (some a0))]) (by decide +kernel) rfl rfl ?_
  obtain ⟨b_90, h91, h⟩ := bd h
  obtain ⟨eh91, th91⟩ := g_o_some h91
  obtain ⟨q_88, h89, h⟩ := bd h
  refine xv_cvo E eh91 12 (as := [.inl v1, .inl (v10 + (1 : Int32))]) (t165 G l (c_I_some h89)) cd165 mw927 mw928 mw929 (show decode prog_14_method_11_code 339 = .ok (.invokevirtual 186, 3) by decide +kernel) th91 rfl rfl (Nat.le_of_ble_eq_true rfl) ⟨Nat.le_of_ble_eq_true rfl, Nat.le_of_ble_eq_true rfl⟩ ?_
  refine xv_b E [.istore 7, .iinc 9 1] (pc' := 347) (lv' := [(9, .inl (v9 + (1 : Int32))), (7, .inl q_88.1), (0, .inr (.inr (some a0))), (1, .inl v1), (3, .inl v3), (4, .inl v4), (6, .inl v6), (8, .inl v8), (10, .inl v10)]) (st' := []) (by decide +kernel) rfl rfl ?_
  refine xv_goto E 225 (show decode prog_14_method_11_code 347 = .ok (.goto (-122), 3) by decide +kernel) rfl ?_
  obtain rfl := Option.some.inj h
  exact xv_w hN rfl
theorem sb172_312 (E : xE G p (xRm 1 (h_sz M' - z0) (h_sl M' - y0)) s m args c prog_14_method_11_code "ZonedFabricModel" z0 y0 (h_sz M') (h_sl M') 11) (B : xB ym172 (some FieldType.boolean) meth) (a0 : Nat) (v1 : Int32) (v3 : Int32) (v4 : Int32) (v8 : Int32) (v9 : Int32) (v10 : Int32) (si0 : Int32) (M : hM) {res : xRes} (h : b172_312 a0 v1 v3 v4 v8 v9 v10 si0 M = some res) (hN : xN (pg172 p l e s m args below meth c G z0 y0 r M') r M' res) : xV G p l e (xRm 1 (h_sz M' - z0) (h_sl M' - y0)) s m args below meth c z0 y0 (h_sz M') (h_sl M') 11 (MQ below (xQc G r M') args s (h_sz M' - z0) (h_sl M' - y0) (xFr G)) 312 [(0, .inr (.inr (some a0))), (1, .inl v1), (3, .inl v3), (4, .inl v4), (8, .inl v8), (9, .inl v9), (10, .inl v10)] [.inl si0] M := by
  unfold b172_312 at h
  refine xv_b E [.istore 6, .iload 6] (pc' := 316) (lv' := [(6, .inl si0), (0, .inr (.inr (some a0))), (1, .inl v1), (3, .inl v3), (4, .inl v4), (8, .inl v8), (9, .inl v9), (10, .inl v10)]) (st' := [.inl si0]) (by decide +kernel) rfl rfl ?_
  by_cases q87 : si0 = 0
  · rw [if_pos q87] at h
    refine xv_if_eq E 333 (show decode prog_14_method_11_code 316 = .ok (.ifCond .eq (17), 3) by decide +kernel) rfl (fun _ => ?_) (fun z => absurd q87 z)
    exact xv_w (sb172_333 E B a0 v1 v3 v4 si0 v8 v9 v10 M h hN) rfl
  · rw [if_neg q87] at h
    refine xv_if_eq E 333 (show decode prog_14_method_11_code 316 = .ok (.ifCond .eq (17), 3) by decide +kernel) rfl (fun z => absurd z q87) (fun _ => ?_)
    refine xv_b E [.iload 8, .iconst 1, .aload_n 0, .iload_n 1, .iload 10] (pc' := 326) (lv' := [(6, .inl si0), (0, .inr (.inr (some a0))), (1, .inl v1), (3, .inl v3), (4, .inl v4), (8, .inl v8), (9, .inl v9), (10, .inl v10)]) (st' := [.inl v10, .inl v1, .inr (.inr (some a0)), .inl (1 : Int32), .inl v8]) (by decide +kernel) rfl rfl ?_
    obtain ⟨b_85, h86, h⟩ := bd h
    obtain ⟨eh86, th86⟩ := g_o_some h86
    obtain ⟨q_83, h84, h⟩ := bd h
    refine xv_cvo E eh86 12 (as := [.inl v1, .inl v10]) (t165 G l (c_I_some h84)) cd165 mw927 mw928 mw929 (show decode prog_14_method_11_code 326 = .ok (.invokevirtual 186, 3) by decide +kernel) th86 rfl rfl (Nat.le_of_ble_eq_true rfl) ⟨Nat.le_of_ble_eq_true rfl, Nat.le_of_ble_eq_true rfl⟩ ?_
    refine xv_b E [.ishl, .ior, .istore 8] (pc' := 333) (lv' := [(8, .inl (v8 ||| ((1 : Int32) <<< (q_83.1 &&& 31)))), (6, .inl si0), (0, .inr (.inr (some a0))), (1, .inl v1), (3, .inl v3), (4, .inl v4), (9, .inl v9), (10, .inl v10)]) (st' := []) (by decide +kernel) rfl rfl ?_
    exact xv_w (sb172_333 E B a0 v1 v3 v4 si0 (v8 ||| ((1 : Int32) <<< (q_83.1 &&& 31))) v9 v10 q_83.2 h hN) rfl
theorem sb172_311 (E : xE G p (xRm 1 (h_sz M' - z0) (h_sl M' - y0)) s m args c prog_14_method_11_code "ZonedFabricModel" z0 y0 (h_sz M') (h_sl M') 11) (B : xB ym172 (some FieldType.boolean) meth) (a0 : Nat) (v1 : Int32) (v3 : Int32) (v4 : Int32) (v8 : Int32) (v9 : Int32) (v10 : Int32) (M : hM) {res : xRes} (h : b172_311 a0 v1 v3 v4 v8 v9 v10 M = some res) (hN : xN (pg172 p l e s m args below meth c G z0 y0 r M') r M' res) : xV G p l e (xRm 1 (h_sz M' - z0) (h_sl M' - y0)) s m args below meth c z0 y0 (h_sz M') (h_sl M') 11 (MQ below (xQc G r M') args s (h_sz M' - z0) (h_sl M' - y0) (xFr G)) 311 [(0, .inr (.inr (some a0))), (1, .inl v1), (3, .inl v3), (4, .inl v4), (8, .inl v8), (9, .inl v9), (10, .inl v10)] [] M := by
  unfold b172_311 at h
  refine xv_b E [.iconst 0] (pc' := 312) (lv' := [(0, .inr (.inr (some a0))), (1, .inl v1), (3, .inl v3), (4, .inl v4), (8, .inl v8), (9, .inl v9), (10, .inl v10)]) (st' := [.inl (0 : Int32)]) (by decide +kernel) rfl rfl ?_
  exact xv_w (sb172_312 E B a0 v1 v3 v4 v8 v9 v10 (0 : Int32) M h hN) rfl
theorem sb172_225 (E : xE G p (xRm 1 (h_sz M' - z0) (h_sl M' - y0)) s m args c prog_14_method_11_code "ZonedFabricModel" z0 y0 (h_sz M') (h_sl M') 11) (B : xB ym172 (some FieldType.boolean) meth) (a0 : Nat) (v1 : Int32) (v3 : Int32) (v4 : Int32) (v6 : Int32) (v7 : Int32) (v8 : Int32) (v9 : Int32) (M : hM) {res : xRes} (h : b172_225 a0 v1 v3 v4 v6 v7 v8 v9 M = some res) (hN : xN (pg172 p l e s m args below meth c G z0 y0 r M') r M' res) : xV G p l e (xRm 1 (h_sz M' - z0) (h_sl M' - y0)) s m args below meth c z0 y0 (h_sz M') (h_sl M') 11 (MQ below (xQc G r M') args s (h_sz M' - z0) (h_sl M' - y0) (xFr G)) 225 [(0, .inr (.inr (some a0))), (1, .inl v1), (3, .inl v3), (4, .inl v4), (6, .inl v6), (7, .inl v7), (8, .inl v8), (9, .inl v9)] [] M := by
  unfold b172_225 at h
  refine xv_b E [.iload 9, .iload 4] (pc' := 229) (lv' := [(0, .inr (.inr (some a0))), (1, .inl v1), (3, .inl v3), (4, .inl v4), (6, .inl v6), (7, .inl v7), (8, .inl v8), (9, .inl v9)]) (st' := [.inl v4, .inl v9]) (by decide +kernel) rfl rfl ?_
  by_cases q82 : v4 ≤ v9
  · rw [if_pos q82] at h
    refine xv_icmp_ge E 350 (show decode prog_14_method_11_code 229 = .ok (.if_icmp .ge (121), 3) by decide +kernel) rfl (fun _ => ?_) (fun z => absurd q82 z)
    refine xv_b E [.iload 6] (pc' := 352) (lv' := [(0, .inr (.inr (some a0))), (1, .inl v1), (3, .inl v3), (4, .inl v4), (6, .inl v6), (7, .inl v7), (8, .inl v8), (9, .inl v9)]) (st' := [.inl v6]) (by decide +kernel) rfl rfl ?_
    by_cases q58 : v6 = 0 ∨ v6 = 1
    · rw [if_pos q58] at h
      obtain rfl := Option.some.inj h
      obtain ⟨rfl, rfl⟩ := Prod.mk.inj (show ((some (.inl v6) : Option aV), M) = (r, M') from hN)
      exact xv_ri E B.1 (by rcases q58 with z | z <;> rw [z] <;> rfl) B.2.1 (show decode prog_14_method_11_code 352 = .ok (.ireturn, 1) by decide +kernel) rfl rfl
    · rw [if_neg q58] at h
      cases h
  · rw [if_neg q82] at h
    refine xv_icmp_ge E 350 (show decode prog_14_method_11_code 229 = .ok (.if_icmp .ge (121), 3) by decide +kernel) rfl (fun z => absurd z q82) (fun _ => ?_)
    refine xv_b E [.bipush 20, .iconst 3, .iload_n 3, .imul, .iadd, .iconst 2, .iload 9, .imul, .iadd, .istore 10, .iload 6] (pc' := 247) (lv' := [(10, .inl (((20 : Int32) + ((3 : Int32) * v3)) + ((2 : Int32) * v9))), (0, .inr (.inr (some a0))), (1, .inl v1), (3, .inl v3), (4, .inl v4), (6, .inl v6), (7, .inl v7), (8, .inl v8), (9, .inl v9)]) (st' := [.inl v6]) (by decide +kernel) rfl rfl ?_
    by_cases q81 : v6 = 0
    · rw [if_pos q81] at h
      refine xv_if_eq E 311 (show decode prog_14_method_11_code 247 = .ok (.ifCond .eq (64), 3) by decide +kernel) rfl (fun _ => ?_) (fun z => absurd q81 z)
      exact xv_w (sb172_311 E B a0 v1 v3 v4 v8 v9 (((20 : Int32) + ((3 : Int32) * v3)) + ((2 : Int32) * v9)) M h hN) rfl
    · rw [if_neg q81] at h
      refine xv_if_eq E 311 (show decode prog_14_method_11_code 247 = .ok (.ifCond .eq (64), 3) by decide +kernel) rfl (fun z => absurd z q81) (fun _ => ?_)
      refine xv_b E [.aload_n 0, .iload_n 1, .iload 10] (pc' := 254) (lv' := [(10, .inl (((20 : Int32) + ((3 : Int32) * v3)) + ((2 : Int32) * v9))), (0, .inr (.inr (some a0))), (1, .inl v1), (3, .inl v3), (4, .inl v4), (6, .inl v6), (7, .inl v7), (8, .inl v8), (9, .inl v9)]) (st' := [.inl (((20 : Int32) + ((3 : Int32) * v3)) + ((2 : Int32) * v9)), .inl v1, .inr (.inr (some a0))]) (by decide +kernel) rfl rfl ?_
      obtain ⟨b_61, h62, h⟩ := bd h
      obtain ⟨eh62, th62⟩ := g_o_some h62
      obtain ⟨q_59, h60, h⟩ := bd h
      refine xv_cvo E eh62 12 (as := [.inl v1, .inl (((20 : Int32) + ((3 : Int32) * v3)) + ((2 : Int32) * v9))]) (t165 G l (c_I_some h60)) cd165 mw927 mw928 mw929 (show decode prog_14_method_11_code 254 = .ok (.invokevirtual 186, 3) by decide +kernel) th62 rfl rfl (Nat.le_of_ble_eq_true rfl) ⟨Nat.le_of_ble_eq_true rfl, Nat.le_of_ble_eq_true rfl⟩ ?_
      refine xv_b E [.aload_n 0] (pc' := 258) (lv' := [(10, .inl (((20 : Int32) + ((3 : Int32) * v3)) + ((2 : Int32) * v9))), (0, .inr (.inr (some a0))), (1, .inl v1), (3, .inl v3), (4, .inl v4), (6, .inl v6), (7, .inl v7), (8, .inl v8), (9, .inl v9)]) (st' := [.inr (.inr (some a0)), .inl q_59.1]) (by decide +kernel) rfl rfl ?_
      obtain ⟨v_63, h64, h⟩ := bd h
      refine xg_i E 12 1 h64 mw922 (show decode prog_14_method_11_code 258 = .ok (.getfield 177, 3) by decide +kernel) ?_
      by_cases q80 : v_63 ≤ q_59.1
      · rw [if_pos q80] at h
        refine xv_icmp_ge E 311 (show decode prog_14_method_11_code 261 = .ok (.if_icmp .ge (50), 3) by decide +kernel) rfl (fun _ => ?_) (fun z => absurd q80 z)
        exact xv_w (sb172_311 E B a0 v1 v3 v4 v8 v9 (((20 : Int32) + ((3 : Int32) * v3)) + ((2 : Int32) * v9)) q_59.2 h hN) rfl
      · rw [if_neg q80] at h
        refine xv_icmp_ge E 311 (show decode prog_14_method_11_code 261 = .ok (.if_icmp .ge (50), 3) by decide +kernel) rfl (fun z => absurd z q80) (fun _ => ?_)
        refine xv_b E [.iload 8, .aload_n 0, .iload_n 1, .iload 10] (pc' := 270) (lv' := [(10, .inl (((20 : Int32) + ((3 : Int32) * v3)) + ((2 : Int32) * v9))), (0, .inr (.inr (some a0))), (1, .inl v1), (3, .inl v3), (4, .inl v4), (6, .inl v6), (7, .inl v7), (8, .inl v8), (9, .inl v9)]) (st' := [.inl (((20 : Int32) + ((3 : Int32) * v3)) + ((2 : Int32) * v9)), .inl v1, .inr (.inr (some a0)), .inl v8]) (by decide +kernel) rfl rfl ?_
        obtain ⟨b_67, h68, h⟩ := bd h
        obtain ⟨eh68, th68⟩ := g_o_some h68
        obtain ⟨q_65, h66, h⟩ := bd h
        refine xv_cvo E eh68 12 (as := [.inl v1, .inl (((20 : Int32) + ((3 : Int32) * v3)) + ((2 : Int32) * v9))]) (t165 G l (c_I_some h66)) cd165 mw927 mw928 mw929 (show decode prog_14_method_11_code 270 = .ok (.invokevirtual 186, 3) by decide +kernel) th68 rfl rfl (Nat.le_of_ble_eq_true rfl) ⟨Nat.le_of_ble_eq_true rfl, Nat.le_of_ble_eq_true rfl⟩ ?_
        refine xv_b E [.ishr, .iconst 1, .iand] (pc' := 276) (lv' := [(10, .inl (((20 : Int32) + ((3 : Int32) * v3)) + ((2 : Int32) * v9))), (0, .inr (.inr (some a0))), (1, .inl v1), (3, .inl v3), (4, .inl v4), (6, .inl v6), (7, .inl v7), (8, .inl v8), (9, .inl v9)]) (st' := [.inl ((v8 >>> (q_65.1 &&& 31)) &&& (1 : Int32))]) (by decide +kernel) rfl rfl ?_
        by_cases q79 : ((v8 >>> (q_65.1 &&& 31)) &&& (1 : Int32)) = 0
        · rw [if_pos q79] at h
          refine xv_if_ne E 311 (show decode prog_14_method_11_code 276 = .ok (.ifCond .ne (35), 3) by decide +kernel) rfl (fun z => absurd q79 z) (fun _ => ?_)
          refine xv_b E [.aload_n 0, .iload_n 1, .iload 10, .iconst 1, .iadd] (pc' := 285) (lv' := [(10, .inl (((20 : Int32) + ((3 : Int32) * v3)) + ((2 : Int32) * v9))), (0, .inr (.inr (some a0))), (1, .inl v1), (3, .inl v3), (4, .inl v4), (6, .inl v6), (7, .inl v7), (8, .inl v8), (9, .inl v9)]) (st' := [.inl ((((20 : Int32) + ((3 : Int32) * v3)) + ((2 : Int32) * v9)) + (1 : Int32)), .inl v1, .inr (.inr (some a0))]) (by decide +kernel) rfl rfl ?_
          obtain ⟨b_71, h72, h⟩ := bd h
          obtain ⟨eh72, th72⟩ := g_o_some h72
          obtain ⟨q_69, h70, h⟩ := bd h
          refine xv_cvo E eh72 12 (as := [.inl v1, .inl ((((20 : Int32) + ((3 : Int32) * v3)) + ((2 : Int32) * v9)) + (1 : Int32))]) (t165 G l (c_I_some h70)) cd165 mw927 mw928 mw929 (show decode prog_14_method_11_code 285 = .ok (.invokevirtual 186, 3) by decide +kernel) th72 rfl rfl (Nat.le_of_ble_eq_true rfl) ⟨Nat.le_of_ble_eq_true rfl, Nat.le_of_ble_eq_true rfl⟩ ?_
          refine xv_b E [.iload 7] (pc' := 290) (lv' := [(10, .inl (((20 : Int32) + ((3 : Int32) * v3)) + ((2 : Int32) * v9))), (0, .inr (.inr (some a0))), (1, .inl v1), (3, .inl v3), (4, .inl v4), (6, .inl v6), (7, .inl v7), (8, .inl v8), (9, .inl v9)]) (st' := [.inl v7, .inl q_69.1]) (by decide +kernel) rfl rfl ?_
          by_cases q78 : q_69.1 ≤ v7
          · rw [if_pos q78] at h
            refine xv_icmp_le E 311 (show decode prog_14_method_11_code 290 = .ok (.if_icmp .le (21), 3) by decide +kernel) rfl (fun _ => ?_) (fun z => absurd q78 z)
            exact xv_w (sb172_311 E B a0 v1 v3 v4 v8 v9 (((20 : Int32) + ((3 : Int32) * v3)) + ((2 : Int32) * v9)) q_69.2 h hN) rfl
          · rw [if_neg q78] at h
            refine xv_icmp_le E 311 (show decode prog_14_method_11_code 290 = .ok (.if_icmp .le (21), 3) by decide +kernel) rfl (fun z => absurd z q78) (fun _ => ?_)
            refine xv_b E [.aload_n 0, .iload_n 1, .iload 10, .iconst 1, .iadd] (pc' := 299) (lv' := [(10, .inl (((20 : Int32) + ((3 : Int32) * v3)) + ((2 : Int32) * v9))), (0, .inr (.inr (some a0))), (1, .inl v1), (3, .inl v3), (4, .inl v4), (6, .inl v6), (7, .inl v7), (8, .inl v8), (9, .inl v9)]) (st' := [.inl ((((20 : Int32) + ((3 : Int32) * v3)) + ((2 : Int32) * v9)) + (1 : Int32)), .inl v1, .inr (.inr (some a0))]) (by decide +kernel) rfl rfl ?_
            obtain ⟨b_75, h76, h⟩ := bd h
            obtain ⟨eh76, th76⟩ := g_o_some h76
            obtain ⟨q_73, h74, h⟩ := bd h
            refine xv_cvo E eh76 12 (as := [.inl v1, .inl ((((20 : Int32) + ((3 : Int32) * v3)) + ((2 : Int32) * v9)) + (1 : Int32))]) (t165 G l (c_I_some h74)) cd165 mw927 mw928 mw929 (show decode prog_14_method_11_code 299 = .ok (.invokevirtual 186, 3) by decide +kernel) th76 rfl rfl (Nat.le_of_ble_eq_true rfl) ⟨Nat.le_of_ble_eq_true rfl, Nat.le_of_ble_eq_true rfl⟩ ?_
            refine xv_b E [.bipush 8] (pc' := 304) (lv' := [(10, .inl (((20 : Int32) + ((3 : Int32) * v3)) + ((2 : Int32) * v9))), (0, .inr (.inr (some a0))), (1, .inl v1), (3, .inl v3), (4, .inl v4), (6, .inl v6), (7, .inl v7), (8, .inl v8), (9, .inl v9)]) (st' := [.inl (8 : Int32), .inl q_73.1]) (by decide +kernel) rfl rfl ?_
            by_cases q77 : (8 : Int32) ≤ q_73.1
            · rw [if_pos q77] at h
              refine xv_icmp_ge E 311 (show decode prog_14_method_11_code 304 = .ok (.if_icmp .ge (7), 3) by decide +kernel) rfl (fun _ => ?_) (fun z => absurd q77 z)
              exact xv_w (sb172_311 E B a0 v1 v3 v4 v8 v9 (((20 : Int32) + ((3 : Int32) * v3)) + ((2 : Int32) * v9)) q_73.2 h hN) rfl
            · rw [if_neg q77] at h
              refine xv_icmp_ge E 311 (show decode prog_14_method_11_code 304 = .ok (.if_icmp .ge (7), 3) by decide +kernel) rfl (fun z => absurd z q77) (fun _ => ?_)
              refine xv_b E [.iconst 1] (pc' := 308) (lv' := [(10, .inl (((20 : Int32) + ((3 : Int32) * v3)) + ((2 : Int32) * v9))), (0, .inr (.inr (some a0))), (1, .inl v1), (3, .inl v3), (4, .inl v4), (6, .inl v6), (7, .inl v7), (8, .inl v8), (9, .inl v9)]) (st' := [.inl (1 : Int32)]) (by decide +kernel) rfl rfl ?_
              refine xv_goto E 312 (show decode prog_14_method_11_code 308 = .ok (.goto (4), 3) by decide +kernel) rfl ?_
              exact xv_w (sb172_312 E B a0 v1 v3 v4 v8 v9 (((20 : Int32) + ((3 : Int32) * v3)) + ((2 : Int32) * v9)) (1 : Int32) q_73.2 h hN) rfl
        · rw [if_neg q79] at h
          refine xv_if_ne E 311 (show decode prog_14_method_11_code 276 = .ok (.ifCond .ne (35), 3) by decide +kernel) rfl (fun _ => ?_) (fun z => absurd z q79)
          exact xv_w (sb172_311 E B a0 v1 v3 v4 v8 v9 (((20 : Int32) + ((3 : Int32) * v3)) + ((2 : Int32) * v9)) q_65.2 h hN) rfl
end
theorem t172 (G : gX) (l : Launch) {as : List aV} {M : hM} {r : Option aV} {M' : hM} (h : f172 as M = some (r, M')) : xM G l ym172 prog_14_method_11_code 11 (some FieldType.boolean) 1 as M r M' := by
  unfold f172 at h
  split at h
  · have hle : ∀ h as M res, k172 h as M = some res → h_sz M ≤ r_sz res ∧ h_sl M ≤ r_sl res := by
      intro h as M res hb
      unfold k172 at hb
      by_cases e0 : h = 107
      · rw [if_pos e0] at hb
        split at hb
        · exact lb172_107 G l _ _ _ _ _ _ _ M hb
        · cases hb
      · rw [if_neg e0] at hb
        by_cases e1 : h = 225
        · rw [if_pos e1] at hb
          split at hb
          · exact lb172_225 G l _ _ _ _ _ _ _ _ M hb
          · cases hb
        · rw [if_neg e1] at hb
          cases hb
    obtain ⟨res, hx, hres⟩ := x_go_ok h
    refine xM_of (by decide) (Nat.le_of_ble_eq_true rfl) ?_ ?_
    · have e1 := lb172_0 G l _ _ _ M hx
      have e2 := x_go_le hle hres
      omega
    · intro p e s m args below meth c E B
      refine sb172_0 E B _ _ _ M hx (hres _ ?_)
      intro h as M res hb hN
      unfold k172 at hb
      unfold pg172
      by_cases e0 : h = 107
      · rw [if_pos e0] at hb ⊢
        split at hb
        · exact sb172_107 E B _ _ _ _ _ _ _ M hb hN
        · cases hb
      · rw [if_neg e0] at hb ⊢
        by_cases e1 : h = 225
        · rw [if_pos e1] at hb ⊢
          split at hb
          · exact sb172_225 E B _ _ _ _ _ _ _ _ M hb hN
          · cases hb
        · rw [if_neg e1] at hb ⊢
          cases hb
  · cases h
