/-! THE CLAIM OUT OF ONE WALK OF THE LAW'S BODY. Your part is whole_start (and what it stands on); all else here is the same for every law, but numbers. -/
def R_law : String := "ZonedFabricLaw"
def lw_P (b : Addr) (xs : List Int32) (args : Array Value) (s : State) : Prop := args = #[.ref b] ∧ s.IntsAt b xs ∧ xs.length ≤ 4099 ∧ (Jvm.Cond.and given_1 narrow_1).before args s = true
def lw_Q (_ : Array Value) (s : State) (o : Outcome) (t : State) : Prop := o = .returned (some (.int 1)) ∧ Framed s o t [] 600000 7302250
def lw_Z (below : List Frame) (a : Array Value) (s : State) : State → Prop := fun t => ∃ o, t.status = .running ∧ Ended t below o ∧ lw_Q a s o t
/-- the law's own end, with 1 on the stack, nothing written that was there before, its room as the claim has it -/
theorem lw_ret {p : Program} {l : Launch} {e : Env} {s : State} {m : MethodId} {below : List Frame} {meth : Method} {c : Code} {b : Nat} (hx : p.tables.exec = Jvm.exec) (hb : c.code = code) (hr : meth.sig.returnType = ret) (hlocks : meth.locks = false) {pc : Nat} {H : Heap} {ls : Array Slot} (hdg : decode code pc = .ok (.ireturn, 1)) : W p l e room_1 s m #[Value.ref b] below meth c H [] 600000 7302250 (lw_Z below #[Value.ref b] s) (F0 m pc ls [.int 1]) := by
  intro T hT X
  obtain ⟨fs, hret, hrun, hended, hW, hframe⟩ := X.leave (v := some (.int 1)) (hlocks := hlocks) (fun h => by rw [hr] at h; cases h)
  have hmeth' : T.vm.method? m = some meth := X.method'
  refine ⟨T.setFrames fs, ?_, .returned (some (.int 1)), hrun, hended, rfl, ⟨_, rfl⟩, hW, hframe⟩
  jvm_step X.here [X.here.top, hx, hb, hdg, hmeth', hr, ret, narrow_b1]
  (try refine ⟨rfl, ?_⟩); (try refine ⟨rfl, ?_⟩)
  first | (intro acts; rw [hret _ acts rfl rfl rfl]) | rw [hret _ _ rfl rfl rfl]
  exact Steps.refl _
/-- what holds at the law's entry: the machine, the code, the tables' words (any of lw_tbl by 'hts w (by decide +kernel)'), the script of L ints xs at the cell b, what the Statement gives of the start (any of its parts by flat_of_before) -/
def lw_At (p : Program) (s : State) (m : MethodId) (meth : Method) (c : Code) (b L : Nat) (xs : Nat → Int32) : Prop :=
  p.tables.exec = Jvm.exec ∧ c.code = code ∧ meth.sig.returnType = ret ∧ c.maxLocals = 4 ∧ s.vm.findClass R_law = some m.cls ∧ (∀ w ∈ lw_tbl, w.before #[Value.ref b] s = true) ∧ va_X b L xs s s.heap ∧ b < s.heap.size ∧ meth.locks = false ∧ (Jvm.Cond.and given_1 narrow_1).before #[Value.ref b] s = true
theorem mw1243 : Cond.code ⟨"ZonedFabricLaw", "cell", "([II)I"⟩ method_2_code 2 (some FieldType.int) ∈ xTs := xTs_in (tk5 (List.mem_of_getElem? (i := 194) (by decide +kernel))) rfl
theorem mw1244 : Cond.initialized "ZonedFabricLaw" ∈ xTs := xTs_in (tk1 (List.mem_of_getElem? (i := 0) (by decide +kernel))) rfl
theorem mw1245 : Cond.methodLink "ZonedFabricLaw" 9 ⟨"ZonedFabricLaw", "cell", "([II)I"⟩ ∈ xTs := xTs_in (tk5 (List.mem_of_getElem? (i := 192) (by decide +kernel))) rfl
theorem mw1246 : Cond.static ⟨"ZonedFabricLaw", "cell", "([II)I"⟩ ∈ xTs := xTs_in (tk5 (List.mem_of_getElem? (i := 193) (by decide +kernel))) rfl
theorem mw1247 : Cond.classLink "ZonedFabricLaw" 7 "ZonedFabric" ∈ xTs := xTs_in (tk1 (List.mem_of_getElem? (i := 16) (by decide +kernel))) rfl
theorem mw1248 : Cond.instantiable "ZonedFabric" 8 ∈ xTs := xTs_in (tk1 (List.mem_of_getElem? (i := 17) (by decide +kernel))) rfl
theorem mw1249 : Cond.methodLink "ZonedFabricLaw" 15 ⟨"ZonedFabric", "<init>", "(III)V"⟩ ∈ xTs := xTs_in (tk1 (List.mem_of_getElem? (i := 18) (by decide +kernel))) rfl
theorem mw1250 : Cond.instanceMethod ⟨"ZonedFabric", "<init>", "(III)V"⟩ ∈ xTs := xTs_in (tk1 (List.mem_of_getElem? (i := 19) (by decide +kernel))) rfl
theorem mw1251 : Cond.classLink "ZonedFabricLaw" 18 "ZonedFabricModel" ∈ xTs := xTs_in (tk5 (List.mem_of_getElem? (i := 195) (by decide +kernel))) rfl
theorem mw1252 : Cond.instantiable "ZonedFabricModel" 61 ∈ xTs := xTs_in (tk5 (List.mem_of_getElem? (i := 196) (by decide +kernel))) rfl
theorem mw1253 : Cond.methodLink "ZonedFabricLaw" 20 ⟨"ZonedFabricModel", "<init>", "(III)V"⟩ ∈ xTs := xTs_in (tk5 (List.mem_of_getElem? (i := 197) (by decide +kernel))) rfl
theorem mw1254 : Cond.instanceMethod ⟨"ZonedFabricModel", "<init>", "(III)V"⟩ ∈ xTs := xTs_in (tk5 (List.mem_of_getElem? (i := 198) (by decide +kernel))) rfl
theorem mw1255 : Cond.methodLink "ZonedFabricLaw" 21 ⟨"ZonedFabric", "disc", "(I)Z"⟩ ∈ xTs := xTs_in (tk2 (List.mem_of_getElem? (i := 79) (by decide +kernel))) rfl
theorem mw1256 : Cond.instanceMethod ⟨"ZonedFabric", "disc", "(I)Z"⟩ ∈ xTs := xTs_in (tk2 (List.mem_of_getElem? (i := 80) (by decide +kernel))) rfl
theorem mw1257 : Cond.selects "ZonedFabric" ⟨"ZonedFabric", "disc", "(I)Z"⟩ ⟨"ZonedFabric", "disc", "(I)Z"⟩ ∈ xTs := xTs_in (tk2 (List.mem_of_getElem? (i := 81) (by decide +kernel))) rfl
theorem mw1258 : Cond.methodLink "ZonedFabricLaw" 25 ⟨"ZonedFabricModel", "disc", "(I)Z"⟩ ∈ xTs := xTs_in (tk6 (List.mem_of_getElem? (i := 147) (by decide +kernel))) rfl
theorem mw1259 : Cond.instanceMethod ⟨"ZonedFabricModel", "disc", "(I)Z"⟩ ∈ xTs := xTs_in (tk6 (List.mem_of_getElem? (i := 148) (by decide +kernel))) rfl
theorem mw1260 : Cond.selects "ZonedFabricModel" ⟨"ZonedFabricModel", "disc", "(I)Z"⟩ ⟨"ZonedFabricModel", "disc", "(I)Z"⟩ ∈ xTs := xTs_in (tk6 (List.mem_of_getElem? (i := 149) (by decide +kernel))) rfl
theorem mw1261 : Cond.methodLink "ZonedFabricLaw" 26 ⟨"ZonedFabric", "wire", "(IIIII)I"⟩ ∈ xTs := xTs_in (tk2 (List.mem_of_getElem? (i := 158) (by decide +kernel))) rfl
theorem mw1262 : Cond.instanceMethod ⟨"ZonedFabric", "wire", "(IIIII)I"⟩ ∈ xTs := xTs_in (tk2 (List.mem_of_getElem? (i := 159) (by decide +kernel))) rfl
theorem mw1263 : Cond.selects "ZonedFabric" ⟨"ZonedFabric", "wire", "(IIIII)I"⟩ ⟨"ZonedFabric", "wire", "(IIIII)I"⟩ ∈ xTs := xTs_in (tk2 (List.mem_of_getElem? (i := 160) (by decide +kernel))) rfl
theorem mw1264 : Cond.methodLink "ZonedFabricLaw" 30 ⟨"ZonedFabricModel", "wire", "(IIIII)I"⟩ ∈ xTs := xTs_in (tk6 (List.mem_of_getElem? (i := 155) (by decide +kernel))) rfl
theorem mw1265 : Cond.instanceMethod ⟨"ZonedFabricModel", "wire", "(IIIII)I"⟩ ∈ xTs := xTs_in (tk6 (List.mem_of_getElem? (i := 156) (by decide +kernel))) rfl
theorem mw1266 : Cond.selects "ZonedFabricModel" ⟨"ZonedFabricModel", "wire", "(IIIII)I"⟩ ⟨"ZonedFabricModel", "wire", "(IIIII)I"⟩ ∈ xTs := xTs_in (tk6 (List.mem_of_getElem? (i := 157) (by decide +kernel))) rfl
theorem mw1267 : Cond.methodLink "ZonedFabricLaw" 31 ⟨"ZonedFabric", "cut", "(I)Z"⟩ ∈ xTs := xTs_in (tk2 (List.mem_of_getElem? (i := 174) (by decide +kernel))) rfl
theorem mw1268 : Cond.instanceMethod ⟨"ZonedFabric", "cut", "(I)Z"⟩ ∈ xTs := xTs_in (tk2 (List.mem_of_getElem? (i := 175) (by decide +kernel))) rfl
theorem mw1269 : Cond.selects "ZonedFabric" ⟨"ZonedFabric", "cut", "(I)Z"⟩ ⟨"ZonedFabric", "cut", "(I)Z"⟩ ∈ xTs := xTs_in (tk2 (List.mem_of_getElem? (i := 176) (by decide +kernel))) rfl
theorem mw1270 : Cond.methodLink "ZonedFabricLaw" 34 ⟨"ZonedFabricModel", "cut", "(I)Z"⟩ ∈ xTs := xTs_in (tk6 (List.mem_of_getElem? (i := 175) (by decide +kernel))) rfl
theorem mw1271 : Cond.instanceMethod ⟨"ZonedFabricModel", "cut", "(I)Z"⟩ ∈ xTs := xTs_in (tk6 (List.mem_of_getElem? (i := 176) (by decide +kernel))) rfl
theorem mw1272 : Cond.selects "ZonedFabricModel" ⟨"ZonedFabricModel", "cut", "(I)Z"⟩ ⟨"ZonedFabricModel", "cut", "(I)Z"⟩ ∈ xTs := xTs_in (tk6 (List.mem_of_getElem? (i := 177) (by decide +kernel))) rfl
theorem mw1273 : Cond.methodLink "ZonedFabricLaw" 35 ⟨"ZonedFabric", "join", "(I)Z"⟩ ∈ xTs := xTs_in (tk2 (List.mem_of_getElem? (i := 210) (by decide +kernel))) rfl
theorem mw1274 : Cond.instanceMethod ⟨"ZonedFabric", "join", "(I)Z"⟩ ∈ xTs := xTs_in (tk2 (List.mem_of_getElem? (i := 211) (by decide +kernel))) rfl
theorem mw1275 : Cond.selects "ZonedFabric" ⟨"ZonedFabric", "join", "(I)Z"⟩ ⟨"ZonedFabric", "join", "(I)Z"⟩ ∈ xTs := xTs_in (tk2 (List.mem_of_getElem? (i := 212) (by decide +kernel))) rfl
theorem mw1276 : Cond.methodLink "ZonedFabricLaw" 38 ⟨"ZonedFabricModel", "join", "(I)Z"⟩ ∈ xTs := xTs_in (tk6 (List.mem_of_getElem? (i := 183) (by decide +kernel))) rfl
theorem mw1277 : Cond.instanceMethod ⟨"ZonedFabricModel", "join", "(I)Z"⟩ ∈ xTs := xTs_in (tk6 (List.mem_of_getElem? (i := 184) (by decide +kernel))) rfl
theorem mw1278 : Cond.selects "ZonedFabricModel" ⟨"ZonedFabricModel", "join", "(I)Z"⟩ ⟨"ZonedFabricModel", "join", "(I)Z"⟩ ∈ xTs := xTs_in (tk6 (List.mem_of_getElem? (i := 185) (by decide +kernel))) rfl
theorem mw1279 : Cond.methodLink "ZonedFabricLaw" 49 ⟨"ZonedFabric", "domain", "(II)Z"⟩ ∈ xTs := xTs_in (tk2 (List.mem_of_getElem? (i := 222) (by decide +kernel))) rfl
theorem mw1280 : Cond.instanceMethod ⟨"ZonedFabric", "domain", "(II)Z"⟩ ∈ xTs := xTs_in (tk2 (List.mem_of_getElem? (i := 223) (by decide +kernel))) rfl
theorem mw1281 : Cond.selects "ZonedFabric" ⟨"ZonedFabric", "domain", "(II)Z"⟩ ⟨"ZonedFabric", "domain", "(II)Z"⟩ ∈ xTs := xTs_in (tk2 (List.mem_of_getElem? (i := 224) (by decide +kernel))) rfl
theorem mw1282 : Cond.methodLink "ZonedFabricLaw" 53 ⟨"ZonedFabricModel", "domain", "(II)Z"⟩ ∈ xTs := xTs_in (tk6 (List.mem_of_getElem? (i := 195) (by decide +kernel))) rfl
theorem mw1283 : Cond.instanceMethod ⟨"ZonedFabricModel", "domain", "(II)Z"⟩ ∈ xTs := xTs_in (tk6 (List.mem_of_getElem? (i := 196) (by decide +kernel))) rfl
theorem mw1284 : Cond.selects "ZonedFabricModel" ⟨"ZonedFabricModel", "domain", "(II)Z"⟩ ⟨"ZonedFabricModel", "domain", "(II)Z"⟩ ∈ xTs := xTs_in (tk6 (List.mem_of_getElem? (i := 197) (by decide +kernel))) rfl
theorem mw1285 : Cond.methodLink "ZonedFabricLaw" 54 ⟨"ZonedFabric", "flip", "(III)Z"⟩ ∈ xTs := xTs_in (tk2 (List.mem_of_getElem? (i := 226) (by decide +kernel))) rfl
theorem mw1286 : Cond.instanceMethod ⟨"ZonedFabric", "flip", "(III)Z"⟩ ∈ xTs := xTs_in (tk2 (List.mem_of_getElem? (i := 227) (by decide +kernel))) rfl
theorem mw1287 : Cond.selects "ZonedFabric" ⟨"ZonedFabric", "flip", "(III)Z"⟩ ⟨"ZonedFabric", "flip", "(III)Z"⟩ ∈ xTs := xTs_in (tk2 (List.mem_of_getElem? (i := 228) (by decide +kernel))) rfl
theorem mw1288 : Cond.methodLink "ZonedFabricLaw" 58 ⟨"ZonedFabricModel", "flip", "(III)Z"⟩ ∈ xTs := xTs_in (tk6 (List.mem_of_getElem? (i := 199) (by decide +kernel))) rfl
theorem mw1289 : Cond.instanceMethod ⟨"ZonedFabricModel", "flip", "(III)Z"⟩ ∈ xTs := xTs_in (tk6 (List.mem_of_getElem? (i := 200) (by decide +kernel))) rfl
theorem mw1290 : Cond.selects "ZonedFabricModel" ⟨"ZonedFabricModel", "flip", "(III)Z"⟩ ⟨"ZonedFabricModel", "flip", "(III)Z"⟩ ∈ xTs := xTs_in (tk6 (List.mem_of_getElem? (i := 201) (by decide +kernel))) rfl
theorem mw1291 : Cond.methodLink "ZonedFabricLaw" 59 ⟨"ZonedFabric", "tick", "(I)I"⟩ ∈ xTs := xTs_in (tk2 (List.mem_of_getElem? (i := 238) (by decide +kernel))) rfl
theorem mw1292 : Cond.instanceMethod ⟨"ZonedFabric", "tick", "(I)I"⟩ ∈ xTs := xTs_in (tk2 (List.mem_of_getElem? (i := 239) (by decide +kernel))) rfl
theorem mw1293 : Cond.selects "ZonedFabric" ⟨"ZonedFabric", "tick", "(I)I"⟩ ⟨"ZonedFabric", "tick", "(I)I"⟩ ∈ xTs := xTs_in (tk3 (List.mem_of_getElem? (i := 0) (by decide +kernel))) rfl
theorem mw1294 : Cond.methodLink "ZonedFabricLaw" 63 ⟨"ZonedFabricModel", "tick", "(I)I"⟩ ∈ xTs := xTs_in (tk6 (List.mem_of_getElem? (i := 207) (by decide +kernel))) rfl
theorem mw1295 : Cond.instanceMethod ⟨"ZonedFabricModel", "tick", "(I)I"⟩ ∈ xTs := xTs_in (tk6 (List.mem_of_getElem? (i := 208) (by decide +kernel))) rfl
theorem mw1296 : Cond.selects "ZonedFabricModel" ⟨"ZonedFabricModel", "tick", "(I)I"⟩ ⟨"ZonedFabricModel", "tick", "(I)I"⟩ ∈ xTs := xTs_in (tk6 (List.mem_of_getElem? (i := 209) (by decide +kernel))) rfl
theorem mw1297 : Cond.methodLink "ZonedFabricLaw" 64 ⟨"ZonedFabric", "read", "(IIIII)I"⟩ ∈ xTs := xTs_in (tk5 (List.mem_of_getElem? (i := 36) (by decide +kernel))) rfl
theorem mw1298 : Cond.instanceMethod ⟨"ZonedFabric", "read", "(IIIII)I"⟩ ∈ xTs := xTs_in (tk5 (List.mem_of_getElem? (i := 37) (by decide +kernel))) rfl
theorem mw1299 : Cond.selects "ZonedFabric" ⟨"ZonedFabric", "read", "(IIIII)I"⟩ ⟨"ZonedFabric", "read", "(IIIII)I"⟩ ∈ xTs := xTs_in (tk5 (List.mem_of_getElem? (i := 38) (by decide +kernel))) rfl
theorem mw1300 : Cond.methodLink "ZonedFabricLaw" 67 ⟨"ZonedFabricModel", "read", "(IIIII)I"⟩ ∈ xTs := xTs_in (tk7 (List.mem_of_getElem? (i := 226) (by decide +kernel))) rfl
theorem mw1301 : Cond.instanceMethod ⟨"ZonedFabricModel", "read", "(IIIII)I"⟩ ∈ xTs := xTs_in (tk7 (List.mem_of_getElem? (i := 227) (by decide +kernel))) rfl
theorem mw1302 : Cond.selects "ZonedFabricModel" ⟨"ZonedFabricModel", "read", "(IIIII)I"⟩ ⟨"ZonedFabricModel", "read", "(IIIII)I"⟩ ∈ xTs := xTs_in (tk7 (List.mem_of_getElem? (i := 228) (by decide +kernel))) rfl
theorem mw1303 : Cond.methodLink "ZonedFabricLaw" 70 ⟨"ZonedFabric", "write", "(IIIIIJ)I"⟩ ∈ xTs := xTs_in (tk5 (List.mem_of_getElem? (i := 124) (by decide +kernel))) rfl
theorem mw1304 : Cond.instanceMethod ⟨"ZonedFabric", "write", "(IIIIIJ)I"⟩ ∈ xTs := xTs_in (tk5 (List.mem_of_getElem? (i := 125) (by decide +kernel))) rfl
theorem mw1305 : Cond.selects "ZonedFabric" ⟨"ZonedFabric", "write", "(IIIIIJ)I"⟩ ⟨"ZonedFabric", "write", "(IIIIIJ)I"⟩ ∈ xTs := xTs_in (tk5 (List.mem_of_getElem? (i := 126) (by decide +kernel))) rfl
theorem mw1306 : Cond.methodLink "ZonedFabricLaw" 74 ⟨"ZonedFabricModel", "write", "(IIIIIJ)I"⟩ ∈ xTs := xTs_in (tk7 (List.mem_of_getElem? (i := 234) (by decide +kernel))) rfl
theorem mw1307 : Cond.instanceMethod ⟨"ZonedFabricModel", "write", "(IIIIIJ)I"⟩ ∈ xTs := xTs_in (tk7 (List.mem_of_getElem? (i := 235) (by decide +kernel))) rfl
theorem mw1308 : Cond.selects "ZonedFabricModel" ⟨"ZonedFabricModel", "write", "(IIIIIJ)I"⟩ ⟨"ZonedFabricModel", "write", "(IIIIIJ)I"⟩ ∈ xTs := xTs_in (tk7 (List.mem_of_getElem? (i := 236) (by decide +kernel))) rfl
theorem mw1309 : Cond.constantLong "ZonedFabricLaw" 68 (4294967295) ∈ xTs := xTs_in (tk8 (List.mem_of_getElem? (i := 47) (by decide +kernel))) rfl
theorem mw1310 : Cond.methodLink "ZonedFabricLaw" 75 ⟨"ZonedFabric", "status", "(I)I"⟩ ∈ xTs := xTs_in (tk5 (List.mem_of_getElem? (i := 128) (by decide +kernel))) rfl
theorem mw1311 : Cond.instanceMethod ⟨"ZonedFabric", "status", "(I)I"⟩ ∈ xTs := xTs_in (tk5 (List.mem_of_getElem? (i := 129) (by decide +kernel))) rfl
theorem mw1312 : Cond.selects "ZonedFabric" ⟨"ZonedFabric", "status", "(I)I"⟩ ⟨"ZonedFabric", "status", "(I)I"⟩ ∈ xTs := xTs_in (tk5 (List.mem_of_getElem? (i := 130) (by decide +kernel))) rfl
theorem mw1313 : Cond.methodLink "ZonedFabricLaw" 78 ⟨"ZonedFabricModel", "status", "(I)I"⟩ ∈ xTs := xTs_in (tk7 (List.mem_of_getElem? (i := 238) (by decide +kernel))) rfl
theorem mw1314 : Cond.instanceMethod ⟨"ZonedFabricModel", "status", "(I)I"⟩ ∈ xTs := xTs_in (tk7 (List.mem_of_getElem? (i := 239) (by decide +kernel))) rfl
theorem mw1315 : Cond.selects "ZonedFabricModel" ⟨"ZonedFabricModel", "status", "(I)I"⟩ ⟨"ZonedFabricModel", "status", "(I)I"⟩ ∈ xTs := xTs_in (tk8 (List.mem_of_getElem? (i := 0) (by decide +kernel))) rfl
theorem mw1316 : Cond.methodLink "ZonedFabricLaw" 79 ⟨"ZonedFabric", "got", "(II)J"⟩ ∈ xTs := xTs_in (tk5 (List.mem_of_getElem? (i := 136) (by decide +kernel))) rfl
theorem mw1317 : Cond.instanceMethod ⟨"ZonedFabric", "got", "(II)J"⟩ ∈ xTs := xTs_in (tk5 (List.mem_of_getElem? (i := 137) (by decide +kernel))) rfl
theorem mw1318 : Cond.selects "ZonedFabric" ⟨"ZonedFabric", "got", "(II)J"⟩ ⟨"ZonedFabric", "got", "(II)J"⟩ ∈ xTs := xTs_in (tk5 (List.mem_of_getElem? (i := 138) (by decide +kernel))) rfl
theorem mw1319 : Cond.methodLink "ZonedFabricLaw" 83 ⟨"ZonedFabricModel", "got", "(II)J"⟩ ∈ xTs := xTs_in (tk8 (List.mem_of_getElem? (i := 6) (by decide +kernel))) rfl
theorem mw1320 : Cond.instanceMethod ⟨"ZonedFabricModel", "got", "(II)J"⟩ ∈ xTs := xTs_in (tk8 (List.mem_of_getElem? (i := 7) (by decide +kernel))) rfl
theorem mw1321 : Cond.selects "ZonedFabricModel" ⟨"ZonedFabricModel", "got", "(II)J"⟩ ⟨"ZonedFabricModel", "got", "(II)J"⟩ ∈ xTs := xTs_in (tk8 (List.mem_of_getElem? (i := 8) (by decide +kernel))) rfl
theorem mw1322 : Cond.methodLink "ZonedFabricLaw" 84 ⟨"ZonedFabric", "when", "(II)I"⟩ ∈ xTs := xTs_in (tk5 (List.mem_of_getElem? (i := 140) (by decide +kernel))) rfl
theorem mw1323 : Cond.instanceMethod ⟨"ZonedFabric", "when", "(II)I"⟩ ∈ xTs := xTs_in (tk5 (List.mem_of_getElem? (i := 141) (by decide +kernel))) rfl
theorem mw1324 : Cond.selects "ZonedFabric" ⟨"ZonedFabric", "when", "(II)I"⟩ ⟨"ZonedFabric", "when", "(II)I"⟩ ∈ xTs := xTs_in (tk5 (List.mem_of_getElem? (i := 142) (by decide +kernel))) rfl
theorem mw1325 : Cond.methodLink "ZonedFabricLaw" 88 ⟨"ZonedFabricModel", "when", "(II)I"⟩ ∈ xTs := xTs_in (tk8 (List.mem_of_getElem? (i := 10) (by decide +kernel))) rfl
theorem mw1326 : Cond.instanceMethod ⟨"ZonedFabricModel", "when", "(II)I"⟩ ∈ xTs := xTs_in (tk8 (List.mem_of_getElem? (i := 11) (by decide +kernel))) rfl
theorem mw1327 : Cond.selects "ZonedFabricModel" ⟨"ZonedFabricModel", "when", "(II)I"⟩ ⟨"ZonedFabricModel", "when", "(II)I"⟩ ∈ xTs := xTs_in (tk8 (List.mem_of_getElem? (i := 12) (by decide +kernel))) rfl
theorem mw1328 : Cond.methodLink "ZonedFabricLaw" 89 ⟨"ZonedFabric", "block", "(III)J"⟩ ∈ xTs := xTs_in (tk5 (List.mem_of_getElem? (i := 144) (by decide +kernel))) rfl
theorem mw1329 : Cond.instanceMethod ⟨"ZonedFabric", "block", "(III)J"⟩ ∈ xTs := xTs_in (tk5 (List.mem_of_getElem? (i := 145) (by decide +kernel))) rfl
theorem mw1330 : Cond.selects "ZonedFabric" ⟨"ZonedFabric", "block", "(III)J"⟩ ⟨"ZonedFabric", "block", "(III)J"⟩ ∈ xTs := xTs_in (tk5 (List.mem_of_getElem? (i := 146) (by decide +kernel))) rfl
theorem mw1331 : Cond.methodLink "ZonedFabricLaw" 93 ⟨"ZonedFabricModel", "block", "(III)J"⟩ ∈ xTs := xTs_in (tk8 (List.mem_of_getElem? (i := 14) (by decide +kernel))) rfl
theorem mw1332 : Cond.instanceMethod ⟨"ZonedFabricModel", "block", "(III)J"⟩ ∈ xTs := xTs_in (tk8 (List.mem_of_getElem? (i := 15) (by decide +kernel))) rfl
theorem mw1333 : Cond.selects "ZonedFabricModel" ⟨"ZonedFabricModel", "block", "(III)J"⟩ ⟨"ZonedFabricModel", "block", "(III)J"⟩ ∈ xTs := xTs_in (tk8 (List.mem_of_getElem? (i := 16) (by decide +kernel))) rfl
theorem mw1334 : Cond.methodLink "ZonedFabricLaw" 94 ⟨"ZonedFabric", "way", "(II)I"⟩ ∈ xTs := xTs_in (tk5 (List.mem_of_getElem? (i := 149) (by decide +kernel))) rfl
theorem mw1335 : Cond.instanceMethod ⟨"ZonedFabric", "way", "(II)I"⟩ ∈ xTs := xTs_in (tk5 (List.mem_of_getElem? (i := 150) (by decide +kernel))) rfl
theorem mw1336 : Cond.selects "ZonedFabric" ⟨"ZonedFabric", "way", "(II)I"⟩ ⟨"ZonedFabric", "way", "(II)I"⟩ ∈ xTs := xTs_in (tk5 (List.mem_of_getElem? (i := 151) (by decide +kernel))) rfl
theorem mw1337 : Cond.methodLink "ZonedFabricLaw" 97 ⟨"ZonedFabricModel", "way", "(II)I"⟩ ∈ xTs := xTs_in (tk8 (List.mem_of_getElem? (i := 19) (by decide +kernel))) rfl
theorem mw1338 : Cond.instanceMethod ⟨"ZonedFabricModel", "way", "(II)I"⟩ ∈ xTs := xTs_in (tk8 (List.mem_of_getElem? (i := 20) (by decide +kernel))) rfl
theorem mw1339 : Cond.selects "ZonedFabricModel" ⟨"ZonedFabricModel", "way", "(II)I"⟩ ⟨"ZonedFabricModel", "way", "(II)I"⟩ ∈ xTs := xTs_in (tk8 (List.mem_of_getElem? (i := 21) (by decide +kernel))) rfl
theorem mw1340 : Cond.methodLink "ZonedFabricLaw" 98 ⟨"ZonedFabric", "record", "(III)I"⟩ ∈ xTs := xTs_in (tk5 (List.mem_of_getElem? (i := 154) (by decide +kernel))) rfl
theorem mw1341 : Cond.instanceMethod ⟨"ZonedFabric", "record", "(III)I"⟩ ∈ xTs := xTs_in (tk5 (List.mem_of_getElem? (i := 155) (by decide +kernel))) rfl
theorem mw1342 : Cond.selects "ZonedFabric" ⟨"ZonedFabric", "record", "(III)I"⟩ ⟨"ZonedFabric", "record", "(III)I"⟩ ∈ xTs := xTs_in (tk5 (List.mem_of_getElem? (i := 156) (by decide +kernel))) rfl
theorem mw1343 : Cond.methodLink "ZonedFabricLaw" 102 ⟨"ZonedFabricModel", "record", "(III)I"⟩ ∈ xTs := xTs_in (tk8 (List.mem_of_getElem? (i := 23) (by decide +kernel))) rfl
theorem mw1344 : Cond.instanceMethod ⟨"ZonedFabricModel", "record", "(III)I"⟩ ∈ xTs := xTs_in (tk8 (List.mem_of_getElem? (i := 24) (by decide +kernel))) rfl
theorem mw1345 : Cond.selects "ZonedFabricModel" ⟨"ZonedFabricModel", "record", "(III)I"⟩ ⟨"ZonedFabricModel", "record", "(III)I"⟩ ∈ xTs := xTs_in (tk8 (List.mem_of_getElem? (i := 25) (by decide +kernel))) rfl
theorem mw1346 : Cond.methodLink "ZonedFabricLaw" 103 ⟨"ZonedFabric", "port", "(III)I"⟩ ∈ xTs := xTs_in (tk5 (List.mem_of_getElem? (i := 166) (by decide +kernel))) rfl
theorem mw1347 : Cond.instanceMethod ⟨"ZonedFabric", "port", "(III)I"⟩ ∈ xTs := xTs_in (tk5 (List.mem_of_getElem? (i := 167) (by decide +kernel))) rfl
theorem mw1348 : Cond.selects "ZonedFabric" ⟨"ZonedFabric", "port", "(III)I"⟩ ⟨"ZonedFabric", "port", "(III)I"⟩ ∈ xTs := xTs_in (tk5 (List.mem_of_getElem? (i := 168) (by decide +kernel))) rfl
theorem mw1349 : Cond.methodLink "ZonedFabricLaw" 106 ⟨"ZonedFabricModel", "port", "(III)I"⟩ ∈ xTs := xTs_in (tk8 (List.mem_of_getElem? (i := 27) (by decide +kernel))) rfl
theorem mw1350 : Cond.instanceMethod ⟨"ZonedFabricModel", "port", "(III)I"⟩ ∈ xTs := xTs_in (tk8 (List.mem_of_getElem? (i := 28) (by decide +kernel))) rfl
theorem mw1351 : Cond.selects "ZonedFabricModel" ⟨"ZonedFabricModel", "port", "(III)I"⟩ ⟨"ZonedFabricModel", "port", "(III)I"⟩ ∈ xTs := xTs_in (tk8 (List.mem_of_getElem? (i := 29) (by decide +kernel))) rfl
theorem mw1352 : Cond.methodLink "ZonedFabricLaw" 107 ⟨"ZonedFabric", "address", "(I)I"⟩ ∈ xTs := xTs_in (tk5 (List.mem_of_getElem? (i := 175) (by decide +kernel))) rfl
theorem mw1353 : Cond.instanceMethod ⟨"ZonedFabric", "address", "(I)I"⟩ ∈ xTs := xTs_in (tk5 (List.mem_of_getElem? (i := 176) (by decide +kernel))) rfl
theorem mw1354 : Cond.selects "ZonedFabric" ⟨"ZonedFabric", "address", "(I)I"⟩ ⟨"ZonedFabric", "address", "(I)I"⟩ ∈ xTs := xTs_in (tk5 (List.mem_of_getElem? (i := 177) (by decide +kernel))) rfl
theorem mw1355 : Cond.methodLink "ZonedFabricLaw" 110 ⟨"ZonedFabricModel", "address", "(I)I"⟩ ∈ xTs := xTs_in (tk8 (List.mem_of_getElem? (i := 31) (by decide +kernel))) rfl
theorem mw1356 : Cond.instanceMethod ⟨"ZonedFabricModel", "address", "(I)I"⟩ ∈ xTs := xTs_in (tk8 (List.mem_of_getElem? (i := 32) (by decide +kernel))) rfl
theorem mw1357 : Cond.selects "ZonedFabricModel" ⟨"ZonedFabricModel", "address", "(I)I"⟩ ⟨"ZonedFabricModel", "address", "(I)I"⟩ ∈ xTs := xTs_in (tk8 (List.mem_of_getElem? (i := 33) (by decide +kernel))) rfl
theorem mw1358 : Cond.methodLink "ZonedFabricLaw" 111 ⟨"ZonedFabric", "frame", "(III)J"⟩ ∈ xTs := xTs_in (tk5 (List.mem_of_getElem? (i := 179) (by decide +kernel))) rfl
theorem mw1359 : Cond.instanceMethod ⟨"ZonedFabric", "frame", "(III)J"⟩ ∈ xTs := xTs_in (tk5 (List.mem_of_getElem? (i := 180) (by decide +kernel))) rfl
theorem mw1360 : Cond.selects "ZonedFabric" ⟨"ZonedFabric", "frame", "(III)J"⟩ ⟨"ZonedFabric", "frame", "(III)J"⟩ ∈ xTs := xTs_in (tk5 (List.mem_of_getElem? (i := 181) (by decide +kernel))) rfl
theorem mw1361 : Cond.methodLink "ZonedFabricLaw" 114 ⟨"ZonedFabricModel", "frame", "(III)J"⟩ ∈ xTs := xTs_in (tk8 (List.mem_of_getElem? (i := 35) (by decide +kernel))) rfl
theorem mw1362 : Cond.instanceMethod ⟨"ZonedFabricModel", "frame", "(III)J"⟩ ∈ xTs := xTs_in (tk8 (List.mem_of_getElem? (i := 36) (by decide +kernel))) rfl
theorem mw1363 : Cond.selects "ZonedFabricModel" ⟨"ZonedFabricModel", "frame", "(III)J"⟩ ⟨"ZonedFabricModel", "frame", "(III)J"⟩ ∈ xTs := xTs_in (tk8 (List.mem_of_getElem? (i := 37) (by decide +kernel))) rfl
theorem mw1364 : Cond.methodLink "ZonedFabricLaw" 115 ⟨"ZonedFabric", "count", "(I)I"⟩ ∈ xTs := xTs_in (tk5 (List.mem_of_getElem? (i := 184) (by decide +kernel))) rfl
theorem mw1365 : Cond.instanceMethod ⟨"ZonedFabric", "count", "(I)I"⟩ ∈ xTs := xTs_in (tk5 (List.mem_of_getElem? (i := 185) (by decide +kernel))) rfl
theorem mw1366 : Cond.selects "ZonedFabric" ⟨"ZonedFabric", "count", "(I)I"⟩ ⟨"ZonedFabric", "count", "(I)I"⟩ ∈ xTs := xTs_in (tk5 (List.mem_of_getElem? (i := 186) (by decide +kernel))) rfl
theorem mw1367 : Cond.methodLink "ZonedFabricLaw" 118 ⟨"ZonedFabricModel", "count", "(I)I"⟩ ∈ xTs := xTs_in (tk8 (List.mem_of_getElem? (i := 39) (by decide +kernel))) rfl
theorem mw1368 : Cond.instanceMethod ⟨"ZonedFabricModel", "count", "(I)I"⟩ ∈ xTs := xTs_in (tk8 (List.mem_of_getElem? (i := 40) (by decide +kernel))) rfl
theorem mw1369 : Cond.selects "ZonedFabricModel" ⟨"ZonedFabricModel", "count", "(I)I"⟩ ⟨"ZonedFabricModel", "count", "(I)I"⟩ ∈ xTs := xTs_in (tk8 (List.mem_of_getElem? (i := 41) (by decide +kernel))) rfl
theorem mw1370 : Cond.methodLink "ZonedFabricLaw" 119 ⟨"ZonedFabric", "broken", "(I)I"⟩ ∈ xTs := xTs_in (tk5 (List.mem_of_getElem? (i := 188) (by decide +kernel))) rfl
theorem mw1371 : Cond.instanceMethod ⟨"ZonedFabric", "broken", "(I)I"⟩ ∈ xTs := xTs_in (tk5 (List.mem_of_getElem? (i := 189) (by decide +kernel))) rfl
theorem mw1372 : Cond.selects "ZonedFabric" ⟨"ZonedFabric", "broken", "(I)I"⟩ ⟨"ZonedFabric", "broken", "(I)I"⟩ ∈ xTs := xTs_in (tk5 (List.mem_of_getElem? (i := 190) (by decide +kernel))) rfl
theorem mw1373 : Cond.methodLink "ZonedFabricLaw" 122 ⟨"ZonedFabricModel", "broken", "(I)I"⟩ ∈ xTs := xTs_in (tk8 (List.mem_of_getElem? (i := 43) (by decide +kernel))) rfl
theorem mw1374 : Cond.instanceMethod ⟨"ZonedFabricModel", "broken", "(I)I"⟩ ∈ xTs := xTs_in (tk8 (List.mem_of_getElem? (i := 44) (by decide +kernel))) rfl
theorem mw1375 : Cond.selects "ZonedFabricModel" ⟨"ZonedFabricModel", "broken", "(I)I"⟩ ⟨"ZonedFabricModel", "broken", "(I)I"⟩ ∈ xTs := xTs_in (tk8 (List.mem_of_getElem? (i := 45) (by decide +kernel))) rfl
theorem mw1376 : Cond.methodLink "ZonedFabricLaw" 39 ⟨"ZonedFabric", "zone", "(IIZ)Z"⟩ ∈ xTs := xTs_in (tk2 (List.mem_of_getElem? (i := 214) (by decide +kernel))) rfl
theorem mw1377 : Cond.instanceMethod ⟨"ZonedFabric", "zone", "(IIZ)Z"⟩ ∈ xTs := xTs_in (tk2 (List.mem_of_getElem? (i := 215) (by decide +kernel))) rfl
theorem mw1378 : Cond.selects "ZonedFabric" ⟨"ZonedFabric", "zone", "(IIZ)Z"⟩ ⟨"ZonedFabric", "zone", "(IIZ)Z"⟩ ∈ xTs := xTs_in (tk2 (List.mem_of_getElem? (i := 216) (by decide +kernel))) rfl
theorem mw1379 : Cond.methodLink "ZonedFabricLaw" 43 ⟨"ZonedFabricModel", "zone", "(IIZ)Z"⟩ ∈ xTs := xTs_in (tk6 (List.mem_of_getElem? (i := 187) (by decide +kernel))) rfl
theorem mw1380 : Cond.instanceMethod ⟨"ZonedFabricModel", "zone", "(IIZ)Z"⟩ ∈ xTs := xTs_in (tk6 (List.mem_of_getElem? (i := 188) (by decide +kernel))) rfl
theorem mw1381 : Cond.selects "ZonedFabricModel" ⟨"ZonedFabricModel", "zone", "(IIZ)Z"⟩ ⟨"ZonedFabricModel", "zone", "(IIZ)Z"⟩ ∈ xTs := xTs_in (tk6 (List.mem_of_getElem? (i := 189) (by decide +kernel))) rfl
theorem mw1382 : Cond.methodLink "ZonedFabricLaw" 44 ⟨"ZonedFabric", "zoning", "(Z)V"⟩ ∈ xTs := xTs_in (tk2 (List.mem_of_getElem? (i := 218) (by decide +kernel))) rfl
theorem mw1383 : Cond.instanceMethod ⟨"ZonedFabric", "zoning", "(Z)V"⟩ ∈ xTs := xTs_in (tk2 (List.mem_of_getElem? (i := 219) (by decide +kernel))) rfl
theorem mw1384 : Cond.selects "ZonedFabric" ⟨"ZonedFabric", "zoning", "(Z)V"⟩ ⟨"ZonedFabric", "zoning", "(Z)V"⟩ ∈ xTs := xTs_in (tk2 (List.mem_of_getElem? (i := 220) (by decide +kernel))) rfl
theorem mw1385 : Cond.methodLink "ZonedFabricLaw" 48 ⟨"ZonedFabricModel", "zoning", "(Z)V"⟩ ∈ xTs := xTs_in (tk6 (List.mem_of_getElem? (i := 191) (by decide +kernel))) rfl
theorem mw1386 : Cond.instanceMethod ⟨"ZonedFabricModel", "zoning", "(Z)V"⟩ ∈ xTs := xTs_in (tk6 (List.mem_of_getElem? (i := 192) (by decide +kernel))) rfl
theorem mw1387 : Cond.selects "ZonedFabricModel" ⟨"ZonedFabricModel", "zoning", "(Z)V"⟩ ⟨"ZonedFabricModel", "zoning", "(Z)V"⟩ ∈ xTs := xTs_in (tk6 (List.mem_of_getElem? (i := 193) (by decide +kernel))) rfl
/-! ===== the script ===== -/
def sc_a (xs : Nat → Int32) (N : Nat) (i : Int32) : Option Int32 := if ¬ i < 0 ∧ i.toNatClampNeg < N then some (xs i.toNatClampNeg) else none
def sc_c (xs : Nat → Int32) (N : Nat) (k : Int32) : Option Int32 := if Int32.ofNat N ≤ k then some 0 else sc_a xs N k
def yCell : MethodName := ⟨"ZonedFabricLaw", "cell", "([II)I"⟩
section XL
variable {p : Program} {l : Launch} {e : Env} {R : Room} {s : State} {m : MethodId} {args : Array Value} {below : List Frame} {meth : Method} {c : Code} {Q : State → Prop} {G : gX} {cc : ByteArray} {own : String} {z0 y0 zf yf nL : Nat} {pc : Nat} {lv lv' : aL} {st st' : List aV} {M M' M1 : hM}
variable {sb N : Nat} {xs : Nat → Int32}
theorem xv_slen (E : xE G p R s m args c cc own z0 y0 zf yf nL) (hX : va_X sb N xs s G.2.1) (hbl : sb < G.2.1.size) (hdg : decode cc pc = .ok (.arraylength, 1)) (k : xV G p l e R s m args below meth c z0 y0 zf yf nL Q (pc + 1) lv (.inl (Int32.ofNat N) :: st) M) : xV G p l e R s m args below meth c z0 y0 zf yf nL Q pc lv (.inr (.inr (some sb)) :: st) M := by
  refine ⟨k.1, fun H locs ls h1 h2 h3 h4 h5 => ?_⟩
  obtain ⟨scr, q1, q2, q3, q4, q5⟩ := hX
  exact W.alen (n := Int32.ofNat N) E.1 E.2.1 (by rw [h3.2.2.1 sb hbl]; exact q1) q2 (by rw [q4] <;> rfl) rfl rfl hdg (k.2 H locs ls h1 h2 h3 h4 h5)
theorem xv_sld (E : xE G p R s m args c cc own z0 y0 zf yf nL) (hX : va_X sb N xs s G.2.1) (hbl : sb < G.2.1.size) {i v : Int32} (hg : sc_a xs N i = some v) (hdg : decode cc pc = .ok (.iaload, 1)) (k : xV G p l e R s m args below meth c z0 y0 zf yf nL Q (pc + 1) lv (.inl v :: st) M) : xV G p l e R s m args below meth c z0 y0 zf yf nL Q pc lv (.inl i :: .inr (.inr (some sb)) :: st) M := by
  refine ⟨k.1, fun H locs ls h1 h2 h3 h4 h5 => ?_⟩
  obtain ⟨scr, q1, q2, q3, q4, q5⟩ := hX
  unfold sc_a at hg
  split at hg
  · rename_i q
    cases hg
    exact W.iald (v := .int (xs i.toNatClampNeg)) E.1 E.2.1 (by rw [h3.2.2.1 sb hbl]; exact q1) q2 q3 (by rw [q4]; intro z; rcases z with z | z; exact q.1 z; omega) (q5 _ q.2) rfl rfl hdg (k.2 H locs ls h1 h2 h3 h4 h5)
  · cases hg
def xPcl (G : gX) (sb N : Nat) (xs : Nat → Int32) (k : Int32) (M : hM) : Array Value → State → Prop := fun v U => v = (a_st [.inr (.inr (some sb)), .inl k]).toArray ∧ xW G M U.heap ∧ xK G U ∧ va_X sb N xs U G.2.1
theorem cell_met (l : Launch) {k v : Int32} (hbl : sb < G.2.1.size) (hv : sc_c xs N k = some v) : Met l yCell (.code yCell method_2_code 2 (some .int) :: xTs) (xRm 0 (h_sz M - h_sz M) (h_sl M - h_sl M)) (xPcl G sb N xs k M) (xQc G (some (.inl v)) M) (h_sz M - h_sz M) (h_sl M - h_sl M) (xFr G) := by
  refine Met.ofW (cc := method_2_code) (maxL := 2) (ret := some .int) (by decide) rfl ?_
  intro p e s m args below meth c s₁ B hml hv0
  obtain ⟨rfl, hW, hK, hX⟩ := hv0
  have hts := atoms_spec (ws := .code yCell method_2_code 2 (some .int) :: xTs) B.pre
  have hown : s.vm.findClass "ZonedFabricLaw" = some m.cls := findClass_of_methodNamed B.named
  have E : xE G p (xRm 0 (h_sz M - h_sz M) (h_sl M - h_sl M)) s m (a_st [.inr (.inr (some sb)), .inl k]).toArray c method_2_code "ZonedFabricLaw" (h_sz M) (h_sl M) (h_sz M) (h_sl M) 2 := ⟨B.exec, B.bytes, hml, hown, fun w hw => hts w (List.mem_cons_of_mem _ hw), hK, rfl, rfl⟩
  have hb : xV G p l e (xRm 0 (h_sz M - h_sz M) (h_sl M - h_sl M)) s m (a_st [.inr (.inr (some sb)), .inl k]).toArray below meth c (h_sz M) (h_sl M) (h_sz M) (h_sl M) 2 (MQ below (xQc G (some (.inl v)) M) (a_st [.inr (.inr (some sb)), .inl k]).toArray s (h_sz M - h_sz M) (h_sl M - h_sl M) (xFr G)) 0 (a_args 0 [.inr (.inr (some sb)), .inl k]) [] M := by
    unfold sc_c at hv
    refine xv_b E [.iload_n 1, .aload_n 0] (pc' := 2) (lv' := [(0, .inr (.inr (some sb))), (1, .inl k)]) (st' := [.inr (.inr (some sb)), .inl k]) (by decide +kernel) rfl rfl ?_
    refine xv_slen E hX hbl (show decode method_2_code 2 = .ok (.arraylength, 1) by decide +kernel) ?_
    by_cases q : Int32.ofNat N ≤ k
    · rw [if_pos q] at hv
      cases hv
      refine xv_icmp_ge E 12 (show decode method_2_code 3 = .ok (.if_icmp .ge 9, 3) by decide +kernel) rfl (fun _ => ?_) (fun z => absurd q z)
      refine xv_b E [.iconst 0] (pc' := 13) (lv' := [(0, .inr (.inr (some sb))), (1, .inl k)]) (st' := [.inl 0]) (by decide +kernel) rfl rfl ?_
      exact xv_ri E B.returns rfl B.notSynchronized (show decode method_2_code 13 = .ok (.ireturn, 1) by decide +kernel) rfl rfl
    · rw [if_neg q] at hv
      refine xv_icmp_ge E 12 (show decode method_2_code 3 = .ok (.if_icmp .ge 9, 3) by decide +kernel) rfl (fun z => absurd z q) (fun _ => ?_)
      refine xv_b E [.aload_n 0, .iload_n 1] (pc' := 8) (lv' := [(0, .inr (.inr (some sb))), (1, .inl k)]) (st' := [.inl k, .inr (.inr (some sb))]) (by decide +kernel) rfl rfl ?_
      refine xv_sld E hX hbl hv (show decode method_2_code 8 = .ok (.iaload, 1) by decide +kernel) ?_
      refine xv_goto E 13 (show decode method_2_code 9 = .ok (.goto 4, 3) by decide +kernel) rfl ?_
      exact xv_ri E B.returns rfl B.notSynchronized (show decode method_2_code 13 = .ok (.ireturn, 1) by decide +kernel) rfl rfl
  have hl0 := lv_entry (a_st [.inr (.inr (some sb)), .inl k]) (n := 2) (by rw [a_sl_len]; exact Nat.le_of_ble_eq_true rfl)
  rw [lg_entry_eq]
  rw [a_args_eq] at hl0
  have h2 := hb.2 s.heap [] _ (Nat.le_refl _) (Nat.le_refl _) hW (fun _ q => absurd q List.not_mem_nil) hl0
  exact W.cs (by omega) (by omega) h2
theorem xv_cell (E : xE G p R s m args c cc "ZonedFabricLaw" z0 y0 zf yf nL) (hX : va_X sb N xs s G.2.1) (hbl : sb < G.2.1.size) {k v : Int32} (hg : sc_c xs N k = some v) (hdg : decode cc pc = .ok (.invokestatic 9, 3)) (hcat : (st.map a_cat).sum ≤ 8) (hR : 0 + 1 ≤ R.frames ∧ 8 + (2 + 11) + (40 * 0 + 12) ≤ R.locals) (kk : xV G p l e R s m args below meth c z0 y0 zf yf nL Q (pc + 3) lv (.inl v :: st) M) : xV G p l e R s m args below meth c z0 y0 zf yf nL Q pc lv (.inl k :: .inr (.inr (some sb)) :: st) M := by
  refine xv_run (r := some (.inl v)) (st := st) ⟨Nat.le_refl _, Nat.le_refl _⟩ kk fun H locs ls h1 h2 h3 h5 => ?_
  have k1 := kk.1
  obtain ⟨hx, hb, hml, hown, hts, hK, hR1, hR2⟩ := E
  have hG : GoodIn xTs (.code yCell method_2_code 2 (some .int) :: xTs) := xGI (xWs_in mw1243)
  exact va_runS (As := a_st [.inr (.inr (some sb)), .inl k]) (rest := a_st st) ⟨hx, hb, hml, hown, hts⟩ (cell_met l hbl hg) ⟨callB_of 2 hts hG rfl rfl rfl (hts _ mw1244) (hts _ mw1245) ⟨by decide, by decide, by decide +kernel⟩ hR, hts _ mw1246⟩ ⟨fun a U g mk q => ⟨q.1, q.2.1, xK.same (u := U) (U := U.calling g mk a) rfl q.2.2.1, va_X.moved (u := U) (U := U.calling g mk a) (Vm.Alike.refl U.vm) q.2.2.2⟩, fun U hU hW => ⟨rfl, by rw [hU]; exact h3, xK.moved hW hK, hX.moved hW.alike⟩⟩ rfl rfl h5.1 rfl (lv_room (by rw [a_cat_sum]; exact hcat)) hdg ⟨by omega, by omega⟩
/-- the law's end -/
theorem xv_lret {b : Nat} (E : xE G p room_1 s m #[Value.ref b] c code own z0 y0 (z0 + 600000) (y0 + 7302250) nL) (hr : meth.sig.returnType = ret) (hlk : meth.locks = false) (hG : G.2.1.size = s.heap.size) (hfin : h_sz M ≤ z0 + 600000 ∧ h_sl M ≤ y0 + 7302250) (hdg : decode code pc = .ok (.ireturn, 1)) : xV G p l e room_1 s m #[Value.ref b] below meth c z0 y0 (z0 + 600000) (y0 + 7302250) nL (lw_Z below #[Value.ref b] s) pc lv [.inl 1] M :=
  ⟨hfin, fun _ _ _ _ _ _ h4 _ => va_forget (fun q hq => by rw [← hG]; exact h4 q hq) (W.widen (by omega) (by omega) (lw_ret E.1 E.2.1 hr hlk hdg))⟩
end XL
def b999_0 (xs : Nat → Int32) (N : Nat)  (M : hM) : Option xRes :=
  Option.bind (n_o M 11 8) fun M1 =>
  Option.bind (sc_c xs N (0 : Int32)) fun v_3 =>
  Option.bind (sc_c xs N (1 : Int32)) fun v_5 =>
  Option.bind (sc_c xs N (2 : Int32)) fun v_7 =>
  Option.bind (c_V (f7 [.inr (.inr (some (h_sz M))), .inl v_3, .inl v_5, .inl v_7] M1)) fun q_9 =>
  Option.bind (n_o q_9 12 61) fun M11 =>
  Option.bind (sc_c xs N (0 : Int32)) fun v_13 =>
  Option.bind (sc_c xs N (1 : Int32)) fun v_15 =>
  Option.bind (sc_c xs N (2 : Int32)) fun v_17 =>
  Option.bind (c_V (f164 [.inr (.inr (some (h_sz q_9))), .inl v_13, .inl v_15, .inl v_17] M11)) fun q_19 =>
  some (.inr (48, [.inr (.inr (some (h_sz M))), .inr (.inr (some (h_sz q_9))), .inl (3 : Int32)], q_19))
def b999_1027 (xs : Nat → Int32) (N : Nat) (o1 : Option Nat) (o2 : Option Nat) (v3 : Int32) (M : hM) : Option xRes :=
  some (.inr (48, [.inr (.inr o1), .inr (.inr o2), .inl (v3 + (8 : Int32))], M))
def b999_347 (xs : Nat → Int32) (N : Nat) (o1 : Option Nat) (o2 : Option Nat) (v3 : Int32) (si0 : Int32) (si1 : Int32) (si2 : Int32) (sr3 : Option Nat) (si4 : Int32) (M : hM) : Option xRes :=
  Option.bind (g_o M 12 sr3) fun b_441 =>
  Option.bind (c_I (f237 [.inr (.inr (some b_441)), .inl si2, .inl si1, .inl si0] M)) fun q_439 =>
  if si4 = q_439.1 then
    (b999_1027 xs N o1 o2 v3 q_439.2)
  else
    (none)
def b999_320 (xs : Nat → Int32) (N : Nat) (o1 : Option Nat) (o2 : Option Nat) (v3 : Int32) (si0 : Int32) (si1 : Int32) (si2 : Int32) (sr3 : Option Nat) (M : hM) : Option xRes :=
  Option.bind (g_o M 11 sr3) fun b_430 =>
  Option.bind (c_I (f26 [.inr (.inr (some b_430)), .inl si2, .inl si1, .inl si0] M)) fun q_428 =>
  Option.bind (sc_a xs N (v3 + (1 : Int32))) fun v_432 =>
  Option.bind (sc_a xs N (v3 + (2 : Int32))) fun v_434 =>
  Option.bind (sc_a xs N (v3 + (3 : Int32))) fun v_436 =>
  if v_436 = 0 then
    (b999_347 xs N o1 o2 v3 (0 : Int32) v_434 v_432 o2 q_428.1 q_428.2)
  else
    (b999_347 xs N o1 o2 v3 (1 : Int32) v_434 v_432 o2 q_428.1 q_428.2)
def b999_386 (xs : Nat → Int32) (N : Nat) (o1 : Option Nat) (o2 : Option Nat) (v3 : Int32) (si0 : Int32) (sr1 : Option Nat) (M : hM) : Option xRes :=
  Option.bind (g_o M 12 sr1) fun b_453 =>
  Option.bind (c_V (f238 [.inr (.inr (some b_453)), .inl si0] M)) fun q_451 =>
  b999_1027 xs N o1 o2 v3 q_451
def b999_369 (xs : Nat → Int32) (N : Nat) (o1 : Option Nat) (o2 : Option Nat) (v3 : Int32) (si0 : Int32) (sr1 : Option Nat) (M : hM) : Option xRes :=
  Option.bind (g_o M 11 sr1) fun b_446 =>
  Option.bind (c_V (f27 [.inr (.inr (some b_446)), .inl si0] M)) fun q_444 =>
  Option.bind (sc_a xs N (v3 + (1 : Int32))) fun v_448 =>
  if v_448 = 0 then
    (b999_386 xs N o1 o2 v3 (0 : Int32) o2 q_444)
  else
    (b999_386 xs N o1 o2 v3 (1 : Int32) o2 q_444)
def b999_48 (xs : Nat → Int32) (N : Nat) (o1 : Option Nat) (o2 : Option Nat) (v3 : Int32) (M : hM) : Option xRes :=
  if ((Int32.ofNat N) - (8 : Int32)) < v3 then
    (some (.inl (some (.inl 1), M)))
  else
    (Option.bind (sc_a xs N v3) fun v_21 =>
    if (v_21 &&& (31 : Int32)) = 0 then
      (Option.bind (sc_a xs N (v3 + (1 : Int32))) fun v_24 =>
      Option.bind (g_o M 11 o1) fun b_28 =>
      Option.bind (c_I (f11 [.inr (.inr (some b_28)), .inl v_24] M)) fun q_26 =>
      Option.bind (sc_a xs N (v3 + (1 : Int32))) fun v_30 =>
      Option.bind (g_o q_26.2 12 o2) fun b_34 =>
      Option.bind (c_I (f232 [.inr (.inr (some b_34)), .inl v_30] q_26.2)) fun q_32 =>
      if q_26.1 = q_32.1 then
        (b999_1027 xs N o1 o2 v3 q_32.2)
      else
        (none))
    else
      (if (v_21 &&& (31 : Int32)) = 1 then
        (Option.bind (sc_a xs N (v3 + (1 : Int32))) fun v_38 =>
        Option.bind (sc_a xs N (v3 + (2 : Int32))) fun v_40 =>
        Option.bind (sc_a xs N (v3 + (3 : Int32))) fun v_42 =>
        Option.bind (sc_a xs N (v3 + (4 : Int32))) fun v_44 =>
        Option.bind (sc_a xs N (v3 + (5 : Int32))) fun v_46 =>
        Option.bind (g_o M 11 o1) fun b_50 =>
        Option.bind (c_I (f15 [.inr (.inr (some b_50)), .inl v_38, .inl v_40, .inl v_42, .inl v_44, .inl v_46] M)) fun q_48 =>
        Option.bind (sc_a xs N (v3 + (1 : Int32))) fun v_52 =>
        Option.bind (sc_a xs N (v3 + (2 : Int32))) fun v_54 =>
        Option.bind (sc_a xs N (v3 + (3 : Int32))) fun v_56 =>
        Option.bind (sc_a xs N (v3 + (4 : Int32))) fun v_58 =>
        Option.bind (sc_a xs N (v3 + (5 : Int32))) fun v_60 =>
        Option.bind (g_o q_48.2 12 o2) fun b_64 =>
        Option.bind (c_I (f233 [.inr (.inr (some b_64)), .inl v_52, .inl v_54, .inl v_56, .inl v_58, .inl v_60] q_48.2)) fun q_62 =>
        if q_48.1 = q_62.1 then
          (b999_1027 xs N o1 o2 v3 q_62.2)
        else
          (none))
      else
        (if (v_21 &&& (31 : Int32)) = 2 then
          (Option.bind (sc_a xs N (v3 + (1 : Int32))) fun v_68 =>
          Option.bind (g_o M 11 o1) fun b_72 =>
          Option.bind (c_I (f24 [.inr (.inr (some b_72)), .inl v_68] M)) fun q_70 =>
          Option.bind (sc_a xs N (v3 + (1 : Int32))) fun v_74 =>
          Option.bind (g_o q_70.2 12 o2) fun b_78 =>
          Option.bind (c_I (f235 [.inr (.inr (some b_78)), .inl v_74] q_70.2)) fun q_76 =>
          if q_70.1 = q_76.1 then
            (b999_1027 xs N o1 o2 v3 q_76.2)
          else
            (none))
        else
          (if (v_21 &&& (31 : Int32)) = 3 then
            (Option.bind (sc_a xs N (v3 + (1 : Int32))) fun v_82 =>
            Option.bind (g_o M 11 o1) fun b_86 =>
            Option.bind (c_I (f25 [.inr (.inr (some b_86)), .inl v_82] M)) fun q_84 =>
            Option.bind (sc_a xs N (v3 + (1 : Int32))) fun v_88 =>
            Option.bind (g_o q_84.2 12 o2) fun b_92 =>
            Option.bind (c_I (f236 [.inr (.inr (some b_92)), .inl v_88] q_84.2)) fun q_90 =>
            if q_84.1 = q_90.1 then
              (b999_1027 xs N o1 o2 v3 q_90.2)
            else
              (none))
          else
            (if (v_21 &&& (31 : Int32)) = 4 then
              (Option.bind (sc_a xs N (v3 + (1 : Int32))) fun v_96 =>
              Option.bind (sc_a xs N (v3 + (2 : Int32))) fun v_98 =>
              Option.bind (sc_a xs N (v3 + (3 : Int32))) fun v_100 =>
              if v_100 = 0 then
                (b999_320 xs N o1 o2 v3 (0 : Int32) v_98 v_96 o1 M)
              else
                (b999_320 xs N o1 o2 v3 (1 : Int32) v_98 v_96 o1 M))
            else
              (if (v_21 &&& (31 : Int32)) = 5 then
                (Option.bind (sc_a xs N (v3 + (1 : Int32))) fun v_104 =>
                if v_104 = 0 then
                  (b999_369 xs N o1 o2 v3 (0 : Int32) o1 M)
                else
                  (b999_369 xs N o1 o2 v3 (1 : Int32) o1 M))
              else
                (if (v_21 &&& (31 : Int32)) = 6 then
                  (Option.bind (sc_a xs N (v3 + (1 : Int32))) fun v_108 =>
                  Option.bind (sc_a xs N (v3 + (2 : Int32))) fun v_110 =>
                  Option.bind (g_o M 11 o1) fun b_114 =>
                  Option.bind (c_I (f28 [.inr (.inr (some b_114)), .inl v_108, .inl v_110] M)) fun q_112 =>
                  Option.bind (sc_a xs N (v3 + (1 : Int32))) fun v_116 =>
                  Option.bind (sc_a xs N (v3 + (2 : Int32))) fun v_118 =>
                  Option.bind (g_o q_112.2 12 o2) fun b_122 =>
                  Option.bind (c_I (f239 [.inr (.inr (some b_122)), .inl v_116, .inl v_118] q_112.2)) fun q_120 =>
                  if q_112.1 = q_120.1 then
                    (b999_1027 xs N o1 o2 v3 q_120.2)
                  else
                    (none))
                else
                  (if (v_21 &&& (31 : Int32)) = 7 then
                    (Option.bind (sc_a xs N (v3 + (1 : Int32))) fun v_126 =>
                    Option.bind (sc_a xs N (v3 + (2 : Int32))) fun v_128 =>
                    Option.bind (sc_a xs N (v3 + (3 : Int32))) fun v_130 =>
                    Option.bind (g_o M 11 o1) fun b_134 =>
                    Option.bind (c_I (f31 [.inr (.inr (some b_134)), .inl v_126, .inl v_128, .inl v_130] M)) fun q_132 =>
                    Option.bind (sc_a xs N (v3 + (1 : Int32))) fun v_136 =>
                    Option.bind (sc_a xs N (v3 + (2 : Int32))) fun v_138 =>
                    Option.bind (sc_a xs N (v3 + (3 : Int32))) fun v_140 =>
                    Option.bind (g_o q_132.2 12 o2) fun b_144 =>
                    Option.bind (c_I (f241 [.inr (.inr (some b_144)), .inl v_136, .inl v_138, .inl v_140] q_132.2)) fun q_142 =>
                    if q_132.1 = q_142.1 then
                      (b999_1027 xs N o1 o2 v3 q_142.2)
                    else
                      (none))
                  else
                    (if (v_21 &&& (31 : Int32)) = 8 then
                      (Option.bind (sc_a xs N (v3 + (1 : Int32))) fun v_148 =>
                      Option.bind (g_o M 11 o1) fun b_152 =>
                      Option.bind (c_I (f140 [.inr (.inr (some b_152)), .inl v_148] M)) fun q_150 =>
                      Option.bind (sc_a xs N (v3 + (1 : Int32))) fun v_154 =>
                      Option.bind (g_o q_150.2 12 o2) fun b_158 =>
                      Option.bind (c_I (f242 [.inr (.inr (some b_158)), .inl v_154] q_150.2)) fun q_156 =>
                      if q_150.1 = q_156.1 then
                        (b999_1027 xs N o1 o2 v3 q_156.2)
                      else
                        (none))
                    else
                      (if (v_21 &&& (31 : Int32)) = 9 then
                        (Option.bind (sc_a xs N (v3 + (1 : Int32))) fun v_162 =>
                        Option.bind (sc_a xs N (v3 + (2 : Int32))) fun v_164 =>
                        Option.bind (sc_a xs N (v3 + (3 : Int32))) fun v_166 =>
                        Option.bind (sc_a xs N (v3 + (4 : Int32))) fun v_168 =>
                        Option.bind (sc_a xs N (v3 + (5 : Int32))) fun v_170 =>
                        Option.bind (g_o M 11 o1) fun b_174 =>
                        Option.bind (c_I (f148 [.inr (.inr (some b_174)), .inl v_162, .inl v_164, .inl v_166, .inl v_168, .inl v_170] M)) fun q_172 =>
                        Option.bind (sc_a xs N (v3 + (1 : Int32))) fun v_176 =>
                        Option.bind (sc_a xs N (v3 + (2 : Int32))) fun v_178 =>
                        Option.bind (sc_a xs N (v3 + (3 : Int32))) fun v_180 =>
                        Option.bind (sc_a xs N (v3 + (4 : Int32))) fun v_182 =>
                        Option.bind (sc_a xs N (v3 + (5 : Int32))) fun v_184 =>
                        Option.bind (g_o q_172.2 12 o2) fun b_188 =>
                        Option.bind (c_I (f244 [.inr (.inr (some b_188)), .inl v_176, .inl v_178, .inl v_180, .inl v_182, .inl v_184] q_172.2)) fun q_186 =>
                        if q_172.1 = q_186.1 then
                          (b999_1027 xs N o1 o2 v3 q_186.2)
                        else
                          (none))
                      else
                        (if (v_21 &&& (31 : Int32)) = 10 then
                          (Option.bind (sc_a xs N (v3 + (1 : Int32))) fun v_192 =>
                          Option.bind (sc_a xs N (v3 + (2 : Int32))) fun v_194 =>
                          Option.bind (sc_a xs N (v3 + (3 : Int32))) fun v_196 =>
                          Option.bind (sc_a xs N (v3 + (4 : Int32))) fun v_198 =>
                          Option.bind (sc_a xs N (v3 + (5 : Int32))) fun v_200 =>
                          Option.bind (sc_a xs N (v3 + (6 : Int32))) fun v_202 =>
                          Option.bind (sc_a xs N (v3 + (7 : Int32))) fun v_204 =>
                          Option.bind (g_o M 11 o1) fun b_208 =>
                          Option.bind (c_I (f149 [.inr (.inr (some b_208)), .inl v_192, .inl v_194, .inl v_196, .inl v_198, .inl v_200, .inr (.inl (((Int32.toInt64 v_202) <<< (Int32.toInt64 (32 : Int32) &&& 63)) ||| ((Int32.toInt64 v_204) &&& (4294967295 : Int64))))] M)) fun q_206 =>
                          Option.bind (sc_a xs N (v3 + (1 : Int32))) fun v_210 =>
                          Option.bind (sc_a xs N (v3 + (2 : Int32))) fun v_212 =>
                          Option.bind (sc_a xs N (v3 + (3 : Int32))) fun v_214 =>
                          Option.bind (sc_a xs N (v3 + (4 : Int32))) fun v_216 =>
                          Option.bind (sc_a xs N (v3 + (5 : Int32))) fun v_218 =>
                          Option.bind (sc_a xs N (v3 + (6 : Int32))) fun v_220 =>
                          Option.bind (sc_a xs N (v3 + (7 : Int32))) fun v_222 =>
                          Option.bind (g_o q_206.2 12 o2) fun b_226 =>
                          Option.bind (c_I (f245 [.inr (.inr (some b_226)), .inl v_210, .inl v_212, .inl v_214, .inl v_216, .inl v_218, .inr (.inl (((Int32.toInt64 v_220) <<< (Int32.toInt64 (32 : Int32) &&& 63)) ||| ((Int32.toInt64 v_222) &&& (4294967295 : Int64))))] q_206.2)) fun q_224 =>
                          if q_206.1 = q_224.1 then
                            (b999_1027 xs N o1 o2 v3 q_224.2)
                          else
                            (none))
                        else
                          (if (v_21 &&& (31 : Int32)) = 11 then
                            (Option.bind (sc_a xs N (v3 + (1 : Int32))) fun v_230 =>
                            Option.bind (g_o M 11 o1) fun b_234 =>
                            Option.bind (c_I (f151 [.inr (.inr (some b_234)), .inl v_230] M)) fun q_232 =>
                            Option.bind (sc_a xs N (v3 + (1 : Int32))) fun v_236 =>
                            Option.bind (g_o q_232.2 12 o2) fun b_240 =>
                            Option.bind (c_I (f247 [.inr (.inr (some b_240)), .inl v_236] q_232.2)) fun q_238 =>
                            if q_232.1 = q_238.1 then
                              (b999_1027 xs N o1 o2 v3 q_238.2)
                            else
                              (none))
                          else
                            (if (v_21 &&& (31 : Int32)) = 12 then
                              (Option.bind (sc_a xs N (v3 + (1 : Int32))) fun v_244 =>
                              Option.bind (sc_a xs N (v3 + (2 : Int32))) fun v_246 =>
                              Option.bind (g_o M 11 o1) fun b_250 =>
                              Option.bind (c_L (f152 [.inr (.inr (some b_250)), .inl v_244, .inl v_246] M)) fun q_248 =>
                              Option.bind (sc_a xs N (v3 + (1 : Int32))) fun v_252 =>
                              Option.bind (sc_a xs N (v3 + (2 : Int32))) fun v_254 =>
                              Option.bind (g_o q_248.2 12 o2) fun b_258 =>
                              Option.bind (c_L (f248 [.inr (.inr (some b_258)), .inl v_252, .inl v_254] q_248.2)) fun q_256 =>
                              if (lg_cmp q_248.1 q_256.1) = 0 then
                                (b999_1027 xs N o1 o2 v3 q_256.2)
                              else
                                (none))
                            else
                              (if (v_21 &&& (31 : Int32)) = 13 then
                                (Option.bind (sc_a xs N (v3 + (1 : Int32))) fun v_262 =>
                                Option.bind (sc_a xs N (v3 + (2 : Int32))) fun v_264 =>
                                Option.bind (g_o M 11 o1) fun b_268 =>
                                Option.bind (c_I (f153 [.inr (.inr (some b_268)), .inl v_262, .inl v_264] M)) fun q_266 =>
                                Option.bind (sc_a xs N (v3 + (1 : Int32))) fun v_270 =>
                                Option.bind (sc_a xs N (v3 + (2 : Int32))) fun v_272 =>
                                Option.bind (g_o q_266.2 12 o2) fun b_276 =>
                                Option.bind (c_I (f249 [.inr (.inr (some b_276)), .inl v_270, .inl v_272] q_266.2)) fun q_274 =>
                                if q_266.1 = q_274.1 then
                                  (b999_1027 xs N o1 o2 v3 q_274.2)
                                else
                                  (none))
                              else
                                (if (v_21 &&& (31 : Int32)) = 14 then
                                  (Option.bind (sc_a xs N (v3 + (1 : Int32))) fun v_280 =>
                                  Option.bind (sc_a xs N (v3 + (2 : Int32))) fun v_282 =>
                                  Option.bind (sc_a xs N (v3 + (3 : Int32))) fun v_284 =>
                                  Option.bind (g_o M 11 o1) fun b_288 =>
                                  Option.bind (c_L (f154 [.inr (.inr (some b_288)), .inl v_280, .inl v_282, .inl v_284] M)) fun q_286 =>
                                  Option.bind (sc_a xs N (v3 + (1 : Int32))) fun v_290 =>
                                  Option.bind (sc_a xs N (v3 + (2 : Int32))) fun v_292 =>
                                  Option.bind (sc_a xs N (v3 + (3 : Int32))) fun v_294 =>
                                  Option.bind (g_o q_286.2 12 o2) fun b_298 =>
                                  Option.bind (c_L (f250 [.inr (.inr (some b_298)), .inl v_290, .inl v_292, .inl v_294] q_286.2)) fun q_296 =>
                                  if (lg_cmp q_286.1 q_296.1) = 0 then
                                    (b999_1027 xs N o1 o2 v3 q_296.2)
                                  else
                                    (none))
                                else
                                  (if (v_21 &&& (31 : Int32)) = 15 then
                                    (Option.bind (sc_a xs N (v3 + (1 : Int32))) fun v_302 =>
                                    Option.bind (sc_a xs N (v3 + (2 : Int32))) fun v_304 =>
                                    Option.bind (g_o M 11 o1) fun b_308 =>
                                    Option.bind (c_I (f155 [.inr (.inr (some b_308)), .inl v_302, .inl v_304] M)) fun q_306 =>
                                    Option.bind (sc_a xs N (v3 + (1 : Int32))) fun v_310 =>
                                    Option.bind (sc_a xs N (v3 + (2 : Int32))) fun v_312 =>
                                    Option.bind (g_o q_306.2 12 o2) fun b_316 =>
                                    Option.bind (c_I (f251 [.inr (.inr (some b_316)), .inl v_310, .inl v_312] q_306.2)) fun q_314 =>
                                    if q_306.1 = q_314.1 then
                                      (b999_1027 xs N o1 o2 v3 q_314.2)
                                    else
                                      (none))
                                  else
                                    (if (v_21 &&& (31 : Int32)) = 16 then
                                      (Option.bind (sc_a xs N (v3 + (1 : Int32))) fun v_320 =>
                                      Option.bind (sc_a xs N (v3 + (2 : Int32))) fun v_322 =>
                                      Option.bind (sc_a xs N (v3 + (3 : Int32))) fun v_324 =>
                                      Option.bind (g_o M 11 o1) fun b_328 =>
                                      Option.bind (c_I (f157 [.inr (.inr (some b_328)), .inl v_320, .inl v_322, .inl v_324] M)) fun q_326 =>
                                      Option.bind (sc_a xs N (v3 + (1 : Int32))) fun v_330 =>
                                      Option.bind (sc_a xs N (v3 + (2 : Int32))) fun v_332 =>
                                      Option.bind (sc_a xs N (v3 + (3 : Int32))) fun v_334 =>
                                      Option.bind (g_o q_326.2 12 o2) fun b_338 =>
                                      Option.bind (c_I (f252 [.inr (.inr (some b_338)), .inl v_330, .inl v_332, .inl v_334] q_326.2)) fun q_336 =>
                                      if q_326.1 = q_336.1 then
                                        (b999_1027 xs N o1 o2 v3 q_336.2)
                                      else
                                        (none))
                                    else
                                      (if (v_21 &&& (31 : Int32)) = 17 then
                                        (Option.bind (sc_a xs N (v3 + (1 : Int32))) fun v_342 =>
                                        Option.bind (sc_a xs N (v3 + (2 : Int32))) fun v_344 =>
                                        Option.bind (sc_a xs N (v3 + (3 : Int32))) fun v_346 =>
                                        Option.bind (g_o M 11 o1) fun b_350 =>
                                        Option.bind (c_I (f159 [.inr (.inr (some b_350)), .inl v_342, .inl v_344, .inl v_346] M)) fun q_348 =>
                                        Option.bind (sc_a xs N (v3 + (1 : Int32))) fun v_352 =>
                                        Option.bind (sc_a xs N (v3 + (2 : Int32))) fun v_354 =>
                                        Option.bind (sc_a xs N (v3 + (3 : Int32))) fun v_356 =>
                                        Option.bind (g_o q_348.2 12 o2) fun b_360 =>
                                        Option.bind (c_I (f253 [.inr (.inr (some b_360)), .inl v_352, .inl v_354, .inl v_356] q_348.2)) fun q_358 =>
                                        if q_348.1 = q_358.1 then
                                          (b999_1027 xs N o1 o2 v3 q_358.2)
                                        else
                                          (none))
                                      else
                                        (if (v_21 &&& (31 : Int32)) = 18 then
                                          (Option.bind (sc_a xs N (v3 + (1 : Int32))) fun v_364 =>
                                          Option.bind (g_o M 11 o1) fun b_368 =>
                                          Option.bind (c_I (f160 [.inr (.inr (some b_368)), .inl v_364] M)) fun q_366 =>
                                          Option.bind (sc_a xs N (v3 + (1 : Int32))) fun v_370 =>
                                          Option.bind (g_o q_366.2 12 o2) fun b_374 =>
                                          Option.bind (c_I (f254 [.inr (.inr (some b_374)), .inl v_370] q_366.2)) fun q_372 =>
                                          if q_366.1 = q_372.1 then
                                            (b999_1027 xs N o1 o2 v3 q_372.2)
                                          else
                                            (none))
                                        else
                                          (if (v_21 &&& (31 : Int32)) = 19 then
                                            (Option.bind (sc_a xs N (v3 + (1 : Int32))) fun v_378 =>
                                            Option.bind (sc_a xs N (v3 + (2 : Int32))) fun v_380 =>
                                            Option.bind (sc_a xs N (v3 + (3 : Int32))) fun v_382 =>
                                            Option.bind (g_o M 11 o1) fun b_386 =>
                                            Option.bind (c_L (f161 [.inr (.inr (some b_386)), .inl v_378, .inl v_380, .inl v_382] M)) fun q_384 =>
                                            Option.bind (sc_a xs N (v3 + (1 : Int32))) fun v_388 =>
                                            Option.bind (sc_a xs N (v3 + (2 : Int32))) fun v_390 =>
                                            Option.bind (sc_a xs N (v3 + (3 : Int32))) fun v_392 =>
                                            Option.bind (g_o q_384.2 12 o2) fun b_396 =>
                                            Option.bind (c_L (f255 [.inr (.inr (some b_396)), .inl v_388, .inl v_390, .inl v_392] q_384.2)) fun q_394 =>
                                            if (lg_cmp q_384.1 q_394.1) = 0 then
                                              (b999_1027 xs N o1 o2 v3 q_394.2)
                                            else
                                              (none))
                                          else
                                            (if (v_21 &&& (31 : Int32)) = 20 then
                                              (Option.bind (sc_a xs N (v3 + (1 : Int32))) fun v_400 =>
                                              Option.bind (g_o M 11 o1) fun b_404 =>
                                              Option.bind (c_I (f162 [.inr (.inr (some b_404)), .inl v_400] M)) fun q_402 =>
                                              Option.bind (sc_a xs N (v3 + (1 : Int32))) fun v_406 =>
                                              Option.bind (g_o q_402.2 12 o2) fun b_410 =>
                                              Option.bind (c_I (f256 [.inr (.inr (some b_410)), .inl v_406] q_402.2)) fun q_408 =>
                                              if q_402.1 = q_408.1 then
                                                (b999_1027 xs N o1 o2 v3 q_408.2)
                                              else
                                                (none))
                                            else
                                              (if (v_21 &&& (31 : Int32)) = 21 then
                                                (Option.bind (sc_a xs N (v3 + (1 : Int32))) fun v_414 =>
                                                Option.bind (g_o M 11 o1) fun b_418 =>
                                                Option.bind (c_I (f163 [.inr (.inr (some b_418)), .inl v_414] M)) fun q_416 =>
                                                Option.bind (sc_a xs N (v3 + (1 : Int32))) fun v_420 =>
                                                Option.bind (g_o q_416.2 12 o2) fun b_424 =>
                                                Option.bind (c_I (f257 [.inr (.inr (some b_424)), .inl v_420] q_416.2)) fun q_422 =>
                                                if q_416.1 = q_422.1 then
                                                  (b999_1027 xs N o1 o2 v3 q_422.2)
                                                else
                                                  (none))
                                              else
                                                (b999_1027 xs N o1 o2 v3 M)))))))))))))))))))))))
def k999 (xs : Nat → Int32) (N : Nat) (h : Nat) (as : List aV) (M : hM) : Option xRes :=
  if h = 48 then (match as with | [.inr (.inr o1), .inr (.inr o2), .inl v3] => b999_48 xs N o1 o2 v3 M | _ => none) else
  none
def fLaw (xs : Nat → Int32) (N : Nat) (M : hM) : xO := x_go (k999 xs N) (b999_0 xs N M)
section
variable {p : Program} {l : Launch} {e : Env} {s : State} {m : MethodId} {below : List Frame} {meth : Method} {c : Code} {G : gX} {z0 y0 : Nat} {r : Option aV} {M' : hM} {sb N : Nat} {xs : Nat → Int32}
def pg999 (p : Program) (l : Launch) (e : Env) (s : State) (m : MethodId) (below : List Frame) (meth : Method) (c : Code) (G : gX) (z0 y0 sb : Nat) (h : Nat) (as : List aV) (M : hM) : Prop :=
  if h = 48 then (match as with | [.inr (.inr o1), .inr (.inr o2), .inl v3] => xV G p l e room_1 s m #[Value.ref sb] below meth c z0 y0 (z0 + 600000) (y0 + 7302250) 4 (lw_Z below #[Value.ref sb] s) 48 [(0, .inr (.inr (some sb))), (1, .inr (.inr o1)), (2, .inr (.inr o2)), (3, .inl v3)] [] M | _ => False) else
  False
set_option maxHeartbeats 2000000 in
theorem sb999_0 (E : xE G p room_1 s m #[Value.ref sb] c code "ZonedFabricLaw" z0 y0 (z0 + 600000) (y0 + 7302250) 4) (B : meth.sig.returnType = ret ∧ meth.locks = false) (hX : va_X sb N xs s G.2.1) (hbl : sb < G.2.1.size) (hG : G.2.1.size = s.heap.size) (hfin : h_sz M' ≤ z0 + 600000 ∧ h_sl M' ≤ y0 + 7302250)  (M : hM) {res : xRes} (h : b999_0 xs N  M = some res) (hN : xN (pg999 p l e s m below meth c G z0 y0 sb) r M' res) : xV G p l e room_1 s m #[Value.ref sb] below meth c z0 y0 (z0 + 600000) (y0 + 7302250) 4 (lw_Z below #[Value.ref sb] s) 0 [(0, .inr (.inr (some sb)))] [] M := by
  unfold b999_0 at h
  obtain ⟨M1, h2, h⟩ := bd h
  refine xn_o E 11 h2 rfl mw1247 mw1248 mw71 (show decode code 0 = .ok (.new 7, 3) by decide +kernel) ?_
  refine xv_b E [.dup, .aload_n 0, .iconst 0] (pc' := 6) (lv' := [(0, .inr (.inr (some sb)))]) (st' := [.inl (0 : Int32), .inr (.inr (some sb)), .inr (.inr (some (h_sz M))), .inr (.inr (some (h_sz M)))]) (by decide +kernel) rfl rfl ?_
  obtain ⟨v_3, h4, h⟩ := bd h
  refine xv_cell E hX hbl h4 (show decode code 6 = .ok (.invokestatic 9, 3) by decide +kernel) (Nat.le_of_ble_eq_true rfl) ⟨Nat.le_of_ble_eq_true rfl, Nat.le_of_ble_eq_true rfl⟩ ?_
  refine xv_b E [.aload_n 0, .iconst 1] (pc' := 11) (lv' := [(0, .inr (.inr (some sb)))]) (st' := [.inl (1 : Int32), .inr (.inr (some sb)), .inl v_3, .inr (.inr (some (h_sz M))), .inr (.inr (some (h_sz M)))]) (by decide +kernel) rfl rfl ?_
  obtain ⟨v_5, h6, h⟩ := bd h
  refine xv_cell E hX hbl h6 (show decode code 11 = .ok (.invokestatic 9, 3) by decide +kernel) (Nat.le_of_ble_eq_true rfl) ⟨Nat.le_of_ble_eq_true rfl, Nat.le_of_ble_eq_true rfl⟩ ?_
  refine xv_b E [.aload_n 0, .iconst 2] (pc' := 16) (lv' := [(0, .inr (.inr (some sb)))]) (st' := [.inl (2 : Int32), .inr (.inr (some sb)), .inl v_5, .inl v_3, .inr (.inr (some (h_sz M))), .inr (.inr (some (h_sz M)))]) (by decide +kernel) rfl rfl ?_
  obtain ⟨v_7, h8, h⟩ := bd h
  refine xv_cell E hX hbl h8 (show decode code 16 = .ok (.invokestatic 9, 3) by decide +kernel) (Nat.le_of_ble_eq_true rfl) ⟨Nat.le_of_ble_eq_true rfl, Nat.le_of_ble_eq_true rfl⟩ ?_
  obtain ⟨q_9, h10, h⟩ := bd h
  refine xv_ci E (as := [.inl v_3, .inl v_5, .inl v_7]) (t7 G l (c_V_some h10)) cd7 (Or.inl mw1249) mw1250 rfl (show decode code 19 = .ok (.invokespecial 15, 3) by decide +kernel) rfl rfl (Nat.le_of_ble_eq_true rfl) ⟨Nat.le_of_ble_eq_true rfl, Nat.le_of_ble_eq_true rfl⟩ ?_
  refine xv_b E [.astore_n 1] (pc' := 23) (lv' := [(1, .inr (.inr (some (h_sz M)))), (0, .inr (.inr (some sb)))]) (st' := []) (by decide +kernel) rfl rfl ?_
  obtain ⟨M11, h12, h⟩ := bd h
  refine xn_o E 12 h12 rfl mw1251 mw1252 mw864 (show decode code 23 = .ok (.new 18, 3) by decide +kernel) ?_
  refine xv_b E [.dup, .aload_n 0, .iconst 0] (pc' := 29) (lv' := [(1, .inr (.inr (some (h_sz M)))), (0, .inr (.inr (some sb)))]) (st' := [.inl (0 : Int32), .inr (.inr (some sb)), .inr (.inr (some (h_sz q_9))), .inr (.inr (some (h_sz q_9)))]) (by decide +kernel) rfl rfl ?_
  obtain ⟨v_13, h14, h⟩ := bd h
  refine xv_cell E hX hbl h14 (show decode code 29 = .ok (.invokestatic 9, 3) by decide +kernel) (Nat.le_of_ble_eq_true rfl) ⟨Nat.le_of_ble_eq_true rfl, Nat.le_of_ble_eq_true rfl⟩ ?_
  refine xv_b E [.aload_n 0, .iconst 1] (pc' := 34) (lv' := [(1, .inr (.inr (some (h_sz M)))), (0, .inr (.inr (some sb)))]) (st' := [.inl (1 : Int32), .inr (.inr (some sb)), .inl v_13, .inr (.inr (some (h_sz q_9))), .inr (.inr (some (h_sz q_9)))]) (by decide +kernel) rfl rfl ?_
  obtain ⟨v_15, h16, h⟩ := bd h
  refine xv_cell E hX hbl h16 (show decode code 34 = .ok (.invokestatic 9, 3) by decide +kernel) (Nat.le_of_ble_eq_true rfl) ⟨Nat.le_of_ble_eq_true rfl, Nat.le_of_ble_eq_true rfl⟩ ?_
  refine xv_b E [.aload_n 0, .iconst 2] (pc' := 39) (lv' := [(1, .inr (.inr (some (h_sz M)))), (0, .inr (.inr (some sb)))]) (st' := [.inl (2 : Int32), .inr (.inr (some sb)), .inl v_15, .inl v_13, .inr (.inr (some (h_sz q_9))), .inr (.inr (some (h_sz q_9)))]) (by decide +kernel) rfl rfl ?_
  obtain ⟨v_17, h18, h⟩ := bd h
  refine xv_cell E hX hbl h18 (show decode code 39 = .ok (.invokestatic 9, 3) by decide +kernel) (Nat.le_of_ble_eq_true rfl) ⟨Nat.le_of_ble_eq_true rfl, Nat.le_of_ble_eq_true rfl⟩ ?_
  obtain ⟨q_19, h20, h⟩ := bd h
  refine xv_ci E (as := [.inl v_13, .inl v_15, .inl v_17]) (t164 G l (c_V_some h20)) cd164 (Or.inl mw1253) mw1254 rfl (show decode code 42 = .ok (.invokespecial 20, 3) by decide +kernel) rfl rfl (Nat.le_of_ble_eq_true rfl) ⟨Nat.le_of_ble_eq_true rfl, Nat.le_of_ble_eq_true rfl⟩ ?_
  refine xv_b E [.astore_n 2, .iconst 3, .istore_n 3] (pc' := 48) (lv' := [(3, .inl (3 : Int32)), (2, .inr (.inr (some (h_sz q_9)))), (1, .inr (.inr (some (h_sz M)))), (0, .inr (.inr (some sb)))]) (st' := []) (by decide +kernel) rfl rfl ?_
  obtain rfl := Option.some.inj h
  exact xv_w hN rfl
set_option maxHeartbeats 2000000 in
theorem sb999_1027 (E : xE G p room_1 s m #[Value.ref sb] c code "ZonedFabricLaw" z0 y0 (z0 + 600000) (y0 + 7302250) 4) (B : meth.sig.returnType = ret ∧ meth.locks = false) (hX : va_X sb N xs s G.2.1) (hbl : sb < G.2.1.size) (hG : G.2.1.size = s.heap.size) (hfin : h_sz M' ≤ z0 + 600000 ∧ h_sl M' ≤ y0 + 7302250) (o1 : Option Nat) (o2 : Option Nat) (v3 : Int32) (M : hM) {res : xRes} (h : b999_1027 xs N o1 o2 v3 M = some res) (hN : xN (pg999 p l e s m below meth c G z0 y0 sb) r M' res) : xV G p l e room_1 s m #[Value.ref sb] below meth c z0 y0 (z0 + 600000) (y0 + 7302250) 4 (lw_Z below #[Value.ref sb] s) 1027 [(0, .inr (.inr (some sb))), (1, .inr (.inr o1)), (2, .inr (.inr o2)), (3, .inl v3)] [] M := by
  unfold b999_1027 at h
  refine xv_b E [.iinc 3 8] (pc' := 1030) (lv' := [(3, .inl (v3 + (8 : Int32))), (0, .inr (.inr (some sb))), (1, .inr (.inr o1)), (2, .inr (.inr o2))]) (st' := []) (by decide +kernel) rfl rfl ?_
  refine xv_goto E 48 (show decode code 1030 = .ok (.goto (-982), 3) by decide +kernel) rfl ?_
  obtain rfl := Option.some.inj h
  exact xv_w hN rfl
set_option maxHeartbeats 2000000 in
theorem sb999_347 (E : xE G p room_1 s m #[Value.ref sb] c code "ZonedFabricLaw" z0 y0 (z0 + 600000) (y0 + 7302250) 4) (B : meth.sig.returnType = ret ∧ meth.locks = false) (hX : va_X sb N xs s G.2.1) (hbl : sb < G.2.1.size) (hG : G.2.1.size = s.heap.size) (hfin : h_sz M' ≤ z0 + 600000 ∧ h_sl M' ≤ y0 + 7302250) (o1 : Option Nat) (o2 : Option Nat) (v3 : Int32) (si0 : Int32) (si1 : Int32) (si2 : Int32) (sr3 : Option Nat) (si4 : Int32) (M : hM) {res : xRes} (h : b999_347 xs N o1 o2 v3 si0 si1 si2 sr3 si4 M = some res) (hN : xN (pg999 p l e s m below meth c G z0 y0 sb) r M' res) : xV G p l e room_1 s m #[Value.ref sb] below meth c z0 y0 (z0 + 600000) (y0 + 7302250) 4 (lw_Z below #[Value.ref sb] s) 347 [(0, .inr (.inr (some sb))), (1, .inr (.inr o1)), (2, .inr (.inr o2)), (3, .inl v3)] [.inl si0, .inl si1, .inl si2, .inr (.inr sr3), .inl si4] M := by
  unfold b999_347 at h
  obtain ⟨b_441, h442, h⟩ := bd h
  obtain ⟨eh442, th442⟩ := g_o_some h442
  obtain ⟨q_439, h440, h⟩ := bd h
  refine xv_cvo E eh442 12 (as := [.inl si2, .inl si1, .inl si0]) (t237 G l (c_I_some h440)) cd237 mw1379 mw1380 mw1381 (show decode code 347 = .ok (.invokevirtual 43, 3) by decide +kernel) th442 rfl rfl (Nat.le_of_ble_eq_true rfl) ⟨Nat.le_of_ble_eq_true rfl, Nat.le_of_ble_eq_true rfl⟩ ?_
  by_cases q443 : si4 = q_439.1
  · rw [if_pos q443] at h
    refine xv_icmp_eq E 1027 (show decode code 350 = .ok (.if_icmp .eq (677), 3) by decide +kernel) rfl (fun _ => ?_) (fun z => absurd q443 z)
    exact xv_w (sb999_1027 E B hX hbl hG hfin o1 o2 v3 q_439.2 h hN) rfl
  · rw [if_neg q443] at h
    refine xv_icmp_eq E 1027 (show decode code 350 = .ok (.if_icmp .eq (677), 3) by decide +kernel) rfl (fun z => absurd z q443) (fun _ => ?_)
    refine xv_b E [.iconst 0] (pc' := 354) (lv' := [(0, .inr (.inr (some sb))), (1, .inr (.inr o1)), (2, .inr (.inr o2)), (3, .inl v3)]) (st' := [.inl (0 : Int32)]) (by decide +kernel) rfl rfl ?_
    cases h
set_option maxHeartbeats 2000000 in
theorem sb999_320 (E : xE G p room_1 s m #[Value.ref sb] c code "ZonedFabricLaw" z0 y0 (z0 + 600000) (y0 + 7302250) 4) (B : meth.sig.returnType = ret ∧ meth.locks = false) (hX : va_X sb N xs s G.2.1) (hbl : sb < G.2.1.size) (hG : G.2.1.size = s.heap.size) (hfin : h_sz M' ≤ z0 + 600000 ∧ h_sl M' ≤ y0 + 7302250) (o1 : Option Nat) (o2 : Option Nat) (v3 : Int32) (si0 : Int32) (si1 : Int32) (si2 : Int32) (sr3 : Option Nat) (M : hM) {res : xRes} (h : b999_320 xs N o1 o2 v3 si0 si1 si2 sr3 M = some res) (hN : xN (pg999 p l e s m below meth c G z0 y0 sb) r M' res) : xV G p l e room_1 s m #[Value.ref sb] below meth c z0 y0 (z0 + 600000) (y0 + 7302250) 4 (lw_Z below #[Value.ref sb] s) 320 [(0, .inr (.inr (some sb))), (1, .inr (.inr o1)), (2, .inr (.inr o2)), (3, .inl v3)] [.inl si0, .inl si1, .inl si2, .inr (.inr sr3)] M := by
  unfold b999_320 at h
  obtain ⟨b_430, h431, h⟩ := bd h
  obtain ⟨eh431, th431⟩ := g_o_some h431
  obtain ⟨q_428, h429, h⟩ := bd h
  refine xv_cvo E eh431 11 (as := [.inl si2, .inl si1, .inl si0]) (t26 G l (c_I_some h429)) cd26 mw1376 mw1377 mw1378 (show decode code 320 = .ok (.invokevirtual 39, 3) by decide +kernel) th431 rfl rfl (Nat.le_of_ble_eq_true rfl) ⟨Nat.le_of_ble_eq_true rfl, Nat.le_of_ble_eq_true rfl⟩ ?_
  refine xv_b E [.aload_n 2, .aload_n 0, .iload_n 3, .iconst 1, .iadd] (pc' := 328) (lv' := [(0, .inr (.inr (some sb))), (1, .inr (.inr o1)), (2, .inr (.inr o2)), (3, .inl v3)]) (st' := [.inl (v3 + (1 : Int32)), .inr (.inr (some sb)), .inr (.inr o2), .inl q_428.1]) (by decide +kernel) rfl rfl ?_
  obtain ⟨v_432, h433, h⟩ := bd h
  refine xv_sld E hX hbl h433 (show decode code 328 = .ok (.iaload, 1) by decide +kernel) ?_
  refine xv_b E [.aload_n 0, .iload_n 3, .iconst 2, .iadd] (pc' := 333) (lv' := [(0, .inr (.inr (some sb))), (1, .inr (.inr o1)), (2, .inr (.inr o2)), (3, .inl v3)]) (st' := [.inl (v3 + (2 : Int32)), .inr (.inr (some sb)), .inl v_432, .inr (.inr o2), .inl q_428.1]) (by decide +kernel) rfl rfl ?_
  obtain ⟨v_434, h435, h⟩ := bd h
  refine xv_sld E hX hbl h435 (show decode code 333 = .ok (.iaload, 1) by decide +kernel) ?_
  refine xv_b E [.aload_n 0, .iload_n 3, .iconst 3, .iadd] (pc' := 338) (lv' := [(0, .inr (.inr (some sb))), (1, .inr (.inr o1)), (2, .inr (.inr o2)), (3, .inl v3)]) (st' := [.inl (v3 + (3 : Int32)), .inr (.inr (some sb)), .inl v_434, .inl v_432, .inr (.inr o2), .inl q_428.1]) (by decide +kernel) rfl rfl ?_
  obtain ⟨v_436, h437, h⟩ := bd h
  refine xv_sld E hX hbl h437 (show decode code 338 = .ok (.iaload, 1) by decide +kernel) ?_
  by_cases q438 : v_436 = 0
  · rw [if_pos q438] at h
    refine xv_if_eq E 346 (show decode code 339 = .ok (.ifCond .eq (7), 3) by decide +kernel) rfl (fun _ => ?_) (fun z => absurd q438 z)
    refine xv_b E [.iconst 0] (pc' := 347) (lv' := [(0, .inr (.inr (some sb))), (1, .inr (.inr o1)), (2, .inr (.inr o2)), (3, .inl v3)]) (st' := [.inl (0 : Int32), .inl v_434, .inl v_432, .inr (.inr o2), .inl q_428.1]) (by decide +kernel) rfl rfl ?_
    exact xv_w (sb999_347 E B hX hbl hG hfin o1 o2 v3 (0 : Int32) v_434 v_432 o2 q_428.1 q_428.2 h hN) rfl
  · rw [if_neg q438] at h
    refine xv_if_eq E 346 (show decode code 339 = .ok (.ifCond .eq (7), 3) by decide +kernel) rfl (fun z => absurd z q438) (fun _ => ?_)
    refine xv_b E [.iconst 1] (pc' := 343) (lv' := [(0, .inr (.inr (some sb))), (1, .inr (.inr o1)), (2, .inr (.inr o2)), (3, .inl v3)]) (st' := [.inl (1 : Int32), .inl v_434, .inl v_432, .inr (.inr o2), .inl q_428.1]) (by decide +kernel) rfl rfl ?_
    refine xv_goto E 347 (show decode code 343 = .ok (.goto (4), 3) by decide +kernel) rfl ?_
    exact xv_w (sb999_347 E B hX hbl hG hfin o1 o2 v3 (1 : Int32) v_434 v_432 o2 q_428.1 q_428.2 h hN) rfl
set_option maxHeartbeats 2000000 in
theorem sb999_386 (E : xE G p room_1 s m #[Value.ref sb] c code "ZonedFabricLaw" z0 y0 (z0 + 600000) (y0 + 7302250) 4) (B : meth.sig.returnType = ret ∧ meth.locks = false) (hX : va_X sb N xs s G.2.1) (hbl : sb < G.2.1.size) (hG : G.2.1.size = s.heap.size) (hfin : h_sz M' ≤ z0 + 600000 ∧ h_sl M' ≤ y0 + 7302250) (o1 : Option Nat) (o2 : Option Nat) (v3 : Int32) (si0 : Int32) (sr1 : Option Nat) (M : hM) {res : xRes} (h : b999_386 xs N o1 o2 v3 si0 sr1 M = some res) (hN : xN (pg999 p l e s m below meth c G z0 y0 sb) r M' res) : xV G p l e room_1 s m #[Value.ref sb] below meth c z0 y0 (z0 + 600000) (y0 + 7302250) 4 (lw_Z below #[Value.ref sb] s) 386 [(0, .inr (.inr (some sb))), (1, .inr (.inr o1)), (2, .inr (.inr o2)), (3, .inl v3)] [.inl si0, .inr (.inr sr1)] M := by
  unfold b999_386 at h
  obtain ⟨b_453, h454, h⟩ := bd h
  obtain ⟨eh454, th454⟩ := g_o_some h454
  obtain ⟨q_451, h452, h⟩ := bd h
  refine xv_cvo E eh454 12 (as := [.inl si0]) (t238 G l (c_V_some h452)) cd238 mw1385 mw1386 mw1387 (show decode code 386 = .ok (.invokevirtual 48, 3) by decide +kernel) th454 rfl rfl (Nat.le_of_ble_eq_true rfl) ⟨Nat.le_of_ble_eq_true rfl, Nat.le_of_ble_eq_true rfl⟩ ?_
  refine xv_goto E 1027 (show decode code 389 = .ok (.goto (638), 3) by decide +kernel) rfl ?_
  exact xv_w (sb999_1027 E B hX hbl hG hfin o1 o2 v3 q_451 h hN) rfl
set_option maxHeartbeats 2000000 in
theorem sb999_369 (E : xE G p room_1 s m #[Value.ref sb] c code "ZonedFabricLaw" z0 y0 (z0 + 600000) (y0 + 7302250) 4) (B : meth.sig.returnType = ret ∧ meth.locks = false) (hX : va_X sb N xs s G.2.1) (hbl : sb < G.2.1.size) (hG : G.2.1.size = s.heap.size) (hfin : h_sz M' ≤ z0 + 600000 ∧ h_sl M' ≤ y0 + 7302250) (o1 : Option Nat) (o2 : Option Nat) (v3 : Int32) (si0 : Int32) (sr1 : Option Nat) (M : hM) {res : xRes} (h : b999_369 xs N o1 o2 v3 si0 sr1 M = some res) (hN : xN (pg999 p l e s m below meth c G z0 y0 sb) r M' res) : xV G p l e room_1 s m #[Value.ref sb] below meth c z0 y0 (z0 + 600000) (y0 + 7302250) 4 (lw_Z below #[Value.ref sb] s) 369 [(0, .inr (.inr (some sb))), (1, .inr (.inr o1)), (2, .inr (.inr o2)), (3, .inl v3)] [.inl si0, .inr (.inr sr1)] M := by
  unfold b999_369 at h
  obtain ⟨b_446, h447, h⟩ := bd h
  obtain ⟨eh447, th447⟩ := g_o_some h447
  obtain ⟨q_444, h445, h⟩ := bd h
  refine xv_cvo E eh447 11 (as := [.inl si0]) (t27 G l (c_V_some h445)) cd27 mw1382 mw1383 mw1384 (show decode code 369 = .ok (.invokevirtual 44, 3) by decide +kernel) th447 rfl rfl (Nat.le_of_ble_eq_true rfl) ⟨Nat.le_of_ble_eq_true rfl, Nat.le_of_ble_eq_true rfl⟩ ?_
  refine xv_b E [.aload_n 2, .aload_n 0, .iload_n 3, .iconst 1, .iadd] (pc' := 377) (lv' := [(0, .inr (.inr (some sb))), (1, .inr (.inr o1)), (2, .inr (.inr o2)), (3, .inl v3)]) (st' := [.inl (v3 + (1 : Int32)), .inr (.inr (some sb)), .inr (.inr o2)]) (by decide +kernel) rfl rfl ?_
  obtain ⟨v_448, h449, h⟩ := bd h
  refine xv_sld E hX hbl h449 (show decode code 377 = .ok (.iaload, 1) by decide +kernel) ?_
  by_cases q450 : v_448 = 0
  · rw [if_pos q450] at h
    refine xv_if_eq E 385 (show decode code 378 = .ok (.ifCond .eq (7), 3) by decide +kernel) rfl (fun _ => ?_) (fun z => absurd q450 z)
    refine xv_b E [.iconst 0] (pc' := 386) (lv' := [(0, .inr (.inr (some sb))), (1, .inr (.inr o1)), (2, .inr (.inr o2)), (3, .inl v3)]) (st' := [.inl (0 : Int32), .inr (.inr o2)]) (by decide +kernel) rfl rfl ?_
    exact xv_w (sb999_386 E B hX hbl hG hfin o1 o2 v3 (0 : Int32) o2 q_444 h hN) rfl
  · rw [if_neg q450] at h
    refine xv_if_eq E 385 (show decode code 378 = .ok (.ifCond .eq (7), 3) by decide +kernel) rfl (fun z => absurd z q450) (fun _ => ?_)
    refine xv_b E [.iconst 1] (pc' := 382) (lv' := [(0, .inr (.inr (some sb))), (1, .inr (.inr o1)), (2, .inr (.inr o2)), (3, .inl v3)]) (st' := [.inl (1 : Int32), .inr (.inr o2)]) (by decide +kernel) rfl rfl ?_
    refine xv_goto E 386 (show decode code 382 = .ok (.goto (4), 3) by decide +kernel) rfl ?_
    exact xv_w (sb999_386 E B hX hbl hG hfin o1 o2 v3 (1 : Int32) o2 q_444 h hN) rfl
set_option maxHeartbeats 2000000 in
theorem sb999_48 (E : xE G p room_1 s m #[Value.ref sb] c code "ZonedFabricLaw" z0 y0 (z0 + 600000) (y0 + 7302250) 4) (B : meth.sig.returnType = ret ∧ meth.locks = false) (hX : va_X sb N xs s G.2.1) (hbl : sb < G.2.1.size) (hG : G.2.1.size = s.heap.size) (hfin : h_sz M' ≤ z0 + 600000 ∧ h_sl M' ≤ y0 + 7302250) (o1 : Option Nat) (o2 : Option Nat) (v3 : Int32) (M : hM) {res : xRes} (h : b999_48 xs N o1 o2 v3 M = some res) (hN : xN (pg999 p l e s m below meth c G z0 y0 sb) r M' res) : xV G p l e room_1 s m #[Value.ref sb] below meth c z0 y0 (z0 + 600000) (y0 + 7302250) 4 (lw_Z below #[Value.ref sb] s) 48 [(0, .inr (.inr (some sb))), (1, .inr (.inr o1)), (2, .inr (.inr o2)), (3, .inl v3)] [] M := by
  unfold b999_48 at h
  refine xv_b E [.iload_n 3, .aload_n 0] (pc' := 50) (lv' := [(0, .inr (.inr (some sb))), (1, .inr (.inr o1)), (2, .inr (.inr o2)), (3, .inl v3)]) (st' := [.inr (.inr (some sb)), .inl v3]) (by decide +kernel) rfl rfl ?_
  refine xv_slen E hX hbl (show decode code 50 = .ok (.arraylength, 1) by decide +kernel) ?_
  refine xv_b E [.bipush 8, .isub] (pc' := 54) (lv' := [(0, .inr (.inr (some sb))), (1, .inr (.inr o1)), (2, .inr (.inr o2)), (3, .inl v3)]) (st' := [.inl ((Int32.ofNat N) - (8 : Int32)), .inl v3]) (by decide +kernel) rfl rfl ?_
  by_cases q427 : ((Int32.ofNat N) - (8 : Int32)) < v3
  · rw [if_pos q427] at h
    refine xv_icmp_gt E 1033 (show decode code 54 = .ok (.if_icmp .gt (979), 3) by decide +kernel) rfl (fun _ => ?_) (fun z => absurd q427 z)
    refine xv_b E [.iconst 1] (pc' := 1034) (lv' := [(0, .inr (.inr (some sb))), (1, .inr (.inr o1)), (2, .inr (.inr o2)), (3, .inl v3)]) (st' := [.inl (1 : Int32)]) (by decide +kernel) rfl rfl ?_
    obtain rfl := Option.some.inj h
    obtain ⟨-, rfl⟩ := Prod.mk.inj (show ((some (.inl 1) : Option aV), M) = (r, M') from hN)
    exact xv_lret E B.1 B.2 hG hfin (show decode code 1034 = .ok (.ireturn, 1) by decide +kernel)
  · rw [if_neg q427] at h
    refine xv_icmp_gt E 1033 (show decode code 54 = .ok (.if_icmp .gt (979), 3) by decide +kernel) rfl (fun z => absurd z q427) (fun _ => ?_)
    refine xv_b E [.aload_n 0, .iload_n 3] (pc' := 59) (lv' := [(0, .inr (.inr (some sb))), (1, .inr (.inr o1)), (2, .inr (.inr o2)), (3, .inl v3)]) (st' := [.inl v3, .inr (.inr (some sb))]) (by decide +kernel) rfl rfl ?_
    obtain ⟨v_21, h22, h⟩ := bd h
    refine xv_sld E hX hbl h22 (show decode code 59 = .ok (.iaload, 1) by decide +kernel) ?_
    refine xv_b E [.bipush 31, .iand] (pc' := 63) (lv' := [(0, .inr (.inr (some sb))), (1, .inr (.inr o1)), (2, .inr (.inr o2)), (3, .inl v3)]) (st' := [.inl (v_21 &&& (31 : Int32))]) (by decide +kernel) rfl rfl ?_
    by_cases q23 : (v_21 &&& (31 : Int32)) = 0
    · rw [if_pos q23] at h
      refine xv_tabIn E (off := 101) 164 (show decode code 63 = .ok (.tableswitch (964) 0 21 #[101, 124, 187, 210, 233, 292, 329, 362, 405, 428, 491, 598, 621, 655, 688, 732, 765, 808, 851, 874, 918, 941], 101) by decide +kernel) (by rw [q23]; decide) (by rw [q23]; decide) (by rw [q23]; rfl) rfl ?_
      refine xv_b E [.aload_n 1, .aload_n 0, .iload_n 3, .iconst 1, .iadd] (pc' := 169) (lv' := [(0, .inr (.inr (some sb))), (1, .inr (.inr o1)), (2, .inr (.inr o2)), (3, .inl v3)]) (st' := [.inl (v3 + (1 : Int32)), .inr (.inr (some sb)), .inr (.inr o1)]) (by decide +kernel) rfl rfl ?_
      obtain ⟨v_24, h25, h⟩ := bd h
      refine xv_sld E hX hbl h25 (show decode code 169 = .ok (.iaload, 1) by decide +kernel) ?_
      obtain ⟨b_28, h29, h⟩ := bd h
      obtain ⟨eh29, th29⟩ := g_o_some h29
      obtain ⟨q_26, h27, h⟩ := bd h
      refine xv_cvo E eh29 11 (as := [.inl v_24]) (t11 G l (c_I_some h27)) cd11 mw1255 mw1256 mw1257 (show decode code 170 = .ok (.invokevirtual 21, 3) by decide +kernel) th29 rfl rfl (Nat.le_of_ble_eq_true rfl) ⟨Nat.le_of_ble_eq_true rfl, Nat.le_of_ble_eq_true rfl⟩ ?_
      refine xv_b E [.aload_n 2, .aload_n 0, .iload_n 3, .iconst 1, .iadd] (pc' := 178) (lv' := [(0, .inr (.inr (some sb))), (1, .inr (.inr o1)), (2, .inr (.inr o2)), (3, .inl v3)]) (st' := [.inl (v3 + (1 : Int32)), .inr (.inr (some sb)), .inr (.inr o2), .inl q_26.1]) (by decide +kernel) rfl rfl ?_
      obtain ⟨v_30, h31, h⟩ := bd h
      refine xv_sld E hX hbl h31 (show decode code 178 = .ok (.iaload, 1) by decide +kernel) ?_
      obtain ⟨b_34, h35, h⟩ := bd h
      obtain ⟨eh35, th35⟩ := g_o_some h35
      obtain ⟨q_32, h33, h⟩ := bd h
      refine xv_cvo E eh35 12 (as := [.inl v_30]) (t232 G l (c_I_some h33)) cd232 mw1258 mw1259 mw1260 (show decode code 179 = .ok (.invokevirtual 25, 3) by decide +kernel) th35 rfl rfl (Nat.le_of_ble_eq_true rfl) ⟨Nat.le_of_ble_eq_true rfl, Nat.le_of_ble_eq_true rfl⟩ ?_
      by_cases q36 : q_26.1 = q_32.1
      · rw [if_pos q36] at h
        refine xv_icmp_eq E 1027 (show decode code 182 = .ok (.if_icmp .eq (845), 3) by decide +kernel) rfl (fun _ => ?_) (fun z => absurd q36 z)
        exact xv_w (sb999_1027 E B hX hbl hG hfin o1 o2 v3 q_32.2 h hN) rfl
      · rw [if_neg q36] at h
        refine xv_icmp_eq E 1027 (show decode code 182 = .ok (.if_icmp .eq (845), 3) by decide +kernel) rfl (fun z => absurd z q36) (fun _ => ?_)
        refine xv_b E [.iconst 0] (pc' := 186) (lv' := [(0, .inr (.inr (some sb))), (1, .inr (.inr o1)), (2, .inr (.inr o2)), (3, .inl v3)]) (st' := [.inl (0 : Int32)]) (by decide +kernel) rfl rfl ?_
        cases h
    · rw [if_neg q23] at h
      by_cases q37 : (v_21 &&& (31 : Int32)) = 1
      · rw [if_pos q37] at h
        refine xv_tabIn E (off := 124) 187 (show decode code 63 = .ok (.tableswitch (964) 0 21 #[101, 124, 187, 210, 233, 292, 329, 362, 405, 428, 491, 598, 621, 655, 688, 732, 765, 808, 851, 874, 918, 941], 101) by decide +kernel) (by rw [q37]; decide) (by rw [q37]; decide) (by rw [q37]; rfl) rfl ?_
        refine xv_b E [.aload_n 1, .aload_n 0, .iload_n 3, .iconst 1, .iadd] (pc' := 192) (lv' := [(0, .inr (.inr (some sb))), (1, .inr (.inr o1)), (2, .inr (.inr o2)), (3, .inl v3)]) (st' := [.inl (v3 + (1 : Int32)), .inr (.inr (some sb)), .inr (.inr o1)]) (by decide +kernel) rfl rfl ?_
        obtain ⟨v_38, h39, h⟩ := bd h
        refine xv_sld E hX hbl h39 (show decode code 192 = .ok (.iaload, 1) by decide +kernel) ?_
        refine xv_b E [.aload_n 0, .iload_n 3, .iconst 2, .iadd] (pc' := 197) (lv' := [(0, .inr (.inr (some sb))), (1, .inr (.inr o1)), (2, .inr (.inr o2)), (3, .inl v3)]) (st' := [.inl (v3 + (2 : Int32)), .inr (.inr (some sb)), .inl v_38, .inr (.inr o1)]) (by decide +kernel) rfl rfl ?_
        obtain ⟨v_40, h41, h⟩ := bd h
        refine xv_sld E hX hbl h41 (show decode code 197 = .ok (.iaload, 1) by decide +kernel) ?_
        refine xv_b E [.aload_n 0, .iload_n 3, .iconst 3, .iadd] (pc' := 202) (lv' := [(0, .inr (.inr (some sb))), (1, .inr (.inr o1)), (2, .inr (.inr o2)), (3, .inl v3)]) (st' := [.inl (v3 + (3 : Int32)), .inr (.inr (some sb)), .inl v_40, .inl v_38, .inr (.inr o1)]) (by decide +kernel) rfl rfl ?_
        obtain ⟨v_42, h43, h⟩ := bd h
        refine xv_sld E hX hbl h43 (show decode code 202 = .ok (.iaload, 1) by decide +kernel) ?_
        refine xv_b E [.aload_n 0, .iload_n 3, .iconst 4, .iadd] (pc' := 207) (lv' := [(0, .inr (.inr (some sb))), (1, .inr (.inr o1)), (2, .inr (.inr o2)), (3, .inl v3)]) (st' := [.inl (v3 + (4 : Int32)), .inr (.inr (some sb)), .inl v_42, .inl v_40, .inl v_38, .inr (.inr o1)]) (by decide +kernel) rfl rfl ?_
        obtain ⟨v_44, h45, h⟩ := bd h
        refine xv_sld E hX hbl h45 (show decode code 207 = .ok (.iaload, 1) by decide +kernel) ?_
        refine xv_b E [.aload_n 0, .iload_n 3, .iconst 5, .iadd] (pc' := 212) (lv' := [(0, .inr (.inr (some sb))), (1, .inr (.inr o1)), (2, .inr (.inr o2)), (3, .inl v3)]) (st' := [.inl (v3 + (5 : Int32)), .inr (.inr (some sb)), .inl v_44, .inl v_42, .inl v_40, .inl v_38, .inr (.inr o1)]) (by decide +kernel) rfl rfl ?_
        obtain ⟨v_46, h47, h⟩ := bd h
        refine xv_sld E hX hbl h47 (show decode code 212 = .ok (.iaload, 1) by decide +kernel) ?_
        obtain ⟨b_50, h51, h⟩ := bd h
        obtain ⟨eh51, th51⟩ := g_o_some h51
        obtain ⟨q_48, h49, h⟩ := bd h
        refine xv_cvo E eh51 11 (as := [.inl v_38, .inl v_40, .inl v_42, .inl v_44, .inl v_46]) (t15 G l (c_I_some h49)) cd15 mw1261 mw1262 mw1263 (show decode code 213 = .ok (.invokevirtual 26, 3) by decide +kernel) th51 rfl rfl (Nat.le_of_ble_eq_true rfl) ⟨Nat.le_of_ble_eq_true rfl, Nat.le_of_ble_eq_true rfl⟩ ?_
        refine xv_b E [.aload_n 2, .aload_n 0, .iload_n 3, .iconst 1, .iadd] (pc' := 221) (lv' := [(0, .inr (.inr (some sb))), (1, .inr (.inr o1)), (2, .inr (.inr o2)), (3, .inl v3)]) (st' := [.inl (v3 + (1 : Int32)), .inr (.inr (some sb)), .inr (.inr o2), .inl q_48.1]) (by decide +kernel) rfl rfl ?_
        obtain ⟨v_52, h53, h⟩ := bd h
        refine xv_sld E hX hbl h53 (show decode code 221 = .ok (.iaload, 1) by decide +kernel) ?_
        refine xv_b E [.aload_n 0, .iload_n 3, .iconst 2, .iadd] (pc' := 226) (lv' := [(0, .inr (.inr (some sb))), (1, .inr (.inr o1)), (2, .inr (.inr o2)), (3, .inl v3)]) (st' := [.inl (v3 + (2 : Int32)), .inr (.inr (some sb)), .inl v_52, .inr (.inr o2), .inl q_48.1]) (by decide +kernel) rfl rfl ?_
        obtain ⟨v_54, h55, h⟩ := bd h
        refine xv_sld E hX hbl h55 (show decode code 226 = .ok (.iaload, 1) by decide +kernel) ?_
        refine xv_b E [.aload_n 0, .iload_n 3, .iconst 3, .iadd] (pc' := 231) (lv' := [(0, .inr (.inr (some sb))), (1, .inr (.inr o1)), (2, .inr (.inr o2)), (3, .inl v3)]) (st' := [.inl (v3 + (3 : Int32)), .inr (.inr (some sb)), .inl v_54, .inl v_52, .inr (.inr o2), .inl q_48.1]) (by decide +kernel) rfl rfl ?_
        obtain ⟨v_56, h57, h⟩ := bd h
        refine xv_sld E hX hbl h57 (show decode code 231 = .ok (.iaload, 1) by decide +kernel) ?_
        refine xv_b E [.aload_n 0, .iload_n 3, .iconst 4, .iadd] (pc' := 236) (lv' := [(0, .inr (.inr (some sb))), (1, .inr (.inr o1)), (2, .inr (.inr o2)), (3, .inl v3)]) (st' := [.inl (v3 + (4 : Int32)), .inr (.inr (some sb)), .inl v_56, .inl v_54, .inl v_52, .inr (.inr o2), .inl q_48.1]) (by decide +kernel) rfl rfl ?_
        obtain ⟨v_58, h59, h⟩ := bd h
        refine xv_sld E hX hbl h59 (show decode code 236 = .ok (.iaload, 1) by decide +kernel) ?_
        refine xv_b E [.aload_n 0, .iload_n 3, .iconst 5, .iadd] (pc' := 241) (lv' := [(0, .inr (.inr (some sb))), (1, .inr (.inr o1)), (2, .inr (.inr o2)), (3, .inl v3)]) (st' := [.inl (v3 + (5 : Int32)), .inr (.inr (some sb)), .inl v_58, .inl v_56, .inl v_54, .inl v_52, .inr (.inr o2), .inl q_48.1]) (by decide +kernel) rfl rfl ?_
        obtain ⟨v_60, h61, h⟩ := bd h
        refine xv_sld E hX hbl h61 (show decode code 241 = .ok (.iaload, 1) by decide +kernel) ?_
        obtain ⟨b_64, h65, h⟩ := bd h
        obtain ⟨eh65, th65⟩ := g_o_some h65
        obtain ⟨q_62, h63, h⟩ := bd h
        refine xv_cvo E eh65 12 (as := [.inl v_52, .inl v_54, .inl v_56, .inl v_58, .inl v_60]) (t233 G l (c_I_some h63)) cd233 mw1264 mw1265 mw1266 (show decode code 242 = .ok (.invokevirtual 30, 3) by decide +kernel) th65 rfl rfl (Nat.le_of_ble_eq_true rfl) ⟨Nat.le_of_ble_eq_true rfl, Nat.le_of_ble_eq_true rfl⟩ ?_
        by_cases q66 : q_48.1 = q_62.1
        · rw [if_pos q66] at h
          refine xv_icmp_eq E 1027 (show decode code 245 = .ok (.if_icmp .eq (782), 3) by decide +kernel) rfl (fun _ => ?_) (fun z => absurd q66 z)
          exact xv_w (sb999_1027 E B hX hbl hG hfin o1 o2 v3 q_62.2 h hN) rfl
        · rw [if_neg q66] at h
          refine xv_icmp_eq E 1027 (show decode code 245 = .ok (.if_icmp .eq (782), 3) by decide +kernel) rfl (fun z => absurd z q66) (fun _ => ?_)
          refine xv_b E [.iconst 0] (pc' := 249) (lv' := [(0, .inr (.inr (some sb))), (1, .inr (.inr o1)), (2, .inr (.inr o2)), (3, .inl v3)]) (st' := [.inl (0 : Int32)]) (by decide +kernel) rfl rfl ?_
          cases h
      · rw [if_neg q37] at h
        by_cases q67 : (v_21 &&& (31 : Int32)) = 2
        · rw [if_pos q67] at h
          refine xv_tabIn E (off := 187) 250 (show decode code 63 = .ok (.tableswitch (964) 0 21 #[101, 124, 187, 210, 233, 292, 329, 362, 405, 428, 491, 598, 621, 655, 688, 732, 765, 808, 851, 874, 918, 941], 101) by decide +kernel) (by rw [q67]; decide) (by rw [q67]; decide) (by rw [q67]; rfl) rfl ?_
          refine xv_b E [.aload_n 1, .aload_n 0, .iload_n 3, .iconst 1, .iadd] (pc' := 255) (lv' := [(0, .inr (.inr (some sb))), (1, .inr (.inr o1)), (2, .inr (.inr o2)), (3, .inl v3)]) (st' := [.inl (v3 + (1 : Int32)), .inr (.inr (some sb)), .inr (.inr o1)]) (by decide +kernel) rfl rfl ?_
          obtain ⟨v_68, h69, h⟩ := bd h
          refine xv_sld E hX hbl h69 (show decode code 255 = .ok (.iaload, 1) by decide +kernel) ?_
          obtain ⟨b_72, h73, h⟩ := bd h
          obtain ⟨eh73, th73⟩ := g_o_some h73
          obtain ⟨q_70, h71, h⟩ := bd h
          refine xv_cvo E eh73 11 (as := [.inl v_68]) (t24 G l (c_I_some h71)) cd24 mw1267 mw1268 mw1269 (show decode code 256 = .ok (.invokevirtual 31, 3) by decide +kernel) th73 rfl rfl (Nat.le_of_ble_eq_true rfl) ⟨Nat.le_of_ble_eq_true rfl, Nat.le_of_ble_eq_true rfl⟩ ?_
          refine xv_b E [.aload_n 2, .aload_n 0, .iload_n 3, .iconst 1, .iadd] (pc' := 264) (lv' := [(0, .inr (.inr (some sb))), (1, .inr (.inr o1)), (2, .inr (.inr o2)), (3, .inl v3)]) (st' := [.inl (v3 + (1 : Int32)), .inr (.inr (some sb)), .inr (.inr o2), .inl q_70.1]) (by decide +kernel) rfl rfl ?_
          obtain ⟨v_74, h75, h⟩ := bd h
          refine xv_sld E hX hbl h75 (show decode code 264 = .ok (.iaload, 1) by decide +kernel) ?_
          obtain ⟨b_78, h79, h⟩ := bd h
          obtain ⟨eh79, th79⟩ := g_o_some h79
          obtain ⟨q_76, h77, h⟩ := bd h
          refine xv_cvo E eh79 12 (as := [.inl v_74]) (t235 G l (c_I_some h77)) cd235 mw1270 mw1271 mw1272 (show decode code 265 = .ok (.invokevirtual 34, 3) by decide +kernel) th79 rfl rfl (Nat.le_of_ble_eq_true rfl) ⟨Nat.le_of_ble_eq_true rfl, Nat.le_of_ble_eq_true rfl⟩ ?_
          by_cases q80 : q_70.1 = q_76.1
          · rw [if_pos q80] at h
            refine xv_icmp_eq E 1027 (show decode code 268 = .ok (.if_icmp .eq (759), 3) by decide +kernel) rfl (fun _ => ?_) (fun z => absurd q80 z)
            exact xv_w (sb999_1027 E B hX hbl hG hfin o1 o2 v3 q_76.2 h hN) rfl
          · rw [if_neg q80] at h
            refine xv_icmp_eq E 1027 (show decode code 268 = .ok (.if_icmp .eq (759), 3) by decide +kernel) rfl (fun z => absurd z q80) (fun _ => ?_)
            refine xv_b E [.iconst 0] (pc' := 272) (lv' := [(0, .inr (.inr (some sb))), (1, .inr (.inr o1)), (2, .inr (.inr o2)), (3, .inl v3)]) (st' := [.inl (0 : Int32)]) (by decide +kernel) rfl rfl ?_
            cases h
        · rw [if_neg q67] at h
          by_cases q81 : (v_21 &&& (31 : Int32)) = 3
          · rw [if_pos q81] at h
            refine xv_tabIn E (off := 210) 273 (show decode code 63 = .ok (.tableswitch (964) 0 21 #[101, 124, 187, 210, 233, 292, 329, 362, 405, 428, 491, 598, 621, 655, 688, 732, 765, 808, 851, 874, 918, 941], 101) by decide +kernel) (by rw [q81]; decide) (by rw [q81]; decide) (by rw [q81]; rfl) rfl ?_
            refine xv_b E [.aload_n 1, .aload_n 0, .iload_n 3, .iconst 1, .iadd] (pc' := 278) (lv' := [(0, .inr (.inr (some sb))), (1, .inr (.inr o1)), (2, .inr (.inr o2)), (3, .inl v3)]) (st' := [.inl (v3 + (1 : Int32)), .inr (.inr (some sb)), .inr (.inr o1)]) (by decide +kernel) rfl rfl ?_
            obtain ⟨v_82, h83, h⟩ := bd h
            refine xv_sld E hX hbl h83 (show decode code 278 = .ok (.iaload, 1) by decide +kernel) ?_
            obtain ⟨b_86, h87, h⟩ := bd h
            obtain ⟨eh87, th87⟩ := g_o_some h87
            obtain ⟨q_84, h85, h⟩ := bd h
            refine xv_cvo E eh87 11 (as := [.inl v_82]) (t25 G l (c_I_some h85)) cd25 mw1273 mw1274 mw1275 (show decode code 279 = .ok (.invokevirtual 35, 3) by decide +kernel) th87 rfl rfl (Nat.le_of_ble_eq_true rfl) ⟨Nat.le_of_ble_eq_true rfl, Nat.le_of_ble_eq_true rfl⟩ ?_
            refine xv_b E [.aload_n 2, .aload_n 0, .iload_n 3, .iconst 1, .iadd] (pc' := 287) (lv' := [(0, .inr (.inr (some sb))), (1, .inr (.inr o1)), (2, .inr (.inr o2)), (3, .inl v3)]) (st' := [.inl (v3 + (1 : Int32)), .inr (.inr (some sb)), .inr (.inr o2), .inl q_84.1]) (by decide +kernel) rfl rfl ?_
            obtain ⟨v_88, h89, h⟩ := bd h
            refine xv_sld E hX hbl h89 (show decode code 287 = .ok (.iaload, 1) by decide +kernel) ?_
            obtain ⟨b_92, h93, h⟩ := bd h
            obtain ⟨eh93, th93⟩ := g_o_some h93
            obtain ⟨q_90, h91, h⟩ := bd h
            refine xv_cvo E eh93 12 (as := [.inl v_88]) (t236 G l (c_I_some h91)) cd236 mw1276 mw1277 mw1278 (show decode code 288 = .ok (.invokevirtual 38, 3) by decide +kernel) th93 rfl rfl (Nat.le_of_ble_eq_true rfl) ⟨Nat.le_of_ble_eq_true rfl, Nat.le_of_ble_eq_true rfl⟩ ?_
            by_cases q94 : q_84.1 = q_90.1
            · rw [if_pos q94] at h
              refine xv_icmp_eq E 1027 (show decode code 291 = .ok (.if_icmp .eq (736), 3) by decide +kernel) rfl (fun _ => ?_) (fun z => absurd q94 z)
              exact xv_w (sb999_1027 E B hX hbl hG hfin o1 o2 v3 q_90.2 h hN) rfl
            · rw [if_neg q94] at h
              refine xv_icmp_eq E 1027 (show decode code 291 = .ok (.if_icmp .eq (736), 3) by decide +kernel) rfl (fun z => absurd z q94) (fun _ => ?_)
              refine xv_b E [.iconst 0] (pc' := 295) (lv' := [(0, .inr (.inr (some sb))), (1, .inr (.inr o1)), (2, .inr (.inr o2)), (3, .inl v3)]) (st' := [.inl (0 : Int32)]) (by decide +kernel) rfl rfl ?_
              cases h
          · rw [if_neg q81] at h
            by_cases q95 : (v_21 &&& (31 : Int32)) = 4
            · rw [if_pos q95] at h
              refine xv_tabIn E (off := 233) 296 (show decode code 63 = .ok (.tableswitch (964) 0 21 #[101, 124, 187, 210, 233, 292, 329, 362, 405, 428, 491, 598, 621, 655, 688, 732, 765, 808, 851, 874, 918, 941], 101) by decide +kernel) (by rw [q95]; decide) (by rw [q95]; decide) (by rw [q95]; rfl) rfl ?_
              refine xv_b E [.aload_n 1, .aload_n 0, .iload_n 3, .iconst 1, .iadd] (pc' := 301) (lv' := [(0, .inr (.inr (some sb))), (1, .inr (.inr o1)), (2, .inr (.inr o2)), (3, .inl v3)]) (st' := [.inl (v3 + (1 : Int32)), .inr (.inr (some sb)), .inr (.inr o1)]) (by decide +kernel) rfl rfl ?_
              obtain ⟨v_96, h97, h⟩ := bd h
              refine xv_sld E hX hbl h97 (show decode code 301 = .ok (.iaload, 1) by decide +kernel) ?_
              refine xv_b E [.aload_n 0, .iload_n 3, .iconst 2, .iadd] (pc' := 306) (lv' := [(0, .inr (.inr (some sb))), (1, .inr (.inr o1)), (2, .inr (.inr o2)), (3, .inl v3)]) (st' := [.inl (v3 + (2 : Int32)), .inr (.inr (some sb)), .inl v_96, .inr (.inr o1)]) (by decide +kernel) rfl rfl ?_
              obtain ⟨v_98, h99, h⟩ := bd h
              refine xv_sld E hX hbl h99 (show decode code 306 = .ok (.iaload, 1) by decide +kernel) ?_
              refine xv_b E [.aload_n 0, .iload_n 3, .iconst 3, .iadd] (pc' := 311) (lv' := [(0, .inr (.inr (some sb))), (1, .inr (.inr o1)), (2, .inr (.inr o2)), (3, .inl v3)]) (st' := [.inl (v3 + (3 : Int32)), .inr (.inr (some sb)), .inl v_98, .inl v_96, .inr (.inr o1)]) (by decide +kernel) rfl rfl ?_
              obtain ⟨v_100, h101, h⟩ := bd h
              refine xv_sld E hX hbl h101 (show decode code 311 = .ok (.iaload, 1) by decide +kernel) ?_
              by_cases q102 : v_100 = 0
              · rw [if_pos q102] at h
                refine xv_if_eq E 319 (show decode code 312 = .ok (.ifCond .eq (7), 3) by decide +kernel) rfl (fun _ => ?_) (fun z => absurd q102 z)
                refine xv_b E [.iconst 0] (pc' := 320) (lv' := [(0, .inr (.inr (some sb))), (1, .inr (.inr o1)), (2, .inr (.inr o2)), (3, .inl v3)]) (st' := [.inl (0 : Int32), .inl v_98, .inl v_96, .inr (.inr o1)]) (by decide +kernel) rfl rfl ?_
                exact xv_w (sb999_320 E B hX hbl hG hfin o1 o2 v3 (0 : Int32) v_98 v_96 o1 M h hN) rfl
              · rw [if_neg q102] at h
                refine xv_if_eq E 319 (show decode code 312 = .ok (.ifCond .eq (7), 3) by decide +kernel) rfl (fun z => absurd z q102) (fun _ => ?_)
                refine xv_b E [.iconst 1] (pc' := 316) (lv' := [(0, .inr (.inr (some sb))), (1, .inr (.inr o1)), (2, .inr (.inr o2)), (3, .inl v3)]) (st' := [.inl (1 : Int32), .inl v_98, .inl v_96, .inr (.inr o1)]) (by decide +kernel) rfl rfl ?_
                refine xv_goto E 320 (show decode code 316 = .ok (.goto (4), 3) by decide +kernel) rfl ?_
                exact xv_w (sb999_320 E B hX hbl hG hfin o1 o2 v3 (1 : Int32) v_98 v_96 o1 M h hN) rfl
            · rw [if_neg q95] at h
              by_cases q103 : (v_21 &&& (31 : Int32)) = 5
              · rw [if_pos q103] at h
                refine xv_tabIn E (off := 292) 355 (show decode code 63 = .ok (.tableswitch (964) 0 21 #[101, 124, 187, 210, 233, 292, 329, 362, 405, 428, 491, 598, 621, 655, 688, 732, 765, 808, 851, 874, 918, 941], 101) by decide +kernel) (by rw [q103]; decide) (by rw [q103]; decide) (by rw [q103]; rfl) rfl ?_
                refine xv_b E [.aload_n 1, .aload_n 0, .iload_n 3, .iconst 1, .iadd] (pc' := 360) (lv' := [(0, .inr (.inr (some sb))), (1, .inr (.inr o1)), (2, .inr (.inr o2)), (3, .inl v3)]) (st' := [.inl (v3 + (1 : Int32)), .inr (.inr (some sb)), .inr (.inr o1)]) (by decide +kernel) rfl rfl ?_
                obtain ⟨v_104, h105, h⟩ := bd h
                refine xv_sld E hX hbl h105 (show decode code 360 = .ok (.iaload, 1) by decide +kernel) ?_
                by_cases q106 : v_104 = 0
                · rw [if_pos q106] at h
                  refine xv_if_eq E 368 (show decode code 361 = .ok (.ifCond .eq (7), 3) by decide +kernel) rfl (fun _ => ?_) (fun z => absurd q106 z)
                  refine xv_b E [.iconst 0] (pc' := 369) (lv' := [(0, .inr (.inr (some sb))), (1, .inr (.inr o1)), (2, .inr (.inr o2)), (3, .inl v3)]) (st' := [.inl (0 : Int32), .inr (.inr o1)]) (by decide +kernel) rfl rfl ?_
                  exact xv_w (sb999_369 E B hX hbl hG hfin o1 o2 v3 (0 : Int32) o1 M h hN) rfl
                · rw [if_neg q106] at h
                  refine xv_if_eq E 368 (show decode code 361 = .ok (.ifCond .eq (7), 3) by decide +kernel) rfl (fun z => absurd z q106) (fun _ => ?_)
                  refine xv_b E [.iconst 1] (pc' := 365) (lv' := [(0, .inr (.inr (some sb))), (1, .inr (.inr o1)), (2, .inr (.inr o2)), (3, .inl v3)]) (st' := [.inl (1 : Int32), .inr (.inr o1)]) (by decide +kernel) rfl rfl ?_
                  refine xv_goto E 369 (show decode code 365 = .ok (.goto (4), 3) by decide +kernel) rfl ?_
                  exact xv_w (sb999_369 E B hX hbl hG hfin o1 o2 v3 (1 : Int32) o1 M h hN) rfl
              · rw [if_neg q103] at h
                by_cases q107 : (v_21 &&& (31 : Int32)) = 6
                · rw [if_pos q107] at h
                  refine xv_tabIn E (off := 329) 392 (show decode code 63 = .ok (.tableswitch (964) 0 21 #[101, 124, 187, 210, 233, 292, 329, 362, 405, 428, 491, 598, 621, 655, 688, 732, 765, 808, 851, 874, 918, 941], 101) by decide +kernel) (by rw [q107]; decide) (by rw [q107]; decide) (by rw [q107]; rfl) rfl ?_
                  refine xv_b E [.aload_n 1, .aload_n 0, .iload_n 3, .iconst 1, .iadd] (pc' := 397) (lv' := [(0, .inr (.inr (some sb))), (1, .inr (.inr o1)), (2, .inr (.inr o2)), (3, .inl v3)]) (st' := [.inl (v3 + (1 : Int32)), .inr (.inr (some sb)), .inr (.inr o1)]) (by decide +kernel) rfl rfl ?_
                  obtain ⟨v_108, h109, h⟩ := bd h
                  refine xv_sld E hX hbl h109 (show decode code 397 = .ok (.iaload, 1) by decide +kernel) ?_
                  refine xv_b E [.aload_n 0, .iload_n 3, .iconst 2, .iadd] (pc' := 402) (lv' := [(0, .inr (.inr (some sb))), (1, .inr (.inr o1)), (2, .inr (.inr o2)), (3, .inl v3)]) (st' := [.inl (v3 + (2 : Int32)), .inr (.inr (some sb)), .inl v_108, .inr (.inr o1)]) (by decide +kernel) rfl rfl ?_
                  obtain ⟨v_110, h111, h⟩ := bd h
                  refine xv_sld E hX hbl h111 (show decode code 402 = .ok (.iaload, 1) by decide +kernel) ?_
                  obtain ⟨b_114, h115, h⟩ := bd h
                  obtain ⟨eh115, th115⟩ := g_o_some h115
                  obtain ⟨q_112, h113, h⟩ := bd h
                  refine xv_cvo E eh115 11 (as := [.inl v_108, .inl v_110]) (t28 G l (c_I_some h113)) cd28 mw1279 mw1280 mw1281 (show decode code 403 = .ok (.invokevirtual 49, 3) by decide +kernel) th115 rfl rfl (Nat.le_of_ble_eq_true rfl) ⟨Nat.le_of_ble_eq_true rfl, Nat.le_of_ble_eq_true rfl⟩ ?_
                  refine xv_b E [.aload_n 2, .aload_n 0, .iload_n 3, .iconst 1, .iadd] (pc' := 411) (lv' := [(0, .inr (.inr (some sb))), (1, .inr (.inr o1)), (2, .inr (.inr o2)), (3, .inl v3)]) (st' := [.inl (v3 + (1 : Int32)), .inr (.inr (some sb)), .inr (.inr o2), .inl q_112.1]) (by decide +kernel) rfl rfl ?_
                  obtain ⟨v_116, h117, h⟩ := bd h
                  refine xv_sld E hX hbl h117 (show decode code 411 = .ok (.iaload, 1) by decide +kernel) ?_
                  refine xv_b E [.aload_n 0, .iload_n 3, .iconst 2, .iadd] (pc' := 416) (lv' := [(0, .inr (.inr (some sb))), (1, .inr (.inr o1)), (2, .inr (.inr o2)), (3, .inl v3)]) (st' := [.inl (v3 + (2 : Int32)), .inr (.inr (some sb)), .inl v_116, .inr (.inr o2), .inl q_112.1]) (by decide +kernel) rfl rfl ?_
                  obtain ⟨v_118, h119, h⟩ := bd h
                  refine xv_sld E hX hbl h119 (show decode code 416 = .ok (.iaload, 1) by decide +kernel) ?_
                  obtain ⟨b_122, h123, h⟩ := bd h
                  obtain ⟨eh123, th123⟩ := g_o_some h123
                  obtain ⟨q_120, h121, h⟩ := bd h
                  refine xv_cvo E eh123 12 (as := [.inl v_116, .inl v_118]) (t239 G l (c_I_some h121)) cd239 mw1282 mw1283 mw1284 (show decode code 417 = .ok (.invokevirtual 53, 3) by decide +kernel) th123 rfl rfl (Nat.le_of_ble_eq_true rfl) ⟨Nat.le_of_ble_eq_true rfl, Nat.le_of_ble_eq_true rfl⟩ ?_
                  by_cases q124 : q_112.1 = q_120.1
                  · rw [if_pos q124] at h
                    refine xv_icmp_eq E 1027 (show decode code 420 = .ok (.if_icmp .eq (607), 3) by decide +kernel) rfl (fun _ => ?_) (fun z => absurd q124 z)
                    exact xv_w (sb999_1027 E B hX hbl hG hfin o1 o2 v3 q_120.2 h hN) rfl
                  · rw [if_neg q124] at h
                    refine xv_icmp_eq E 1027 (show decode code 420 = .ok (.if_icmp .eq (607), 3) by decide +kernel) rfl (fun z => absurd z q124) (fun _ => ?_)
                    refine xv_b E [.iconst 0] (pc' := 424) (lv' := [(0, .inr (.inr (some sb))), (1, .inr (.inr o1)), (2, .inr (.inr o2)), (3, .inl v3)]) (st' := [.inl (0 : Int32)]) (by decide +kernel) rfl rfl ?_
                    cases h
                · rw [if_neg q107] at h
                  by_cases q125 : (v_21 &&& (31 : Int32)) = 7
                  · rw [if_pos q125] at h
                    refine xv_tabIn E (off := 362) 425 (show decode code 63 = .ok (.tableswitch (964) 0 21 #[101, 124, 187, 210, 233, 292, 329, 362, 405, 428, 491, 598, 621, 655, 688, 732, 765, 808, 851, 874, 918, 941], 101) by decide +kernel) (by rw [q125]; decide) (by rw [q125]; decide) (by rw [q125]; rfl) rfl ?_
                    refine xv_b E [.aload_n 1, .aload_n 0, .iload_n 3, .iconst 1, .iadd] (pc' := 430) (lv' := [(0, .inr (.inr (some sb))), (1, .inr (.inr o1)), (2, .inr (.inr o2)), (3, .inl v3)]) (st' := [.inl (v3 + (1 : Int32)), .inr (.inr (some sb)), .inr (.inr o1)]) (by decide +kernel) rfl rfl ?_
                    obtain ⟨v_126, h127, h⟩ := bd h
                    refine xv_sld E hX hbl h127 (show decode code 430 = .ok (.iaload, 1) by decide +kernel) ?_
                    refine xv_b E [.aload_n 0, .iload_n 3, .iconst 2, .iadd] (pc' := 435) (lv' := [(0, .inr (.inr (some sb))), (1, .inr (.inr o1)), (2, .inr (.inr o2)), (3, .inl v3)]) (st' := [.inl (v3 + (2 : Int32)), .inr (.inr (some sb)), .inl v_126, .inr (.inr o1)]) (by decide +kernel) rfl rfl ?_
                    obtain ⟨v_128, h129, h⟩ := bd h
                    refine xv_sld E hX hbl h129 (show decode code 435 = .ok (.iaload, 1) by decide +kernel) ?_
                    refine xv_b E [.aload_n 0, .iload_n 3, .iconst 3, .iadd] (pc' := 440) (lv' := [(0, .inr (.inr (some sb))), (1, .inr (.inr o1)), (2, .inr (.inr o2)), (3, .inl v3)]) (st' := [.inl (v3 + (3 : Int32)), .inr (.inr (some sb)), .inl v_128, .inl v_126, .inr (.inr o1)]) (by decide +kernel) rfl rfl ?_
                    obtain ⟨v_130, h131, h⟩ := bd h
                    refine xv_sld E hX hbl h131 (show decode code 440 = .ok (.iaload, 1) by decide +kernel) ?_
                    obtain ⟨b_134, h135, h⟩ := bd h
                    obtain ⟨eh135, th135⟩ := g_o_some h135
                    obtain ⟨q_132, h133, h⟩ := bd h
                    refine xv_cvo E eh135 11 (as := [.inl v_126, .inl v_128, .inl v_130]) (t31 G l (c_I_some h133)) cd31 mw1285 mw1286 mw1287 (show decode code 441 = .ok (.invokevirtual 54, 3) by decide +kernel) th135 rfl rfl (Nat.le_of_ble_eq_true rfl) ⟨Nat.le_of_ble_eq_true rfl, Nat.le_of_ble_eq_true rfl⟩ ?_
                    refine xv_b E [.aload_n 2, .aload_n 0, .iload_n 3, .iconst 1, .iadd] (pc' := 449) (lv' := [(0, .inr (.inr (some sb))), (1, .inr (.inr o1)), (2, .inr (.inr o2)), (3, .inl v3)]) (st' := [.inl (v3 + (1 : Int32)), .inr (.inr (some sb)), .inr (.inr o2), .inl q_132.1]) (by decide +kernel) rfl rfl ?_
                    obtain ⟨v_136, h137, h⟩ := bd h
                    refine xv_sld E hX hbl h137 (show decode code 449 = .ok (.iaload, 1) by decide +kernel) ?_
                    refine xv_b E [.aload_n 0, .iload_n 3, .iconst 2, .iadd] (pc' := 454) (lv' := [(0, .inr (.inr (some sb))), (1, .inr (.inr o1)), (2, .inr (.inr o2)), (3, .inl v3)]) (st' := [.inl (v3 + (2 : Int32)), .inr (.inr (some sb)), .inl v_136, .inr (.inr o2), .inl q_132.1]) (by decide +kernel) rfl rfl ?_
                    obtain ⟨v_138, h139, h⟩ := bd h
                    refine xv_sld E hX hbl h139 (show decode code 454 = .ok (.iaload, 1) by decide +kernel) ?_
                    refine xv_b E [.aload_n 0, .iload_n 3, .iconst 3, .iadd] (pc' := 459) (lv' := [(0, .inr (.inr (some sb))), (1, .inr (.inr o1)), (2, .inr (.inr o2)), (3, .inl v3)]) (st' := [.inl (v3 + (3 : Int32)), .inr (.inr (some sb)), .inl v_138, .inl v_136, .inr (.inr o2), .inl q_132.1]) (by decide +kernel) rfl rfl ?_
                    obtain ⟨v_140, h141, h⟩ := bd h
                    refine xv_sld E hX hbl h141 (show decode code 459 = .ok (.iaload, 1) by decide +kernel) ?_
                    obtain ⟨b_144, h145, h⟩ := bd h
                    obtain ⟨eh145, th145⟩ := g_o_some h145
                    obtain ⟨q_142, h143, h⟩ := bd h
                    refine xv_cvo E eh145 12 (as := [.inl v_136, .inl v_138, .inl v_140]) (t241 G l (c_I_some h143)) cd241 mw1288 mw1289 mw1290 (show decode code 460 = .ok (.invokevirtual 58, 3) by decide +kernel) th145 rfl rfl (Nat.le_of_ble_eq_true rfl) ⟨Nat.le_of_ble_eq_true rfl, Nat.le_of_ble_eq_true rfl⟩ ?_
                    by_cases q146 : q_132.1 = q_142.1
                    · rw [if_pos q146] at h
                      refine xv_icmp_eq E 1027 (show decode code 463 = .ok (.if_icmp .eq (564), 3) by decide +kernel) rfl (fun _ => ?_) (fun z => absurd q146 z)
                      exact xv_w (sb999_1027 E B hX hbl hG hfin o1 o2 v3 q_142.2 h hN) rfl
                    · rw [if_neg q146] at h
                      refine xv_icmp_eq E 1027 (show decode code 463 = .ok (.if_icmp .eq (564), 3) by decide +kernel) rfl (fun z => absurd z q146) (fun _ => ?_)
                      refine xv_b E [.iconst 0] (pc' := 467) (lv' := [(0, .inr (.inr (some sb))), (1, .inr (.inr o1)), (2, .inr (.inr o2)), (3, .inl v3)]) (st' := [.inl (0 : Int32)]) (by decide +kernel) rfl rfl ?_
                      cases h
                  · rw [if_neg q125] at h
                    by_cases q147 : (v_21 &&& (31 : Int32)) = 8
                    · rw [if_pos q147] at h
                      refine xv_tabIn E (off := 405) 468 (show decode code 63 = .ok (.tableswitch (964) 0 21 #[101, 124, 187, 210, 233, 292, 329, 362, 405, 428, 491, 598, 621, 655, 688, 732, 765, 808, 851, 874, 918, 941], 101) by decide +kernel) (by rw [q147]; decide) (by rw [q147]; decide) (by rw [q147]; rfl) rfl ?_
                      refine xv_b E [.aload_n 1, .aload_n 0, .iload_n 3, .iconst 1, .iadd] (pc' := 473) (lv' := [(0, .inr (.inr (some sb))), (1, .inr (.inr o1)), (2, .inr (.inr o2)), (3, .inl v3)]) (st' := [.inl (v3 + (1 : Int32)), .inr (.inr (some sb)), .inr (.inr o1)]) (by decide +kernel) rfl rfl ?_
                      obtain ⟨v_148, h149, h⟩ := bd h
                      refine xv_sld E hX hbl h149 (show decode code 473 = .ok (.iaload, 1) by decide +kernel) ?_
                      obtain ⟨b_152, h153, h⟩ := bd h
                      obtain ⟨eh153, th153⟩ := g_o_some h153
                      obtain ⟨q_150, h151, h⟩ := bd h
                      refine xv_cvo E eh153 11 (as := [.inl v_148]) (t140 G l (c_I_some h151)) cd140 mw1291 mw1292 mw1293 (show decode code 474 = .ok (.invokevirtual 59, 3) by decide +kernel) th153 rfl rfl (Nat.le_of_ble_eq_true rfl) ⟨Nat.le_of_ble_eq_true rfl, Nat.le_of_ble_eq_true rfl⟩ ?_
                      refine xv_b E [.aload_n 2, .aload_n 0, .iload_n 3, .iconst 1, .iadd] (pc' := 482) (lv' := [(0, .inr (.inr (some sb))), (1, .inr (.inr o1)), (2, .inr (.inr o2)), (3, .inl v3)]) (st' := [.inl (v3 + (1 : Int32)), .inr (.inr (some sb)), .inr (.inr o2), .inl q_150.1]) (by decide +kernel) rfl rfl ?_
                      obtain ⟨v_154, h155, h⟩ := bd h
                      refine xv_sld E hX hbl h155 (show decode code 482 = .ok (.iaload, 1) by decide +kernel) ?_
                      obtain ⟨b_158, h159, h⟩ := bd h
                      obtain ⟨eh159, th159⟩ := g_o_some h159
                      obtain ⟨q_156, h157, h⟩ := bd h
                      refine xv_cvo E eh159 12 (as := [.inl v_154]) (t242 G l (c_I_some h157)) cd242 mw1294 mw1295 mw1296 (show decode code 483 = .ok (.invokevirtual 63, 3) by decide +kernel) th159 rfl rfl (Nat.le_of_ble_eq_true rfl) ⟨Nat.le_of_ble_eq_true rfl, Nat.le_of_ble_eq_true rfl⟩ ?_
                      by_cases q160 : q_150.1 = q_156.1
                      · rw [if_pos q160] at h
                        refine xv_icmp_eq E 1027 (show decode code 486 = .ok (.if_icmp .eq (541), 3) by decide +kernel) rfl (fun _ => ?_) (fun z => absurd q160 z)
                        exact xv_w (sb999_1027 E B hX hbl hG hfin o1 o2 v3 q_156.2 h hN) rfl
                      · rw [if_neg q160] at h
                        refine xv_icmp_eq E 1027 (show decode code 486 = .ok (.if_icmp .eq (541), 3) by decide +kernel) rfl (fun z => absurd z q160) (fun _ => ?_)
                        refine xv_b E [.iconst 0] (pc' := 490) (lv' := [(0, .inr (.inr (some sb))), (1, .inr (.inr o1)), (2, .inr (.inr o2)), (3, .inl v3)]) (st' := [.inl (0 : Int32)]) (by decide +kernel) rfl rfl ?_
                        cases h
                    · rw [if_neg q147] at h
                      by_cases q161 : (v_21 &&& (31 : Int32)) = 9
                      · rw [if_pos q161] at h
                        refine xv_tabIn E (off := 428) 491 (show decode code 63 = .ok (.tableswitch (964) 0 21 #[101, 124, 187, 210, 233, 292, 329, 362, 405, 428, 491, 598, 621, 655, 688, 732, 765, 808, 851, 874, 918, 941], 101) by decide +kernel) (by rw [q161]; decide) (by rw [q161]; decide) (by rw [q161]; rfl) rfl ?_
                        refine xv_b E [.aload_n 1, .aload_n 0, .iload_n 3, .iconst 1, .iadd] (pc' := 496) (lv' := [(0, .inr (.inr (some sb))), (1, .inr (.inr o1)), (2, .inr (.inr o2)), (3, .inl v3)]) (st' := [.inl (v3 + (1 : Int32)), .inr (.inr (some sb)), .inr (.inr o1)]) (by decide +kernel) rfl rfl ?_
                        obtain ⟨v_162, h163, h⟩ := bd h
                        refine xv_sld E hX hbl h163 (show decode code 496 = .ok (.iaload, 1) by decide +kernel) ?_
                        refine xv_b E [.aload_n 0, .iload_n 3, .iconst 2, .iadd] (pc' := 501) (lv' := [(0, .inr (.inr (some sb))), (1, .inr (.inr o1)), (2, .inr (.inr o2)), (3, .inl v3)]) (st' := [.inl (v3 + (2 : Int32)), .inr (.inr (some sb)), .inl v_162, .inr (.inr o1)]) (by decide +kernel) rfl rfl ?_
                        obtain ⟨v_164, h165, h⟩ := bd h
                        refine xv_sld E hX hbl h165 (show decode code 501 = .ok (.iaload, 1) by decide +kernel) ?_
                        refine xv_b E [.aload_n 0, .iload_n 3, .iconst 3, .iadd] (pc' := 506) (lv' := [(0, .inr (.inr (some sb))), (1, .inr (.inr o1)), (2, .inr (.inr o2)), (3, .inl v3)]) (st' := [.inl (v3 + (3 : Int32)), .inr (.inr (some sb)), .inl v_164, .inl v_162, .inr (.inr o1)]) (by decide +kernel) rfl rfl ?_
                        obtain ⟨v_166, h167, h⟩ := bd h
                        refine xv_sld E hX hbl h167 (show decode code 506 = .ok (.iaload, 1) by decide +kernel) ?_
                        refine xv_b E [.aload_n 0, .iload_n 3, .iconst 4, .iadd] (pc' := 511) (lv' := [(0, .inr (.inr (some sb))), (1, .inr (.inr o1)), (2, .inr (.inr o2)), (3, .inl v3)]) (st' := [.inl (v3 + (4 : Int32)), .inr (.inr (some sb)), .inl v_166, .inl v_164, .inl v_162, .inr (.inr o1)]) (by decide +kernel) rfl rfl ?_
                        obtain ⟨v_168, h169, h⟩ := bd h
                        refine xv_sld E hX hbl h169 (show decode code 511 = .ok (.iaload, 1) by decide +kernel) ?_
                        refine xv_b E [.aload_n 0, .iload_n 3, .iconst 5, .iadd] (pc' := 516) (lv' := [(0, .inr (.inr (some sb))), (1, .inr (.inr o1)), (2, .inr (.inr o2)), (3, .inl v3)]) (st' := [.inl (v3 + (5 : Int32)), .inr (.inr (some sb)), .inl v_168, .inl v_166, .inl v_164, .inl v_162, .inr (.inr o1)]) (by decide +kernel) rfl rfl ?_
                        obtain ⟨v_170, h171, h⟩ := bd h
                        refine xv_sld E hX hbl h171 (show decode code 516 = .ok (.iaload, 1) by decide +kernel) ?_
                        obtain ⟨b_174, h175, h⟩ := bd h
                        obtain ⟨eh175, th175⟩ := g_o_some h175
                        obtain ⟨q_172, h173, h⟩ := bd h
                        refine xv_cvo E eh175 11 (as := [.inl v_162, .inl v_164, .inl v_166, .inl v_168, .inl v_170]) (t148 G l (c_I_some h173)) cd148 mw1297 mw1298 mw1299 (show decode code 517 = .ok (.invokevirtual 64, 3) by decide +kernel) th175 rfl rfl (Nat.le_of_ble_eq_true rfl) ⟨Nat.le_of_ble_eq_true rfl, Nat.le_of_ble_eq_true rfl⟩ ?_
                        refine xv_b E [.aload_n 2, .aload_n 0, .iload_n 3, .iconst 1, .iadd] (pc' := 525) (lv' := [(0, .inr (.inr (some sb))), (1, .inr (.inr o1)), (2, .inr (.inr o2)), (3, .inl v3)]) (st' := [.inl (v3 + (1 : Int32)), .inr (.inr (some sb)), .inr (.inr o2), .inl q_172.1]) (by decide +kernel) rfl rfl ?_
                        obtain ⟨v_176, h177, h⟩ := bd h
                        refine xv_sld E hX hbl h177 (show decode code 525 = .ok (.iaload, 1) by decide +kernel) ?_
                        refine xv_b E [.aload_n 0, .iload_n 3, .iconst 2, .iadd] (pc' := 530) (lv' := [(0, .inr (.inr (some sb))), (1, .inr (.inr o1)), (2, .inr (.inr o2)), (3, .inl v3)]) (st' := [.inl (v3 + (2 : Int32)), .inr (.inr (some sb)), .inl v_176, .inr (.inr o2), .inl q_172.1]) (by decide +kernel) rfl rfl ?_
                        obtain ⟨v_178, h179, h⟩ := bd h
                        refine xv_sld E hX hbl h179 (show decode code 530 = .ok (.iaload, 1) by decide +kernel) ?_
                        refine xv_b E [.aload_n 0, .iload_n 3, .iconst 3, .iadd] (pc' := 535) (lv' := [(0, .inr (.inr (some sb))), (1, .inr (.inr o1)), (2, .inr (.inr o2)), (3, .inl v3)]) (st' := [.inl (v3 + (3 : Int32)), .inr (.inr (some sb)), .inl v_178, .inl v_176, .inr (.inr o2), .inl q_172.1]) (by decide +kernel) rfl rfl ?_
                        obtain ⟨v_180, h181, h⟩ := bd h
                        refine xv_sld E hX hbl h181 (show decode code 535 = .ok (.iaload, 1) by decide +kernel) ?_
                        refine xv_b E [.aload_n 0, .iload_n 3, .iconst 4, .iadd] (pc' := 540) (lv' := [(0, .inr (.inr (some sb))), (1, .inr (.inr o1)), (2, .inr (.inr o2)), (3, .inl v3)]) (st' := [.inl (v3 + (4 : Int32)), .inr (.inr (some sb)), .inl v_180, .inl v_178, .inl v_176, .inr (.inr o2), .inl q_172.1]) (by decide +kernel) rfl rfl ?_
                        obtain ⟨v_182, h183, h⟩ := bd h
                        refine xv_sld E hX hbl h183 (show decode code 540 = .ok (.iaload, 1) by decide +kernel) ?_
                        refine xv_b E [.aload_n 0, .iload_n 3, .iconst 5, .iadd] (pc' := 545) (lv' := [(0, .inr (.inr (some sb))), (1, .inr (.inr o1)), (2, .inr (.inr o2)), (3, .inl v3)]) (st' := [.inl (v3 + (5 : Int32)), .inr (.inr (some sb)), .inl v_182, .inl v_180, .inl v_178, .inl v_176, .inr (.inr o2), .inl q_172.1]) (by decide +kernel) rfl rfl ?_
                        obtain ⟨v_184, h185, h⟩ := bd h
                        refine xv_sld E hX hbl h185 (show decode code 545 = .ok (.iaload, 1) by decide +kernel) ?_
                        obtain ⟨b_188, h189, h⟩ := bd h
                        obtain ⟨eh189, th189⟩ := g_o_some h189
                        obtain ⟨q_186, h187, h⟩ := bd h
                        refine xv_cvo E eh189 12 (as := [.inl v_176, .inl v_178, .inl v_180, .inl v_182, .inl v_184]) (t244 G l (c_I_some h187)) cd244 mw1300 mw1301 mw1302 (show decode code 546 = .ok (.invokevirtual 67, 3) by decide +kernel) th189 rfl rfl (Nat.le_of_ble_eq_true rfl) ⟨Nat.le_of_ble_eq_true rfl, Nat.le_of_ble_eq_true rfl⟩ ?_
                        by_cases q190 : q_172.1 = q_186.1
                        · rw [if_pos q190] at h
                          refine xv_icmp_eq E 1027 (show decode code 549 = .ok (.if_icmp .eq (478), 3) by decide +kernel) rfl (fun _ => ?_) (fun z => absurd q190 z)
                          exact xv_w (sb999_1027 E B hX hbl hG hfin o1 o2 v3 q_186.2 h hN) rfl
                        · rw [if_neg q190] at h
                          refine xv_icmp_eq E 1027 (show decode code 549 = .ok (.if_icmp .eq (478), 3) by decide +kernel) rfl (fun z => absurd z q190) (fun _ => ?_)
                          refine xv_b E [.iconst 0] (pc' := 553) (lv' := [(0, .inr (.inr (some sb))), (1, .inr (.inr o1)), (2, .inr (.inr o2)), (3, .inl v3)]) (st' := [.inl (0 : Int32)]) (by decide +kernel) rfl rfl ?_
                          cases h
                      · rw [if_neg q161] at h
                        by_cases q191 : (v_21 &&& (31 : Int32)) = 10
                        · rw [if_pos q191] at h
                          refine xv_tabIn E (off := 491) 554 (show decode code 63 = .ok (.tableswitch (964) 0 21 #[101, 124, 187, 210, 233, 292, 329, 362, 405, 428, 491, 598, 621, 655, 688, 732, 765, 808, 851, 874, 918, 941], 101) by decide +kernel) (by rw [q191]; decide) (by rw [q191]; decide) (by rw [q191]; rfl) rfl ?_
                          refine xv_b E [.aload_n 1, .aload_n 0, .iload_n 3, .iconst 1, .iadd] (pc' := 559) (lv' := [(0, .inr (.inr (some sb))), (1, .inr (.inr o1)), (2, .inr (.inr o2)), (3, .inl v3)]) (st' := [.inl (v3 + (1 : Int32)), .inr (.inr (some sb)), .inr (.inr o1)]) (by decide +kernel) rfl rfl ?_
                          obtain ⟨v_192, h193, h⟩ := bd h
                          refine xv_sld E hX hbl h193 (show decode code 559 = .ok (.iaload, 1) by decide +kernel) ?_
                          refine xv_b E [.aload_n 0, .iload_n 3, .iconst 2, .iadd] (pc' := 564) (lv' := [(0, .inr (.inr (some sb))), (1, .inr (.inr o1)), (2, .inr (.inr o2)), (3, .inl v3)]) (st' := [.inl (v3 + (2 : Int32)), .inr (.inr (some sb)), .inl v_192, .inr (.inr o1)]) (by decide +kernel) rfl rfl ?_
                          obtain ⟨v_194, h195, h⟩ := bd h
                          refine xv_sld E hX hbl h195 (show decode code 564 = .ok (.iaload, 1) by decide +kernel) ?_
                          refine xv_b E [.aload_n 0, .iload_n 3, .iconst 3, .iadd] (pc' := 569) (lv' := [(0, .inr (.inr (some sb))), (1, .inr (.inr o1)), (2, .inr (.inr o2)), (3, .inl v3)]) (st' := [.inl (v3 + (3 : Int32)), .inr (.inr (some sb)), .inl v_194, .inl v_192, .inr (.inr o1)]) (by decide +kernel) rfl rfl ?_
                          obtain ⟨v_196, h197, h⟩ := bd h
                          refine xv_sld E hX hbl h197 (show decode code 569 = .ok (.iaload, 1) by decide +kernel) ?_
                          refine xv_b E [.aload_n 0, .iload_n 3, .iconst 4, .iadd] (pc' := 574) (lv' := [(0, .inr (.inr (some sb))), (1, .inr (.inr o1)), (2, .inr (.inr o2)), (3, .inl v3)]) (st' := [.inl (v3 + (4 : Int32)), .inr (.inr (some sb)), .inl v_196, .inl v_194, .inl v_192, .inr (.inr o1)]) (by decide +kernel) rfl rfl ?_
                          obtain ⟨v_198, h199, h⟩ := bd h
                          refine xv_sld E hX hbl h199 (show decode code 574 = .ok (.iaload, 1) by decide +kernel) ?_
                          refine xv_b E [.aload_n 0, .iload_n 3, .iconst 5, .iadd] (pc' := 579) (lv' := [(0, .inr (.inr (some sb))), (1, .inr (.inr o1)), (2, .inr (.inr o2)), (3, .inl v3)]) (st' := [.inl (v3 + (5 : Int32)), .inr (.inr (some sb)), .inl v_198, .inl v_196, .inl v_194, .inl v_192, .inr (.inr o1)]) (by decide +kernel) rfl rfl ?_
                          obtain ⟨v_200, h201, h⟩ := bd h
                          refine xv_sld E hX hbl h201 (show decode code 579 = .ok (.iaload, 1) by decide +kernel) ?_
                          refine xv_b E [.aload_n 0, .iload_n 3, .bipush 6, .iadd] (pc' := 585) (lv' := [(0, .inr (.inr (some sb))), (1, .inr (.inr o1)), (2, .inr (.inr o2)), (3, .inl v3)]) (st' := [.inl (v3 + (6 : Int32)), .inr (.inr (some sb)), .inl v_200, .inl v_198, .inl v_196, .inl v_194, .inl v_192, .inr (.inr o1)]) (by decide +kernel) rfl rfl ?_
                          obtain ⟨v_202, h203, h⟩ := bd h
                          refine xv_sld E hX hbl h203 (show decode code 585 = .ok (.iaload, 1) by decide +kernel) ?_
                          refine xv_b E [.i2l, .bipush 32, .lshl, .aload_n 0, .iload_n 3, .bipush 7, .iadd] (pc' := 595) (lv' := [(0, .inr (.inr (some sb))), (1, .inr (.inr o1)), (2, .inr (.inr o2)), (3, .inl v3)]) (st' := [.inl (v3 + (7 : Int32)), .inr (.inr (some sb)), .inr (.inl ((Int32.toInt64 v_202) <<< (Int32.toInt64 (32 : Int32) &&& 63))), .inl v_200, .inl v_198, .inl v_196, .inl v_194, .inl v_192, .inr (.inr o1)]) (by decide +kernel) rfl rfl ?_
                          obtain ⟨v_204, h205, h⟩ := bd h
                          refine xv_sld E hX hbl h205 (show decode code 595 = .ok (.iaload, 1) by decide +kernel) ?_
                          refine xv_b E [.i2l] (pc' := 597) (lv' := [(0, .inr (.inr (some sb))), (1, .inr (.inr o1)), (2, .inr (.inr o2)), (3, .inl v3)]) (st' := [.inr (.inl (Int32.toInt64 v_204)), .inr (.inl ((Int32.toInt64 v_202) <<< (Int32.toInt64 (32 : Int32) &&& 63))), .inl v_200, .inl v_198, .inl v_196, .inl v_194, .inl v_192, .inr (.inr o1)]) (by decide +kernel) rfl rfl ?_
                          refine xv_ldc2 E (4294967295 : Int64) mw1309 (show decode code 597 = .ok (.ldc2_w 68, 3) by decide +kernel) ?_
                          refine xv_b E [.land, .lor] (pc' := 602) (lv' := [(0, .inr (.inr (some sb))), (1, .inr (.inr o1)), (2, .inr (.inr o2)), (3, .inl v3)]) (st' := [.inr (.inl (((Int32.toInt64 v_202) <<< (Int32.toInt64 (32 : Int32) &&& 63)) ||| ((Int32.toInt64 v_204) &&& (4294967295 : Int64)))), .inl v_200, .inl v_198, .inl v_196, .inl v_194, .inl v_192, .inr (.inr o1)]) (by decide +kernel) rfl rfl ?_
                          obtain ⟨b_208, h209, h⟩ := bd h
                          obtain ⟨eh209, th209⟩ := g_o_some h209
                          obtain ⟨q_206, h207, h⟩ := bd h
                          refine xv_cvo E eh209 11 (as := [.inl v_192, .inl v_194, .inl v_196, .inl v_198, .inl v_200, .inr (.inl (((Int32.toInt64 v_202) <<< (Int32.toInt64 (32 : Int32) &&& 63)) ||| ((Int32.toInt64 v_204) &&& (4294967295 : Int64))))]) (t149 G l (c_I_some h207)) cd149 mw1303 mw1304 mw1305 (show decode code 602 = .ok (.invokevirtual 70, 3) by decide +kernel) th209 rfl rfl (Nat.le_of_ble_eq_true rfl) ⟨Nat.le_of_ble_eq_true rfl, Nat.le_of_ble_eq_true rfl⟩ ?_
                          refine xv_b E [.aload_n 2, .aload_n 0, .iload_n 3, .iconst 1, .iadd] (pc' := 610) (lv' := [(0, .inr (.inr (some sb))), (1, .inr (.inr o1)), (2, .inr (.inr o2)), (3, .inl v3)]) (st' := [.inl (v3 + (1 : Int32)), .inr (.inr (some sb)), .inr (.inr o2), .inl q_206.1]) (by decide +kernel) rfl rfl ?_
                          obtain ⟨v_210, h211, h⟩ := bd h
                          refine xv_sld E hX hbl h211 (show decode code 610 = .ok (.iaload, 1) by decide +kernel) ?_
                          refine xv_b E [.aload_n 0, .iload_n 3, .iconst 2, .iadd] (pc' := 615) (lv' := [(0, .inr (.inr (some sb))), (1, .inr (.inr o1)), (2, .inr (.inr o2)), (3, .inl v3)]) (st' := [.inl (v3 + (2 : Int32)), .inr (.inr (some sb)), .inl v_210, .inr (.inr o2), .inl q_206.1]) (by decide +kernel) rfl rfl ?_
                          obtain ⟨v_212, h213, h⟩ := bd h
                          refine xv_sld E hX hbl h213 (show decode code 615 = .ok (.iaload, 1) by decide +kernel) ?_
                          refine xv_b E [.aload_n 0, .iload_n 3, .iconst 3, .iadd] (pc' := 620) (lv' := [(0, .inr (.inr (some sb))), (1, .inr (.inr o1)), (2, .inr (.inr o2)), (3, .inl v3)]) (st' := [.inl (v3 + (3 : Int32)), .inr (.inr (some sb)), .inl v_212, .inl v_210, .inr (.inr o2), .inl q_206.1]) (by decide +kernel) rfl rfl ?_
                          obtain ⟨v_214, h215, h⟩ := bd h
                          refine xv_sld E hX hbl h215 (show decode code 620 = .ok (.iaload, 1) by decide +kernel) ?_
                          refine xv_b E [.aload_n 0, .iload_n 3, .iconst 4, .iadd] (pc' := 625) (lv' := [(0, .inr (.inr (some sb))), (1, .inr (.inr o1)), (2, .inr (.inr o2)), (3, .inl v3)]) (st' := [.inl (v3 + (4 : Int32)), .inr (.inr (some sb)), .inl v_214, .inl v_212, .inl v_210, .inr (.inr o2), .inl q_206.1]) (by decide +kernel) rfl rfl ?_
                          obtain ⟨v_216, h217, h⟩ := bd h
                          refine xv_sld E hX hbl h217 (show decode code 625 = .ok (.iaload, 1) by decide +kernel) ?_
                          refine xv_b E [.aload_n 0, .iload_n 3, .iconst 5, .iadd] (pc' := 630) (lv' := [(0, .inr (.inr (some sb))), (1, .inr (.inr o1)), (2, .inr (.inr o2)), (3, .inl v3)]) (st' := [.inl (v3 + (5 : Int32)), .inr (.inr (some sb)), .inl v_216, .inl v_214, .inl v_212, .inl v_210, .inr (.inr o2), .inl q_206.1]) (by decide +kernel) rfl rfl ?_
                          obtain ⟨v_218, h219, h⟩ := bd h
                          refine xv_sld E hX hbl h219 (show decode code 630 = .ok (.iaload, 1) by decide +kernel) ?_
                          refine xv_b E [.aload_n 0, .iload_n 3, .bipush 6, .iadd] (pc' := 636) (lv' := [(0, .inr (.inr (some sb))), (1, .inr (.inr o1)), (2, .inr (.inr o2)), (3, .inl v3)]) (st' := [.inl (v3 + (6 : Int32)), .inr (.inr (some sb)), .inl v_218, .inl v_216, .inl v_214, .inl v_212, .inl v_210, .inr (.inr o2), .inl q_206.1]) (by decide +kernel) rfl rfl ?_
                          obtain ⟨v_220, h221, h⟩ := bd h
                          refine xv_sld E hX hbl h221 (show decode code 636 = .ok (.iaload, 1) by decide +kernel) ?_
                          refine xv_b E [.i2l, .bipush 32, .lshl, .aload_n 0, .iload_n 3, .bipush 7, .iadd] (pc' := 646) (lv' := [(0, .inr (.inr (some sb))), (1, .inr (.inr o1)), (2, .inr (.inr o2)), (3, .inl v3)]) (st' := [.inl (v3 + (7 : Int32)), .inr (.inr (some sb)), .inr (.inl ((Int32.toInt64 v_220) <<< (Int32.toInt64 (32 : Int32) &&& 63))), .inl v_218, .inl v_216, .inl v_214, .inl v_212, .inl v_210, .inr (.inr o2), .inl q_206.1]) (by decide +kernel) rfl rfl ?_
                          obtain ⟨v_222, h223, h⟩ := bd h
                          refine xv_sld E hX hbl h223 (show decode code 646 = .ok (.iaload, 1) by decide +kernel) ?_
                          refine xv_b E [.i2l] (pc' := 648) (lv' := [(0, .inr (.inr (some sb))), (1, .inr (.inr o1)), (2, .inr (.inr o2)), (3, .inl v3)]) (st' := [.inr (.inl (Int32.toInt64 v_222)), .inr (.inl ((Int32.toInt64 v_220) <<< (Int32.toInt64 (32 : Int32) &&& 63))), .inl v_218, .inl v_216, .inl v_214, .inl v_212, .inl v_210, .inr (.inr o2), .inl q_206.1]) (by decide +kernel) rfl rfl ?_
                          refine xv_ldc2 E (4294967295 : Int64) mw1309 (show decode code 648 = .ok (.ldc2_w 68, 3) by decide +kernel) ?_
                          refine xv_b E [.land, .lor] (pc' := 653) (lv' := [(0, .inr (.inr (some sb))), (1, .inr (.inr o1)), (2, .inr (.inr o2)), (3, .inl v3)]) (st' := [.inr (.inl (((Int32.toInt64 v_220) <<< (Int32.toInt64 (32 : Int32) &&& 63)) ||| ((Int32.toInt64 v_222) &&& (4294967295 : Int64)))), .inl v_218, .inl v_216, .inl v_214, .inl v_212, .inl v_210, .inr (.inr o2), .inl q_206.1]) (by decide +kernel) rfl rfl ?_
                          obtain ⟨b_226, h227, h⟩ := bd h
                          obtain ⟨eh227, th227⟩ := g_o_some h227
                          obtain ⟨q_224, h225, h⟩ := bd h
                          refine xv_cvo E eh227 12 (as := [.inl v_210, .inl v_212, .inl v_214, .inl v_216, .inl v_218, .inr (.inl (((Int32.toInt64 v_220) <<< (Int32.toInt64 (32 : Int32) &&& 63)) ||| ((Int32.toInt64 v_222) &&& (4294967295 : Int64))))]) (t245 G l (c_I_some h225)) cd245 mw1306 mw1307 mw1308 (show decode code 653 = .ok (.invokevirtual 74, 3) by decide +kernel) th227 rfl rfl (Nat.le_of_ble_eq_true rfl) ⟨Nat.le_of_ble_eq_true rfl, Nat.le_of_ble_eq_true rfl⟩ ?_
                          by_cases q228 : q_206.1 = q_224.1
                          · rw [if_pos q228] at h
                            refine xv_icmp_eq E 1027 (show decode code 656 = .ok (.if_icmp .eq (371), 3) by decide +kernel) rfl (fun _ => ?_) (fun z => absurd q228 z)
                            exact xv_w (sb999_1027 E B hX hbl hG hfin o1 o2 v3 q_224.2 h hN) rfl
                          · rw [if_neg q228] at h
                            refine xv_icmp_eq E 1027 (show decode code 656 = .ok (.if_icmp .eq (371), 3) by decide +kernel) rfl (fun z => absurd z q228) (fun _ => ?_)
                            refine xv_b E [.iconst 0] (pc' := 660) (lv' := [(0, .inr (.inr (some sb))), (1, .inr (.inr o1)), (2, .inr (.inr o2)), (3, .inl v3)]) (st' := [.inl (0 : Int32)]) (by decide +kernel) rfl rfl ?_
                            cases h
                        · rw [if_neg q191] at h
                          by_cases q229 : (v_21 &&& (31 : Int32)) = 11
                          · rw [if_pos q229] at h
                            refine xv_tabIn E (off := 598) 661 (show decode code 63 = .ok (.tableswitch (964) 0 21 #[101, 124, 187, 210, 233, 292, 329, 362, 405, 428, 491, 598, 621, 655, 688, 732, 765, 808, 851, 874, 918, 941], 101) by decide +kernel) (by rw [q229]; decide) (by rw [q229]; decide) (by rw [q229]; rfl) rfl ?_
                            refine xv_b E [.aload_n 1, .aload_n 0, .iload_n 3, .iconst 1, .iadd] (pc' := 666) (lv' := [(0, .inr (.inr (some sb))), (1, .inr (.inr o1)), (2, .inr (.inr o2)), (3, .inl v3)]) (st' := [.inl (v3 + (1 : Int32)), .inr (.inr (some sb)), .inr (.inr o1)]) (by decide +kernel) rfl rfl ?_
                            obtain ⟨v_230, h231, h⟩ := bd h
                            refine xv_sld E hX hbl h231 (show decode code 666 = .ok (.iaload, 1) by decide +kernel) ?_
                            obtain ⟨b_234, h235, h⟩ := bd h
                            obtain ⟨eh235, th235⟩ := g_o_some h235
                            obtain ⟨q_232, h233, h⟩ := bd h
                            refine xv_cvo E eh235 11 (as := [.inl v_230]) (t151 G l (c_I_some h233)) cd151 mw1310 mw1311 mw1312 (show decode code 667 = .ok (.invokevirtual 75, 3) by decide +kernel) th235 rfl rfl (Nat.le_of_ble_eq_true rfl) ⟨Nat.le_of_ble_eq_true rfl, Nat.le_of_ble_eq_true rfl⟩ ?_
                            refine xv_b E [.aload_n 2, .aload_n 0, .iload_n 3, .iconst 1, .iadd] (pc' := 675) (lv' := [(0, .inr (.inr (some sb))), (1, .inr (.inr o1)), (2, .inr (.inr o2)), (3, .inl v3)]) (st' := [.inl (v3 + (1 : Int32)), .inr (.inr (some sb)), .inr (.inr o2), .inl q_232.1]) (by decide +kernel) rfl rfl ?_
                            obtain ⟨v_236, h237, h⟩ := bd h
                            refine xv_sld E hX hbl h237 (show decode code 675 = .ok (.iaload, 1) by decide +kernel) ?_
                            obtain ⟨b_240, h241, h⟩ := bd h
                            obtain ⟨eh241, th241⟩ := g_o_some h241
                            obtain ⟨q_238, h239, h⟩ := bd h
                            refine xv_cvo E eh241 12 (as := [.inl v_236]) (t247 G l (c_I_some h239)) cd247 mw1313 mw1314 mw1315 (show decode code 676 = .ok (.invokevirtual 78, 3) by decide +kernel) th241 rfl rfl (Nat.le_of_ble_eq_true rfl) ⟨Nat.le_of_ble_eq_true rfl, Nat.le_of_ble_eq_true rfl⟩ ?_
                            by_cases q242 : q_232.1 = q_238.1
                            · rw [if_pos q242] at h
                              refine xv_icmp_eq E 1027 (show decode code 679 = .ok (.if_icmp .eq (348), 3) by decide +kernel) rfl (fun _ => ?_) (fun z => absurd q242 z)
                              exact xv_w (sb999_1027 E B hX hbl hG hfin o1 o2 v3 q_238.2 h hN) rfl
                            · rw [if_neg q242] at h
                              refine xv_icmp_eq E 1027 (show decode code 679 = .ok (.if_icmp .eq (348), 3) by decide +kernel) rfl (fun z => absurd z q242) (fun _ => ?_)
                              refine xv_b E [.iconst 0] (pc' := 683) (lv' := [(0, .inr (.inr (some sb))), (1, .inr (.inr o1)), (2, .inr (.inr o2)), (3, .inl v3)]) (st' := [.inl (0 : Int32)]) (by decide +kernel) rfl rfl ?_
                              cases h
                          · rw [if_neg q229] at h
                            by_cases q243 : (v_21 &&& (31 : Int32)) = 12
                            · rw [if_pos q243] at h
                              refine xv_tabIn E (off := 621) 684 (show decode code 63 = .ok (.tableswitch (964) 0 21 #[101, 124, 187, 210, 233, 292, 329, 362, 405, 428, 491, 598, 621, 655, 688, 732, 765, 808, 851, 874, 918, 941], 101) by decide +kernel) (by rw [q243]; decide) (by rw [q243]; decide) (by rw [q243]; rfl) rfl ?_
                              refine xv_b E [.aload_n 1, .aload_n 0, .iload_n 3, .iconst 1, .iadd] (pc' := 689) (lv' := [(0, .inr (.inr (some sb))), (1, .inr (.inr o1)), (2, .inr (.inr o2)), (3, .inl v3)]) (st' := [.inl (v3 + (1 : Int32)), .inr (.inr (some sb)), .inr (.inr o1)]) (by decide +kernel) rfl rfl ?_
                              obtain ⟨v_244, h245, h⟩ := bd h
                              refine xv_sld E hX hbl h245 (show decode code 689 = .ok (.iaload, 1) by decide +kernel) ?_
                              refine xv_b E [.aload_n 0, .iload_n 3, .iconst 2, .iadd] (pc' := 694) (lv' := [(0, .inr (.inr (some sb))), (1, .inr (.inr o1)), (2, .inr (.inr o2)), (3, .inl v3)]) (st' := [.inl (v3 + (2 : Int32)), .inr (.inr (some sb)), .inl v_244, .inr (.inr o1)]) (by decide +kernel) rfl rfl ?_
                              obtain ⟨v_246, h247, h⟩ := bd h
                              refine xv_sld E hX hbl h247 (show decode code 694 = .ok (.iaload, 1) by decide +kernel) ?_
                              obtain ⟨b_250, h251, h⟩ := bd h
                              obtain ⟨eh251, th251⟩ := g_o_some h251
                              obtain ⟨q_248, h249, h⟩ := bd h
                              refine xv_cvo E eh251 11 (as := [.inl v_244, .inl v_246]) (t152 G l (c_L_some h249)) cd152 mw1316 mw1317 mw1318 (show decode code 695 = .ok (.invokevirtual 79, 3) by decide +kernel) th251 rfl rfl (Nat.le_of_ble_eq_true rfl) ⟨Nat.le_of_ble_eq_true rfl, Nat.le_of_ble_eq_true rfl⟩ ?_
                              refine xv_b E [.aload_n 2, .aload_n 0, .iload_n 3, .iconst 1, .iadd] (pc' := 703) (lv' := [(0, .inr (.inr (some sb))), (1, .inr (.inr o1)), (2, .inr (.inr o2)), (3, .inl v3)]) (st' := [.inl (v3 + (1 : Int32)), .inr (.inr (some sb)), .inr (.inr o2), .inr (.inl q_248.1)]) (by decide +kernel) rfl rfl ?_
                              obtain ⟨v_252, h253, h⟩ := bd h
                              refine xv_sld E hX hbl h253 (show decode code 703 = .ok (.iaload, 1) by decide +kernel) ?_
                              refine xv_b E [.aload_n 0, .iload_n 3, .iconst 2, .iadd] (pc' := 708) (lv' := [(0, .inr (.inr (some sb))), (1, .inr (.inr o1)), (2, .inr (.inr o2)), (3, .inl v3)]) (st' := [.inl (v3 + (2 : Int32)), .inr (.inr (some sb)), .inl v_252, .inr (.inr o2), .inr (.inl q_248.1)]) (by decide +kernel) rfl rfl ?_
                              obtain ⟨v_254, h255, h⟩ := bd h
                              refine xv_sld E hX hbl h255 (show decode code 708 = .ok (.iaload, 1) by decide +kernel) ?_
                              obtain ⟨b_258, h259, h⟩ := bd h
                              obtain ⟨eh259, th259⟩ := g_o_some h259
                              obtain ⟨q_256, h257, h⟩ := bd h
                              refine xv_cvo E eh259 12 (as := [.inl v_252, .inl v_254]) (t248 G l (c_L_some h257)) cd248 mw1319 mw1320 mw1321 (show decode code 709 = .ok (.invokevirtual 83, 3) by decide +kernel) th259 rfl rfl (Nat.le_of_ble_eq_true rfl) ⟨Nat.le_of_ble_eq_true rfl, Nat.le_of_ble_eq_true rfl⟩ ?_
                              refine xv_lcmp E (show decode code 712 = .ok (.lcmp, 1) by decide +kernel) ?_
                              by_cases q260 : (lg_cmp q_248.1 q_256.1) = 0
                              · rw [if_pos q260] at h
                                refine xv_if_eq E 1027 (show decode code 713 = .ok (.ifCond .eq (314), 3) by decide +kernel) rfl (fun _ => ?_) (fun z => absurd q260 z)
                                exact xv_w (sb999_1027 E B hX hbl hG hfin o1 o2 v3 q_256.2 h hN) rfl
                              · rw [if_neg q260] at h
                                refine xv_if_eq E 1027 (show decode code 713 = .ok (.ifCond .eq (314), 3) by decide +kernel) rfl (fun z => absurd z q260) (fun _ => ?_)
                                refine xv_b E [.iconst 0] (pc' := 717) (lv' := [(0, .inr (.inr (some sb))), (1, .inr (.inr o1)), (2, .inr (.inr o2)), (3, .inl v3)]) (st' := [.inl (0 : Int32)]) (by decide +kernel) rfl rfl ?_
                                cases h
                            · rw [if_neg q243] at h
                              by_cases q261 : (v_21 &&& (31 : Int32)) = 13
                              · rw [if_pos q261] at h
                                refine xv_tabIn E (off := 655) 718 (show decode code 63 = .ok (.tableswitch (964) 0 21 #[101, 124, 187, 210, 233, 292, 329, 362, 405, 428, 491, 598, 621, 655, 688, 732, 765, 808, 851, 874, 918, 941], 101) by decide +kernel) (by rw [q261]; decide) (by rw [q261]; decide) (by rw [q261]; rfl) rfl ?_
                                refine xv_b E [.aload_n 1, .aload_n 0, .iload_n 3, .iconst 1, .iadd] (pc' := 723) (lv' := [(0, .inr (.inr (some sb))), (1, .inr (.inr o1)), (2, .inr (.inr o2)), (3, .inl v3)]) (st' := [.inl (v3 + (1 : Int32)), .inr (.inr (some sb)), .inr (.inr o1)]) (by decide +kernel) rfl rfl ?_
                                obtain ⟨v_262, h263, h⟩ := bd h
                                refine xv_sld E hX hbl h263 (show decode code 723 = .ok (.iaload, 1) by decide +kernel) ?_
                                refine xv_b E [.aload_n 0, .iload_n 3, .iconst 2, .iadd] (pc' := 728) (lv' := [(0, .inr (.inr (some sb))), (1, .inr (.inr o1)), (2, .inr (.inr o2)), (3, .inl v3)]) (st' := [.inl (v3 + (2 : Int32)), .inr (.inr (some sb)), .inl v_262, .inr (.inr o1)]) (by decide +kernel) rfl rfl ?_
                                obtain ⟨v_264, h265, h⟩ := bd h
                                refine xv_sld E hX hbl h265 (show decode code 728 = .ok (.iaload, 1) by decide +kernel) ?_
                                obtain ⟨b_268, h269, h⟩ := bd h
                                obtain ⟨eh269, th269⟩ := g_o_some h269
                                obtain ⟨q_266, h267, h⟩ := bd h
                                refine xv_cvo E eh269 11 (as := [.inl v_262, .inl v_264]) (t153 G l (c_I_some h267)) cd153 mw1322 mw1323 mw1324 (show decode code 729 = .ok (.invokevirtual 84, 3) by decide +kernel) th269 rfl rfl (Nat.le_of_ble_eq_true rfl) ⟨Nat.le_of_ble_eq_true rfl, Nat.le_of_ble_eq_true rfl⟩ ?_
                                refine xv_b E [.aload_n 2, .aload_n 0, .iload_n 3, .iconst 1, .iadd] (pc' := 737) (lv' := [(0, .inr (.inr (some sb))), (1, .inr (.inr o1)), (2, .inr (.inr o2)), (3, .inl v3)]) (st' := [.inl (v3 + (1 : Int32)), .inr (.inr (some sb)), .inr (.inr o2), .inl q_266.1]) (by decide +kernel) rfl rfl ?_
                                obtain ⟨v_270, h271, h⟩ := bd h
                                refine xv_sld E hX hbl h271 (show decode code 737 = .ok (.iaload, 1) by decide +kernel) ?_
                                refine xv_b E [.aload_n 0, .iload_n 3, .iconst 2, .iadd] (pc' := 742) (lv' := [(0, .inr (.inr (some sb))), (1, .inr (.inr o1)), (2, .inr (.inr o2)), (3, .inl v3)]) (st' := [.inl (v3 + (2 : Int32)), .inr (.inr (some sb)), .inl v_270, .inr (.inr o2), .inl q_266.1]) (by decide +kernel) rfl rfl ?_
                                obtain ⟨v_272, h273, h⟩ := bd h
                                refine xv_sld E hX hbl h273 (show decode code 742 = .ok (.iaload, 1) by decide +kernel) ?_
                                obtain ⟨b_276, h277, h⟩ := bd h
                                obtain ⟨eh277, th277⟩ := g_o_some h277
                                obtain ⟨q_274, h275, h⟩ := bd h
                                refine xv_cvo E eh277 12 (as := [.inl v_270, .inl v_272]) (t249 G l (c_I_some h275)) cd249 mw1325 mw1326 mw1327 (show decode code 743 = .ok (.invokevirtual 88, 3) by decide +kernel) th277 rfl rfl (Nat.le_of_ble_eq_true rfl) ⟨Nat.le_of_ble_eq_true rfl, Nat.le_of_ble_eq_true rfl⟩ ?_
                                by_cases q278 : q_266.1 = q_274.1
                                · rw [if_pos q278] at h
                                  refine xv_icmp_eq E 1027 (show decode code 746 = .ok (.if_icmp .eq (281), 3) by decide +kernel) rfl (fun _ => ?_) (fun z => absurd q278 z)
                                  exact xv_w (sb999_1027 E B hX hbl hG hfin o1 o2 v3 q_274.2 h hN) rfl
                                · rw [if_neg q278] at h
                                  refine xv_icmp_eq E 1027 (show decode code 746 = .ok (.if_icmp .eq (281), 3) by decide +kernel) rfl (fun z => absurd z q278) (fun _ => ?_)
                                  refine xv_b E [.iconst 0] (pc' := 750) (lv' := [(0, .inr (.inr (some sb))), (1, .inr (.inr o1)), (2, .inr (.inr o2)), (3, .inl v3)]) (st' := [.inl (0 : Int32)]) (by decide +kernel) rfl rfl ?_
                                  cases h
                              · rw [if_neg q261] at h
                                by_cases q279 : (v_21 &&& (31 : Int32)) = 14
                                · rw [if_pos q279] at h
                                  refine xv_tabIn E (off := 688) 751 (show decode code 63 = .ok (.tableswitch (964) 0 21 #[101, 124, 187, 210, 233, 292, 329, 362, 405, 428, 491, 598, 621, 655, 688, 732, 765, 808, 851, 874, 918, 941], 101) by decide +kernel) (by rw [q279]; decide) (by rw [q279]; decide) (by rw [q279]; rfl) rfl ?_
                                  refine xv_b E [.aload_n 1, .aload_n 0, .iload_n 3, .iconst 1, .iadd] (pc' := 756) (lv' := [(0, .inr (.inr (some sb))), (1, .inr (.inr o1)), (2, .inr (.inr o2)), (3, .inl v3)]) (st' := [.inl (v3 + (1 : Int32)), .inr (.inr (some sb)), .inr (.inr o1)]) (by decide +kernel) rfl rfl ?_
                                  obtain ⟨v_280, h281, h⟩ := bd h
                                  refine xv_sld E hX hbl h281 (show decode code 756 = .ok (.iaload, 1) by decide +kernel) ?_
                                  refine xv_b E [.aload_n 0, .iload_n 3, .iconst 2, .iadd] (pc' := 761) (lv' := [(0, .inr (.inr (some sb))), (1, .inr (.inr o1)), (2, .inr (.inr o2)), (3, .inl v3)]) (st' := [.inl (v3 + (2 : Int32)), .inr (.inr (some sb)), .inl v_280, .inr (.inr o1)]) (by decide +kernel) rfl rfl ?_
                                  obtain ⟨v_282, h283, h⟩ := bd h
                                  refine xv_sld E hX hbl h283 (show decode code 761 = .ok (.iaload, 1) by decide +kernel) ?_
                                  refine xv_b E [.aload_n 0, .iload_n 3, .iconst 3, .iadd] (pc' := 766) (lv' := [(0, .inr (.inr (some sb))), (1, .inr (.inr o1)), (2, .inr (.inr o2)), (3, .inl v3)]) (st' := [.inl (v3 + (3 : Int32)), .inr (.inr (some sb)), .inl v_282, .inl v_280, .inr (.inr o1)]) (by decide +kernel) rfl rfl ?_
                                  obtain ⟨v_284, h285, h⟩ := bd h
                                  refine xv_sld E hX hbl h285 (show decode code 766 = .ok (.iaload, 1) by decide +kernel) ?_
                                  obtain ⟨b_288, h289, h⟩ := bd h
                                  obtain ⟨eh289, th289⟩ := g_o_some h289
                                  obtain ⟨q_286, h287, h⟩ := bd h
                                  refine xv_cvo E eh289 11 (as := [.inl v_280, .inl v_282, .inl v_284]) (t154 G l (c_L_some h287)) cd154 mw1328 mw1329 mw1330 (show decode code 767 = .ok (.invokevirtual 89, 3) by decide +kernel) th289 rfl rfl (Nat.le_of_ble_eq_true rfl) ⟨Nat.le_of_ble_eq_true rfl, Nat.le_of_ble_eq_true rfl⟩ ?_
                                  refine xv_b E [.aload_n 2, .aload_n 0, .iload_n 3, .iconst 1, .iadd] (pc' := 775) (lv' := [(0, .inr (.inr (some sb))), (1, .inr (.inr o1)), (2, .inr (.inr o2)), (3, .inl v3)]) (st' := [.inl (v3 + (1 : Int32)), .inr (.inr (some sb)), .inr (.inr o2), .inr (.inl q_286.1)]) (by decide +kernel) rfl rfl ?_
                                  obtain ⟨v_290, h291, h⟩ := bd h
                                  refine xv_sld E hX hbl h291 (show decode code 775 = .ok (.iaload, 1) by decide +kernel) ?_
                                  refine xv_b E [.aload_n 0, .iload_n 3, .iconst 2, .iadd] (pc' := 780) (lv' := [(0, .inr (.inr (some sb))), (1, .inr (.inr o1)), (2, .inr (.inr o2)), (3, .inl v3)]) (st' := [.inl (v3 + (2 : Int32)), .inr (.inr (some sb)), .inl v_290, .inr (.inr o2), .inr (.inl q_286.1)]) (by decide +kernel) rfl rfl ?_
                                  obtain ⟨v_292, h293, h⟩ := bd h
                                  refine xv_sld E hX hbl h293 (show decode code 780 = .ok (.iaload, 1) by decide +kernel) ?_
                                  refine xv_b E [.aload_n 0, .iload_n 3, .iconst 3, .iadd] (pc' := 785) (lv' := [(0, .inr (.inr (some sb))), (1, .inr (.inr o1)), (2, .inr (.inr o2)), (3, .inl v3)]) (st' := [.inl (v3 + (3 : Int32)), .inr (.inr (some sb)), .inl v_292, .inl v_290, .inr (.inr o2), .inr (.inl q_286.1)]) (by decide +kernel) rfl rfl ?_
                                  obtain ⟨v_294, h295, h⟩ := bd h
                                  refine xv_sld E hX hbl h295 (show decode code 785 = .ok (.iaload, 1) by decide +kernel) ?_
                                  obtain ⟨b_298, h299, h⟩ := bd h
                                  obtain ⟨eh299, th299⟩ := g_o_some h299
                                  obtain ⟨q_296, h297, h⟩ := bd h
                                  refine xv_cvo E eh299 12 (as := [.inl v_290, .inl v_292, .inl v_294]) (t250 G l (c_L_some h297)) cd250 mw1331 mw1332 mw1333 (show decode code 786 = .ok (.invokevirtual 93, 3) by decide +kernel) th299 rfl rfl (Nat.le_of_ble_eq_true rfl) ⟨Nat.le_of_ble_eq_true rfl, Nat.le_of_ble_eq_true rfl⟩ ?_
                                  refine xv_lcmp E (show decode code 789 = .ok (.lcmp, 1) by decide +kernel) ?_
                                  by_cases q300 : (lg_cmp q_286.1 q_296.1) = 0
                                  · rw [if_pos q300] at h
                                    refine xv_if_eq E 1027 (show decode code 790 = .ok (.ifCond .eq (237), 3) by decide +kernel) rfl (fun _ => ?_) (fun z => absurd q300 z)
                                    exact xv_w (sb999_1027 E B hX hbl hG hfin o1 o2 v3 q_296.2 h hN) rfl
                                  · rw [if_neg q300] at h
                                    refine xv_if_eq E 1027 (show decode code 790 = .ok (.ifCond .eq (237), 3) by decide +kernel) rfl (fun z => absurd z q300) (fun _ => ?_)
                                    refine xv_b E [.iconst 0] (pc' := 794) (lv' := [(0, .inr (.inr (some sb))), (1, .inr (.inr o1)), (2, .inr (.inr o2)), (3, .inl v3)]) (st' := [.inl (0 : Int32)]) (by decide +kernel) rfl rfl ?_
                                    cases h
                                · rw [if_neg q279] at h
                                  by_cases q301 : (v_21 &&& (31 : Int32)) = 15
                                  · rw [if_pos q301] at h
                                    refine xv_tabIn E (off := 732) 795 (show decode code 63 = .ok (.tableswitch (964) 0 21 #[101, 124, 187, 210, 233, 292, 329, 362, 405, 428, 491, 598, 621, 655, 688, 732, 765, 808, 851, 874, 918, 941], 101) by decide +kernel) (by rw [q301]; decide) (by rw [q301]; decide) (by rw [q301]; rfl) rfl ?_
                                    refine xv_b E [.aload_n 1, .aload_n 0, .iload_n 3, .iconst 1, .iadd] (pc' := 800) (lv' := [(0, .inr (.inr (some sb))), (1, .inr (.inr o1)), (2, .inr (.inr o2)), (3, .inl v3)]) (st' := [.inl (v3 + (1 : Int32)), .inr (.inr (some sb)), .inr (.inr o1)]) (by decide +kernel) rfl rfl ?_
                                    obtain ⟨v_302, h303, h⟩ := bd h
                                    refine xv_sld E hX hbl h303 (show decode code 800 = .ok (.iaload, 1) by decide +kernel) ?_
                                    refine xv_b E [.aload_n 0, .iload_n 3, .iconst 2, .iadd] (pc' := 805) (lv' := [(0, .inr (.inr (some sb))), (1, .inr (.inr o1)), (2, .inr (.inr o2)), (3, .inl v3)]) (st' := [.inl (v3 + (2 : Int32)), .inr (.inr (some sb)), .inl v_302, .inr (.inr o1)]) (by decide +kernel) rfl rfl ?_
                                    obtain ⟨v_304, h305, h⟩ := bd h
                                    refine xv_sld E hX hbl h305 (show decode code 805 = .ok (.iaload, 1) by decide +kernel) ?_
                                    obtain ⟨b_308, h309, h⟩ := bd h
                                    obtain ⟨eh309, th309⟩ := g_o_some h309
                                    obtain ⟨q_306, h307, h⟩ := bd h
                                    refine xv_cvo E eh309 11 (as := [.inl v_302, .inl v_304]) (t155 G l (c_I_some h307)) cd155 mw1334 mw1335 mw1336 (show decode code 806 = .ok (.invokevirtual 94, 3) by decide +kernel) th309 rfl rfl (Nat.le_of_ble_eq_true rfl) ⟨Nat.le_of_ble_eq_true rfl, Nat.le_of_ble_eq_true rfl⟩ ?_
                                    refine xv_b E [.aload_n 2, .aload_n 0, .iload_n 3, .iconst 1, .iadd] (pc' := 814) (lv' := [(0, .inr (.inr (some sb))), (1, .inr (.inr o1)), (2, .inr (.inr o2)), (3, .inl v3)]) (st' := [.inl (v3 + (1 : Int32)), .inr (.inr (some sb)), .inr (.inr o2), .inl q_306.1]) (by decide +kernel) rfl rfl ?_
                                    obtain ⟨v_310, h311, h⟩ := bd h
                                    refine xv_sld E hX hbl h311 (show decode code 814 = .ok (.iaload, 1) by decide +kernel) ?_
                                    refine xv_b E [.aload_n 0, .iload_n 3, .iconst 2, .iadd] (pc' := 819) (lv' := [(0, .inr (.inr (some sb))), (1, .inr (.inr o1)), (2, .inr (.inr o2)), (3, .inl v3)]) (st' := [.inl (v3 + (2 : Int32)), .inr (.inr (some sb)), .inl v_310, .inr (.inr o2), .inl q_306.1]) (by decide +kernel) rfl rfl ?_
                                    obtain ⟨v_312, h313, h⟩ := bd h
                                    refine xv_sld E hX hbl h313 (show decode code 819 = .ok (.iaload, 1) by decide +kernel) ?_
                                    obtain ⟨b_316, h317, h⟩ := bd h
                                    obtain ⟨eh317, th317⟩ := g_o_some h317
                                    obtain ⟨q_314, h315, h⟩ := bd h
                                    refine xv_cvo E eh317 12 (as := [.inl v_310, .inl v_312]) (t251 G l (c_I_some h315)) cd251 mw1337 mw1338 mw1339 (show decode code 820 = .ok (.invokevirtual 97, 3) by decide +kernel) th317 rfl rfl (Nat.le_of_ble_eq_true rfl) ⟨Nat.le_of_ble_eq_true rfl, Nat.le_of_ble_eq_true rfl⟩ ?_
                                    by_cases q318 : q_306.1 = q_314.1
                                    · rw [if_pos q318] at h
                                      refine xv_icmp_eq E 1027 (show decode code 823 = .ok (.if_icmp .eq (204), 3) by decide +kernel) rfl (fun _ => ?_) (fun z => absurd q318 z)
                                      exact xv_w (sb999_1027 E B hX hbl hG hfin o1 o2 v3 q_314.2 h hN) rfl
                                    · rw [if_neg q318] at h
                                      refine xv_icmp_eq E 1027 (show decode code 823 = .ok (.if_icmp .eq (204), 3) by decide +kernel) rfl (fun z => absurd z q318) (fun _ => ?_)
                                      refine xv_b E [.iconst 0] (pc' := 827) (lv' := [(0, .inr (.inr (some sb))), (1, .inr (.inr o1)), (2, .inr (.inr o2)), (3, .inl v3)]) (st' := [.inl (0 : Int32)]) (by decide +kernel) rfl rfl ?_
                                      cases h
                                  · rw [if_neg q301] at h
                                    by_cases q319 : (v_21 &&& (31 : Int32)) = 16
                                    · rw [if_pos q319] at h
                                      refine xv_tabIn E (off := 765) 828 (show decode code 63 = .ok (.tableswitch (964) 0 21 #[101, 124, 187, 210, 233, 292, 329, 362, 405, 428, 491, 598, 621, 655, 688, 732, 765, 808, 851, 874, 918, 941], 101) by decide +kernel) (by rw [q319]; decide) (by rw [q319]; decide) (by rw [q319]; rfl) rfl ?_
                                      refine xv_b E [.aload_n 1, .aload_n 0, .iload_n 3, .iconst 1, .iadd] (pc' := 833) (lv' := [(0, .inr (.inr (some sb))), (1, .inr (.inr o1)), (2, .inr (.inr o2)), (3, .inl v3)]) (st' := [.inl (v3 + (1 : Int32)), .inr (.inr (some sb)), .inr (.inr o1)]) (by decide +kernel) rfl rfl ?_
                                      obtain ⟨v_320, h321, h⟩ := bd h
                                      refine xv_sld E hX hbl h321 (show decode code 833 = .ok (.iaload, 1) by decide +kernel) ?_
                                      refine xv_b E [.aload_n 0, .iload_n 3, .iconst 2, .iadd] (pc' := 838) (lv' := [(0, .inr (.inr (some sb))), (1, .inr (.inr o1)), (2, .inr (.inr o2)), (3, .inl v3)]) (st' := [.inl (v3 + (2 : Int32)), .inr (.inr (some sb)), .inl v_320, .inr (.inr o1)]) (by decide +kernel) rfl rfl ?_
                                      obtain ⟨v_322, h323, h⟩ := bd h
                                      refine xv_sld E hX hbl h323 (show decode code 838 = .ok (.iaload, 1) by decide +kernel) ?_
                                      refine xv_b E [.aload_n 0, .iload_n 3, .iconst 3, .iadd] (pc' := 843) (lv' := [(0, .inr (.inr (some sb))), (1, .inr (.inr o1)), (2, .inr (.inr o2)), (3, .inl v3)]) (st' := [.inl (v3 + (3 : Int32)), .inr (.inr (some sb)), .inl v_322, .inl v_320, .inr (.inr o1)]) (by decide +kernel) rfl rfl ?_
                                      obtain ⟨v_324, h325, h⟩ := bd h
                                      refine xv_sld E hX hbl h325 (show decode code 843 = .ok (.iaload, 1) by decide +kernel) ?_
                                      obtain ⟨b_328, h329, h⟩ := bd h
                                      obtain ⟨eh329, th329⟩ := g_o_some h329
                                      obtain ⟨q_326, h327, h⟩ := bd h
                                      refine xv_cvo E eh329 11 (as := [.inl v_320, .inl v_322, .inl v_324]) (t157 G l (c_I_some h327)) cd157 mw1340 mw1341 mw1342 (show decode code 844 = .ok (.invokevirtual 98, 3) by decide +kernel) th329 rfl rfl (Nat.le_of_ble_eq_true rfl) ⟨Nat.le_of_ble_eq_true rfl, Nat.le_of_ble_eq_true rfl⟩ ?_
                                      refine xv_b E [.aload_n 2, .aload_n 0, .iload_n 3, .iconst 1, .iadd] (pc' := 852) (lv' := [(0, .inr (.inr (some sb))), (1, .inr (.inr o1)), (2, .inr (.inr o2)), (3, .inl v3)]) (st' := [.inl (v3 + (1 : Int32)), .inr (.inr (some sb)), .inr (.inr o2), .inl q_326.1]) (by decide +kernel) rfl rfl ?_
                                      obtain ⟨v_330, h331, h⟩ := bd h
                                      refine xv_sld E hX hbl h331 (show decode code 852 = .ok (.iaload, 1) by decide +kernel) ?_
                                      refine xv_b E [.aload_n 0, .iload_n 3, .iconst 2, .iadd] (pc' := 857) (lv' := [(0, .inr (.inr (some sb))), (1, .inr (.inr o1)), (2, .inr (.inr o2)), (3, .inl v3)]) (st' := [.inl (v3 + (2 : Int32)), .inr (.inr (some sb)), .inl v_330, .inr (.inr o2), .inl q_326.1]) (by decide +kernel) rfl rfl ?_
                                      obtain ⟨v_332, h333, h⟩ := bd h
                                      refine xv_sld E hX hbl h333 (show decode code 857 = .ok (.iaload, 1) by decide +kernel) ?_
                                      refine xv_b E [.aload_n 0, .iload_n 3, .iconst 3, .iadd] (pc' := 862) (lv' := [(0, .inr (.inr (some sb))), (1, .inr (.inr o1)), (2, .inr (.inr o2)), (3, .inl v3)]) (st' := [.inl (v3 + (3 : Int32)), .inr (.inr (some sb)), .inl v_332, .inl v_330, .inr (.inr o2), .inl q_326.1]) (by decide +kernel) rfl rfl ?_
                                      obtain ⟨v_334, h335, h⟩ := bd h
                                      refine xv_sld E hX hbl h335 (show decode code 862 = .ok (.iaload, 1) by decide +kernel) ?_
                                      obtain ⟨b_338, h339, h⟩ := bd h
                                      obtain ⟨eh339, th339⟩ := g_o_some h339
                                      obtain ⟨q_336, h337, h⟩ := bd h
                                      refine xv_cvo E eh339 12 (as := [.inl v_330, .inl v_332, .inl v_334]) (t252 G l (c_I_some h337)) cd252 mw1343 mw1344 mw1345 (show decode code 863 = .ok (.invokevirtual 102, 3) by decide +kernel) th339 rfl rfl (Nat.le_of_ble_eq_true rfl) ⟨Nat.le_of_ble_eq_true rfl, Nat.le_of_ble_eq_true rfl⟩ ?_
                                      by_cases q340 : q_326.1 = q_336.1
                                      · rw [if_pos q340] at h
                                        refine xv_icmp_eq E 1027 (show decode code 866 = .ok (.if_icmp .eq (161), 3) by decide +kernel) rfl (fun _ => ?_) (fun z => absurd q340 z)
                                        exact xv_w (sb999_1027 E B hX hbl hG hfin o1 o2 v3 q_336.2 h hN) rfl
                                      · rw [if_neg q340] at h
                                        refine xv_icmp_eq E 1027 (show decode code 866 = .ok (.if_icmp .eq (161), 3) by decide +kernel) rfl (fun z => absurd z q340) (fun _ => ?_)
                                        refine xv_b E [.iconst 0] (pc' := 870) (lv' := [(0, .inr (.inr (some sb))), (1, .inr (.inr o1)), (2, .inr (.inr o2)), (3, .inl v3)]) (st' := [.inl (0 : Int32)]) (by decide +kernel) rfl rfl ?_
                                        cases h
                                    · rw [if_neg q319] at h
                                      by_cases q341 : (v_21 &&& (31 : Int32)) = 17
                                      · rw [if_pos q341] at h
                                        refine xv_tabIn E (off := 808) 871 (show decode code 63 = .ok (.tableswitch (964) 0 21 #[101, 124, 187, 210, 233, 292, 329, 362, 405, 428, 491, 598, 621, 655, 688, 732, 765, 808, 851, 874, 918, 941], 101) by decide +kernel) (by rw [q341]; decide) (by rw [q341]; decide) (by rw [q341]; rfl) rfl ?_
                                        refine xv_b E [.aload_n 1, .aload_n 0, .iload_n 3, .iconst 1, .iadd] (pc' := 876) (lv' := [(0, .inr (.inr (some sb))), (1, .inr (.inr o1)), (2, .inr (.inr o2)), (3, .inl v3)]) (st' := [.inl (v3 + (1 : Int32)), .inr (.inr (some sb)), .inr (.inr o1)]) (by decide +kernel) rfl rfl ?_
                                        obtain ⟨v_342, h343, h⟩ := bd h
                                        refine xv_sld E hX hbl h343 (show decode code 876 = .ok (.iaload, 1) by decide +kernel) ?_
                                        refine xv_b E [.aload_n 0, .iload_n 3, .iconst 2, .iadd] (pc' := 881) (lv' := [(0, .inr (.inr (some sb))), (1, .inr (.inr o1)), (2, .inr (.inr o2)), (3, .inl v3)]) (st' := [.inl (v3 + (2 : Int32)), .inr (.inr (some sb)), .inl v_342, .inr (.inr o1)]) (by decide +kernel) rfl rfl ?_
                                        obtain ⟨v_344, h345, h⟩ := bd h
                                        refine xv_sld E hX hbl h345 (show decode code 881 = .ok (.iaload, 1) by decide +kernel) ?_
                                        refine xv_b E [.aload_n 0, .iload_n 3, .iconst 3, .iadd] (pc' := 886) (lv' := [(0, .inr (.inr (some sb))), (1, .inr (.inr o1)), (2, .inr (.inr o2)), (3, .inl v3)]) (st' := [.inl (v3 + (3 : Int32)), .inr (.inr (some sb)), .inl v_344, .inl v_342, .inr (.inr o1)]) (by decide +kernel) rfl rfl ?_
                                        obtain ⟨v_346, h347, h⟩ := bd h
                                        refine xv_sld E hX hbl h347 (show decode code 886 = .ok (.iaload, 1) by decide +kernel) ?_
                                        obtain ⟨b_350, h351, h⟩ := bd h
                                        obtain ⟨eh351, th351⟩ := g_o_some h351
                                        obtain ⟨q_348, h349, h⟩ := bd h
                                        refine xv_cvo E eh351 11 (as := [.inl v_342, .inl v_344, .inl v_346]) (t159 G l (c_I_some h349)) cd159 mw1346 mw1347 mw1348 (show decode code 887 = .ok (.invokevirtual 103, 3) by decide +kernel) th351 rfl rfl (Nat.le_of_ble_eq_true rfl) ⟨Nat.le_of_ble_eq_true rfl, Nat.le_of_ble_eq_true rfl⟩ ?_
                                        refine xv_b E [.aload_n 2, .aload_n 0, .iload_n 3, .iconst 1, .iadd] (pc' := 895) (lv' := [(0, .inr (.inr (some sb))), (1, .inr (.inr o1)), (2, .inr (.inr o2)), (3, .inl v3)]) (st' := [.inl (v3 + (1 : Int32)), .inr (.inr (some sb)), .inr (.inr o2), .inl q_348.1]) (by decide +kernel) rfl rfl ?_
                                        obtain ⟨v_352, h353, h⟩ := bd h
                                        refine xv_sld E hX hbl h353 (show decode code 895 = .ok (.iaload, 1) by decide +kernel) ?_
                                        refine xv_b E [.aload_n 0, .iload_n 3, .iconst 2, .iadd] (pc' := 900) (lv' := [(0, .inr (.inr (some sb))), (1, .inr (.inr o1)), (2, .inr (.inr o2)), (3, .inl v3)]) (st' := [.inl (v3 + (2 : Int32)), .inr (.inr (some sb)), .inl v_352, .inr (.inr o2), .inl q_348.1]) (by decide +kernel) rfl rfl ?_
                                        obtain ⟨v_354, h355, h⟩ := bd h
                                        refine xv_sld E hX hbl h355 (show decode code 900 = .ok (.iaload, 1) by decide +kernel) ?_
                                        refine xv_b E [.aload_n 0, .iload_n 3, .iconst 3, .iadd] (pc' := 905) (lv' := [(0, .inr (.inr (some sb))), (1, .inr (.inr o1)), (2, .inr (.inr o2)), (3, .inl v3)]) (st' := [.inl (v3 + (3 : Int32)), .inr (.inr (some sb)), .inl v_354, .inl v_352, .inr (.inr o2), .inl q_348.1]) (by decide +kernel) rfl rfl ?_
                                        obtain ⟨v_356, h357, h⟩ := bd h
                                        refine xv_sld E hX hbl h357 (show decode code 905 = .ok (.iaload, 1) by decide +kernel) ?_
                                        obtain ⟨b_360, h361, h⟩ := bd h
                                        obtain ⟨eh361, th361⟩ := g_o_some h361
                                        obtain ⟨q_358, h359, h⟩ := bd h
                                        refine xv_cvo E eh361 12 (as := [.inl v_352, .inl v_354, .inl v_356]) (t253 G l (c_I_some h359)) cd253 mw1349 mw1350 mw1351 (show decode code 906 = .ok (.invokevirtual 106, 3) by decide +kernel) th361 rfl rfl (Nat.le_of_ble_eq_true rfl) ⟨Nat.le_of_ble_eq_true rfl, Nat.le_of_ble_eq_true rfl⟩ ?_
                                        by_cases q362 : q_348.1 = q_358.1
                                        · rw [if_pos q362] at h
                                          refine xv_icmp_eq E 1027 (show decode code 909 = .ok (.if_icmp .eq (118), 3) by decide +kernel) rfl (fun _ => ?_) (fun z => absurd q362 z)
                                          exact xv_w (sb999_1027 E B hX hbl hG hfin o1 o2 v3 q_358.2 h hN) rfl
                                        · rw [if_neg q362] at h
                                          refine xv_icmp_eq E 1027 (show decode code 909 = .ok (.if_icmp .eq (118), 3) by decide +kernel) rfl (fun z => absurd z q362) (fun _ => ?_)
                                          refine xv_b E [.iconst 0] (pc' := 913) (lv' := [(0, .inr (.inr (some sb))), (1, .inr (.inr o1)), (2, .inr (.inr o2)), (3, .inl v3)]) (st' := [.inl (0 : Int32)]) (by decide +kernel) rfl rfl ?_
                                          cases h
                                      · rw [if_neg q341] at h
                                        by_cases q363 : (v_21 &&& (31 : Int32)) = 18
                                        · rw [if_pos q363] at h
                                          refine xv_tabIn E (off := 851) 914 (show decode code 63 = .ok (.tableswitch (964) 0 21 #[101, 124, 187, 210, 233, 292, 329, 362, 405, 428, 491, 598, 621, 655, 688, 732, 765, 808, 851, 874, 918, 941], 101) by decide +kernel) (by rw [q363]; decide) (by rw [q363]; decide) (by rw [q363]; rfl) rfl ?_
                                          refine xv_b E [.aload_n 1, .aload_n 0, .iload_n 3, .iconst 1, .iadd] (pc' := 919) (lv' := [(0, .inr (.inr (some sb))), (1, .inr (.inr o1)), (2, .inr (.inr o2)), (3, .inl v3)]) (st' := [.inl (v3 + (1 : Int32)), .inr (.inr (some sb)), .inr (.inr o1)]) (by decide +kernel) rfl rfl ?_
                                          obtain ⟨v_364, h365, h⟩ := bd h
                                          refine xv_sld E hX hbl h365 (show decode code 919 = .ok (.iaload, 1) by decide +kernel) ?_
                                          obtain ⟨b_368, h369, h⟩ := bd h
                                          obtain ⟨eh369, th369⟩ := g_o_some h369
                                          obtain ⟨q_366, h367, h⟩ := bd h
                                          refine xv_cvo E eh369 11 (as := [.inl v_364]) (t160 G l (c_I_some h367)) cd160 mw1352 mw1353 mw1354 (show decode code 920 = .ok (.invokevirtual 107, 3) by decide +kernel) th369 rfl rfl (Nat.le_of_ble_eq_true rfl) ⟨Nat.le_of_ble_eq_true rfl, Nat.le_of_ble_eq_true rfl⟩ ?_
                                          refine xv_b E [.aload_n 2, .aload_n 0, .iload_n 3, .iconst 1, .iadd] (pc' := 928) (lv' := [(0, .inr (.inr (some sb))), (1, .inr (.inr o1)), (2, .inr (.inr o2)), (3, .inl v3)]) (st' := [.inl (v3 + (1 : Int32)), .inr (.inr (some sb)), .inr (.inr o2), .inl q_366.1]) (by decide +kernel) rfl rfl ?_
                                          obtain ⟨v_370, h371, h⟩ := bd h
                                          refine xv_sld E hX hbl h371 (show decode code 928 = .ok (.iaload, 1) by decide +kernel) ?_
                                          obtain ⟨b_374, h375, h⟩ := bd h
                                          obtain ⟨eh375, th375⟩ := g_o_some h375
                                          obtain ⟨q_372, h373, h⟩ := bd h
                                          refine xv_cvo E eh375 12 (as := [.inl v_370]) (t254 G l (c_I_some h373)) cd254 mw1355 mw1356 mw1357 (show decode code 929 = .ok (.invokevirtual 110, 3) by decide +kernel) th375 rfl rfl (Nat.le_of_ble_eq_true rfl) ⟨Nat.le_of_ble_eq_true rfl, Nat.le_of_ble_eq_true rfl⟩ ?_
                                          by_cases q376 : q_366.1 = q_372.1
                                          · rw [if_pos q376] at h
                                            refine xv_icmp_eq E 1027 (show decode code 932 = .ok (.if_icmp .eq (95), 3) by decide +kernel) rfl (fun _ => ?_) (fun z => absurd q376 z)
                                            exact xv_w (sb999_1027 E B hX hbl hG hfin o1 o2 v3 q_372.2 h hN) rfl
                                          · rw [if_neg q376] at h
                                            refine xv_icmp_eq E 1027 (show decode code 932 = .ok (.if_icmp .eq (95), 3) by decide +kernel) rfl (fun z => absurd z q376) (fun _ => ?_)
                                            refine xv_b E [.iconst 0] (pc' := 936) (lv' := [(0, .inr (.inr (some sb))), (1, .inr (.inr o1)), (2, .inr (.inr o2)), (3, .inl v3)]) (st' := [.inl (0 : Int32)]) (by decide +kernel) rfl rfl ?_
                                            cases h
                                        · rw [if_neg q363] at h
                                          by_cases q377 : (v_21 &&& (31 : Int32)) = 19
                                          · rw [if_pos q377] at h
                                            refine xv_tabIn E (off := 874) 937 (show decode code 63 = .ok (.tableswitch (964) 0 21 #[101, 124, 187, 210, 233, 292, 329, 362, 405, 428, 491, 598, 621, 655, 688, 732, 765, 808, 851, 874, 918, 941], 101) by decide +kernel) (by rw [q377]; decide) (by rw [q377]; decide) (by rw [q377]; rfl) rfl ?_
                                            refine xv_b E [.aload_n 1, .aload_n 0, .iload_n 3, .iconst 1, .iadd] (pc' := 942) (lv' := [(0, .inr (.inr (some sb))), (1, .inr (.inr o1)), (2, .inr (.inr o2)), (3, .inl v3)]) (st' := [.inl (v3 + (1 : Int32)), .inr (.inr (some sb)), .inr (.inr o1)]) (by decide +kernel) rfl rfl ?_
                                            obtain ⟨v_378, h379, h⟩ := bd h
                                            refine xv_sld E hX hbl h379 (show decode code 942 = .ok (.iaload, 1) by decide +kernel) ?_
                                            refine xv_b E [.aload_n 0, .iload_n 3, .iconst 2, .iadd] (pc' := 947) (lv' := [(0, .inr (.inr (some sb))), (1, .inr (.inr o1)), (2, .inr (.inr o2)), (3, .inl v3)]) (st' := [.inl (v3 + (2 : Int32)), .inr (.inr (some sb)), .inl v_378, .inr (.inr o1)]) (by decide +kernel) rfl rfl ?_
                                            obtain ⟨v_380, h381, h⟩ := bd h
                                            refine xv_sld E hX hbl h381 (show decode code 947 = .ok (.iaload, 1) by decide +kernel) ?_
                                            refine xv_b E [.aload_n 0, .iload_n 3, .iconst 3, .iadd] (pc' := 952) (lv' := [(0, .inr (.inr (some sb))), (1, .inr (.inr o1)), (2, .inr (.inr o2)), (3, .inl v3)]) (st' := [.inl (v3 + (3 : Int32)), .inr (.inr (some sb)), .inl v_380, .inl v_378, .inr (.inr o1)]) (by decide +kernel) rfl rfl ?_
                                            obtain ⟨v_382, h383, h⟩ := bd h
                                            refine xv_sld E hX hbl h383 (show decode code 952 = .ok (.iaload, 1) by decide +kernel) ?_
                                            obtain ⟨b_386, h387, h⟩ := bd h
                                            obtain ⟨eh387, th387⟩ := g_o_some h387
                                            obtain ⟨q_384, h385, h⟩ := bd h
                                            refine xv_cvo E eh387 11 (as := [.inl v_378, .inl v_380, .inl v_382]) (t161 G l (c_L_some h385)) cd161 mw1358 mw1359 mw1360 (show decode code 953 = .ok (.invokevirtual 111, 3) by decide +kernel) th387 rfl rfl (Nat.le_of_ble_eq_true rfl) ⟨Nat.le_of_ble_eq_true rfl, Nat.le_of_ble_eq_true rfl⟩ ?_
                                            refine xv_b E [.aload_n 2, .aload_n 0, .iload_n 3, .iconst 1, .iadd] (pc' := 961) (lv' := [(0, .inr (.inr (some sb))), (1, .inr (.inr o1)), (2, .inr (.inr o2)), (3, .inl v3)]) (st' := [.inl (v3 + (1 : Int32)), .inr (.inr (some sb)), .inr (.inr o2), .inr (.inl q_384.1)]) (by decide +kernel) rfl rfl ?_
                                            obtain ⟨v_388, h389, h⟩ := bd h
                                            refine xv_sld E hX hbl h389 (show decode code 961 = .ok (.iaload, 1) by decide +kernel) ?_
                                            refine xv_b E [.aload_n 0, .iload_n 3, .iconst 2, .iadd] (pc' := 966) (lv' := [(0, .inr (.inr (some sb))), (1, .inr (.inr o1)), (2, .inr (.inr o2)), (3, .inl v3)]) (st' := [.inl (v3 + (2 : Int32)), .inr (.inr (some sb)), .inl v_388, .inr (.inr o2), .inr (.inl q_384.1)]) (by decide +kernel) rfl rfl ?_
                                            obtain ⟨v_390, h391, h⟩ := bd h
                                            refine xv_sld E hX hbl h391 (show decode code 966 = .ok (.iaload, 1) by decide +kernel) ?_
                                            refine xv_b E [.aload_n 0, .iload_n 3, .iconst 3, .iadd] (pc' := 971) (lv' := [(0, .inr (.inr (some sb))), (1, .inr (.inr o1)), (2, .inr (.inr o2)), (3, .inl v3)]) (st' := [.inl (v3 + (3 : Int32)), .inr (.inr (some sb)), .inl v_390, .inl v_388, .inr (.inr o2), .inr (.inl q_384.1)]) (by decide +kernel) rfl rfl ?_
                                            obtain ⟨v_392, h393, h⟩ := bd h
                                            refine xv_sld E hX hbl h393 (show decode code 971 = .ok (.iaload, 1) by decide +kernel) ?_
                                            obtain ⟨b_396, h397, h⟩ := bd h
                                            obtain ⟨eh397, th397⟩ := g_o_some h397
                                            obtain ⟨q_394, h395, h⟩ := bd h
                                            refine xv_cvo E eh397 12 (as := [.inl v_388, .inl v_390, .inl v_392]) (t255 G l (c_L_some h395)) cd255 mw1361 mw1362 mw1363 (show decode code 972 = .ok (.invokevirtual 114, 3) by decide +kernel) th397 rfl rfl (Nat.le_of_ble_eq_true rfl) ⟨Nat.le_of_ble_eq_true rfl, Nat.le_of_ble_eq_true rfl⟩ ?_
                                            refine xv_lcmp E (show decode code 975 = .ok (.lcmp, 1) by decide +kernel) ?_
                                            by_cases q398 : (lg_cmp q_384.1 q_394.1) = 0
                                            · rw [if_pos q398] at h
                                              refine xv_if_eq E 1027 (show decode code 976 = .ok (.ifCond .eq (51), 3) by decide +kernel) rfl (fun _ => ?_) (fun z => absurd q398 z)
                                              exact xv_w (sb999_1027 E B hX hbl hG hfin o1 o2 v3 q_394.2 h hN) rfl
                                            · rw [if_neg q398] at h
                                              refine xv_if_eq E 1027 (show decode code 976 = .ok (.ifCond .eq (51), 3) by decide +kernel) rfl (fun z => absurd z q398) (fun _ => ?_)
                                              refine xv_b E [.iconst 0] (pc' := 980) (lv' := [(0, .inr (.inr (some sb))), (1, .inr (.inr o1)), (2, .inr (.inr o2)), (3, .inl v3)]) (st' := [.inl (0 : Int32)]) (by decide +kernel) rfl rfl ?_
                                              cases h
                                          · rw [if_neg q377] at h
                                            by_cases q399 : (v_21 &&& (31 : Int32)) = 20
                                            · rw [if_pos q399] at h
                                              refine xv_tabIn E (off := 918) 981 (show decode code 63 = .ok (.tableswitch (964) 0 21 #[101, 124, 187, 210, 233, 292, 329, 362, 405, 428, 491, 598, 621, 655, 688, 732, 765, 808, 851, 874, 918, 941], 101) by decide +kernel) (by rw [q399]; decide) (by rw [q399]; decide) (by rw [q399]; rfl) rfl ?_
                                              refine xv_b E [.aload_n 1, .aload_n 0, .iload_n 3, .iconst 1, .iadd] (pc' := 986) (lv' := [(0, .inr (.inr (some sb))), (1, .inr (.inr o1)), (2, .inr (.inr o2)), (3, .inl v3)]) (st' := [.inl (v3 + (1 : Int32)), .inr (.inr (some sb)), .inr (.inr o1)]) (by decide +kernel) rfl rfl ?_
                                              obtain ⟨v_400, h401, h⟩ := bd h
                                              refine xv_sld E hX hbl h401 (show decode code 986 = .ok (.iaload, 1) by decide +kernel) ?_
                                              obtain ⟨b_404, h405, h⟩ := bd h
                                              obtain ⟨eh405, th405⟩ := g_o_some h405
                                              obtain ⟨q_402, h403, h⟩ := bd h
                                              refine xv_cvo E eh405 11 (as := [.inl v_400]) (t162 G l (c_I_some h403)) cd162 mw1364 mw1365 mw1366 (show decode code 987 = .ok (.invokevirtual 115, 3) by decide +kernel) th405 rfl rfl (Nat.le_of_ble_eq_true rfl) ⟨Nat.le_of_ble_eq_true rfl, Nat.le_of_ble_eq_true rfl⟩ ?_
                                              refine xv_b E [.aload_n 2, .aload_n 0, .iload_n 3, .iconst 1, .iadd] (pc' := 995) (lv' := [(0, .inr (.inr (some sb))), (1, .inr (.inr o1)), (2, .inr (.inr o2)), (3, .inl v3)]) (st' := [.inl (v3 + (1 : Int32)), .inr (.inr (some sb)), .inr (.inr o2), .inl q_402.1]) (by decide +kernel) rfl rfl ?_
                                              obtain ⟨v_406, h407, h⟩ := bd h
                                              refine xv_sld E hX hbl h407 (show decode code 995 = .ok (.iaload, 1) by decide +kernel) ?_
                                              obtain ⟨b_410, h411, h⟩ := bd h
                                              obtain ⟨eh411, th411⟩ := g_o_some h411
                                              obtain ⟨q_408, h409, h⟩ := bd h
                                              refine xv_cvo E eh411 12 (as := [.inl v_406]) (t256 G l (c_I_some h409)) cd256 mw1367 mw1368 mw1369 (show decode code 996 = .ok (.invokevirtual 118, 3) by decide +kernel) th411 rfl rfl (Nat.le_of_ble_eq_true rfl) ⟨Nat.le_of_ble_eq_true rfl, Nat.le_of_ble_eq_true rfl⟩ ?_
                                              by_cases q412 : q_402.1 = q_408.1
                                              · rw [if_pos q412] at h
                                                refine xv_icmp_eq E 1027 (show decode code 999 = .ok (.if_icmp .eq (28), 3) by decide +kernel) rfl (fun _ => ?_) (fun z => absurd q412 z)
                                                exact xv_w (sb999_1027 E B hX hbl hG hfin o1 o2 v3 q_408.2 h hN) rfl
                                              · rw [if_neg q412] at h
                                                refine xv_icmp_eq E 1027 (show decode code 999 = .ok (.if_icmp .eq (28), 3) by decide +kernel) rfl (fun z => absurd z q412) (fun _ => ?_)
                                                refine xv_b E [.iconst 0] (pc' := 1003) (lv' := [(0, .inr (.inr (some sb))), (1, .inr (.inr o1)), (2, .inr (.inr o2)), (3, .inl v3)]) (st' := [.inl (0 : Int32)]) (by decide +kernel) rfl rfl ?_
                                                cases h
                                            · rw [if_neg q399] at h
                                              by_cases q413 : (v_21 &&& (31 : Int32)) = 21
                                              · rw [if_pos q413] at h
                                                refine xv_tabIn E (off := 941) 1004 (show decode code 63 = .ok (.tableswitch (964) 0 21 #[101, 124, 187, 210, 233, 292, 329, 362, 405, 428, 491, 598, 621, 655, 688, 732, 765, 808, 851, 874, 918, 941], 101) by decide +kernel) (by rw [q413]; decide) (by rw [q413]; decide) (by rw [q413]; rfl) rfl ?_
                                                refine xv_b E [.aload_n 1, .aload_n 0, .iload_n 3, .iconst 1, .iadd] (pc' := 1009) (lv' := [(0, .inr (.inr (some sb))), (1, .inr (.inr o1)), (2, .inr (.inr o2)), (3, .inl v3)]) (st' := [.inl (v3 + (1 : Int32)), .inr (.inr (some sb)), .inr (.inr o1)]) (by decide +kernel) rfl rfl ?_
                                                obtain ⟨v_414, h415, h⟩ := bd h
                                                refine xv_sld E hX hbl h415 (show decode code 1009 = .ok (.iaload, 1) by decide +kernel) ?_
                                                obtain ⟨b_418, h419, h⟩ := bd h
                                                obtain ⟨eh419, th419⟩ := g_o_some h419
                                                obtain ⟨q_416, h417, h⟩ := bd h
                                                refine xv_cvo E eh419 11 (as := [.inl v_414]) (t163 G l (c_I_some h417)) cd163 mw1370 mw1371 mw1372 (show decode code 1010 = .ok (.invokevirtual 119, 3) by decide +kernel) th419 rfl rfl (Nat.le_of_ble_eq_true rfl) ⟨Nat.le_of_ble_eq_true rfl, Nat.le_of_ble_eq_true rfl⟩ ?_
                                                refine xv_b E [.aload_n 2, .aload_n 0, .iload_n 3, .iconst 1, .iadd] (pc' := 1018) (lv' := [(0, .inr (.inr (some sb))), (1, .inr (.inr o1)), (2, .inr (.inr o2)), (3, .inl v3)]) (st' := [.inl (v3 + (1 : Int32)), .inr (.inr (some sb)), .inr (.inr o2), .inl q_416.1]) (by decide +kernel) rfl rfl ?_
                                                obtain ⟨v_420, h421, h⟩ := bd h
                                                refine xv_sld E hX hbl h421 (show decode code 1018 = .ok (.iaload, 1) by decide +kernel) ?_
                                                obtain ⟨b_424, h425, h⟩ := bd h
                                                obtain ⟨eh425, th425⟩ := g_o_some h425
                                                obtain ⟨q_422, h423, h⟩ := bd h
                                                refine xv_cvo E eh425 12 (as := [.inl v_420]) (t257 G l (c_I_some h423)) cd257 mw1373 mw1374 mw1375 (show decode code 1019 = .ok (.invokevirtual 122, 3) by decide +kernel) th425 rfl rfl (Nat.le_of_ble_eq_true rfl) ⟨Nat.le_of_ble_eq_true rfl, Nat.le_of_ble_eq_true rfl⟩ ?_
                                                by_cases q426 : q_416.1 = q_422.1
                                                · rw [if_pos q426] at h
                                                  refine xv_icmp_eq E 1027 (show decode code 1022 = .ok (.if_icmp .eq (5), 3) by decide +kernel) rfl (fun _ => ?_) (fun z => absurd q426 z)
                                                  exact xv_w (sb999_1027 E B hX hbl hG hfin o1 o2 v3 q_422.2 h hN) rfl
                                                · rw [if_neg q426] at h
                                                  refine xv_icmp_eq E 1027 (show decode code 1022 = .ok (.if_icmp .eq (5), 3) by decide +kernel) rfl (fun z => absurd z q426) (fun _ => ?_)
                                                  refine xv_b E [.iconst 0] (pc' := 1026) (lv' := [(0, .inr (.inr (some sb))), (1, .inr (.inr o1)), (2, .inr (.inr o2)), (3, .inl v3)]) (st' := [.inl (0 : Int32)]) (by decide +kernel) rfl rfl ?_
                                                  cases h
                                              · rw [if_neg q413] at h
                                                refine xv_tabOut E 1027 (show decode code 63 = .ok (.tableswitch (964) 0 21 #[101, 124, 187, 210, 233, 292, 329, 362, 405, 428, 491, 598, 621, 655, 688, 732, 765, 808, 851, 874, 918, 941], 101) by decide +kernel) (sw_out (lo := 0) (hi := 21) (by decide) (by decide) (fun k h1 h2 => ?_)) rfl ?_
                                                · rcases (show k = 0 ∨ k = 1 ∨ k = 2 ∨ k = 3 ∨ k = 4 ∨ k = 5 ∨ k = 6 ∨ k = 7 ∨ k = 8 ∨ k = 9 ∨ k = 10 ∨ k = 11 ∨ k = 12 ∨ k = 13 ∨ k = 14 ∨ k = 15 ∨ k = 16 ∨ k = 17 ∨ k = 18 ∨ k = 19 ∨ k = 20 ∨ k = 21 by omega) with rfl | rfl | rfl | rfl | rfl | rfl | rfl | rfl | rfl | rfl | rfl | rfl | rfl | rfl | rfl | rfl | rfl | rfl | rfl | rfl | rfl | rfl
                                                  · exact q23
                                                  · exact q37
                                                  · exact q67
                                                  · exact q81
                                                  · exact q95
                                                  · exact q103
                                                  · exact q107
                                                  · exact q125
                                                  · exact q147
                                                  · exact q161
                                                  · exact q191
                                                  · exact q229
                                                  · exact q243
                                                  · exact q261
                                                  · exact q279
                                                  · exact q301
                                                  · exact q319
                                                  · exact q341
                                                  · exact q363
                                                  · exact q377
                                                  · exact q399
                                                  · exact q413
                                                · exact xv_w (sb999_1027 E B hX hbl hG hfin o1 o2 v3 M h hN) rfl
theorem law_runs (E : xE G p room_1 s m #[Value.ref sb] c code "ZonedFabricLaw" z0 y0 (z0 + 600000) (y0 + 7302250) 4) (B : meth.sig.returnType = ret ∧ meth.locks = false) (hX : va_X sb N xs s G.2.1) (hbl : sb < G.2.1.size) (hG : G.2.1.size = s.heap.size) (hfin : h_sz M' ≤ z0 + 600000 ∧ h_sl M' ≤ y0 + 7302250) {M : hM} (h : fLaw xs N M = some (r, M')) : xV G p l e room_1 s m #[Value.ref sb] below meth c z0 y0 (z0 + 600000) (y0 + 7302250) 4 (lw_Z below #[Value.ref sb] s) 0 [(0, .inr (.inr (some sb)))] [] M := by
  unfold fLaw at h
  obtain ⟨res, hx, hres⟩ := x_go_ok h
  refine sb999_0 E B hX hbl hG hfin M hx (hres _ ?_)
  intro h as M res hb hN
  unfold k999 at hb
  unfold pg999
  by_cases e0 : h = 48
  · rw [if_pos e0] at hb ⊢
    split at hb
    · exact sb999_48 E B hX hbl hG hfin _ _ _ M hb hN
    · cases hb
  · rw [if_neg e0] at hb ⊢
    cases hb
end
