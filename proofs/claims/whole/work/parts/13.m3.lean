theorem mw266 : Cond.code ⟨"ZonedFabric$Port", "send", "(LZonedFabric$Frame;)V"⟩ prog_10_method_10_code 2 none ∈ xTs := xTs_in (tk3 (List.mem_of_getElem? (i := 210) (by decide +kernel))) rfl
theorem mw267 : Cond.code ⟨"ZonedFabric$Port", "sendFirst", "()V"⟩ prog_10_method_11_code 1 none ∈ xTs := xTs_in (tk3 (List.mem_of_getElem? (i := 192) (by decide +kernel))) rfl
theorem mw268 : Cond.fieldLink "ZonedFabric$Port" 93 "ZonedFabric$FrameLine" "first" "LZonedFabric$Frame;" ∈ xTs := xTs_in (tk1 (List.mem_of_getElem? (i := 114) (by decide +kernel))) rfl
theorem mw269 : Cond.methodLink "ZonedFabric$Port" 96 ⟨"ZonedFabric$Port", "canSend", "()Z"⟩ ∈ xTs := xTs_in (tk3 (List.mem_of_getElem? (i := 193) (by decide +kernel))) rfl
theorem mw270 : Cond.instanceMethod ⟨"ZonedFabric$Port", "canSend", "()Z"⟩ ∈ xTs := xTs_in (tk3 (List.mem_of_getElem? (i := 194) (by decide +kernel))) rfl
theorem mw271 : Cond.selects "ZonedFabric$Port" ⟨"ZonedFabric$Port", "canSend", "()Z"⟩ ⟨"ZonedFabric$Port", "canSend", "()Z"⟩ ∈ xTs := xTs_in (tk3 (List.mem_of_getElem? (i := 195) (by decide +kernel))) rfl
theorem mw272 : Cond.methodLink "ZonedFabric$Port" 99 ⟨"ZonedFabric$Frame", "seal", "()V"⟩ ∈ xTs := xTs_in (tk3 (List.mem_of_getElem? (i := 197) (by decide +kernel))) rfl
theorem mw273 : Cond.instanceMethod ⟨"ZonedFabric$Frame", "seal", "()V"⟩ ∈ xTs := xTs_in (tk3 (List.mem_of_getElem? (i := 198) (by decide +kernel))) rfl
theorem mw274 : Cond.selects "ZonedFabric$Frame" ⟨"ZonedFabric$Frame", "seal", "()V"⟩ ⟨"ZonedFabric$Frame", "seal", "()V"⟩ ∈ xTs := xTs_in (tk3 (List.mem_of_getElem? (i := 199) (by decide +kernel))) rfl
theorem mw275 : Cond.methodLink "ZonedFabric$Port" 104 ⟨"ZonedFabric$Port", "send", "(LZonedFabric$Frame;)V"⟩ ∈ xTs := xTs_in (tk3 (List.mem_of_getElem? (i := 207) (by decide +kernel))) rfl
theorem mw276 : Cond.instanceMethod ⟨"ZonedFabric$Port", "send", "(LZonedFabric$Frame;)V"⟩ ∈ xTs := xTs_in (tk3 (List.mem_of_getElem? (i := 208) (by decide +kernel))) rfl
theorem mw277 : Cond.selects "ZonedFabric$Port" ⟨"ZonedFabric$Port", "send", "(LZonedFabric$Frame;)V"⟩ ⟨"ZonedFabric$Port", "send", "(LZonedFabric$Frame;)V"⟩ ∈ xTs := xTs_in (tk3 (List.mem_of_getElem? (i := 209) (by decide +kernel))) rfl
theorem mw278 : Cond.code ⟨"ZonedFabric$Disc", "runTimers", "()V"⟩ prog_3_method_3_code 2 none ∈ xTs := xTs_in (tk5 (List.mem_of_getElem? (i := 34) (by decide +kernel))) rfl
theorem mw279 : Cond.fieldLink "ZonedFabric$Disc" 42 "ZonedFabric$Shared" "time" "I" ∈ xTs := xTs_in (tk1 (List.mem_of_getElem? (i := 42) (by decide +kernel))) rfl
theorem mw280 : Cond.fieldLink "ZonedFabric$Disc" 47 "ZonedFabric$OpenWrite" "openedAt" "I" ∈ xTs := xTs_in (tk2 (List.mem_of_getElem? (i := 111) (by decide +kernel))) rfl
theorem mw281 : Cond.code ⟨"ZonedFabric$Command", "isEnded", "()Z"⟩ prog_2_method_3_code 1 (some FieldType.boolean) ∈ xTs := xTs_in (tk4 (List.mem_of_getElem? (i := 122) (by decide +kernel))) rfl
theorem mw282 : Cond.initialized "ZonedFabric$Command" ∈ xTs := xTs_in (tk1 (List.mem_of_getElem? (i := 15) (by decide +kernel))) rfl
theorem mw283 : Cond.fieldLink "ZonedFabric$Command" 36 "ZonedFabric$Command" "state" "I" ∈ xTs := xTs_in (tk5 (List.mem_of_getElem? (i := 78) (by decide +kernel))) rfl
theorem mw284 : Cond.code ⟨"ZonedFabric$Command", "order", "()J"⟩ prog_2_method_2_code 1 (some FieldType.long) ∈ xTs := xTs_in (tk4 (List.mem_of_getElem? (i := 130) (by decide +kernel))) rfl
theorem mw285 : Cond.fieldLink "ZonedFabric$Command" 23 "ZonedFabric$Command" "unit" "I" ∈ xTs := xTs_in (tk5 (List.mem_of_getElem? (i := 64) (by decide +kernel))) rfl
theorem mw286 : Cond.fieldLink "ZonedFabric$Command" 19 "ZonedFabric$Command" "writes" "Z" ∈ xTs := xTs_in (tk5 (List.mem_of_getElem? (i := 61) (by decide +kernel))) rfl
theorem mw287 : Cond.fieldLink "ZonedFabric$Command" 26 "ZonedFabric$Command" "block" "I" ∈ xTs := xTs_in (tk5 (List.mem_of_getElem? (i := 65) (by decide +kernel))) rfl
theorem mw288 : Cond.fieldLink "ZonedFabric$Command" 29 "ZonedFabric$Command" "count" "I" ∈ xTs := xTs_in (tk5 (List.mem_of_getElem? (i := 66) (by decide +kernel))) rfl
theorem mw289 : Cond.code ⟨"ZonedFabric$Host", "sendForPhase", "(LZonedFabric$Command;)V"⟩ prog_6_method_8_code 4 none ∈ xTs := xTs_in (tk4 (List.mem_of_getElem? (i := 118) (by decide +kernel))) rfl
theorem mw290 : Cond.fieldLink "ZonedFabric$Host" 73 "ZonedFabric$Node" "address" "I" ∈ xTs := xTs_in (tk2 (List.mem_of_getElem? (i := 8) (by decide +kernel))) rfl
theorem mw291 : Cond.methodLink "ZonedFabric$Host" 38 ⟨"ZonedFabric$Command", "isEnded", "()Z"⟩ ∈ xTs := xTs_in (tk4 (List.mem_of_getElem? (i := 119) (by decide +kernel))) rfl
theorem mw292 : Cond.instanceMethod ⟨"ZonedFabric$Command", "isEnded", "()Z"⟩ ∈ xTs := xTs_in (tk4 (List.mem_of_getElem? (i := 120) (by decide +kernel))) rfl
theorem mw293 : Cond.selects "ZonedFabric$Command" ⟨"ZonedFabric$Command", "isEnded", "()Z"⟩ ⟨"ZonedFabric$Command", "isEnded", "()Z"⟩ ∈ xTs := xTs_in (tk4 (List.mem_of_getElem? (i := 121) (by decide +kernel))) rfl
theorem mw294 : Cond.fieldLink "ZonedFabric$Host" 63 "ZonedFabric$Command" "state" "I" ∈ xTs := xTs_in (tk5 (List.mem_of_getElem? (i := 79) (by decide +kernel))) rfl
theorem mw295 : Cond.fieldLink "ZonedFabric$Host" 79 "ZonedFabric$Command" "address" "I" ∈ xTs := xTs_in (tk5 (List.mem_of_getElem? (i := 77) (by decide +kernel))) rfl
theorem mw296 : Cond.constant "ZonedFabric$Host" 78 (16777212) ∈ xTs := xTs_in (tk4 (List.mem_of_getElem? (i := 110) (by decide +kernel))) rfl
theorem mw297 : Cond.fieldLink "ZonedFabric$Host" 83 "ZonedFabric$Command" "number" "I" ∈ xTs := xTs_in (tk5 (List.mem_of_getElem? (i := 73) (by decide +kernel))) rfl
theorem mw298 : Cond.methodLink "ZonedFabric$Host" 86 ⟨"ZonedFabric$Shared", "draft", "(IIII)LZonedFabric$Frame;"⟩ ∈ xTs := xTs_in (tk4 (List.mem_of_getElem? (i := 125) (by decide +kernel))) rfl
theorem mw299 : Cond.methodLink "ZonedFabric$Host" 100 ⟨"ZonedFabric$Command", "order", "()J"⟩ ∈ xTs := xTs_in (tk4 (List.mem_of_getElem? (i := 127) (by decide +kernel))) rfl
theorem mw300 : Cond.instanceMethod ⟨"ZonedFabric$Command", "order", "()J"⟩ ∈ xTs := xTs_in (tk4 (List.mem_of_getElem? (i := 128) (by decide +kernel))) rfl
theorem mw301 : Cond.selects "ZonedFabric$Command" ⟨"ZonedFabric$Command", "order", "()J"⟩ ⟨"ZonedFabric$Command", "order", "()J"⟩ ∈ xTs := xTs_in (tk4 (List.mem_of_getElem? (i := 129) (by decide +kernel))) rfl
theorem mw302 : Cond.methodLink "ZonedFabric$Host" 93 ⟨"ZonedFabric$Frame", "addLoad", "(IJ)V"⟩ ∈ xTs := xTs_in (tk4 (List.mem_of_getElem? (i := 126) (by decide +kernel))) rfl
theorem mw303 : Cond.fieldLink "ZonedFabric$Host" 99 "ZonedFabric$Node" "number" "I" ∈ xTs := xTs_in (tk2 (List.mem_of_getElem? (i := 1) (by decide +kernel))) rfl
theorem mw304 : Cond.fieldLink "ZonedFabric$Host" 90 "ZonedFabric$Command" "disc" "I" ∈ xTs := xTs_in (tk5 (List.mem_of_getElem? (i := 75) (by decide +kernel))) rfl
theorem mw305 : Cond.fieldLink "ZonedFabric$Host" 104 "ZonedFabric$Node" "port" "LZonedFabric$Port;" ∈ xTs := xTs_in (tk2 (List.mem_of_getElem? (i := 5) (by decide +kernel))) rfl
theorem mw306 : Cond.methodLink "ZonedFabric$Host" 108 ⟨"ZonedFabric$Port", "post", "(LZonedFabric$Frame;)V"⟩ ∈ xTs := xTs_in (tk4 (List.mem_of_getElem? (i := 131) (by decide +kernel))) rfl
theorem mw307 : Cond.code ⟨"ZonedFabric$Command", "end", "(II)V"⟩ prog_2_method_4_code 3 none ∈ xTs := xTs_in (tk4 (List.mem_of_getElem? (i := 172) (by decide +kernel))) rfl
theorem mw308 : Cond.fieldLink "ZonedFabric$Command" 15 "ZonedFabric$Command" "endedAt" "I" ∈ xTs := xTs_in (tk5 (List.mem_of_getElem? (i := 85) (by decide +kernel))) rfl
theorem mw309 : Cond.code ⟨"ZonedFabric$Host", "enter", "(LZonedFabric$Command;I)V"⟩ prog_6_method_7_code 3 none ∈ xTs := xTs_in (tk4 (List.mem_of_getElem? (i := 114) (by decide +kernel))) rfl
theorem mw310 : Cond.fieldLink "ZonedFabric$Host" 46 "ZonedFabric$Shared" "time" "I" ∈ xTs := xTs_in (tk1 (List.mem_of_getElem? (i := 43) (by decide +kernel))) rfl
theorem mw311 : Cond.fieldLink "ZonedFabric$Host" 60 "ZonedFabric$Command" "phaseAt" "I" ∈ xTs := xTs_in (tk5 (List.mem_of_getElem? (i := 83) (by decide +kernel))) rfl
theorem mw312 : Cond.methodLink "ZonedFabric$Host" 70 ⟨"ZonedFabric$Host", "sendForPhase", "(LZonedFabric$Command;)V"⟩ ∈ xTs := xTs_in (tk4 (List.mem_of_getElem? (i := 115) (by decide +kernel))) rfl
theorem mw313 : Cond.instanceMethod ⟨"ZonedFabric$Host", "sendForPhase", "(LZonedFabric$Command;)V"⟩ ∈ xTs := xTs_in (tk4 (List.mem_of_getElem? (i := 117) (by decide +kernel))) rfl
theorem mw314 : Cond.selects "ZonedFabric$Host" ⟨"ZonedFabric$Host", "sendForPhase", "(LZonedFabric$Command;)V"⟩ ⟨"ZonedFabric$Host", "sendForPhase", "(LZonedFabric$Command;)V"⟩ ∈ xTs := xTs_in (List.mem_append_left _ (List.mem_of_getElem? (i := 35) (by decide +kernel))) rfl
theorem mw315 : Cond.code ⟨"ZonedFabric$Host", "runTimer", "(LZonedFabric$Command;)V"⟩ prog_6_method_6_code 4 none ∈ xTs := xTs_in (tk5 (List.mem_of_getElem? (i := 30) (by decide +kernel))) rfl
theorem mw316 : Cond.fieldLink "ZonedFabric$Host" 49 "ZonedFabric$Command" "beganAt" "I" ∈ xTs := xTs_in (tk5 (List.mem_of_getElem? (i := 81) (by decide +kernel))) rfl
theorem mw317 : Cond.methodLink "ZonedFabric$Host" 66 ⟨"ZonedFabric$Command", "end", "(II)V"⟩ ∈ xTs := xTs_in (tk4 (List.mem_of_getElem? (i := 169) (by decide +kernel))) rfl
theorem mw318 : Cond.instanceMethod ⟨"ZonedFabric$Command", "end", "(II)V"⟩ ∈ xTs := xTs_in (tk4 (List.mem_of_getElem? (i := 170) (by decide +kernel))) rfl
theorem mw319 : Cond.selects "ZonedFabric$Command" ⟨"ZonedFabric$Command", "end", "(II)V"⟩ ⟨"ZonedFabric$Command", "end", "(II)V"⟩ ∈ xTs := xTs_in (tk4 (List.mem_of_getElem? (i := 171) (by decide +kernel))) rfl
theorem mw320 : Cond.methodLink "ZonedFabric$Host" 52 ⟨"ZonedFabric$Host", "enter", "(LZonedFabric$Command;I)V"⟩ ∈ xTs := xTs_in (tk4 (List.mem_of_getElem? (i := 111) (by decide +kernel))) rfl
theorem mw321 : Cond.instanceMethod ⟨"ZonedFabric$Host", "enter", "(LZonedFabric$Command;I)V"⟩ ∈ xTs := xTs_in (tk4 (List.mem_of_getElem? (i := 113) (by decide +kernel))) rfl
theorem mw322 : Cond.selects "ZonedFabric$Host" ⟨"ZonedFabric$Host", "enter", "(LZonedFabric$Command;I)V"⟩ ⟨"ZonedFabric$Host", "enter", "(LZonedFabric$Command;I)V"⟩ ∈ xTs := xTs_in (List.mem_append_left _ (List.mem_of_getElem? (i := 34) (by decide +kernel))) rfl
theorem mw323 : Cond.code ⟨"ZonedFabric$Host", "runTimers", "()V"⟩ prog_6_method_5_code 3 none ∈ xTs := xTs_in (tk5 (List.mem_of_getElem? (i := 26) (by decide +kernel))) rfl
theorem mw324 : Cond.fieldLink "ZonedFabric$Host" 35 "ZonedFabric$Host" "recentCount" "I" ∈ xTs := xTs_in (tk2 (List.mem_of_getElem? (i := 40) (by decide +kernel))) rfl
theorem mw325 : Cond.methodLink "ZonedFabric$Host" 56 ⟨"ZonedFabric$Host", "runTimer", "(LZonedFabric$Command;)V"⟩ ∈ xTs := xTs_in (tk5 (List.mem_of_getElem? (i := 27) (by decide +kernel))) rfl
theorem mw326 : Cond.instanceMethod ⟨"ZonedFabric$Host", "runTimer", "(LZonedFabric$Command;)V"⟩ ∈ xTs := xTs_in (tk5 (List.mem_of_getElem? (i := 29) (by decide +kernel))) rfl
theorem mw327 : Cond.selects "ZonedFabric$Host" ⟨"ZonedFabric$Host", "runTimer", "(LZonedFabric$Command;)V"⟩ ⟨"ZonedFabric$Host", "runTimer", "(LZonedFabric$Command;)V"⟩ ∈ xTs := xTs_in (List.mem_append_left _ (List.mem_of_getElem? (i := 52) (by decide +kernel))) rfl
theorem mw328 : Cond.code ⟨"ZonedFabric$Port", "leave", "()LZonedFabric$Frame;"⟩ prog_10_method_13_code 1 (some (FieldType.object "ZonedFabric$Frame")) ∈ xTs := xTs_in (tk4 (List.mem_of_getElem? (i := 19) (by decide +kernel))) rfl
theorem mw329 : Cond.fieldLink "ZonedFabric$Port" 74 "ZonedFabric$Port" "peer" "LZonedFabric$Port;" ∈ xTs := xTs_in (tk1 (List.mem_of_getElem? (i := 134) (by decide +kernel))) rfl
theorem mw330 : Cond.code ⟨"ZonedFabric$Frame", "byteAt", "(I)I"⟩ prog_4_method_8_code 2 (some FieldType.int) ∈ xTs := xTs_in (tk3 (List.mem_of_getElem? (i := 222) (by decide +kernel))) rfl
theorem mw331 : Cond.code ⟨"ZonedFabric$Frame", "number", "(II)J"⟩ prog_4_method_9_code 6 (some FieldType.long) ∈ xTs := xTs_in (tk3 (List.mem_of_getElem? (i := 226) (by decide +kernel))) rfl
theorem mw332 : Cond.methodLink "ZonedFabric$Frame" 49 ⟨"ZonedFabric$Frame", "byteAt", "(I)I"⟩ ∈ xTs := xTs_in (tk3 (List.mem_of_getElem? (i := 219) (by decide +kernel))) rfl
theorem mw333 : Cond.instanceMethod ⟨"ZonedFabric$Frame", "byteAt", "(I)I"⟩ ∈ xTs := xTs_in (tk3 (List.mem_of_getElem? (i := 220) (by decide +kernel))) rfl
theorem mw334 : Cond.selects "ZonedFabric$Frame" ⟨"ZonedFabric$Frame", "byteAt", "(I)I"⟩ ⟨"ZonedFabric$Frame", "byteAt", "(I)I"⟩ ∈ xTs := xTs_in (tk3 (List.mem_of_getElem? (i := 221) (by decide +kernel))) rfl
theorem mw335 : Cond.code ⟨"ZonedFabric$Frame", "kind", "()I"⟩ prog_4_method_10_code 1 (some FieldType.int) ∈ xTs := xTs_in (tk3 (List.mem_of_getElem? (i := 230) (by decide +kernel))) rfl
theorem mw336 : Cond.code ⟨"ZonedFabric$Frame", "load", "(I)I"⟩ prog_4_method_16_code 2 (some FieldType.int) ∈ xTs := xTs_in (tk3 (List.mem_of_getElem? (i := 238) (by decide +kernel))) rfl
theorem mw337 : Cond.code ⟨"ZonedFabric$Frame", "hasForm", "(ILZonedFabric$Shared;)Z"⟩ prog_4_method_19_code 3 (some FieldType.boolean) ∈ xTs := xTs_in (tk4 (List.mem_of_getElem? (i := 11) (by decide +kernel))) rfl
theorem mw338 : Cond.methodLink "ZonedFabric$Frame" 54 ⟨"ZonedFabric$Frame", "kind", "()I"⟩ ∈ xTs := xTs_in (tk3 (List.mem_of_getElem? (i := 227) (by decide +kernel))) rfl
theorem mw339 : Cond.instanceMethod ⟨"ZonedFabric$Frame", "kind", "()I"⟩ ∈ xTs := xTs_in (tk3 (List.mem_of_getElem? (i := 228) (by decide +kernel))) rfl
theorem mw340 : Cond.selects "ZonedFabric$Frame" ⟨"ZonedFabric$Frame", "kind", "()I"⟩ ⟨"ZonedFabric$Frame", "kind", "()I"⟩ ∈ xTs := xTs_in (tk3 (List.mem_of_getElem? (i := 229) (by decide +kernel))) rfl
theorem mw341 : Cond.methodLink "ZonedFabric$Frame" 65 ⟨"ZonedFabric$Frame", "load", "(I)I"⟩ ∈ xTs := xTs_in (tk3 (List.mem_of_getElem? (i := 235) (by decide +kernel))) rfl
theorem mw342 : Cond.instanceMethod ⟨"ZonedFabric$Frame", "load", "(I)I"⟩ ∈ xTs := xTs_in (tk3 (List.mem_of_getElem? (i := 236) (by decide +kernel))) rfl
theorem mw343 : Cond.selects "ZonedFabric$Frame" ⟨"ZonedFabric$Frame", "load", "(I)I"⟩ ⟨"ZonedFabric$Frame", "load", "(I)I"⟩ ∈ xTs := xTs_in (tk3 (List.mem_of_getElem? (i := 237) (by decide +kernel))) rfl
theorem mw344 : Cond.fieldLink "ZonedFabric$Frame" 68 "ZonedFabric$Shared" "switchCount" "I" ∈ xTs := xTs_in (tk1 (List.mem_of_getElem? (i := 36) (by decide +kernel))) rfl
theorem mw345 : Cond.methodLink "ZonedFabric$Frame" 73 ⟨"ZonedFabric$Shared", "isNode", "(I)Z"⟩ ∈ xTs := xTs_in (tk4 (List.mem_of_getElem? (i := 7) (by decide +kernel))) rfl
theorem mw346 : Cond.methodLink "ZonedFabric$Frame" 50 ⟨"ZonedFabric$Frame", "number", "(II)J"⟩ ∈ xTs := xTs_in (tk3 (List.mem_of_getElem? (i := 223) (by decide +kernel))) rfl
theorem mw347 : Cond.instanceMethod ⟨"ZonedFabric$Frame", "number", "(II)J"⟩ ∈ xTs := xTs_in (tk3 (List.mem_of_getElem? (i := 224) (by decide +kernel))) rfl
theorem mw348 : Cond.selects "ZonedFabric$Frame" ⟨"ZonedFabric$Frame", "number", "(II)J"⟩ ⟨"ZonedFabric$Frame", "number", "(II)J"⟩ ∈ xTs := xTs_in (tk3 (List.mem_of_getElem? (i := 225) (by decide +kernel))) rfl
theorem mw349 : Cond.code ⟨"ZonedFabric$Frame", "haveNeighboursForm", "(ILZonedFabric$Shared;)Z"⟩ prog_4_method_21_code 7 (some FieldType.boolean) ∈ xTs := xTs_in (tk4 (List.mem_of_getElem? (i := 2) (by decide +kernel))) rfl
theorem mw350 : Cond.code ⟨"ZonedFabric$Frame", "haveNodesForm", "(ILZonedFabric$Shared;)Z"⟩ prog_4_method_22_code 8 (some FieldType.boolean) ∈ xTs := xTs_in (tk4 (List.mem_of_getElem? (i := 6) (by decide +kernel))) rfl
theorem mw351 : Cond.code ⟨"ZonedFabric$Frame", "hasRecordForm", "(ILZonedFabric$Shared;)Z"⟩ prog_4_method_20_code 5 (some FieldType.boolean) ∈ xTs := xTs_in (tk3 (List.mem_of_getElem? (i := 234) (by decide +kernel))) rfl
theorem mw352 : Cond.methodLink "ZonedFabric$Frame" 77 ⟨"ZonedFabric$Frame", "haveNeighboursForm", "(ILZonedFabric$Shared;)Z"⟩ ∈ xTs := xTs_in (tk3 (List.mem_of_getElem? (i := 239) (by decide +kernel))) rfl
theorem mw353 : Cond.instanceMethod ⟨"ZonedFabric$Frame", "haveNeighboursForm", "(ILZonedFabric$Shared;)Z"⟩ ∈ xTs := xTs_in (tk4 (List.mem_of_getElem? (i := 1) (by decide +kernel))) rfl
theorem mw354 : Cond.selects "ZonedFabric$Frame" ⟨"ZonedFabric$Frame", "haveNeighboursForm", "(ILZonedFabric$Shared;)Z"⟩ ⟨"ZonedFabric$Frame", "haveNeighboursForm", "(ILZonedFabric$Shared;)Z"⟩ ∈ xTs := xTs_in (List.mem_append_left _ (List.mem_of_getElem? (i := 22) (by decide +kernel))) rfl
theorem mw355 : Cond.methodLink "ZonedFabric$Frame" 80 ⟨"ZonedFabric$Frame", "haveNodesForm", "(ILZonedFabric$Shared;)Z"⟩ ∈ xTs := xTs_in (tk4 (List.mem_of_getElem? (i := 3) (by decide +kernel))) rfl
theorem mw356 : Cond.instanceMethod ⟨"ZonedFabric$Frame", "haveNodesForm", "(ILZonedFabric$Shared;)Z"⟩ ∈ xTs := xTs_in (tk4 (List.mem_of_getElem? (i := 5) (by decide +kernel))) rfl
theorem mw357 : Cond.selects "ZonedFabric$Frame" ⟨"ZonedFabric$Frame", "haveNodesForm", "(ILZonedFabric$Shared;)Z"⟩ ⟨"ZonedFabric$Frame", "haveNodesForm", "(ILZonedFabric$Shared;)Z"⟩ ∈ xTs := xTs_in (List.mem_append_left _ (List.mem_of_getElem? (i := 23) (by decide +kernel))) rfl
/-! ZF.Port.send(LZF$Frame;)V -/
def ym44 : MethodName := ⟨"ZonedFabric$Port", "send", "(LZonedFabric$Frame;)V"⟩
theorem cd44 : xCd ym44 prog_10_method_10_code 2 none 1 := ⟨mw266, mw14, by decide, by decide, by decide +kernel⟩
def b44_0 (a0 : Nat) (o1 : Option Nat) (M : hM) : Option xRes :=
  Option.bind (p_r M 8 8 (some a0) o1) fun M1 =>
  Option.bind (g_i M1 8 6 (some a0)) fun v_3 =>
  Option.bind (p_i M1 8 6 (some a0) (v_3 - (1 : Int32))) fun M5 =>
  Option.bind (g_r M5 8 0 (some a0)) fun o_7 =>
  Option.bind (g_o M5 9 o_7) fun b_11 =>
  Option.bind (c_V (f37 [.inr (.inr (some b_11)), .inl (6 : Int32)] M5)) fun q_9 =>
  some (.inl (none, q_9))
def f44 (as : List aV) (M : hM) : xO := match as with
  | [.inr (.inr (some a0)), .inr (.inr o1)] => x_out (b44_0 a0 o1 M)
  | _ => none
theorem lb44_0 (G : gX) (l : Launch) (a0 : Nat) (o1 : Option Nat) (M : hM) {res : xRes} (h : b44_0 a0 o1 M = some res) : h_sz M ≤ r_sz res ∧ h_sl M ≤ r_sl res := by
  unfold b44_0 at h
  obtain ⟨M1, h2, h⟩ := bd h
  have eh2 := p_r_sz h2
  obtain ⟨v_3, h4, h⟩ := bd h
  obtain ⟨M5, h6, h⟩ := bd h
  have eh6 := p_i_sz h6
  obtain ⟨o_7, h8, h⟩ := bd h
  obtain ⟨b_11, h12, h⟩ := bd h
  obtain ⟨q_9, h10, h⟩ := bd h
  have eh10 := (t37 G l (c_V_some h10)).1
  obtain rfl := Option.some.inj h
  show h_sz M ≤ h_sz q_9 ∧ h_sl M ≤ h_sl q_9
  omega
section
variable {p : Program} {l : Launch} {e : Env} {s : State} {m : MethodId} {args : Array Value} {below : List Frame} {meth : Method} {c : Code} {G : gX} {z0 y0 : Nat} {r : Option aV} {M' : hM}
theorem sb44_0 (E : xE G p (xRm 1 (h_sz M' - z0) (h_sl M' - y0)) s m args c prog_10_method_10_code "ZonedFabric$Port" z0 y0 (h_sz M') (h_sl M') 2) (B : xB ym44 none meth) (a0 : Nat) (o1 : Option Nat) (M : hM) {res : xRes} (h : b44_0 a0 o1 M = some res) (hN : xN (fun _ _ _ => False) r M' res) : xV G p l e (xRm 1 (h_sz M' - z0) (h_sl M' - y0)) s m args below meth c z0 y0 (h_sz M') (h_sl M') 2 (MQ below (xQc G r M') args s (h_sz M' - z0) (h_sl M' - y0) (xFr G)) 0 [(0, .inr (.inr (some a0))), (1, .inr (.inr o1))] [] M := by
  unfold b44_0 at h
  refine xv_b E [.aload_n 0, .aload_n 1] (pc' := 2) (lv' := [(0, .inr (.inr (some a0))), (1, .inr (.inr o1))]) (st' := [.inr (.inr o1), .inr (.inr (some a0))]) (by decide +kernel) rfl rfl ?_
  obtain ⟨M1, h2, h⟩ := bd h
  refine xp_r E 8 8 h2 mw159 (show decode prog_10_method_10_code 2 = .ok (.putfield 59, 3) by decide +kernel) (Or.inl rfl) ?_
  refine xv_b E [.aload_n 0, .dup] (pc' := 7) (lv' := [(0, .inr (.inr (some a0))), (1, .inr (.inr o1))]) (st' := [.inr (.inr (some a0)), .inr (.inr (some a0))]) (by decide +kernel) rfl rfl ?_
  obtain ⟨v_3, h4, h⟩ := bd h
  refine xg_i E 8 6 h4 mw136 (show decode prog_10_method_10_code 7 = .ok (.getfield 47, 3) by decide +kernel) ?_
  refine xv_b E [.iconst 1, .isub] (pc' := 12) (lv' := [(0, .inr (.inr (some a0))), (1, .inr (.inr o1))]) (st' := [.inl (v_3 - (1 : Int32)), .inr (.inr (some a0))]) (by decide +kernel) rfl rfl ?_
  obtain ⟨M5, h6, h⟩ := bd h
  refine xp_i E 8 6 h6 mw136 (show decode prog_10_method_10_code 12 = .ok (.putfield 47, 3) by decide +kernel) (Or.inl rfl) ?_
  refine xv_b E [.aload_n 0] (pc' := 16) (lv' := [(0, .inr (.inr (some a0))), (1, .inr (.inr o1))]) (st' := [.inr (.inr (some a0))]) (by decide +kernel) rfl rfl ?_
  obtain ⟨o_7, h8, h⟩ := bd h
  refine xg_r E 8 0 h8 mw22 (show decode prog_10_method_10_code 16 = .ok (.getfield 28, 3) by decide +kernel) ?_
  refine xv_b E [.bipush 6] (pc' := 21) (lv' := [(0, .inr (.inr (some a0))), (1, .inr (.inr o1))]) (st' := [.inl (6 : Int32), .inr (.inr o_7)]) (by decide +kernel) rfl rfl ?_
  obtain ⟨b_11, h12, h⟩ := bd h
  obtain ⟨eh12, th12⟩ := g_o_some h12
  obtain ⟨q_9, h10, h⟩ := bd h
  refine xv_cvo E eh12 9 (as := [.inl (6 : Int32)]) (t37 G l (c_V_some h10)) cd37 mw243 mw244 mw245 (show decode prog_10_method_10_code 21 = .ok (.invokevirtual 89, 3) by decide +kernel) th12 rfl rfl (Nat.le_of_ble_eq_true rfl) ⟨Nat.le_of_ble_eq_true rfl, Nat.le_of_ble_eq_true rfl⟩ ?_
  obtain rfl := Option.some.inj h
  obtain ⟨rfl, rfl⟩ := Prod.mk.inj (show ((none : Option aV), q_9) = (r, M') from hN)
  exact xv_rv E B.1 B.2.1 (show decode prog_10_method_10_code 24 = .ok (.return_, 1) by decide +kernel) rfl rfl
end
theorem t44 (G : gX) (l : Launch) {as : List aV} {M : hM} {r : Option aV} {M' : hM} (h : f44 as M = some (r, M')) : xM G l ym44 prog_10_method_10_code 2 none 1 as M r M' := by
  unfold f44 at h
  split at h
  · have h := x_out_ok h
    refine xM_of (by decide) (Nat.le_of_ble_eq_true rfl) (lb44_0 G l _ _ M h) ?_
    intro p e s m args below meth c E B
    exact sb44_0 E B _ _ M h rfl
  · cases h
/-! ZF.Port.sendFirst()V -/
def ym45 : MethodName := ⟨"ZonedFabric$Port", "sendFirst", "()V"⟩
theorem cd45 : xCd ym45 prog_10_method_11_code 1 none 0 := ⟨mw267, mw14, by decide, by decide, by decide +kernel⟩
def b45_38  (M : hM) : Option xRes :=
  some (.inl (none, M))
def b45_0 (a0 : Nat) (M : hM) : Option xRes :=
  Option.bind (g_r M 8 9 (some a0)) fun o_1 =>
  Option.bind (g_r M 3 0 o_1) fun o_3 =>
  if o_3 = none then
    (b45_38  M)
  else
    (Option.bind (g_o M 8 (some a0)) fun b_7 =>
    Option.bind (c_I (f41 [.inr (.inr (some b_7))] M)) fun q_5 =>
    if q_5.1 = 0 then
      (b45_38  q_5.2)
    else
      (Option.bind (g_r q_5.2 8 9 (some a0)) fun o_9 =>
      Option.bind (g_r q_5.2 3 0 o_9) fun o_11 =>
      Option.bind (g_o q_5.2 2 o_11) fun b_15 =>
      Option.bind (c_V (f43 [.inr (.inr (some b_15))] q_5.2)) fun q_13 =>
      Option.bind (g_r q_13 8 9 (some a0)) fun o_17 =>
      Option.bind (g_o q_13 3 o_17) fun b_21 =>
      Option.bind (c_R (f18 [.inr (.inr (some b_21))] q_13)) fun q_19 =>
      Option.bind (g_o q_19.2 8 (some a0)) fun b_25 =>
      Option.bind (c_V (f44 [.inr (.inr (some b_25)), .inr (.inr q_19.1)] q_19.2)) fun q_23 =>
      b45_38  q_23))
def f45 (as : List aV) (M : hM) : xO := match as with
  | [.inr (.inr (some a0))] => x_out (b45_0 a0 M)
  | _ => none
theorem lb45_38 (G : gX) (l : Launch)  (M : hM) {res : xRes} (h : b45_38  M = some res) : h_sz M ≤ r_sz res ∧ h_sl M ≤ r_sl res := by
  unfold b45_38 at h
  obtain rfl := Option.some.inj h
  show h_sz M ≤ h_sz M ∧ h_sl M ≤ h_sl M
  omega
theorem lb45_0 (G : gX) (l : Launch) (a0 : Nat) (M : hM) {res : xRes} (h : b45_0 a0 M = some res) : h_sz M ≤ r_sz res ∧ h_sl M ≤ r_sl res := by
  unfold b45_0 at h
  obtain ⟨o_1, h2, h⟩ := bd h
  obtain ⟨o_3, h4, h⟩ := bd h
  by_cases q28 : o_3 = none
  · rw [if_pos q28] at h
    have e := lb45_38 G l  M h
    omega
  · rw [if_neg q28] at h
    obtain ⟨b_7, h8, h⟩ := bd h
    obtain ⟨q_5, h6, h⟩ := bd h
    have eh6 := (t41 G l (c_I_some h6)).1
    by_cases q27 : q_5.1 = 0
    · rw [if_pos q27] at h
      have e := lb45_38 G l  q_5.2 h
      omega
    · rw [if_neg q27] at h
      obtain ⟨o_9, h10, h⟩ := bd h
      obtain ⟨o_11, h12, h⟩ := bd h
      obtain ⟨b_15, h16, h⟩ := bd h
      obtain ⟨q_13, h14, h⟩ := bd h
      have eh14 := (t43 G l (c_V_some h14)).1
      obtain ⟨o_17, h18, h⟩ := bd h
      obtain ⟨b_21, h22, h⟩ := bd h
      obtain ⟨q_19, h20, h⟩ := bd h
      have eh20 := (t18 G l (c_R_some h20)).1
      obtain ⟨b_25, h26, h⟩ := bd h
      obtain ⟨q_23, h24, h⟩ := bd h
      have eh24 := (t44 G l (c_V_some h24)).1
      have e := lb45_38 G l  q_23 h
      omega
section
variable {p : Program} {l : Launch} {e : Env} {s : State} {m : MethodId} {args : Array Value} {below : List Frame} {meth : Method} {c : Code} {G : gX} {z0 y0 : Nat} {r : Option aV} {M' : hM}
theorem sb45_38 (E : xE G p (xRm 2 (h_sz M' - z0) (h_sl M' - y0)) s m args c prog_10_method_11_code "ZonedFabric$Port" z0 y0 (h_sz M') (h_sl M') 1) (B : xB ym45 none meth)  (M : hM) {res : xRes} (h : b45_38  M = some res) (hN : xN (fun _ _ _ => False) r M' res) : xV G p l e (xRm 2 (h_sz M' - z0) (h_sl M' - y0)) s m args below meth c z0 y0 (h_sz M') (h_sl M') 1 (MQ below (xQc G r M') args s (h_sz M' - z0) (h_sl M' - y0) (xFr G)) 38 [] [] M := by
  unfold b45_38 at h
  obtain rfl := Option.some.inj h
  obtain ⟨rfl, rfl⟩ := Prod.mk.inj (show ((none : Option aV), M) = (r, M') from hN)
  exact xv_rv E B.1 B.2.1 (show decode prog_10_method_11_code 38 = .ok (.return_, 1) by decide +kernel) rfl rfl
theorem sb45_0 (E : xE G p (xRm 2 (h_sz M' - z0) (h_sl M' - y0)) s m args c prog_10_method_11_code "ZonedFabric$Port" z0 y0 (h_sz M') (h_sl M') 1) (B : xB ym45 none meth) (a0 : Nat) (M : hM) {res : xRes} (h : b45_0 a0 M = some res) (hN : xN (fun _ _ _ => False) r M' res) : xV G p l e (xRm 2 (h_sz M' - z0) (h_sl M' - y0)) s m args below meth c z0 y0 (h_sz M') (h_sl M') 1 (MQ below (xQc G r M') args s (h_sz M' - z0) (h_sl M' - y0) (xFr G)) 0 [(0, .inr (.inr (some a0)))] [] M := by
  unfold b45_0 at h
  refine xv_b E [.aload_n 0] (pc' := 1) (lv' := [(0, .inr (.inr (some a0)))]) (st' := [.inr (.inr (some a0))]) (by decide +kernel) rfl rfl ?_
  obtain ⟨o_1, h2, h⟩ := bd h
  refine xg_r E 8 9 h2 mw18 (show decode prog_10_method_11_code 1 = .ok (.getfield 12, 3) by decide +kernel) ?_
  obtain ⟨o_3, h4, h⟩ := bd h
  refine xg_r E 3 0 h4 mw268 (show decode prog_10_method_11_code 4 = .ok (.getfield 93, 3) by decide +kernel) ?_
  by_cases q28 : o_3 = none
  · rw [if_pos q28] at h
    refine xi_null E 38 (show decode prog_10_method_11_code 7 = .ok (.ifnull (31), 3) by decide +kernel) rfl (fun _ => ?_) (fun z => absurd q28 z)
    exact xv_w (sb45_38 E B  M h hN) rfl
  · rw [if_neg q28] at h
    refine xi_null E 38 (show decode prog_10_method_11_code 7 = .ok (.ifnull (31), 3) by decide +kernel) rfl (fun z => absurd z q28) (fun _ => ?_)
    refine xv_b E [.aload_n 0] (pc' := 11) (lv' := [(0, .inr (.inr (some a0)))]) (st' := [.inr (.inr (some a0))]) (by decide +kernel) rfl rfl ?_
    obtain ⟨b_7, h8, h⟩ := bd h
    obtain ⟨eh8, th8⟩ := g_o_some h8
    obtain ⟨q_5, h6, h⟩ := bd h
    refine xv_cvo E eh8 8 (as := []) (t41 G l (c_I_some h6)) cd41 mw269 mw270 mw271 (show decode prog_10_method_11_code 11 = .ok (.invokevirtual 96, 3) by decide +kernel) th8 rfl rfl (Nat.le_of_ble_eq_true rfl) ⟨Nat.le_of_ble_eq_true rfl, Nat.le_of_ble_eq_true rfl⟩ ?_
    by_cases q27 : q_5.1 = 0
    · rw [if_pos q27] at h
      refine xv_if_eq E 38 (show decode prog_10_method_11_code 14 = .ok (.ifCond .eq (24), 3) by decide +kernel) rfl (fun _ => ?_) (fun z => absurd q27 z)
      exact xv_w (sb45_38 E B  q_5.2 h hN) rfl
    · rw [if_neg q27] at h
      refine xv_if_eq E 38 (show decode prog_10_method_11_code 14 = .ok (.ifCond .eq (24), 3) by decide +kernel) rfl (fun z => absurd z q27) (fun _ => ?_)
      refine xv_b E [.aload_n 0] (pc' := 18) (lv' := [(0, .inr (.inr (some a0)))]) (st' := [.inr (.inr (some a0))]) (by decide +kernel) rfl rfl ?_
      obtain ⟨o_9, h10, h⟩ := bd h
      refine xg_r E 8 9 h10 mw18 (show decode prog_10_method_11_code 18 = .ok (.getfield 12, 3) by decide +kernel) ?_
      obtain ⟨o_11, h12, h⟩ := bd h
      refine xg_r E 3 0 h12 mw268 (show decode prog_10_method_11_code 21 = .ok (.getfield 93, 3) by decide +kernel) ?_
      obtain ⟨b_15, h16, h⟩ := bd h
      obtain ⟨eh16, th16⟩ := g_o_some h16
      obtain ⟨q_13, h14, h⟩ := bd h
      refine xv_cvo E eh16 2 (as := []) (t43 G l (c_V_some h14)) cd43 mw272 mw273 mw274 (show decode prog_10_method_11_code 24 = .ok (.invokevirtual 99, 3) by decide +kernel) th16 rfl rfl (Nat.le_of_ble_eq_true rfl) ⟨Nat.le_of_ble_eq_true rfl, Nat.le_of_ble_eq_true rfl⟩ ?_
      refine xv_b E [.aload_n 0, .aload_n 0] (pc' := 29) (lv' := [(0, .inr (.inr (some a0)))]) (st' := [.inr (.inr (some a0)), .inr (.inr (some a0))]) (by decide +kernel) rfl rfl ?_
      obtain ⟨o_17, h18, h⟩ := bd h
      refine xg_r E 8 9 h18 mw18 (show decode prog_10_method_11_code 29 = .ok (.getfield 12, 3) by decide +kernel) ?_
      obtain ⟨b_21, h22, h⟩ := bd h
      obtain ⟨eh22, th22⟩ := g_o_some h22
      obtain ⟨q_19, h20, h⟩ := bd h
      refine xv_cvo E eh22 3 (as := []) (t18 G l (c_R_some h20)) cd18 mw164 mw165 mw166 (show decode prog_10_method_11_code 32 = .ok (.invokevirtual 70, 3) by decide +kernel) th22 rfl rfl (Nat.le_of_ble_eq_true rfl) ⟨Nat.le_of_ble_eq_true rfl, Nat.le_of_ble_eq_true rfl⟩ ?_
      obtain ⟨b_25, h26, h⟩ := bd h
      obtain ⟨eh26, th26⟩ := g_o_some h26
      obtain ⟨q_23, h24, h⟩ := bd h
      refine xv_cvo E eh26 8 (as := [.inr (.inr q_19.1)]) (t44 G l (c_V_some h24)) cd44 mw275 mw276 mw277 (show decode prog_10_method_11_code 35 = .ok (.invokevirtual 104, 3) by decide +kernel) th26 rfl rfl (Nat.le_of_ble_eq_true rfl) ⟨Nat.le_of_ble_eq_true rfl, Nat.le_of_ble_eq_true rfl⟩ ?_
      exact xv_w (sb45_38 E B  q_23 h hN) rfl
end
theorem t45 (G : gX) (l : Launch) {as : List aV} {M : hM} {r : Option aV} {M' : hM} (h : f45 as M = some (r, M')) : xM G l ym45 prog_10_method_11_code 1 none 2 as M r M' := by
  unfold f45 at h
  split at h
  · have h := x_out_ok h
    refine xM_of (by decide) (Nat.le_of_ble_eq_true rfl) (lb45_0 G l _ M h) ?_
    intro p e s m args below meth c E B
    exact sb45_0 E B _ M h rfl
  · cases h
/-! ZF.Disc.runTimers()V -/
def ym46 : MethodName := ⟨"ZonedFabric$Disc", "runTimers", "()V"⟩
theorem cd46 : xCd ym46 prog_3_method_3_code 2 none 0 := ⟨mw278, mw105, by decide, by decide, by decide +kernel⟩
def b46_0 (a0 : Nat) (M : hM) : Option xRes :=
  some (.inr (2, [.inr (.inr (some a0)), .inl (0 : Int32)], M))
def b46_40 (a0 : Nat) (v1 : Int32) (M : hM) : Option xRes :=
  some (.inr (2, [.inr (.inr (some a0)), .inl (v1 + (1 : Int32))], M))
def b46_2 (a0 : Nat) (v1 : Int32) (M : hM) : Option xRes :=
  if (6 : Int32) ≤ v1 then
    (some (.inl (none, M)))
  else
    (Option.bind (g_r M 1 0 (some a0)) fun o_1 =>
    Option.bind (g_i M 9 3 o_1) fun v_3 =>
    Option.bind (g_r M 1 5 (some a0)) fun o_5 =>
    Option.bind (al_r M 37 o_5 v1) fun o_7 =>
    Option.bind (g_i M 7 6 o_7) fun v_9 =>
    if (v_3 - v_9) < (120 : Int32) then
      (b46_40 a0 v1 M)
    else
      (Option.bind (g_r M 1 5 (some a0)) fun o_11 =>
      Option.bind (al_r M 37 o_11 v1) fun o_13 =>
      Option.bind (p_z M 7 0 o_13 (0 : Int32)) fun M15 =>
      b46_40 a0 v1 M15))
def k46 (h : Nat) (as : List aV) (M : hM) : Option xRes :=
  if h = 2 then (match as with | [.inr (.inr (some a0)), .inl v1] => b46_2 a0 v1 M | _ => none) else
  none
def f46 (as : List aV) (M : hM) : xO := match as with
  | [.inr (.inr (some a0))] => x_go k46 (b46_0 a0 M)
  | _ => none
theorem lb46_0 (G : gX) (l : Launch) (a0 : Nat) (M : hM) {res : xRes} (h : b46_0 a0 M = some res) : h_sz M ≤ r_sz res ∧ h_sl M ≤ r_sl res := by
  unfold b46_0 at h
  obtain rfl := Option.some.inj h
  show h_sz M ≤ h_sz M ∧ h_sl M ≤ h_sl M
  omega
theorem lb46_40 (G : gX) (l : Launch) (a0 : Nat) (v1 : Int32) (M : hM) {res : xRes} (h : b46_40 a0 v1 M = some res) : h_sz M ≤ r_sz res ∧ h_sl M ≤ r_sl res := by
  unfold b46_40 at h
  obtain rfl := Option.some.inj h
  show h_sz M ≤ h_sz M ∧ h_sl M ≤ h_sl M
  omega
theorem lb46_2 (G : gX) (l : Launch) (a0 : Nat) (v1 : Int32) (M : hM) {res : xRes} (h : b46_2 a0 v1 M = some res) : h_sz M ≤ r_sz res ∧ h_sl M ≤ r_sl res := by
  unfold b46_2 at h
  by_cases q18 : (6 : Int32) ≤ v1
  · rw [if_pos q18] at h
    obtain rfl := Option.some.inj h
    show h_sz M ≤ h_sz M ∧ h_sl M ≤ h_sl M
    omega
  · rw [if_neg q18] at h
    obtain ⟨o_1, h2, h⟩ := bd h
    obtain ⟨v_3, h4, h⟩ := bd h
    obtain ⟨o_5, h6, h⟩ := bd h
    obtain ⟨o_7, h8, h⟩ := bd h
    obtain ⟨v_9, h10, h⟩ := bd h
    by_cases q17 : (v_3 - v_9) < (120 : Int32)
    · rw [if_pos q17] at h
      have e := lb46_40 G l a0 v1 M h
      omega
    · rw [if_neg q17] at h
      obtain ⟨o_11, h12, h⟩ := bd h
      obtain ⟨o_13, h14, h⟩ := bd h
      obtain ⟨M15, h16, h⟩ := bd h
      have eh16 := p_z_sz h16
      have e := lb46_40 G l a0 v1 M15 h
      omega
section
variable {p : Program} {l : Launch} {e : Env} {s : State} {m : MethodId} {args : Array Value} {below : List Frame} {meth : Method} {c : Code} {G : gX} {z0 y0 : Nat} {r : Option aV} {M' : hM}
def pg46 (p : Program) (l : Launch) (e : Env) (s : State) (m : MethodId) (args : Array Value) (below : List Frame) (meth : Method) (c : Code) (G : gX) (z0 y0 : Nat) (r : Option aV) (M' : hM) (h : Nat) (as : List aV) (M : hM) : Prop :=
  if h = 2 then (match as with | [.inr (.inr (some a0)), .inl v1] => xV G p l e (xRm 0 (h_sz M' - z0) (h_sl M' - y0)) s m args below meth c z0 y0 (h_sz M') (h_sl M') 2 (MQ below (xQc G r M') args s (h_sz M' - z0) (h_sl M' - y0) (xFr G)) 2 [(0, .inr (.inr (some a0))), (1, .inl v1)] [] M | _ => False) else
  False
theorem sb46_0 (E : xE G p (xRm 0 (h_sz M' - z0) (h_sl M' - y0)) s m args c prog_3_method_3_code "ZonedFabric$Disc" z0 y0 (h_sz M') (h_sl M') 2) (B : xB ym46 none meth) (a0 : Nat) (M : hM) {res : xRes} (h : b46_0 a0 M = some res) (hN : xN (pg46 p l e s m args below meth c G z0 y0 r M') r M' res) : xV G p l e (xRm 0 (h_sz M' - z0) (h_sl M' - y0)) s m args below meth c z0 y0 (h_sz M') (h_sl M') 2 (MQ below (xQc G r M') args s (h_sz M' - z0) (h_sl M' - y0) (xFr G)) 0 [(0, .inr (.inr (some a0)))] [] M := by
  unfold b46_0 at h
  refine xv_b E [.iconst 0, .istore_n 1] (pc' := 2) (lv' := [(1, .inl (0 : Int32)), (0, .inr (.inr (some a0)))]) (st' := []) (by decide +kernel) rfl rfl ?_
  obtain rfl := Option.some.inj h
  exact xv_w hN rfl
theorem sb46_40 (E : xE G p (xRm 0 (h_sz M' - z0) (h_sl M' - y0)) s m args c prog_3_method_3_code "ZonedFabric$Disc" z0 y0 (h_sz M') (h_sl M') 2) (B : xB ym46 none meth) (a0 : Nat) (v1 : Int32) (M : hM) {res : xRes} (h : b46_40 a0 v1 M = some res) (hN : xN (pg46 p l e s m args below meth c G z0 y0 r M') r M' res) : xV G p l e (xRm 0 (h_sz M' - z0) (h_sl M' - y0)) s m args below meth c z0 y0 (h_sz M') (h_sl M') 2 (MQ below (xQc G r M') args s (h_sz M' - z0) (h_sl M' - y0) (xFr G)) 40 [(0, .inr (.inr (some a0))), (1, .inl v1)] [] M := by
  unfold b46_40 at h
  refine xv_b E [.iinc 1 1] (pc' := 43) (lv' := [(1, .inl (v1 + (1 : Int32))), (0, .inr (.inr (some a0)))]) (st' := []) (by decide +kernel) rfl rfl ?_
  refine xv_goto E 2 (show decode prog_3_method_3_code 43 = .ok (.goto (-41), 3) by decide +kernel) rfl ?_
  obtain rfl := Option.some.inj h
  exact xv_w hN rfl
theorem sb46_2 (E : xE G p (xRm 0 (h_sz M' - z0) (h_sl M' - y0)) s m args c prog_3_method_3_code "ZonedFabric$Disc" z0 y0 (h_sz M') (h_sl M') 2) (B : xB ym46 none meth) (a0 : Nat) (v1 : Int32) (M : hM) {res : xRes} (h : b46_2 a0 v1 M = some res) (hN : xN (pg46 p l e s m args below meth c G z0 y0 r M') r M' res) : xV G p l e (xRm 0 (h_sz M' - z0) (h_sl M' - y0)) s m args below meth c z0 y0 (h_sz M') (h_sl M') 2 (MQ below (xQc G r M') args s (h_sz M' - z0) (h_sl M' - y0) (xFr G)) 2 [(0, .inr (.inr (some a0))), (1, .inl v1)] [] M := by
  unfold b46_2 at h
  refine xv_b E [.iload_n 1, .bipush 6] (pc' := 5) (lv' := [(0, .inr (.inr (some a0))), (1, .inl v1)]) (st' := [.inl (6 : Int32), .inl v1]) (by decide +kernel) rfl rfl ?_
  by_cases q18 : (6 : Int32) ≤ v1
  · rw [if_pos q18] at h
    refine xv_icmp_ge E 46 (show decode prog_3_method_3_code 5 = .ok (.if_icmp .ge (41), 3) by decide +kernel) rfl (fun _ => ?_) (fun z => absurd q18 z)
    obtain rfl := Option.some.inj h
    obtain ⟨rfl, rfl⟩ := Prod.mk.inj (show ((none : Option aV), M) = (r, M') from hN)
    exact xv_rv E B.1 B.2.1 (show decode prog_3_method_3_code 46 = .ok (.return_, 1) by decide +kernel) rfl rfl
  · rw [if_neg q18] at h
    refine xv_icmp_ge E 46 (show decode prog_3_method_3_code 5 = .ok (.if_icmp .ge (41), 3) by decide +kernel) rfl (fun z => absurd z q18) (fun _ => ?_)
    refine xv_b E [.aload_n 0] (pc' := 9) (lv' := [(0, .inr (.inr (some a0))), (1, .inl v1)]) (st' := [.inr (.inr (some a0))]) (by decide +kernel) rfl rfl ?_
    obtain ⟨o_1, h2, h⟩ := bd h
    refine xg_r E 1 0 h2 mw110 (show decode prog_3_method_3_code 9 = .ok (.getfield 25, 3) by decide +kernel) ?_
    obtain ⟨v_3, h4, h⟩ := bd h
    refine xg_i E 9 3 h4 mw279 (show decode prog_3_method_3_code 12 = .ok (.getfield 42, 3) by decide +kernel) ?_
    refine xv_b E [.aload_n 0] (pc' := 16) (lv' := [(0, .inr (.inr (some a0))), (1, .inl v1)]) (st' := [.inr (.inr (some a0)), .inl v_3]) (by decide +kernel) rfl rfl ?_
    obtain ⟨o_5, h6, h⟩ := bd h
    refine xg_r E 1 5 h6 mw109 (show decode prog_3_method_3_code 16 = .ok (.getfield 21, 3) by decide +kernel) ?_
    refine xv_b E [.iload_n 1] (pc' := 20) (lv' := [(0, .inr (.inr (some a0))), (1, .inl v1)]) (st' := [.inl v1, .inr (.inr o_5), .inl v_3]) (by decide +kernel) rfl rfl ?_
    obtain ⟨o_7, h8, h⟩ := bd h
    refine xa_r E 37 h8 (show decode prog_3_method_3_code 20 = .ok (.aaload, 1) by decide +kernel) ?_
    obtain ⟨v_9, h10, h⟩ := bd h
    refine xg_i E 7 6 h10 mw280 (show decode prog_3_method_3_code 21 = .ok (.getfield 47, 3) by decide +kernel) ?_
    refine xv_b E [.isub, .bipush 120] (pc' := 27) (lv' := [(0, .inr (.inr (some a0))), (1, .inl v1)]) (st' := [.inl (120 : Int32), .inl (v_3 - v_9)]) (by decide +kernel) rfl rfl ?_
    by_cases q17 : (v_3 - v_9) < (120 : Int32)
    · rw [if_pos q17] at h
      refine xv_icmp_lt E 40 (show decode prog_3_method_3_code 27 = .ok (.if_icmp .lt (13), 3) by decide +kernel) rfl (fun _ => ?_) (fun z => absurd q17 z)
      exact xv_w (sb46_40 E B a0 v1 M h hN) rfl
    · rw [if_neg q17] at h
      refine xv_icmp_lt E 40 (show decode prog_3_method_3_code 27 = .ok (.if_icmp .lt (13), 3) by decide +kernel) rfl (fun z => absurd z q17) (fun _ => ?_)
      refine xv_b E [.aload_n 0] (pc' := 31) (lv' := [(0, .inr (.inr (some a0))), (1, .inl v1)]) (st' := [.inr (.inr (some a0))]) (by decide +kernel) rfl rfl ?_
      obtain ⟨o_11, h12, h⟩ := bd h
      refine xg_r E 1 5 h12 mw109 (show decode prog_3_method_3_code 31 = .ok (.getfield 21, 3) by decide +kernel) ?_
      refine xv_b E [.iload_n 1] (pc' := 35) (lv' := [(0, .inr (.inr (some a0))), (1, .inl v1)]) (st' := [.inl v1, .inr (.inr o_11)]) (by decide +kernel) rfl rfl ?_
      obtain ⟨o_13, h14, h⟩ := bd h
      refine xa_r E 37 h14 (show decode prog_3_method_3_code 35 = .ok (.aaload, 1) by decide +kernel) ?_
      refine xv_b E [.iconst 0] (pc' := 37) (lv' := [(0, .inr (.inr (some a0))), (1, .inl v1)]) (st' := [.inl (0 : Int32), .inr (.inr o_13)]) (by decide +kernel) rfl rfl ?_
      obtain ⟨M15, h16, h⟩ := bd h
      refine xp_z E 7 0 h16 mw169 (show decode prog_3_method_3_code 37 = .ok (.putfield 38, 3) by decide +kernel) (Or.inl rfl) ?_
      exact xv_w (sb46_40 E B a0 v1 M15 h hN) rfl
end
theorem t46 (G : gX) (l : Launch) {as : List aV} {M : hM} {r : Option aV} {M' : hM} (h : f46 as M = some (r, M')) : xM G l ym46 prog_3_method_3_code 2 none 0 as M r M' := by
  unfold f46 at h
  split at h
  · have hle : ∀ h as M res, k46 h as M = some res → h_sz M ≤ r_sz res ∧ h_sl M ≤ r_sl res := by
      intro h as M res hb
      unfold k46 at hb
      by_cases e0 : h = 2
      · rw [if_pos e0] at hb
        split at hb
        · exact lb46_2 G l _ _ M hb
        · cases hb
      · rw [if_neg e0] at hb
        cases hb
    obtain ⟨res, hx, hres⟩ := x_go_ok h
    refine xM_of (by decide) (Nat.le_of_ble_eq_true rfl) ?_ ?_
    · have e1 := lb46_0 G l _ M hx
      have e2 := x_go_le hle hres
      omega
    · intro p e s m args below meth c E B
      refine sb46_0 E B _ M hx (hres _ ?_)
      intro h as M res hb hN
      unfold k46 at hb
      unfold pg46
      by_cases e0 : h = 2
      · rw [if_pos e0] at hb ⊢
        split at hb
        · exact sb46_2 E B _ _ M hb hN
        · cases hb
      · rw [if_neg e0] at hb ⊢
        cases hb
  · cases h
/-! ZF.Command.isEnded()Z -/
def ym47 : MethodName := ⟨"ZonedFabric$Command", "isEnded", "()Z"⟩
theorem cd47 : xCd ym47 prog_2_method_3_code 1 (some FieldType.boolean) 0 := ⟨mw281, mw282, by decide, by decide, by decide +kernel⟩
def b47_13 (si0 : Int32) (M : hM) : Option xRes :=
  if si0 = 0 ∨ si0 = 1 then
    (some (.inl (some (.inl si0), M)))
  else
    none
def b47_0 (a0 : Nat) (M : hM) : Option xRes :=
  Option.bind (g_i M 0 10 (some a0)) fun v_1 =>
  if v_1 ≤ (3 : Int32) then
    (b47_13 (0 : Int32) M)
  else
    (b47_13 (1 : Int32) M)
def f47 (as : List aV) (M : hM) : xO := match as with
  | [.inr (.inr (some a0))] => x_out (b47_0 a0 M)
  | _ => none
theorem lb47_13 (G : gX) (l : Launch) (si0 : Int32) (M : hM) {res : xRes} (h : b47_13 si0 M = some res) : h_sz M ≤ r_sz res ∧ h_sl M ≤ r_sl res := by
  unfold b47_13 at h
  by_cases q4 : si0 = 0 ∨ si0 = 1
  · rw [if_pos q4] at h
    obtain rfl := Option.some.inj h
    show h_sz M ≤ h_sz M ∧ h_sl M ≤ h_sl M
    omega
  · rw [if_neg q4] at h
    cases h
theorem lb47_0 (G : gX) (l : Launch) (a0 : Nat) (M : hM) {res : xRes} (h : b47_0 a0 M = some res) : h_sz M ≤ r_sz res ∧ h_sl M ≤ r_sl res := by
  unfold b47_0 at h
  obtain ⟨v_1, h2, h⟩ := bd h
  by_cases q3 : v_1 ≤ (3 : Int32)
  · rw [if_pos q3] at h
    have e := lb47_13 G l (0 : Int32) M h
    omega
  · rw [if_neg q3] at h
    have e := lb47_13 G l (1 : Int32) M h
    omega
section
variable {p : Program} {l : Launch} {e : Env} {s : State} {m : MethodId} {args : Array Value} {below : List Frame} {meth : Method} {c : Code} {G : gX} {z0 y0 : Nat} {r : Option aV} {M' : hM}
theorem sb47_13 (E : xE G p (xRm 0 (h_sz M' - z0) (h_sl M' - y0)) s m args c prog_2_method_3_code "ZonedFabric$Command" z0 y0 (h_sz M') (h_sl M') 1) (B : xB ym47 (some FieldType.boolean) meth) (si0 : Int32) (M : hM) {res : xRes} (h : b47_13 si0 M = some res) (hN : xN (fun _ _ _ => False) r M' res) : xV G p l e (xRm 0 (h_sz M' - z0) (h_sl M' - y0)) s m args below meth c z0 y0 (h_sz M') (h_sl M') 1 (MQ below (xQc G r M') args s (h_sz M' - z0) (h_sl M' - y0) (xFr G)) 13 [] [.inl si0] M := by
  unfold b47_13 at h
  by_cases q4 : si0 = 0 ∨ si0 = 1
  · rw [if_pos q4] at h
    obtain rfl := Option.some.inj h
    obtain ⟨rfl, rfl⟩ := Prod.mk.inj (show ((some (.inl si0) : Option aV), M) = (r, M') from hN)
    exact xv_ri E B.1 (by rcases q4 with z | z <;> rw [z] <;> rfl) B.2.1 (show decode prog_2_method_3_code 13 = .ok (.ireturn, 1) by decide +kernel) rfl rfl
  · rw [if_neg q4] at h
    cases h
theorem sb47_0 (E : xE G p (xRm 0 (h_sz M' - z0) (h_sl M' - y0)) s m args c prog_2_method_3_code "ZonedFabric$Command" z0 y0 (h_sz M') (h_sl M') 1) (B : xB ym47 (some FieldType.boolean) meth) (a0 : Nat) (M : hM) {res : xRes} (h : b47_0 a0 M = some res) (hN : xN (fun _ _ _ => False) r M' res) : xV G p l e (xRm 0 (h_sz M' - z0) (h_sl M' - y0)) s m args below meth c z0 y0 (h_sz M') (h_sl M') 1 (MQ below (xQc G r M') args s (h_sz M' - z0) (h_sl M' - y0) (xFr G)) 0 [(0, .inr (.inr (some a0)))] [] M := by
  unfold b47_0 at h
  refine xv_b E [.aload_n 0] (pc' := 1) (lv' := [(0, .inr (.inr (some a0)))]) (st' := [.inr (.inr (some a0))]) (by decide +kernel) rfl rfl ?_
  obtain ⟨v_1, h2, h⟩ := bd h
  refine xg_i E 0 10 h2 mw283 (show decode prog_2_method_3_code 1 = .ok (.getfield 36, 3) by decide +kernel) ?_
  refine xv_b E [.iconst 3] (pc' := 5) (lv' := [(0, .inr (.inr (some a0)))]) (st' := [.inl (3 : Int32), .inl v_1]) (by decide +kernel) rfl rfl ?_
  by_cases q3 : v_1 ≤ (3 : Int32)
  · rw [if_pos q3] at h
    refine xv_icmp_le E 12 (show decode prog_2_method_3_code 5 = .ok (.if_icmp .le (7), 3) by decide +kernel) rfl (fun _ => ?_) (fun z => absurd q3 z)
    refine xv_b E [.iconst 0] (pc' := 13) (lv' := [(0, .inr (.inr (some a0)))]) (st' := [.inl (0 : Int32)]) (by decide +kernel) rfl rfl ?_
    exact xv_w (sb47_13 E B (0 : Int32) M h hN) rfl
  · rw [if_neg q3] at h
    refine xv_icmp_le E 12 (show decode prog_2_method_3_code 5 = .ok (.if_icmp .le (7), 3) by decide +kernel) rfl (fun z => absurd z q3) (fun _ => ?_)
    refine xv_b E [.iconst 1] (pc' := 9) (lv' := [(0, .inr (.inr (some a0)))]) (st' := [.inl (1 : Int32)]) (by decide +kernel) rfl rfl ?_
    refine xv_goto E 13 (show decode prog_2_method_3_code 9 = .ok (.goto (4), 3) by decide +kernel) rfl ?_
    exact xv_w (sb47_13 E B (1 : Int32) M h hN) rfl
end
theorem t47 (G : gX) (l : Launch) {as : List aV} {M : hM} {r : Option aV} {M' : hM} (h : f47 as M = some (r, M')) : xM G l ym47 prog_2_method_3_code 1 (some FieldType.boolean) 0 as M r M' := by
  unfold f47 at h
  split at h
  · have h := x_out_ok h
    refine xM_of (by decide) (Nat.le_of_ble_eq_true rfl) (lb47_0 G l _ M h) ?_
    intro p e s m args below meth c E B
    exact sb47_0 E B _ M h rfl
  · cases h
/-! ZF.Command.order()J -/
def ym48 : MethodName := ⟨"ZonedFabric$Command", "order", "()J"⟩
theorem cd48 : xCd ym48 prog_2_method_2_code 1 (some FieldType.long) 0 := ⟨mw284, mw282, by decide, by decide, by decide +kernel⟩
def b48_20 (a0 : Nat) (sl0 : Int64) (sl1 : Int64) (M : hM) : Option xRes :=
  Option.bind (g_i M 0 2 (some a0)) fun v_6 =>
  Option.bind (g_i M 0 3 (some a0)) fun v_8 =>
  some (.inl (some (.inr (.inl (((sl1 ||| (sl0 <<< (Int32.toInt64 (16 : Int32) &&& 63))) ||| ((Int32.toInt64 v_6) <<< (Int32.toInt64 (8 : Int32) &&& 63))) ||| (Int32.toInt64 v_8)))), M))
def b48_0 (a0 : Nat) (M : hM) : Option xRes :=
  Option.bind (g_i M 0 1 (some a0)) fun v_1 =>
  Option.bind (g_i M 0 0 (some a0)) fun v_3 =>
  if v_3 = 0 then
    (b48_20 a0 (0 : Int64) ((Int32.toInt64 v_1) <<< (Int32.toInt64 (24 : Int32) &&& 63)) M)
  else
    (b48_20 a0 (1 : Int64) ((Int32.toInt64 v_1) <<< (Int32.toInt64 (24 : Int32) &&& 63)) M)
def f48 (as : List aV) (M : hM) : xO := match as with
  | [.inr (.inr (some a0))] => x_out (b48_0 a0 M)
  | _ => none
theorem lb48_20 (G : gX) (l : Launch) (a0 : Nat) (sl0 : Int64) (sl1 : Int64) (M : hM) {res : xRes} (h : b48_20 a0 sl0 sl1 M = some res) : h_sz M ≤ r_sz res ∧ h_sl M ≤ r_sl res := by
  unfold b48_20 at h
  obtain ⟨v_6, h7, h⟩ := bd h
  obtain ⟨v_8, h9, h⟩ := bd h
  obtain rfl := Option.some.inj h
  show h_sz M ≤ h_sz M ∧ h_sl M ≤ h_sl M
  omega
theorem lb48_0 (G : gX) (l : Launch) (a0 : Nat) (M : hM) {res : xRes} (h : b48_0 a0 M = some res) : h_sz M ≤ r_sz res ∧ h_sl M ≤ r_sl res := by
  unfold b48_0 at h
  obtain ⟨v_1, h2, h⟩ := bd h
  obtain ⟨v_3, h4, h⟩ := bd h
  by_cases q5 : v_3 = 0
  · rw [if_pos q5] at h
    have e := lb48_20 G l a0 (0 : Int64) ((Int32.toInt64 v_1) <<< (Int32.toInt64 (24 : Int32) &&& 63)) M h
    omega
  · rw [if_neg q5] at h
    have e := lb48_20 G l a0 (1 : Int64) ((Int32.toInt64 v_1) <<< (Int32.toInt64 (24 : Int32) &&& 63)) M h
    omega
section
variable {p : Program} {l : Launch} {e : Env} {s : State} {m : MethodId} {args : Array Value} {below : List Frame} {meth : Method} {c : Code} {G : gX} {z0 y0 : Nat} {r : Option aV} {M' : hM}
theorem sb48_20 (E : xE G p (xRm 0 (h_sz M' - z0) (h_sl M' - y0)) s m args c prog_2_method_2_code "ZonedFabric$Command" z0 y0 (h_sz M') (h_sl M') 1) (B : xB ym48 (some FieldType.long) meth) (a0 : Nat) (sl0 : Int64) (sl1 : Int64) (M : hM) {res : xRes} (h : b48_20 a0 sl0 sl1 M = some res) (hN : xN (fun _ _ _ => False) r M' res) : xV G p l e (xRm 0 (h_sz M' - z0) (h_sl M' - y0)) s m args below meth c z0 y0 (h_sz M') (h_sl M') 1 (MQ below (xQc G r M') args s (h_sz M' - z0) (h_sl M' - y0) (xFr G)) 20 [(0, .inr (.inr (some a0)))] [.inr (.inl sl0), .inr (.inl sl1)] M := by
  unfold b48_20 at h
  refine xv_b E [.bipush 16, .lshl, .lor, .aload_n 0] (pc' := 25) (lv' := [(0, .inr (.inr (some a0)))]) (st' := [.inr (.inr (some a0)), .inr (.inl (sl1 ||| (sl0 <<< (Int32.toInt64 (16 : Int32) &&& 63))))]) (by decide +kernel) rfl rfl ?_
  obtain ⟨v_6, h7, h⟩ := bd h
  refine xg_i E 0 2 h7 mw287 (show decode prog_2_method_2_code 25 = .ok (.getfield 26, 3) by decide +kernel) ?_
  refine xv_b E [.i2l, .bipush 8, .lshl, .lor, .aload_n 0] (pc' := 34) (lv' := [(0, .inr (.inr (some a0)))]) (st' := [.inr (.inr (some a0)), .inr (.inl ((sl1 ||| (sl0 <<< (Int32.toInt64 (16 : Int32) &&& 63))) ||| ((Int32.toInt64 v_6) <<< (Int32.toInt64 (8 : Int32) &&& 63))))]) (by decide +kernel) rfl rfl ?_
  obtain ⟨v_8, h9, h⟩ := bd h
  refine xg_i E 0 3 h9 mw288 (show decode prog_2_method_2_code 34 = .ok (.getfield 29, 3) by decide +kernel) ?_
  refine xv_b E [.i2l, .lor] (pc' := 39) (lv' := [(0, .inr (.inr (some a0)))]) (st' := [.inr (.inl (((sl1 ||| (sl0 <<< (Int32.toInt64 (16 : Int32) &&& 63))) ||| ((Int32.toInt64 v_6) <<< (Int32.toInt64 (8 : Int32) &&& 63))) ||| (Int32.toInt64 v_8)))]) (by decide +kernel) rfl rfl ?_
  obtain rfl := Option.some.inj h
  obtain ⟨rfl, rfl⟩ := Prod.mk.inj (show ((some (.inr (.inl (((sl1 ||| (sl0 <<< (Int32.toInt64 (16 : Int32) &&& 63))) ||| ((Int32.toInt64 v_6) <<< (Int32.toInt64 (8 : Int32) &&& 63))) ||| (Int32.toInt64 v_8)))) : Option aV), M) = (r, M') from hN)
  exact xv_rl E B.1 B.2.1 (show decode prog_2_method_2_code 39 = .ok (.lreturn, 1) by decide +kernel) rfl rfl
theorem sb48_0 (E : xE G p (xRm 0 (h_sz M' - z0) (h_sl M' - y0)) s m args c prog_2_method_2_code "ZonedFabric$Command" z0 y0 (h_sz M') (h_sl M') 1) (B : xB ym48 (some FieldType.long) meth) (a0 : Nat) (M : hM) {res : xRes} (h : b48_0 a0 M = some res) (hN : xN (fun _ _ _ => False) r M' res) : xV G p l e (xRm 0 (h_sz M' - z0) (h_sl M' - y0)) s m args below meth c z0 y0 (h_sz M') (h_sl M') 1 (MQ below (xQc G r M') args s (h_sz M' - z0) (h_sl M' - y0) (xFr G)) 0 [(0, .inr (.inr (some a0)))] [] M := by
  unfold b48_0 at h
  refine xv_b E [.aload_n 0] (pc' := 1) (lv' := [(0, .inr (.inr (some a0)))]) (st' := [.inr (.inr (some a0))]) (by decide +kernel) rfl rfl ?_
  obtain ⟨v_1, h2, h⟩ := bd h
  refine xg_i E 0 1 h2 mw285 (show decode prog_2_method_2_code 1 = .ok (.getfield 23, 3) by decide +kernel) ?_
  refine xv_b E [.i2l, .bipush 24, .lshl, .aload_n 0] (pc' := 9) (lv' := [(0, .inr (.inr (some a0)))]) (st' := [.inr (.inr (some a0)), .inr (.inl ((Int32.toInt64 v_1) <<< (Int32.toInt64 (24 : Int32) &&& 63)))]) (by decide +kernel) rfl rfl ?_
  obtain ⟨v_3, h4, h⟩ := bd h
  refine xg_i E 0 0 h4 mw286 (show decode prog_2_method_2_code 9 = .ok (.getfield 19, 3) by decide +kernel) ?_
  by_cases q5 : v_3 = 0
  · rw [if_pos q5] at h
    refine xv_if_eq E 19 (show decode prog_2_method_2_code 12 = .ok (.ifCond .eq (7), 3) by decide +kernel) rfl (fun _ => ?_) (fun z => absurd q5 z)
    refine xv_b E [.lconst 0] (pc' := 20) (lv' := [(0, .inr (.inr (some a0)))]) (st' := [.inr (.inl (0 : Int64)), .inr (.inl ((Int32.toInt64 v_1) <<< (Int32.toInt64 (24 : Int32) &&& 63)))]) (by decide +kernel) rfl rfl ?_
    exact xv_w (sb48_20 E B a0 (0 : Int64) ((Int32.toInt64 v_1) <<< (Int32.toInt64 (24 : Int32) &&& 63)) M h hN) rfl
  · rw [if_neg q5] at h
    refine xv_if_eq E 19 (show decode prog_2_method_2_code 12 = .ok (.ifCond .eq (7), 3) by decide +kernel) rfl (fun z => absurd z q5) (fun _ => ?_)
    refine xv_b E [.lconst 1] (pc' := 16) (lv' := [(0, .inr (.inr (some a0)))]) (st' := [.inr (.inl (1 : Int64)), .inr (.inl ((Int32.toInt64 v_1) <<< (Int32.toInt64 (24 : Int32) &&& 63)))]) (by decide +kernel) rfl rfl ?_
    refine xv_goto E 20 (show decode prog_2_method_2_code 16 = .ok (.goto (4), 3) by decide +kernel) rfl ?_
    exact xv_w (sb48_20 E B a0 (1 : Int64) ((Int32.toInt64 v_1) <<< (Int32.toInt64 (24 : Int32) &&& 63)) M h hN) rfl
end
theorem t48 (G : gX) (l : Launch) {as : List aV} {M : hM} {r : Option aV} {M' : hM} (h : f48 as M = some (r, M')) : xM G l ym48 prog_2_method_2_code 1 (some FieldType.long) 0 as M r M' := by
  unfold f48 at h
  split at h
  · have h := x_out_ok h
    refine xM_of (by decide) (Nat.le_of_ble_eq_true rfl) (lb48_0 G l _ M h) ?_
    intro p e s m args below meth c E B
    exact sb48_0 E B _ M h rfl
  · cases h
/-! ZF.Host.sendForPhase(LZF$Command;)V -/
def ym49 : MethodName := ⟨"ZonedFabric$Host", "sendForPhase", "(LZonedFabric$Command;)V"⟩
theorem cd49 : xCd ym49 prog_6_method_8_code 4 none 1 := ⟨mw289, mw37, by decide, by decide, by decide +kernel⟩
def b49_17  (M : hM) : Option xRes :=
  some (.inl (none, M))
def b49_124 (a0 : Nat) (o3 : Option Nat) (M : hM) : Option xRes :=
  Option.bind (g_r M 4 1 (some a0)) fun o_63 =>
  Option.bind (g_r M 5 2 o_63) fun o_65 =>
  Option.bind (g_o M 8 o_65) fun b_69 =>
  Option.bind (c_V (f39 [.inr (.inr (some b_69)), .inr (.inr o3)] M)) fun q_67 =>
  some (.inl (none, q_67))
def b49_34 (a0 : Nat) (o1 : Option Nat) (si0 : Int32) (M : hM) : Option xRes :=
  Option.bind (g_r M 4 0 (some a0)) fun o_16 =>
  Option.bind (g_i M 0 10 o1) fun v_18 =>
  Option.bind (t_2 v_18) fun v_20 =>
  Option.bind (g_r M 4 1 (some a0)) fun o_22 =>
  Option.bind (g_i M 5 3 o_22) fun v_24 =>
  Option.bind (g_i M 0 7 o1) fun v_26 =>
  Option.bind (g_o M 9 o_16) fun b_30 =>
  Option.bind (c_R (f34 [.inr (.inr (some b_30)), .inl v_20, .inl si0, .inl v_24, .inl v_26] M)) fun q_28 =>
  Option.bind (g_i q_28.2 0 10 o1) fun v_32 =>
  if v_32 = 0 then
    (Option.bind (g_i q_28.2 0 8 o1) fun v_56 =>
    Option.bind (g_o q_28.2 2 q_28.1) fun b_60 =>
    Option.bind (c_V (f36 [.inr (.inr (some b_60)), .inl (1 : Int32), .inr (.inl (Int32.toInt64 v_56))] q_28.2)) fun q_58 =>
    b49_124 a0 q_28.1 q_58)
  else
    (Option.bind (g_i q_28.2 0 10 o1) fun v_34 =>
    if v_34 = (1 : Int32) then
      (Option.bind (g_r q_28.2 4 1 (some a0)) fun o_47 =>
      Option.bind (g_i q_28.2 5 1 o_47) fun v_49 =>
      Option.bind (g_o q_28.2 2 q_28.1) fun b_53 =>
      Option.bind (c_V (f36 [.inr (.inr (some b_53)), .inl (1 : Int32), .inr (.inl (Int32.toInt64 v_49))] q_28.2)) fun q_51 =>
      b49_124 a0 q_28.1 q_51)
    else
      (Option.bind (g_i q_28.2 0 10 o1) fun v_36 =>
      if v_36 = (2 : Int32) then
        (Option.bind (g_o q_28.2 0 o1) fun b_40 =>
        Option.bind (c_L (f48 [.inr (.inr (some b_40))] q_28.2)) fun q_38 =>
        Option.bind (g_o q_38.2 2 q_28.1) fun b_44 =>
        Option.bind (c_V (f36 [.inr (.inr (some b_44)), .inl (4 : Int32), .inr (.inl q_38.1)] q_38.2)) fun q_42 =>
        b49_124 a0 q_28.1 q_42)
      else
        (b49_124 a0 q_28.1 q_28.2)))
def b49_0 (a0 : Nat) (o1 : Option Nat) (M : hM) : Option xRes :=
  Option.bind (g_r M 4 1 (some a0)) fun o_1 =>
  Option.bind (g_i M 5 3 o_1) fun v_3 =>
  if v_3 = 0 then
    (b49_17  M)
  else
    (Option.bind (g_o M 0 o1) fun b_7 =>
    Option.bind (c_I (f47 [.inr (.inr (some b_7))] M)) fun q_5 =>
    if q_5.1 = 0 then
      (Option.bind (g_i q_5.2 0 10 o1) fun v_9 =>
      if v_9 = 0 then
        (b49_34 a0 o1 (16777212 : Int32) q_5.2)
      else
        (Option.bind (g_i q_5.2 0 9 o1) fun v_11 =>
        b49_34 a0 o1 v_11 q_5.2))
    else
      (b49_17  q_5.2))
def f49 (as : List aV) (M : hM) : xO := match as with
  | [.inr (.inr (some a0)), .inr (.inr o1)] => x_out (b49_0 a0 o1 M)
  | _ => none
theorem lb49_17 (G : gX) (l : Launch)  (M : hM) {res : xRes} (h : b49_17  M = some res) : h_sz M ≤ r_sz res ∧ h_sl M ≤ r_sl res := by
  unfold b49_17 at h
  obtain rfl := Option.some.inj h
  show h_sz M ≤ h_sz M ∧ h_sl M ≤ h_sl M
  omega
theorem lb49_124 (G : gX) (l : Launch) (a0 : Nat) (o3 : Option Nat) (M : hM) {res : xRes} (h : b49_124 a0 o3 M = some res) : h_sz M ≤ r_sz res ∧ h_sl M ≤ r_sl res := by
  unfold b49_124 at h
  obtain ⟨o_63, h64, h⟩ := bd h
  obtain ⟨o_65, h66, h⟩ := bd h
  obtain ⟨b_69, h70, h⟩ := bd h
  obtain ⟨q_67, h68, h⟩ := bd h
  have eh68 := (t39 G l (c_V_some h68)).1
  obtain rfl := Option.some.inj h
  show h_sz M ≤ h_sz q_67 ∧ h_sl M ≤ h_sl q_67
  omega
theorem lb49_34 (G : gX) (l : Launch) (a0 : Nat) (o1 : Option Nat) (si0 : Int32) (M : hM) {res : xRes} (h : b49_34 a0 o1 si0 M = some res) : h_sz M ≤ r_sz res ∧ h_sl M ≤ r_sl res := by
  unfold b49_34 at h
  obtain ⟨o_16, h17, h⟩ := bd h
  obtain ⟨v_18, h19, h⟩ := bd h
  obtain ⟨v_20, h21, h⟩ := bd h
  obtain ⟨o_22, h23, h⟩ := bd h
  obtain ⟨v_24, h25, h⟩ := bd h
  obtain ⟨v_26, h27, h⟩ := bd h
  obtain ⟨b_30, h31, h⟩ := bd h
  obtain ⟨q_28, h29, h⟩ := bd h
  have eh29 := (t34 G l (c_R_some h29)).1
  obtain ⟨v_32, h33, h⟩ := bd h
  by_cases q62 : v_32 = 0
  · rw [if_pos q62] at h
    obtain ⟨v_56, h57, h⟩ := bd h
    obtain ⟨b_60, h61, h⟩ := bd h
    obtain ⟨q_58, h59, h⟩ := bd h
    have eh59 := (t36 G l (c_V_some h59)).1
    have e := lb49_124 G l a0 q_28.1 q_58 h
    omega
  · rw [if_neg q62] at h
    obtain ⟨v_34, h35, h⟩ := bd h
    by_cases q55 : v_34 = (1 : Int32)
    · rw [if_pos q55] at h
      obtain ⟨o_47, h48, h⟩ := bd h
      obtain ⟨v_49, h50, h⟩ := bd h
      obtain ⟨b_53, h54, h⟩ := bd h
      obtain ⟨q_51, h52, h⟩ := bd h
      have eh52 := (t36 G l (c_V_some h52)).1
      have e := lb49_124 G l a0 q_28.1 q_51 h
      omega
    · rw [if_neg q55] at h
      obtain ⟨v_36, h37, h⟩ := bd h
      by_cases q46 : v_36 = (2 : Int32)
      · rw [if_pos q46] at h
        obtain ⟨b_40, h41, h⟩ := bd h
        obtain ⟨q_38, h39, h⟩ := bd h
        have eh39 := (t48 G l (c_L_some h39)).1
        obtain ⟨b_44, h45, h⟩ := bd h
        obtain ⟨q_42, h43, h⟩ := bd h
        have eh43 := (t36 G l (c_V_some h43)).1
        have e := lb49_124 G l a0 q_28.1 q_42 h
        omega
      · rw [if_neg q46] at h
        have e := lb49_124 G l a0 q_28.1 q_28.2 h
        omega
theorem lb49_0 (G : gX) (l : Launch) (a0 : Nat) (o1 : Option Nat) (M : hM) {res : xRes} (h : b49_0 a0 o1 M = some res) : h_sz M ≤ r_sz res ∧ h_sl M ≤ r_sl res := by
  unfold b49_0 at h
  obtain ⟨o_1, h2, h⟩ := bd h
  obtain ⟨v_3, h4, h⟩ := bd h
  by_cases q15 : v_3 = 0
  · rw [if_pos q15] at h
    have e := lb49_17 G l  M h
    omega
  · rw [if_neg q15] at h
    obtain ⟨b_7, h8, h⟩ := bd h
    obtain ⟨q_5, h6, h⟩ := bd h
    have eh6 := (t47 G l (c_I_some h6)).1
    by_cases q14 : q_5.1 = 0
    · rw [if_pos q14] at h
      obtain ⟨v_9, h10, h⟩ := bd h
      by_cases q13 : v_9 = 0
      · rw [if_pos q13] at h
        have e := lb49_34 G l a0 o1 (16777212 : Int32) q_5.2 h
        omega
      · rw [if_neg q13] at h
        obtain ⟨v_11, h12, h⟩ := bd h
        have e := lb49_34 G l a0 o1 v_11 q_5.2 h
        omega
    · rw [if_neg q14] at h
      have e := lb49_17 G l  q_5.2 h
      omega
section
variable {p : Program} {l : Launch} {e : Env} {s : State} {m : MethodId} {args : Array Value} {below : List Frame} {meth : Method} {c : Code} {G : gX} {z0 y0 : Nat} {r : Option aV} {M' : hM}
theorem sb49_17 (E : xE G p (xRm 3 (h_sz M' - z0) (h_sl M' - y0)) s m args c prog_6_method_8_code "ZonedFabric$Host" z0 y0 (h_sz M') (h_sl M') 4) (B : xB ym49 none meth)  (M : hM) {res : xRes} (h : b49_17  M = some res) (hN : xN (fun _ _ _ => False) r M' res) : xV G p l e (xRm 3 (h_sz M' - z0) (h_sl M' - y0)) s m args below meth c z0 y0 (h_sz M') (h_sl M') 4 (MQ below (xQc G r M') args s (h_sz M' - z0) (h_sl M' - y0) (xFr G)) 17 [] [] M := by
  unfold b49_17 at h
  obtain rfl := Option.some.inj h
  obtain ⟨rfl, rfl⟩ := Prod.mk.inj (show ((none : Option aV), M) = (r, M') from hN)
  exact xv_rv E B.1 B.2.1 (show decode prog_6_method_8_code 17 = .ok (.return_, 1) by decide +kernel) rfl rfl
theorem sb49_124 (E : xE G p (xRm 3 (h_sz M' - z0) (h_sl M' - y0)) s m args c prog_6_method_8_code "ZonedFabric$Host" z0 y0 (h_sz M') (h_sl M') 4) (B : xB ym49 none meth) (a0 : Nat) (o3 : Option Nat) (M : hM) {res : xRes} (h : b49_124 a0 o3 M = some res) (hN : xN (fun _ _ _ => False) r M' res) : xV G p l e (xRm 3 (h_sz M' - z0) (h_sl M' - y0)) s m args below meth c z0 y0 (h_sz M') (h_sl M') 4 (MQ below (xQc G r M') args s (h_sz M' - z0) (h_sl M' - y0) (xFr G)) 124 [(0, .inr (.inr (some a0))), (3, .inr (.inr o3))] [] M := by
  unfold b49_124 at h
  refine xv_b E [.aload_n 0] (pc' := 125) (lv' := [(0, .inr (.inr (some a0))), (3, .inr (.inr o3))]) (st' := [.inr (.inr (some a0))]) (by decide +kernel) rfl rfl ?_
  obtain ⟨o_63, h64, h⟩ := bd h
  refine xg_r E 4 1 h64 mw41 (show decode prog_6_method_8_code 125 = .ok (.getfield 21, 3) by decide +kernel) ?_
  obtain ⟨o_65, h66, h⟩ := bd h
  refine xg_r E 5 2 h66 mw305 (show decode prog_6_method_8_code 128 = .ok (.getfield 104, 3) by decide +kernel) ?_
  refine xv_b E [.aload_n 3] (pc' := 132) (lv' := [(0, .inr (.inr (some a0))), (3, .inr (.inr o3))]) (st' := [.inr (.inr o3), .inr (.inr o_65)]) (by decide +kernel) rfl rfl ?_
  obtain ⟨b_69, h70, h⟩ := bd h
  obtain ⟨eh70, th70⟩ := g_o_some h70
  obtain ⟨q_67, h68, h⟩ := bd h
  refine xv_cvo E eh70 8 (as := [.inr (.inr o3)]) (t39 G l (c_V_some h68)) cd39 mw306 mw257 mw258 (show decode prog_6_method_8_code 132 = .ok (.invokevirtual 108, 3) by decide +kernel) th70 rfl rfl (Nat.le_of_ble_eq_true rfl) ⟨Nat.le_of_ble_eq_true rfl, Nat.le_of_ble_eq_true rfl⟩ ?_
  obtain rfl := Option.some.inj h
  obtain ⟨rfl, rfl⟩ := Prod.mk.inj (show ((none : Option aV), q_67) = (r, M') from hN)
  exact xv_rv E B.1 B.2.1 (show decode prog_6_method_8_code 135 = .ok (.return_, 1) by decide +kernel) rfl rfl
theorem sb49_34 (E : xE G p (xRm 3 (h_sz M' - z0) (h_sl M' - y0)) s m args c prog_6_method_8_code "ZonedFabric$Host" z0 y0 (h_sz M') (h_sl M') 4) (B : xB ym49 none meth) (a0 : Nat) (o1 : Option Nat) (si0 : Int32) (M : hM) {res : xRes} (h : b49_34 a0 o1 si0 M = some res) (hN : xN (fun _ _ _ => False) r M' res) : xV G p l e (xRm 3 (h_sz M' - z0) (h_sl M' - y0)) s m args below meth c z0 y0 (h_sz M') (h_sl M') 4 (MQ below (xQc G r M') args s (h_sz M' - z0) (h_sl M' - y0) (xFr G)) 34 [(0, .inr (.inr (some a0))), (1, .inr (.inr o1))] [.inl si0] M := by
  unfold b49_34 at h
  refine xv_b E [.istore_n 2, .aload_n 0] (pc' := 36) (lv' := [(2, .inl si0), (0, .inr (.inr (some a0))), (1, .inr (.inr o1))]) (st' := [.inr (.inr (some a0))]) (by decide +kernel) rfl rfl ?_
  obtain ⟨o_16, h17, h⟩ := bd h
  refine xg_r E 4 0 h17 mw40 (show decode prog_6_method_8_code 36 = .ok (.getfield 17, 3) by decide +kernel) ?_
  refine xt_g2 E rfl (show decode prog_6_method_8_code 39 = .ok (.getstatic 80, 3) by decide +kernel) ?_
  refine xv_b E [.aload_n 1] (pc' := 43) (lv' := [(2, .inl si0), (0, .inr (.inr (some a0))), (1, .inr (.inr o1))]) (st' := [.inr (.inr o1), .inr (.inr (some G.2.2.2)), .inr (.inr o_16)]) (by decide +kernel) rfl rfl ?_
  obtain ⟨v_18, h19, h⟩ := bd h
  refine xg_i E 0 10 h19 mw294 (show decode prog_6_method_8_code 43 = .ok (.getfield 63, 3) by decide +kernel) ?_
  obtain ⟨v_20, h21, h⟩ := bd h
  refine xt_2 E h21 (show decode prog_6_method_8_code 46 = .ok (.iaload, 1) by decide +kernel) ?_
  refine xv_b E [.iload_n 2, .aload_n 0] (pc' := 49) (lv' := [(2, .inl si0), (0, .inr (.inr (some a0))), (1, .inr (.inr o1))]) (st' := [.inr (.inr (some a0)), .inl si0, .inl v_20, .inr (.inr o_16)]) (by decide +kernel) rfl rfl ?_
  obtain ⟨o_22, h23, h⟩ := bd h
  refine xg_r E 4 1 h23 mw41 (show decode prog_6_method_8_code 49 = .ok (.getfield 21, 3) by decide +kernel) ?_
  obtain ⟨v_24, h25, h⟩ := bd h
  refine xg_i E 5 3 h25 mw290 (show decode prog_6_method_8_code 52 = .ok (.getfield 73, 3) by decide +kernel) ?_
  refine xv_b E [.aload_n 1] (pc' := 56) (lv' := [(2, .inl si0), (0, .inr (.inr (some a0))), (1, .inr (.inr o1))]) (st' := [.inr (.inr o1), .inl v_24, .inl si0, .inl v_20, .inr (.inr o_16)]) (by decide +kernel) rfl rfl ?_
  obtain ⟨v_26, h27, h⟩ := bd h
  refine xg_i E 0 7 h27 mw297 (show decode prog_6_method_8_code 56 = .ok (.getfield 83, 3) by decide +kernel) ?_
  obtain ⟨b_30, h31, h⟩ := bd h
  obtain ⟨eh31, th31⟩ := g_o_some h31
  obtain ⟨q_28, h29, h⟩ := bd h
  refine xv_cvo E eh31 9 (as := [.inl v_20, .inl si0, .inl v_24, .inl v_26]) (t34 G l (c_R_some h29)) cd34 mw298 mw251 mw252 (show decode prog_6_method_8_code 59 = .ok (.invokevirtual 86, 3) by decide +kernel) th31 rfl rfl (Nat.le_of_ble_eq_true rfl) ⟨Nat.le_of_ble_eq_true rfl, Nat.le_of_ble_eq_true rfl⟩ ?_
  refine xv_b E [.astore_n 3, .aload_n 1] (pc' := 64) (lv' := [(3, .inr (.inr q_28.1)), (2, .inl si0), (0, .inr (.inr (some a0))), (1, .inr (.inr o1))]) (st' := [.inr (.inr o1)]) (by decide +kernel) rfl rfl ?_
  obtain ⟨v_32, h33, h⟩ := bd h
  refine xg_i E 0 10 h33 mw294 (show decode prog_6_method_8_code 64 = .ok (.getfield 63, 3) by decide +kernel) ?_
  by_cases q62 : v_32 = 0
  · rw [if_pos q62] at h
    refine xv_if_ne E 83 (show decode prog_6_method_8_code 67 = .ok (.ifCond .ne (16), 3) by decide +kernel) rfl (fun z => absurd q62 z) (fun _ => ?_)
    refine xv_b E [.aload_n 3, .iconst 1, .aload_n 1] (pc' := 73) (lv' := [(3, .inr (.inr q_28.1)), (2, .inl si0), (0, .inr (.inr (some a0))), (1, .inr (.inr o1))]) (st' := [.inr (.inr o1), .inl (1 : Int32), .inr (.inr q_28.1)]) (by decide +kernel) rfl rfl ?_
    obtain ⟨v_56, h57, h⟩ := bd h
    refine xg_i E 0 8 h57 mw304 (show decode prog_6_method_8_code 73 = .ok (.getfield 90, 3) by decide +kernel) ?_
    refine xv_b E [.i2l] (pc' := 77) (lv' := [(3, .inr (.inr q_28.1)), (2, .inl si0), (0, .inr (.inr (some a0))), (1, .inr (.inr o1))]) (st' := [.inr (.inl (Int32.toInt64 v_56)), .inl (1 : Int32), .inr (.inr q_28.1)]) (by decide +kernel) rfl rfl ?_
    obtain ⟨b_60, h61, h⟩ := bd h
    obtain ⟨eh61, th61⟩ := g_o_some h61
    obtain ⟨q_58, h59, h⟩ := bd h
    refine xv_cvo E eh61 2 (as := [.inl (1 : Int32), .inr (.inl (Int32.toInt64 v_56))]) (t36 G l (c_V_some h59)) cd36 mw302 mw254 mw255 (show decode prog_6_method_8_code 77 = .ok (.invokevirtual 93, 3) by decide +kernel) th61 rfl rfl (Nat.le_of_ble_eq_true rfl) ⟨Nat.le_of_ble_eq_true rfl, Nat.le_of_ble_eq_true rfl⟩ ?_
    refine xv_goto E 124 (show decode prog_6_method_8_code 80 = .ok (.goto (44), 3) by decide +kernel) rfl ?_
    exact xv_w (sb49_124 E B a0 q_28.1 q_58 h hN) rfl
  · rw [if_neg q62] at h
    refine xv_if_ne E 83 (show decode prog_6_method_8_code 67 = .ok (.ifCond .ne (16), 3) by decide +kernel) rfl (fun _ => ?_) (fun z => absurd z q62)
    refine xv_b E [.aload_n 1] (pc' := 84) (lv' := [(3, .inr (.inr q_28.1)), (2, .inl si0), (0, .inr (.inr (some a0))), (1, .inr (.inr o1))]) (st' := [.inr (.inr o1)]) (by decide +kernel) rfl rfl ?_
    obtain ⟨v_34, h35, h⟩ := bd h
    refine xg_i E 0 10 h35 mw294 (show decode prog_6_method_8_code 84 = .ok (.getfield 63, 3) by decide +kernel) ?_
    refine xv_b E [.iconst 1] (pc' := 88) (lv' := [(3, .inr (.inr q_28.1)), (2, .inl si0), (0, .inr (.inr (some a0))), (1, .inr (.inr o1))]) (st' := [.inl (1 : Int32), .inl v_34]) (by decide +kernel) rfl rfl ?_
    by_cases q55 : v_34 = (1 : Int32)
    · rw [if_pos q55] at h
      refine xv_icmp_ne E 107 (show decode prog_6_method_8_code 88 = .ok (.if_icmp .ne (19), 3) by decide +kernel) rfl (fun z => absurd q55 z) (fun _ => ?_)
      refine xv_b E [.aload_n 3, .iconst 1, .aload_n 0] (pc' := 94) (lv' := [(3, .inr (.inr q_28.1)), (2, .inl si0), (0, .inr (.inr (some a0))), (1, .inr (.inr o1))]) (st' := [.inr (.inr (some a0)), .inl (1 : Int32), .inr (.inr q_28.1)]) (by decide +kernel) rfl rfl ?_
      obtain ⟨o_47, h48, h⟩ := bd h
      refine xg_r E 4 1 h48 mw41 (show decode prog_6_method_8_code 94 = .ok (.getfield 21, 3) by decide +kernel) ?_
      obtain ⟨v_49, h50, h⟩ := bd h
      refine xg_i E 5 1 h50 mw303 (show decode prog_6_method_8_code 97 = .ok (.getfield 99, 3) by decide +kernel) ?_
      refine xv_b E [.i2l] (pc' := 101) (lv' := [(3, .inr (.inr q_28.1)), (2, .inl si0), (0, .inr (.inr (some a0))), (1, .inr (.inr o1))]) (st' := [.inr (.inl (Int32.toInt64 v_49)), .inl (1 : Int32), .inr (.inr q_28.1)]) (by decide +kernel) rfl rfl ?_
      obtain ⟨b_53, h54, h⟩ := bd h
      obtain ⟨eh54, th54⟩ := g_o_some h54
      obtain ⟨q_51, h52, h⟩ := bd h
      refine xv_cvo E eh54 2 (as := [.inl (1 : Int32), .inr (.inl (Int32.toInt64 v_49))]) (t36 G l (c_V_some h52)) cd36 mw302 mw254 mw255 (show decode prog_6_method_8_code 101 = .ok (.invokevirtual 93, 3) by decide +kernel) th54 rfl rfl (Nat.le_of_ble_eq_true rfl) ⟨Nat.le_of_ble_eq_true rfl, Nat.le_of_ble_eq_true rfl⟩ ?_
      refine xv_goto E 124 (show decode prog_6_method_8_code 104 = .ok (.goto (20), 3) by decide +kernel) rfl ?_
      exact xv_w (sb49_124 E B a0 q_28.1 q_51 h hN) rfl
    · rw [if_neg q55] at h
      refine xv_icmp_ne E 107 (show decode prog_6_method_8_code 88 = .ok (.if_icmp .ne (19), 3) by decide +kernel) rfl (fun _ => ?_) (fun z => absurd z q55)
      refine xv_b E [.aload_n 1] (pc' := 108) (lv' := [(3, .inr (.inr q_28.1)), (2, .inl si0), (0, .inr (.inr (some a0))), (1, .inr (.inr o1))]) (st' := [.inr (.inr o1)]) (by decide +kernel) rfl rfl ?_
      obtain ⟨v_36, h37, h⟩ := bd h
      refine xg_i E 0 10 h37 mw294 (show decode prog_6_method_8_code 108 = .ok (.getfield 63, 3) by decide +kernel) ?_
      refine xv_b E [.iconst 2] (pc' := 112) (lv' := [(3, .inr (.inr q_28.1)), (2, .inl si0), (0, .inr (.inr (some a0))), (1, .inr (.inr o1))]) (st' := [.inl (2 : Int32), .inl v_36]) (by decide +kernel) rfl rfl ?_
      by_cases q46 : v_36 = (2 : Int32)
      · rw [if_pos q46] at h
        refine xv_icmp_ne E 124 (show decode prog_6_method_8_code 112 = .ok (.if_icmp .ne (12), 3) by decide +kernel) rfl (fun z => absurd q46 z) (fun _ => ?_)
        refine xv_b E [.aload_n 3, .iconst 4, .aload_n 1] (pc' := 118) (lv' := [(3, .inr (.inr q_28.1)), (2, .inl si0), (0, .inr (.inr (some a0))), (1, .inr (.inr o1))]) (st' := [.inr (.inr o1), .inl (4 : Int32), .inr (.inr q_28.1)]) (by decide +kernel) rfl rfl ?_
        obtain ⟨b_40, h41, h⟩ := bd h
        obtain ⟨eh41, th41⟩ := g_o_some h41
        obtain ⟨q_38, h39, h⟩ := bd h
        refine xv_cvo E eh41 0 (as := []) (t48 G l (c_L_some h39)) cd48 mw299 mw300 mw301 (show decode prog_6_method_8_code 118 = .ok (.invokevirtual 100, 3) by decide +kernel) th41 rfl rfl (Nat.le_of_ble_eq_true rfl) ⟨Nat.le_of_ble_eq_true rfl, Nat.le_of_ble_eq_true rfl⟩ ?_
        obtain ⟨b_44, h45, h⟩ := bd h
        obtain ⟨eh45, th45⟩ := g_o_some h45
        obtain ⟨q_42, h43, h⟩ := bd h
        refine xv_cvo E eh45 2 (as := [.inl (4 : Int32), .inr (.inl q_38.1)]) (t36 G l (c_V_some h43)) cd36 mw302 mw254 mw255 (show decode prog_6_method_8_code 121 = .ok (.invokevirtual 93, 3) by decide +kernel) th45 rfl rfl (Nat.le_of_ble_eq_true rfl) ⟨Nat.le_of_ble_eq_true rfl, Nat.le_of_ble_eq_true rfl⟩ ?_
        exact xv_w (sb49_124 E B a0 q_28.1 q_42 h hN) rfl
      · rw [if_neg q46] at h
        refine xv_icmp_ne E 124 (show decode prog_6_method_8_code 112 = .ok (.if_icmp .ne (12), 3) by decide +kernel) rfl (fun _ => ?_) (fun z => absurd z q46)
        exact xv_w (sb49_124 E B a0 q_28.1 q_28.2 h hN) rfl
theorem sb49_0 (E : xE G p (xRm 3 (h_sz M' - z0) (h_sl M' - y0)) s m args c prog_6_method_8_code "ZonedFabric$Host" z0 y0 (h_sz M') (h_sl M') 4) (B : xB ym49 none meth) (a0 : Nat) (o1 : Option Nat) (M : hM) {res : xRes} (h : b49_0 a0 o1 M = some res) (hN : xN (fun _ _ _ => False) r M' res) : xV G p l e (xRm 3 (h_sz M' - z0) (h_sl M' - y0)) s m args below meth c z0 y0 (h_sz M') (h_sl M') 4 (MQ below (xQc G r M') args s (h_sz M' - z0) (h_sl M' - y0) (xFr G)) 0 [(0, .inr (.inr (some a0))), (1, .inr (.inr o1))] [] M := by
  unfold b49_0 at h
  refine xv_b E [.aload_n 0] (pc' := 1) (lv' := [(0, .inr (.inr (some a0))), (1, .inr (.inr o1))]) (st' := [.inr (.inr (some a0))]) (by decide +kernel) rfl rfl ?_
  obtain ⟨o_1, h2, h⟩ := bd h
  refine xg_r E 4 1 h2 mw41 (show decode prog_6_method_8_code 1 = .ok (.getfield 21, 3) by decide +kernel) ?_
  obtain ⟨v_3, h4, h⟩ := bd h
  refine xg_i E 5 3 h4 mw290 (show decode prog_6_method_8_code 4 = .ok (.getfield 73, 3) by decide +kernel) ?_
  by_cases q15 : v_3 = 0
  · rw [if_pos q15] at h
    refine xv_if_eq E 17 (show decode prog_6_method_8_code 7 = .ok (.ifCond .eq (10), 3) by decide +kernel) rfl (fun _ => ?_) (fun z => absurd q15 z)
    exact xv_w (sb49_17 E B  M h hN) rfl
  · rw [if_neg q15] at h
    refine xv_if_eq E 17 (show decode prog_6_method_8_code 7 = .ok (.ifCond .eq (10), 3) by decide +kernel) rfl (fun z => absurd z q15) (fun _ => ?_)
    refine xv_b E [.aload_n 1] (pc' := 11) (lv' := [(0, .inr (.inr (some a0))), (1, .inr (.inr o1))]) (st' := [.inr (.inr o1)]) (by decide +kernel) rfl rfl ?_
    obtain ⟨b_7, h8, h⟩ := bd h
    obtain ⟨eh8, th8⟩ := g_o_some h8
    obtain ⟨q_5, h6, h⟩ := bd h
    refine xv_cvo E eh8 0 (as := []) (t47 G l (c_I_some h6)) cd47 mw291 mw292 mw293 (show decode prog_6_method_8_code 11 = .ok (.invokevirtual 38, 3) by decide +kernel) th8 rfl rfl (Nat.le_of_ble_eq_true rfl) ⟨Nat.le_of_ble_eq_true rfl, Nat.le_of_ble_eq_true rfl⟩ ?_
    by_cases q14 : q_5.1 = 0
    · rw [if_pos q14] at h
      refine xv_if_eq E 18 (show decode prog_6_method_8_code 14 = .ok (.ifCond .eq (4), 3) by decide +kernel) rfl (fun _ => ?_) (fun z => absurd q14 z)
      refine xv_b E [.aload_n 1] (pc' := 19) (lv' := [(0, .inr (.inr (some a0))), (1, .inr (.inr o1))]) (st' := [.inr (.inr o1)]) (by decide +kernel) rfl rfl ?_
      obtain ⟨v_9, h10, h⟩ := bd h
      refine xg_i E 0 10 h10 mw294 (show decode prog_6_method_8_code 19 = .ok (.getfield 63, 3) by decide +kernel) ?_
      by_cases q13 : v_9 = 0
      · rw [if_pos q13] at h
        refine xv_if_ne E 30 (show decode prog_6_method_8_code 22 = .ok (.ifCond .ne (8), 3) by decide +kernel) rfl (fun z => absurd q13 z) (fun _ => ?_)
        refine xv_ldc E (16777212 : Int32) mw296 (show decode prog_6_method_8_code 25 = .ok (.ldc 78, 2) by decide +kernel) ?_
        refine xv_goto E 34 (show decode prog_6_method_8_code 27 = .ok (.goto (7), 3) by decide +kernel) rfl ?_
        exact xv_w (sb49_34 E B a0 o1 (16777212 : Int32) q_5.2 h hN) rfl
      · rw [if_neg q13] at h
        refine xv_if_ne E 30 (show decode prog_6_method_8_code 22 = .ok (.ifCond .ne (8), 3) by decide +kernel) rfl (fun _ => ?_) (fun z => absurd z q13)
        refine xv_b E [.aload_n 1] (pc' := 31) (lv' := [(0, .inr (.inr (some a0))), (1, .inr (.inr o1))]) (st' := [.inr (.inr o1)]) (by decide +kernel) rfl rfl ?_
        obtain ⟨v_11, h12, h⟩ := bd h
        refine xg_i E 0 9 h12 mw295 (show decode prog_6_method_8_code 31 = .ok (.getfield 79, 3) by decide +kernel) ?_
        exact xv_w (sb49_34 E B a0 o1 v_11 q_5.2 h hN) rfl
    · rw [if_neg q14] at h
      refine xv_if_eq E 18 (show decode prog_6_method_8_code 14 = .ok (.ifCond .eq (4), 3) by decide +kernel) rfl (fun z => absurd z q14) (fun _ => ?_)
      exact xv_w (sb49_17 E B  q_5.2 h hN) rfl
end
theorem t49 (G : gX) (l : Launch) {as : List aV} {M : hM} {r : Option aV} {M' : hM} (h : f49 as M = some (r, M')) : xM G l ym49 prog_6_method_8_code 4 none 3 as M r M' := by
  unfold f49 at h
  split at h
  · have h := x_out_ok h
    refine xM_of (by decide) (Nat.le_of_ble_eq_true rfl) (lb49_0 G l _ _ M h) ?_
    intro p e s m args below meth c E B
    exact sb49_0 E B _ _ M h rfl
  · cases h
/-! ZF.Command.end(II)V -/
def ym50 : MethodName := ⟨"ZonedFabric$Command", "end", "(II)V"⟩
theorem cd50 : xCd ym50 prog_2_method_4_code 3 none 2 := ⟨mw307, mw282, by decide, by decide, by decide +kernel⟩
def b50_0 (a0 : Nat) (v1 : Int32) (v2 : Int32) (M : hM) : Option xRes :=
  Option.bind (p_i M 0 10 (some a0) v1) fun M1 =>
  Option.bind (p_i M1 0 13 (some a0) v2) fun M3 =>
  some (.inl (none, M3))
def f50 (as : List aV) (M : hM) : xO := match as with
  | [.inr (.inr (some a0)), .inl v1, .inl v2] => x_out (b50_0 a0 v1 v2 M)
  | _ => none
theorem lb50_0 (G : gX) (l : Launch) (a0 : Nat) (v1 : Int32) (v2 : Int32) (M : hM) {res : xRes} (h : b50_0 a0 v1 v2 M = some res) : h_sz M ≤ r_sz res ∧ h_sl M ≤ r_sl res := by
  unfold b50_0 at h
  obtain ⟨M1, h2, h⟩ := bd h
  have eh2 := p_i_sz h2
  obtain ⟨M3, h4, h⟩ := bd h
  have eh4 := p_i_sz h4
  obtain rfl := Option.some.inj h
  show h_sz M ≤ h_sz M3 ∧ h_sl M ≤ h_sl M3
  omega
section
variable {p : Program} {l : Launch} {e : Env} {s : State} {m : MethodId} {args : Array Value} {below : List Frame} {meth : Method} {c : Code} {G : gX} {z0 y0 : Nat} {r : Option aV} {M' : hM}
theorem sb50_0 (E : xE G p (xRm 0 (h_sz M' - z0) (h_sl M' - y0)) s m args c prog_2_method_4_code "ZonedFabric$Command" z0 y0 (h_sz M') (h_sl M') 3) (B : xB ym50 none meth) (a0 : Nat) (v1 : Int32) (v2 : Int32) (M : hM) {res : xRes} (h : b50_0 a0 v1 v2 M = some res) (hN : xN (fun _ _ _ => False) r M' res) : xV G p l e (xRm 0 (h_sz M' - z0) (h_sl M' - y0)) s m args below meth c z0 y0 (h_sz M') (h_sl M') 3 (MQ below (xQc G r M') args s (h_sz M' - z0) (h_sl M' - y0) (xFr G)) 0 [(0, .inr (.inr (some a0))), (1, .inl v1), (2, .inl v2)] [] M := by
  unfold b50_0 at h
  refine xv_b E [.aload_n 0, .iload_n 1] (pc' := 2) (lv' := [(0, .inr (.inr (some a0))), (1, .inl v1), (2, .inl v2)]) (st' := [.inl v1, .inr (.inr (some a0))]) (by decide +kernel) rfl rfl ?_
  obtain ⟨M1, h2, h⟩ := bd h
  refine xp_i E 0 10 h2 mw283 (show decode prog_2_method_4_code 2 = .ok (.putfield 36, 3) by decide +kernel) (Or.inl rfl) ?_
  refine xv_b E [.aload_n 0, .iload_n 2] (pc' := 7) (lv' := [(0, .inr (.inr (some a0))), (1, .inl v1), (2, .inl v2)]) (st' := [.inl v2, .inr (.inr (some a0))]) (by decide +kernel) rfl rfl ?_
  obtain ⟨M3, h4, h⟩ := bd h
  refine xp_i E 0 13 h4 mw308 (show decode prog_2_method_4_code 7 = .ok (.putfield 15, 3) by decide +kernel) (Or.inl rfl) ?_
  obtain rfl := Option.some.inj h
  obtain ⟨rfl, rfl⟩ := Prod.mk.inj (show ((none : Option aV), M3) = (r, M') from hN)
  exact xv_rv E B.1 B.2.1 (show decode prog_2_method_4_code 10 = .ok (.return_, 1) by decide +kernel) rfl rfl
end
theorem t50 (G : gX) (l : Launch) {as : List aV} {M : hM} {r : Option aV} {M' : hM} (h : f50 as M = some (r, M')) : xM G l ym50 prog_2_method_4_code 3 none 0 as M r M' := by
  unfold f50 at h
  split at h
  · have h := x_out_ok h
    refine xM_of (by decide) (Nat.le_of_ble_eq_true rfl) (lb50_0 G l _ _ _ M h) ?_
    intro p e s m args below meth c E B
    exact sb50_0 E B _ _ _ M h rfl
  · cases h
/-! ZF.Host.enter(LZF$Command;I)V -/
def ym51 : MethodName := ⟨"ZonedFabric$Host", "enter", "(LZonedFabric$Command;I)V"⟩
theorem cd51 : xCd ym51 prog_6_method_7_code 3 none 2 := ⟨mw309, mw37, by decide, by decide, by decide +kernel⟩
def b51_0 (a0 : Nat) (o1 : Option Nat) (v2 : Int32) (M : hM) : Option xRes :=
  Option.bind (p_i M 0 10 o1 v2) fun M1 =>
  Option.bind (g_r M1 4 0 (some a0)) fun o_3 =>
  Option.bind (g_i M1 9 3 o_3) fun v_5 =>
  Option.bind (p_i M1 0 12 o1 v_5) fun M7 =>
  Option.bind (g_o M7 4 (some a0)) fun b_11 =>
  Option.bind (c_V (f49 [.inr (.inr (some b_11)), .inr (.inr o1)] M7)) fun q_9 =>
  some (.inl (none, q_9))
def f51 (as : List aV) (M : hM) : xO := match as with
  | [.inr (.inr (some a0)), .inr (.inr o1), .inl v2] => x_out (b51_0 a0 o1 v2 M)
  | _ => none
theorem lb51_0 (G : gX) (l : Launch) (a0 : Nat) (o1 : Option Nat) (v2 : Int32) (M : hM) {res : xRes} (h : b51_0 a0 o1 v2 M = some res) : h_sz M ≤ r_sz res ∧ h_sl M ≤ r_sl res := by
  unfold b51_0 at h
  obtain ⟨M1, h2, h⟩ := bd h
  have eh2 := p_i_sz h2
  obtain ⟨o_3, h4, h⟩ := bd h
  obtain ⟨v_5, h6, h⟩ := bd h
  obtain ⟨M7, h8, h⟩ := bd h
  have eh8 := p_i_sz h8
  obtain ⟨b_11, h12, h⟩ := bd h
  obtain ⟨q_9, h10, h⟩ := bd h
  have eh10 := (t49 G l (c_V_some h10)).1
  obtain rfl := Option.some.inj h
  show h_sz M ≤ h_sz q_9 ∧ h_sl M ≤ h_sl q_9
  omega
section
variable {p : Program} {l : Launch} {e : Env} {s : State} {m : MethodId} {args : Array Value} {below : List Frame} {meth : Method} {c : Code} {G : gX} {z0 y0 : Nat} {r : Option aV} {M' : hM}
theorem sb51_0 (E : xE G p (xRm 4 (h_sz M' - z0) (h_sl M' - y0)) s m args c prog_6_method_7_code "ZonedFabric$Host" z0 y0 (h_sz M') (h_sl M') 3) (B : xB ym51 none meth) (a0 : Nat) (o1 : Option Nat) (v2 : Int32) (M : hM) {res : xRes} (h : b51_0 a0 o1 v2 M = some res) (hN : xN (fun _ _ _ => False) r M' res) : xV G p l e (xRm 4 (h_sz M' - z0) (h_sl M' - y0)) s m args below meth c z0 y0 (h_sz M') (h_sl M') 3 (MQ below (xQc G r M') args s (h_sz M' - z0) (h_sl M' - y0) (xFr G)) 0 [(0, .inr (.inr (some a0))), (1, .inr (.inr o1)), (2, .inl v2)] [] M := by
  unfold b51_0 at h
  refine xv_b E [.aload_n 1, .iload_n 2] (pc' := 2) (lv' := [(0, .inr (.inr (some a0))), (1, .inr (.inr o1)), (2, .inl v2)]) (st' := [.inl v2, .inr (.inr o1)]) (by decide +kernel) rfl rfl ?_
  obtain ⟨M1, h2, h⟩ := bd h
  refine xp_i E 0 10 h2 mw294 (show decode prog_6_method_7_code 2 = .ok (.putfield 63, 3) by decide +kernel) (Or.inl rfl) ?_
  refine xv_b E [.aload_n 1, .aload_n 0] (pc' := 7) (lv' := [(0, .inr (.inr (some a0))), (1, .inr (.inr o1)), (2, .inl v2)]) (st' := [.inr (.inr (some a0)), .inr (.inr o1)]) (by decide +kernel) rfl rfl ?_
  obtain ⟨o_3, h4, h⟩ := bd h
  refine xg_r E 4 0 h4 mw40 (show decode prog_6_method_7_code 7 = .ok (.getfield 17, 3) by decide +kernel) ?_
  obtain ⟨v_5, h6, h⟩ := bd h
  refine xg_i E 9 3 h6 mw310 (show decode prog_6_method_7_code 10 = .ok (.getfield 46, 3) by decide +kernel) ?_
  obtain ⟨M7, h8, h⟩ := bd h
  refine xp_i E 0 12 h8 mw311 (show decode prog_6_method_7_code 13 = .ok (.putfield 60, 3) by decide +kernel) (Or.inl rfl) ?_
  refine xv_b E [.aload_n 0, .aload_n 1] (pc' := 18) (lv' := [(0, .inr (.inr (some a0))), (1, .inr (.inr o1)), (2, .inl v2)]) (st' := [.inr (.inr o1), .inr (.inr (some a0))]) (by decide +kernel) rfl rfl ?_
  obtain ⟨b_11, h12, h⟩ := bd h
  obtain ⟨eh12, th12⟩ := g_o_some h12
  obtain ⟨q_9, h10, h⟩ := bd h
  refine xv_cvo E eh12 4 (as := [.inr (.inr o1)]) (t49 G l (c_V_some h10)) cd49 mw312 mw313 mw314 (show decode prog_6_method_7_code 18 = .ok (.invokevirtual 70, 3) by decide +kernel) th12 rfl rfl (Nat.le_of_ble_eq_true rfl) ⟨Nat.le_of_ble_eq_true rfl, Nat.le_of_ble_eq_true rfl⟩ ?_
  obtain rfl := Option.some.inj h
  obtain ⟨rfl, rfl⟩ := Prod.mk.inj (show ((none : Option aV), q_9) = (r, M') from hN)
  exact xv_rv E B.1 B.2.1 (show decode prog_6_method_7_code 21 = .ok (.return_, 1) by decide +kernel) rfl rfl
end
theorem t51 (G : gX) (l : Launch) {as : List aV} {M : hM} {r : Option aV} {M' : hM} (h : f51 as M = some (r, M')) : xM G l ym51 prog_6_method_7_code 3 none 4 as M r M' := by
  unfold f51 at h
  split at h
  · have h := x_out_ok h
    refine xM_of (by decide) (Nat.le_of_ble_eq_true rfl) (lb51_0 G l _ _ _ M h) ?_
    intro p e s m args below meth c E B
    exact sb51_0 E B _ _ _ M h rfl
  · cases h
/-! ZF.Host.runTimer(LZF$Command;)V -/
def ym52 : MethodName := ⟨"ZonedFabric$Host", "runTimer", "(LZonedFabric$Command;)V"⟩
theorem cd52 : xCd ym52 prog_6_method_6_code 4 none 1 := ⟨mw315, mw37, by decide, by decide, by decide +kernel⟩
def b52_131  (M : hM) : Option xRes :=
  some (.inl (none, M))
def b52_115 (a0 : Nat) (o1 : Option Nat) (v3 : Int32) (M : hM) : Option xRes :=
  if v3 ≤ 0 then
    (b52_131  M)
  else
    (Option.bind (d_m v3 (20 : Int32)) fun v_46 =>
    if v_46 = 0 then
      (Option.bind (g_o M 4 (some a0)) fun b_50 =>
      Option.bind (c_V (f49 [.inr (.inr (some b_50)), .inr (.inr o1)] M)) fun q_48 =>
      b52_131  q_48)
    else
      (b52_131  M))
def b52_64 (a0 : Nat) (o1 : Option Nat) (v2 : Int32) (v3 : Int32) (M : hM) : Option xRes :=
  Option.bind (g_i M 0 10 o1) fun v_26 =>
  if v_26 = (2 : Int32) then
    (if v2 = 0 then
      (b52_131  M)
    else
      (Option.bind (g_o M 4 (some a0)) fun b_42 =>
      Option.bind (c_V (f51 [.inr (.inr (some b_42)), .inr (.inr o1), .inl (3 : Int32)] M)) fun q_40 =>
      b52_131  q_40))
  else
    (Option.bind (g_i M 0 10 o1) fun v_28 =>
    if v_28 = (3 : Int32) then
      (if v3 < (60 : Int32) then
        (b52_115 a0 o1 v3 M)
      else
        (Option.bind (g_r M 4 0 (some a0)) fun o_30 =>
        Option.bind (g_i M 9 3 o_30) fun v_32 =>
        Option.bind (g_o M 0 o1) fun b_36 =>
        Option.bind (c_V (f50 [.inr (.inr (some b_36)), .inl (12 : Int32), .inl v_32] M)) fun q_34 =>
        b52_131  q_34))
    else
      (b52_115 a0 o1 v3 M))
def b52_22 (a0 : Nat) (o1 : Option Nat) (si0 : Int32) (M : hM) : Option xRes :=
  Option.bind (g_r M 4 0 (some a0)) fun o_8 =>
  Option.bind (g_i M 9 3 o_8) fun v_10 =>
  Option.bind (g_i M 0 12 o1) fun v_12 =>
  Option.bind (g_i M 0 10 o1) fun v_14 =>
  if (2 : Int32) ≤ v_14 then
    (b52_64 a0 o1 si0 (v_10 - v_12) M)
  else
    (if si0 = 0 then
      (b52_64 a0 o1 si0 (v_10 - v_12) M)
    else
      (Option.bind (g_r M 4 0 (some a0)) fun o_16 =>
      Option.bind (g_i M 9 3 o_16) fun v_18 =>
      Option.bind (g_o M 0 o1) fun b_22 =>
      Option.bind (c_V (f50 [.inr (.inr (some b_22)), .inl (13 : Int32), .inl v_18] M)) fun q_20 =>
      b52_131  q_20))
def b52_0 (a0 : Nat) (o1 : Option Nat) (M : hM) : Option xRes :=
  Option.bind (g_r M 4 0 (some a0)) fun o_1 =>
  Option.bind (g_i M 9 3 o_1) fun v_3 =>
  Option.bind (g_i M 0 11 o1) fun v_5 =>
  if (v_3 - v_5) < (120 : Int32) then
    (b52_22 a0 o1 (0 : Int32) M)
  else
    (b52_22 a0 o1 (1 : Int32) M)
def f52 (as : List aV) (M : hM) : xO := match as with
  | [.inr (.inr (some a0)), .inr (.inr o1)] => x_out (b52_0 a0 o1 M)
  | _ => none
theorem lb52_131 (G : gX) (l : Launch)  (M : hM) {res : xRes} (h : b52_131  M = some res) : h_sz M ≤ r_sz res ∧ h_sl M ≤ r_sl res := by
  unfold b52_131 at h
  obtain rfl := Option.some.inj h
  show h_sz M ≤ h_sz M ∧ h_sl M ≤ h_sl M
  omega
theorem lb52_115 (G : gX) (l : Launch) (a0 : Nat) (o1 : Option Nat) (v3 : Int32) (M : hM) {res : xRes} (h : b52_115 a0 o1 v3 M = some res) : h_sz M ≤ r_sz res ∧ h_sl M ≤ r_sl res := by
  unfold b52_115 at h
  by_cases q53 : v3 ≤ 0
  · rw [if_pos q53] at h
    have e := lb52_131 G l  M h
    omega
  · rw [if_neg q53] at h
    obtain ⟨v_46, h47, h⟩ := bd h
    by_cases q52 : v_46 = 0
    · rw [if_pos q52] at h
      obtain ⟨b_50, h51, h⟩ := bd h
      obtain ⟨q_48, h49, h⟩ := bd h
      have eh49 := (t49 G l (c_V_some h49)).1
      have e := lb52_131 G l  q_48 h
      omega
    · rw [if_neg q52] at h
      have e := lb52_131 G l  M h
      omega
theorem lb52_64 (G : gX) (l : Launch) (a0 : Nat) (o1 : Option Nat) (v2 : Int32) (v3 : Int32) (M : hM) {res : xRes} (h : b52_64 a0 o1 v2 v3 M = some res) : h_sz M ≤ r_sz res ∧ h_sl M ≤ r_sl res := by
  unfold b52_64 at h
  obtain ⟨v_26, h27, h⟩ := bd h
  by_cases q45 : v_26 = (2 : Int32)
  · rw [if_pos q45] at h
    by_cases q44 : v2 = 0
    · rw [if_pos q44] at h
      have e := lb52_131 G l  M h
      omega
    · rw [if_neg q44] at h
      obtain ⟨b_42, h43, h⟩ := bd h
      obtain ⟨q_40, h41, h⟩ := bd h
      have eh41 := (t51 G l (c_V_some h41)).1
      have e := lb52_131 G l  q_40 h
      omega
  · rw [if_neg q45] at h
    obtain ⟨v_28, h29, h⟩ := bd h
    by_cases q39 : v_28 = (3 : Int32)
    · rw [if_pos q39] at h
      by_cases q38 : v3 < (60 : Int32)
      · rw [if_pos q38] at h
        have e := lb52_115 G l a0 o1 v3 M h
        omega
      · rw [if_neg q38] at h
        obtain ⟨o_30, h31, h⟩ := bd h
        obtain ⟨v_32, h33, h⟩ := bd h
        obtain ⟨b_36, h37, h⟩ := bd h
        obtain ⟨q_34, h35, h⟩ := bd h
        have eh35 := (t50 G l (c_V_some h35)).1
        have e := lb52_131 G l  q_34 h
        omega
    · rw [if_neg q39] at h
      have e := lb52_115 G l a0 o1 v3 M h
      omega
theorem lb52_22 (G : gX) (l : Launch) (a0 : Nat) (o1 : Option Nat) (si0 : Int32) (M : hM) {res : xRes} (h : b52_22 a0 o1 si0 M = some res) : h_sz M ≤ r_sz res ∧ h_sl M ≤ r_sl res := by
  unfold b52_22 at h
  obtain ⟨o_8, h9, h⟩ := bd h
  obtain ⟨v_10, h11, h⟩ := bd h
  obtain ⟨v_12, h13, h⟩ := bd h
  obtain ⟨v_14, h15, h⟩ := bd h
  by_cases q25 : (2 : Int32) ≤ v_14
  · rw [if_pos q25] at h
    have e := lb52_64 G l a0 o1 si0 (v_10 - v_12) M h
    omega
  · rw [if_neg q25] at h
    by_cases q24 : si0 = 0
    · rw [if_pos q24] at h
      have e := lb52_64 G l a0 o1 si0 (v_10 - v_12) M h
      omega
    · rw [if_neg q24] at h
      obtain ⟨o_16, h17, h⟩ := bd h
      obtain ⟨v_18, h19, h⟩ := bd h
      obtain ⟨b_22, h23, h⟩ := bd h
      obtain ⟨q_20, h21, h⟩ := bd h
      have eh21 := (t50 G l (c_V_some h21)).1
      have e := lb52_131 G l  q_20 h
      omega
theorem lb52_0 (G : gX) (l : Launch) (a0 : Nat) (o1 : Option Nat) (M : hM) {res : xRes} (h : b52_0 a0 o1 M = some res) : h_sz M ≤ r_sz res ∧ h_sl M ≤ r_sl res := by
  unfold b52_0 at h
  obtain ⟨o_1, h2, h⟩ := bd h
  obtain ⟨v_3, h4, h⟩ := bd h
  obtain ⟨v_5, h6, h⟩ := bd h
  by_cases q7 : (v_3 - v_5) < (120 : Int32)
  · rw [if_pos q7] at h
    have e := lb52_22 G l a0 o1 (0 : Int32) M h
    omega
  · rw [if_neg q7] at h
    have e := lb52_22 G l a0 o1 (1 : Int32) M h
    omega
section
variable {p : Program} {l : Launch} {e : Env} {s : State} {m : MethodId} {args : Array Value} {below : List Frame} {meth : Method} {c : Code} {G : gX} {z0 y0 : Nat} {r : Option aV} {M' : hM}
theorem sb52_131 (E : xE G p (xRm 5 (h_sz M' - z0) (h_sl M' - y0)) s m args c prog_6_method_6_code "ZonedFabric$Host" z0 y0 (h_sz M') (h_sl M') 4) (B : xB ym52 none meth)  (M : hM) {res : xRes} (h : b52_131  M = some res) (hN : xN (fun _ _ _ => False) r M' res) : xV G p l e (xRm 5 (h_sz M' - z0) (h_sl M' - y0)) s m args below meth c z0 y0 (h_sz M') (h_sl M') 4 (MQ below (xQc G r M') args s (h_sz M' - z0) (h_sl M' - y0) (xFr G)) 131 [] [] M := by
  unfold b52_131 at h
  obtain rfl := Option.some.inj h
  obtain ⟨rfl, rfl⟩ := Prod.mk.inj (show ((none : Option aV), M) = (r, M') from hN)
  exact xv_rv E B.1 B.2.1 (show decode prog_6_method_6_code 131 = .ok (.return_, 1) by decide +kernel) rfl rfl
theorem sb52_115 (E : xE G p (xRm 5 (h_sz M' - z0) (h_sl M' - y0)) s m args c prog_6_method_6_code "ZonedFabric$Host" z0 y0 (h_sz M') (h_sl M') 4) (B : xB ym52 none meth) (a0 : Nat) (o1 : Option Nat) (v3 : Int32) (M : hM) {res : xRes} (h : b52_115 a0 o1 v3 M = some res) (hN : xN (fun _ _ _ => False) r M' res) : xV G p l e (xRm 5 (h_sz M' - z0) (h_sl M' - y0)) s m args below meth c z0 y0 (h_sz M') (h_sl M') 4 (MQ below (xQc G r M') args s (h_sz M' - z0) (h_sl M' - y0) (xFr G)) 115 [(0, .inr (.inr (some a0))), (1, .inr (.inr o1)), (3, .inl v3)] [] M := by
  unfold b52_115 at h
  refine xv_b E [.iload_n 3] (pc' := 116) (lv' := [(0, .inr (.inr (some a0))), (1, .inr (.inr o1)), (3, .inl v3)]) (st' := [.inl v3]) (by decide +kernel) rfl rfl ?_
  by_cases q53 : v3 ≤ 0
  · rw [if_pos q53] at h
    refine xv_if_le E 131 (show decode prog_6_method_6_code 116 = .ok (.ifCond .le (15), 3) by decide +kernel) rfl (fun _ => ?_) (fun z => absurd q53 z)
    exact xv_w (sb52_131 E B  M h hN) rfl
  · rw [if_neg q53] at h
    refine xv_if_le E 131 (show decode prog_6_method_6_code 116 = .ok (.ifCond .le (15), 3) by decide +kernel) rfl (fun z => absurd z q53) (fun _ => ?_)
    refine xv_b E [.iload_n 3, .bipush 20] (pc' := 122) (lv' := [(0, .inr (.inr (some a0))), (1, .inr (.inr o1)), (3, .inl v3)]) (st' := [.inl (20 : Int32), .inl v3]) (by decide +kernel) rfl rfl ?_
    obtain ⟨v_46, h47, h⟩ := bd h
    refine xd_m E h47 (show decode prog_6_method_6_code 122 = .ok (.irem, 1) by decide +kernel) ?_
    by_cases q52 : v_46 = 0
    · rw [if_pos q52] at h
      refine xv_if_ne E 131 (show decode prog_6_method_6_code 123 = .ok (.ifCond .ne (8), 3) by decide +kernel) rfl (fun z => absurd q52 z) (fun _ => ?_)
      refine xv_b E [.aload_n 0, .aload_n 1] (pc' := 128) (lv' := [(0, .inr (.inr (some a0))), (1, .inr (.inr o1)), (3, .inl v3)]) (st' := [.inr (.inr o1), .inr (.inr (some a0))]) (by decide +kernel) rfl rfl ?_
      obtain ⟨b_50, h51, h⟩ := bd h
      obtain ⟨eh51, th51⟩ := g_o_some h51
      obtain ⟨q_48, h49, h⟩ := bd h
      refine xv_cvo E eh51 4 (as := [.inr (.inr o1)]) (t49 G l (c_V_some h49)) cd49 mw312 mw313 mw314 (show decode prog_6_method_6_code 128 = .ok (.invokevirtual 70, 3) by decide +kernel) th51 rfl rfl (Nat.le_of_ble_eq_true rfl) ⟨Nat.le_of_ble_eq_true rfl, Nat.le_of_ble_eq_true rfl⟩ ?_
      exact xv_w (sb52_131 E B  q_48 h hN) rfl
    · rw [if_neg q52] at h
      refine xv_if_ne E 131 (show decode prog_6_method_6_code 123 = .ok (.ifCond .ne (8), 3) by decide +kernel) rfl (fun _ => ?_) (fun z => absurd z q52)
      exact xv_w (sb52_131 E B  M h hN) rfl
theorem sb52_64 (E : xE G p (xRm 5 (h_sz M' - z0) (h_sl M' - y0)) s m args c prog_6_method_6_code "ZonedFabric$Host" z0 y0 (h_sz M') (h_sl M') 4) (B : xB ym52 none meth) (a0 : Nat) (o1 : Option Nat) (v2 : Int32) (v3 : Int32) (M : hM) {res : xRes} (h : b52_64 a0 o1 v2 v3 M = some res) (hN : xN (fun _ _ _ => False) r M' res) : xV G p l e (xRm 5 (h_sz M' - z0) (h_sl M' - y0)) s m args below meth c z0 y0 (h_sz M') (h_sl M') 4 (MQ below (xQc G r M') args s (h_sz M' - z0) (h_sl M' - y0) (xFr G)) 64 [(0, .inr (.inr (some a0))), (1, .inr (.inr o1)), (2, .inl v2), (3, .inl v3)] [] M := by
  unfold b52_64 at h
  refine xv_b E [.aload_n 1] (pc' := 65) (lv' := [(0, .inr (.inr (some a0))), (1, .inr (.inr o1)), (2, .inl v2), (3, .inl v3)]) (st' := [.inr (.inr o1)]) (by decide +kernel) rfl rfl ?_
  obtain ⟨v_26, h27, h⟩ := bd h
  refine xg_i E 0 10 h27 mw294 (show decode prog_6_method_6_code 65 = .ok (.getfield 63, 3) by decide +kernel) ?_
  refine xv_b E [.iconst 2] (pc' := 69) (lv' := [(0, .inr (.inr (some a0))), (1, .inr (.inr o1)), (2, .inl v2), (3, .inl v3)]) (st' := [.inl (2 : Int32), .inl v_26]) (by decide +kernel) rfl rfl ?_
  by_cases q45 : v_26 = (2 : Int32)
  · rw [if_pos q45] at h
    refine xv_icmp_ne E 85 (show decode prog_6_method_6_code 69 = .ok (.if_icmp .ne (16), 3) by decide +kernel) rfl (fun z => absurd q45 z) (fun _ => ?_)
    refine xv_b E [.iload_n 2] (pc' := 73) (lv' := [(0, .inr (.inr (some a0))), (1, .inr (.inr o1)), (2, .inl v2), (3, .inl v3)]) (st' := [.inl v2]) (by decide +kernel) rfl rfl ?_
    by_cases q44 : v2 = 0
    · rw [if_pos q44] at h
      refine xv_if_eq E 131 (show decode prog_6_method_6_code 73 = .ok (.ifCond .eq (58), 3) by decide +kernel) rfl (fun _ => ?_) (fun z => absurd q44 z)
      exact xv_w (sb52_131 E B  M h hN) rfl
    · rw [if_neg q44] at h
      refine xv_if_eq E 131 (show decode prog_6_method_6_code 73 = .ok (.ifCond .eq (58), 3) by decide +kernel) rfl (fun z => absurd z q44) (fun _ => ?_)
      refine xv_b E [.aload_n 0, .aload_n 1, .iconst 3] (pc' := 79) (lv' := [(0, .inr (.inr (some a0))), (1, .inr (.inr o1)), (2, .inl v2), (3, .inl v3)]) (st' := [.inl (3 : Int32), .inr (.inr o1), .inr (.inr (some a0))]) (by decide +kernel) rfl rfl ?_
      obtain ⟨b_42, h43, h⟩ := bd h
      obtain ⟨eh43, th43⟩ := g_o_some h43
      obtain ⟨q_40, h41, h⟩ := bd h
      refine xv_cvo E eh43 4 (as := [.inr (.inr o1), .inl (3 : Int32)]) (t51 G l (c_V_some h41)) cd51 mw320 mw321 mw322 (show decode prog_6_method_6_code 79 = .ok (.invokevirtual 52, 3) by decide +kernel) th43 rfl rfl (Nat.le_of_ble_eq_true rfl) ⟨Nat.le_of_ble_eq_true rfl, Nat.le_of_ble_eq_true rfl⟩ ?_
      refine xv_goto E 131 (show decode prog_6_method_6_code 82 = .ok (.goto (49), 3) by decide +kernel) rfl ?_
      exact xv_w (sb52_131 E B  q_40 h hN) rfl
  · rw [if_neg q45] at h
    refine xv_icmp_ne E 85 (show decode prog_6_method_6_code 69 = .ok (.if_icmp .ne (16), 3) by decide +kernel) rfl (fun _ => ?_) (fun z => absurd z q45)
    refine xv_b E [.aload_n 1] (pc' := 86) (lv' := [(0, .inr (.inr (some a0))), (1, .inr (.inr o1)), (2, .inl v2), (3, .inl v3)]) (st' := [.inr (.inr o1)]) (by decide +kernel) rfl rfl ?_
    obtain ⟨v_28, h29, h⟩ := bd h
    refine xg_i E 0 10 h29 mw294 (show decode prog_6_method_6_code 86 = .ok (.getfield 63, 3) by decide +kernel) ?_
    refine xv_b E [.iconst 3] (pc' := 90) (lv' := [(0, .inr (.inr (some a0))), (1, .inr (.inr o1)), (2, .inl v2), (3, .inl v3)]) (st' := [.inl (3 : Int32), .inl v_28]) (by decide +kernel) rfl rfl ?_
    by_cases q39 : v_28 = (3 : Int32)
    · rw [if_pos q39] at h
      refine xv_icmp_ne E 115 (show decode prog_6_method_6_code 90 = .ok (.if_icmp .ne (25), 3) by decide +kernel) rfl (fun z => absurd q39 z) (fun _ => ?_)
      refine xv_b E [.iload_n 3, .bipush 60] (pc' := 96) (lv' := [(0, .inr (.inr (some a0))), (1, .inr (.inr o1)), (2, .inl v2), (3, .inl v3)]) (st' := [.inl (60 : Int32), .inl v3]) (by decide +kernel) rfl rfl ?_
      by_cases q38 : v3 < (60 : Int32)
      · rw [if_pos q38] at h
        refine xv_icmp_lt E 115 (show decode prog_6_method_6_code 96 = .ok (.if_icmp .lt (19), 3) by decide +kernel) rfl (fun _ => ?_) (fun z => absurd q38 z)
        exact xv_w (sb52_115 E B a0 o1 v3 M h hN) rfl
      · rw [if_neg q38] at h
        refine xv_icmp_lt E 115 (show decode prog_6_method_6_code 96 = .ok (.if_icmp .lt (19), 3) by decide +kernel) rfl (fun z => absurd z q38) (fun _ => ?_)
        refine xv_b E [.aload_n 1, .bipush 12, .aload_n 0] (pc' := 103) (lv' := [(0, .inr (.inr (some a0))), (1, .inr (.inr o1)), (2, .inl v2), (3, .inl v3)]) (st' := [.inr (.inr (some a0)), .inl (12 : Int32), .inr (.inr o1)]) (by decide +kernel) rfl rfl ?_
        obtain ⟨o_30, h31, h⟩ := bd h
        refine xg_r E 4 0 h31 mw40 (show decode prog_6_method_6_code 103 = .ok (.getfield 17, 3) by decide +kernel) ?_
        obtain ⟨v_32, h33, h⟩ := bd h
        refine xg_i E 9 3 h33 mw310 (show decode prog_6_method_6_code 106 = .ok (.getfield 46, 3) by decide +kernel) ?_
        obtain ⟨b_36, h37, h⟩ := bd h
        obtain ⟨eh37, th37⟩ := g_o_some h37
        obtain ⟨q_34, h35, h⟩ := bd h
        refine xv_cvo E eh37 0 (as := [.inl (12 : Int32), .inl v_32]) (t50 G l (c_V_some h35)) cd50 mw317 mw318 mw319 (show decode prog_6_method_6_code 109 = .ok (.invokevirtual 66, 3) by decide +kernel) th37 rfl rfl (Nat.le_of_ble_eq_true rfl) ⟨Nat.le_of_ble_eq_true rfl, Nat.le_of_ble_eq_true rfl⟩ ?_
        refine xv_goto E 131 (show decode prog_6_method_6_code 112 = .ok (.goto (19), 3) by decide +kernel) rfl ?_
        exact xv_w (sb52_131 E B  q_34 h hN) rfl
    · rw [if_neg q39] at h
      refine xv_icmp_ne E 115 (show decode prog_6_method_6_code 90 = .ok (.if_icmp .ne (25), 3) by decide +kernel) rfl (fun _ => ?_) (fun z => absurd z q39)
      exact xv_w (sb52_115 E B a0 o1 v3 M h hN) rfl
theorem sb52_22 (E : xE G p (xRm 5 (h_sz M' - z0) (h_sl M' - y0)) s m args c prog_6_method_6_code "ZonedFabric$Host" z0 y0 (h_sz M') (h_sl M') 4) (B : xB ym52 none meth) (a0 : Nat) (o1 : Option Nat) (si0 : Int32) (M : hM) {res : xRes} (h : b52_22 a0 o1 si0 M = some res) (hN : xN (fun _ _ _ => False) r M' res) : xV G p l e (xRm 5 (h_sz M' - z0) (h_sl M' - y0)) s m args below meth c z0 y0 (h_sz M') (h_sl M') 4 (MQ below (xQc G r M') args s (h_sz M' - z0) (h_sl M' - y0) (xFr G)) 22 [(0, .inr (.inr (some a0))), (1, .inr (.inr o1))] [.inl si0] M := by
  unfold b52_22 at h
  refine xv_b E [.istore_n 2, .aload_n 0] (pc' := 24) (lv' := [(2, .inl si0), (0, .inr (.inr (some a0))), (1, .inr (.inr o1))]) (st' := [.inr (.inr (some a0))]) (by decide +kernel) rfl rfl ?_
  obtain ⟨o_8, h9, h⟩ := bd h
  refine xg_r E 4 0 h9 mw40 (show decode prog_6_method_6_code 24 = .ok (.getfield 17, 3) by decide +kernel) ?_
  obtain ⟨v_10, h11, h⟩ := bd h
  refine xg_i E 9 3 h11 mw310 (show decode prog_6_method_6_code 27 = .ok (.getfield 46, 3) by decide +kernel) ?_
  refine xv_b E [.aload_n 1] (pc' := 31) (lv' := [(2, .inl si0), (0, .inr (.inr (some a0))), (1, .inr (.inr o1))]) (st' := [.inr (.inr o1), .inl v_10]) (by decide +kernel) rfl rfl ?_
  obtain ⟨v_12, h13, h⟩ := bd h
  refine xg_i E 0 12 h13 mw311 (show decode prog_6_method_6_code 31 = .ok (.getfield 60, 3) by decide +kernel) ?_
  refine xv_b E [.isub, .istore_n 3, .aload_n 1] (pc' := 37) (lv' := [(3, .inl (v_10 - v_12)), (2, .inl si0), (0, .inr (.inr (some a0))), (1, .inr (.inr o1))]) (st' := [.inr (.inr o1)]) (by decide +kernel) rfl rfl ?_
  obtain ⟨v_14, h15, h⟩ := bd h
  refine xg_i E 0 10 h15 mw294 (show decode prog_6_method_6_code 37 = .ok (.getfield 63, 3) by decide +kernel) ?_
  refine xv_b E [.iconst 2] (pc' := 41) (lv' := [(3, .inl (v_10 - v_12)), (2, .inl si0), (0, .inr (.inr (some a0))), (1, .inr (.inr o1))]) (st' := [.inl (2 : Int32), .inl v_14]) (by decide +kernel) rfl rfl ?_
  by_cases q25 : (2 : Int32) ≤ v_14
  · rw [if_pos q25] at h
    refine xv_icmp_ge E 64 (show decode prog_6_method_6_code 41 = .ok (.if_icmp .ge (23), 3) by decide +kernel) rfl (fun _ => ?_) (fun z => absurd q25 z)
    exact xv_w (sb52_64 E B a0 o1 si0 (v_10 - v_12) M h hN) rfl
  · rw [if_neg q25] at h
    refine xv_icmp_ge E 64 (show decode prog_6_method_6_code 41 = .ok (.if_icmp .ge (23), 3) by decide +kernel) rfl (fun z => absurd z q25) (fun _ => ?_)
    refine xv_b E [.iload_n 2] (pc' := 45) (lv' := [(3, .inl (v_10 - v_12)), (2, .inl si0), (0, .inr (.inr (some a0))), (1, .inr (.inr o1))]) (st' := [.inl si0]) (by decide +kernel) rfl rfl ?_
    by_cases q24 : si0 = 0
    · rw [if_pos q24] at h
      refine xv_if_eq E 64 (show decode prog_6_method_6_code 45 = .ok (.ifCond .eq (19), 3) by decide +kernel) rfl (fun _ => ?_) (fun z => absurd q24 z)
      exact xv_w (sb52_64 E B a0 o1 si0 (v_10 - v_12) M h hN) rfl
    · rw [if_neg q24] at h
      refine xv_if_eq E 64 (show decode prog_6_method_6_code 45 = .ok (.ifCond .eq (19), 3) by decide +kernel) rfl (fun z => absurd z q24) (fun _ => ?_)
      refine xv_b E [.aload_n 1, .bipush 13, .aload_n 0] (pc' := 52) (lv' := [(3, .inl (v_10 - v_12)), (2, .inl si0), (0, .inr (.inr (some a0))), (1, .inr (.inr o1))]) (st' := [.inr (.inr (some a0)), .inl (13 : Int32), .inr (.inr o1)]) (by decide +kernel) rfl rfl ?_
      obtain ⟨o_16, h17, h⟩ := bd h
      refine xg_r E 4 0 h17 mw40 (show decode prog_6_method_6_code 52 = .ok (.getfield 17, 3) by decide +kernel) ?_
      obtain ⟨v_18, h19, h⟩ := bd h
      refine xg_i E 9 3 h19 mw310 (show decode prog_6_method_6_code 55 = .ok (.getfield 46, 3) by decide +kernel) ?_
      obtain ⟨b_22, h23, h⟩ := bd h
      obtain ⟨eh23, th23⟩ := g_o_some h23
      obtain ⟨q_20, h21, h⟩ := bd h
      refine xv_cvo E eh23 0 (as := [.inl (13 : Int32), .inl v_18]) (t50 G l (c_V_some h21)) cd50 mw317 mw318 mw319 (show decode prog_6_method_6_code 58 = .ok (.invokevirtual 66, 3) by decide +kernel) th23 rfl rfl (Nat.le_of_ble_eq_true rfl) ⟨Nat.le_of_ble_eq_true rfl, Nat.le_of_ble_eq_true rfl⟩ ?_
      refine xv_goto E 131 (show decode prog_6_method_6_code 61 = .ok (.goto (70), 3) by decide +kernel) rfl ?_
      exact xv_w (sb52_131 E B  q_20 h hN) rfl
theorem sb52_0 (E : xE G p (xRm 5 (h_sz M' - z0) (h_sl M' - y0)) s m args c prog_6_method_6_code "ZonedFabric$Host" z0 y0 (h_sz M') (h_sl M') 4) (B : xB ym52 none meth) (a0 : Nat) (o1 : Option Nat) (M : hM) {res : xRes} (h : b52_0 a0 o1 M = some res) (hN : xN (fun _ _ _ => False) r M' res) : xV G p l e (xRm 5 (h_sz M' - z0) (h_sl M' - y0)) s m args below meth c z0 y0 (h_sz M') (h_sl M') 4 (MQ below (xQc G r M') args s (h_sz M' - z0) (h_sl M' - y0) (xFr G)) 0 [(0, .inr (.inr (some a0))), (1, .inr (.inr o1))] [] M := by
  unfold b52_0 at h
  refine xv_b E [.aload_n 0] (pc' := 1) (lv' := [(0, .inr (.inr (some a0))), (1, .inr (.inr o1))]) (st' := [.inr (.inr (some a0))]) (by decide +kernel) rfl rfl ?_
  obtain ⟨o_1, h2, h⟩ := bd h
  refine xg_r E 4 0 h2 mw40 (show decode prog_6_method_6_code 1 = .ok (.getfield 17, 3) by decide +kernel) ?_
  obtain ⟨v_3, h4, h⟩ := bd h
  refine xg_i E 9 3 h4 mw310 (show decode prog_6_method_6_code 4 = .ok (.getfield 46, 3) by decide +kernel) ?_
  refine xv_b E [.aload_n 1] (pc' := 8) (lv' := [(0, .inr (.inr (some a0))), (1, .inr (.inr o1))]) (st' := [.inr (.inr o1), .inl v_3]) (by decide +kernel) rfl rfl ?_
  obtain ⟨v_5, h6, h⟩ := bd h
  refine xg_i E 0 11 h6 mw316 (show decode prog_6_method_6_code 8 = .ok (.getfield 49, 3) by decide +kernel) ?_
  refine xv_b E [.isub, .bipush 120] (pc' := 14) (lv' := [(0, .inr (.inr (some a0))), (1, .inr (.inr o1))]) (st' := [.inl (120 : Int32), .inl (v_3 - v_5)]) (by decide +kernel) rfl rfl ?_
  by_cases q7 : (v_3 - v_5) < (120 : Int32)
  · rw [if_pos q7] at h
    refine xv_icmp_lt E 21 (show decode prog_6_method_6_code 14 = .ok (.if_icmp .lt (7), 3) by decide +kernel) rfl (fun _ => ?_) (fun z => absurd q7 z)
    refine xv_b E [.iconst 0] (pc' := 22) (lv' := [(0, .inr (.inr (some a0))), (1, .inr (.inr o1))]) (st' := [.inl (0 : Int32)]) (by decide +kernel) rfl rfl ?_
    exact xv_w (sb52_22 E B a0 o1 (0 : Int32) M h hN) rfl
  · rw [if_neg q7] at h
    refine xv_icmp_lt E 21 (show decode prog_6_method_6_code 14 = .ok (.if_icmp .lt (7), 3) by decide +kernel) rfl (fun z => absurd z q7) (fun _ => ?_)
    refine xv_b E [.iconst 1] (pc' := 18) (lv' := [(0, .inr (.inr (some a0))), (1, .inr (.inr o1))]) (st' := [.inl (1 : Int32)]) (by decide +kernel) rfl rfl ?_
    refine xv_goto E 22 (show decode prog_6_method_6_code 18 = .ok (.goto (4), 3) by decide +kernel) rfl ?_
    exact xv_w (sb52_22 E B a0 o1 (1 : Int32) M h hN) rfl
end
theorem t52 (G : gX) (l : Launch) {as : List aV} {M : hM} {r : Option aV} {M' : hM} (h : f52 as M = some (r, M')) : xM G l ym52 prog_6_method_6_code 4 none 5 as M r M' := by
  unfold f52 at h
  split at h
  · have h := x_out_ok h
    refine xM_of (by decide) (Nat.le_of_ble_eq_true rfl) (lb52_0 G l _ _ M h) ?_
    intro p e s m args below meth c E B
    exact sb52_0 E B _ _ M h rfl
  · cases h
/-! ZF.Host.runTimers()V -/
def ym53 : MethodName := ⟨"ZonedFabric$Host", "runTimers", "()V"⟩
theorem cd53 : xCd ym53 prog_6_method_5_code 3 none 0 := ⟨mw323, mw37, by decide, by decide, by decide +kernel⟩
def b53_0 (a0 : Nat) (M : hM) : Option xRes :=
  some (.inr (2, [.inr (.inr (some a0)), .inl (0 : Int32)], M))
def b53_29 (a0 : Nat) (v1 : Int32) (M : hM) : Option xRes :=
  some (.inr (2, [.inr (.inr (some a0)), .inl (v1 + (1 : Int32))], M))
def b53_2 (a0 : Nat) (v1 : Int32) (M : hM) : Option xRes :=
  Option.bind (g_i M 4 5 (some a0)) fun v_1 =>
  if v_1 ≤ v1 then
    (some (.inl (none, M)))
  else
    (Option.bind (g_r M 4 4 (some a0)) fun o_3 =>
    Option.bind (al_r M 30 o_3 v1) fun o_5 =>
    Option.bind (g_o M 0 o_5) fun b_9 =>
    Option.bind (c_I (f47 [.inr (.inr (some b_9))] M)) fun q_7 =>
    if q_7.1 = 0 then
      (Option.bind (g_o q_7.2 4 (some a0)) fun b_13 =>
      Option.bind (c_V (f52 [.inr (.inr (some b_13)), .inr (.inr o_5)] q_7.2)) fun q_11 =>
      b53_29 a0 v1 q_11)
    else
      (b53_29 a0 v1 q_7.2))
def k53 (h : Nat) (as : List aV) (M : hM) : Option xRes :=
  if h = 2 then (match as with | [.inr (.inr (some a0)), .inl v1] => b53_2 a0 v1 M | _ => none) else
  none
def f53 (as : List aV) (M : hM) : xO := match as with
  | [.inr (.inr (some a0))] => x_go k53 (b53_0 a0 M)
  | _ => none
theorem lb53_0 (G : gX) (l : Launch) (a0 : Nat) (M : hM) {res : xRes} (h : b53_0 a0 M = some res) : h_sz M ≤ r_sz res ∧ h_sl M ≤ r_sl res := by
  unfold b53_0 at h
  obtain rfl := Option.some.inj h
  show h_sz M ≤ h_sz M ∧ h_sl M ≤ h_sl M
  omega
theorem lb53_29 (G : gX) (l : Launch) (a0 : Nat) (v1 : Int32) (M : hM) {res : xRes} (h : b53_29 a0 v1 M = some res) : h_sz M ≤ r_sz res ∧ h_sl M ≤ r_sl res := by
  unfold b53_29 at h
  obtain rfl := Option.some.inj h
  show h_sz M ≤ h_sz M ∧ h_sl M ≤ h_sl M
  omega
theorem lb53_2 (G : gX) (l : Launch) (a0 : Nat) (v1 : Int32) (M : hM) {res : xRes} (h : b53_2 a0 v1 M = some res) : h_sz M ≤ r_sz res ∧ h_sl M ≤ r_sl res := by
  unfold b53_2 at h
  obtain ⟨v_1, h2, h⟩ := bd h
  by_cases q16 : v_1 ≤ v1
  · rw [if_pos q16] at h
    obtain rfl := Option.some.inj h
    show h_sz M ≤ h_sz M ∧ h_sl M ≤ h_sl M
    omega
  · rw [if_neg q16] at h
    obtain ⟨o_3, h4, h⟩ := bd h
    obtain ⟨o_5, h6, h⟩ := bd h
    obtain ⟨b_9, h10, h⟩ := bd h
    obtain ⟨q_7, h8, h⟩ := bd h
    have eh8 := (t47 G l (c_I_some h8)).1
    by_cases q15 : q_7.1 = 0
    · rw [if_pos q15] at h
      obtain ⟨b_13, h14, h⟩ := bd h
      obtain ⟨q_11, h12, h⟩ := bd h
      have eh12 := (t52 G l (c_V_some h12)).1
      have e := lb53_29 G l a0 v1 q_11 h
      omega
    · rw [if_neg q15] at h
      have e := lb53_29 G l a0 v1 q_7.2 h
      omega
section
variable {p : Program} {l : Launch} {e : Env} {s : State} {m : MethodId} {args : Array Value} {below : List Frame} {meth : Method} {c : Code} {G : gX} {z0 y0 : Nat} {r : Option aV} {M' : hM}
def pg53 (p : Program) (l : Launch) (e : Env) (s : State) (m : MethodId) (args : Array Value) (below : List Frame) (meth : Method) (c : Code) (G : gX) (z0 y0 : Nat) (r : Option aV) (M' : hM) (h : Nat) (as : List aV) (M : hM) : Prop :=
  if h = 2 then (match as with | [.inr (.inr (some a0)), .inl v1] => xV G p l e (xRm 6 (h_sz M' - z0) (h_sl M' - y0)) s m args below meth c z0 y0 (h_sz M') (h_sl M') 3 (MQ below (xQc G r M') args s (h_sz M' - z0) (h_sl M' - y0) (xFr G)) 2 [(0, .inr (.inr (some a0))), (1, .inl v1)] [] M | _ => False) else
  False
theorem sb53_0 (E : xE G p (xRm 6 (h_sz M' - z0) (h_sl M' - y0)) s m args c prog_6_method_5_code "ZonedFabric$Host" z0 y0 (h_sz M') (h_sl M') 3) (B : xB ym53 none meth) (a0 : Nat) (M : hM) {res : xRes} (h : b53_0 a0 M = some res) (hN : xN (pg53 p l e s m args below meth c G z0 y0 r M') r M' res) : xV G p l e (xRm 6 (h_sz M' - z0) (h_sl M' - y0)) s m args below meth c z0 y0 (h_sz M') (h_sl M') 3 (MQ below (xQc G r M') args s (h_sz M' - z0) (h_sl M' - y0) (xFr G)) 0 [(0, .inr (.inr (some a0)))] [] M := by
  unfold b53_0 at h
  refine xv_b E [.iconst 0, .istore_n 1] (pc' := 2) (lv' := [(1, .inl (0 : Int32)), (0, .inr (.inr (some a0)))]) (st' := []) (by decide +kernel) rfl rfl ?_
  obtain rfl := Option.some.inj h
  exact xv_w hN rfl
theorem sb53_29 (E : xE G p (xRm 6 (h_sz M' - z0) (h_sl M' - y0)) s m args c prog_6_method_5_code "ZonedFabric$Host" z0 y0 (h_sz M') (h_sl M') 3) (B : xB ym53 none meth) (a0 : Nat) (v1 : Int32) (M : hM) {res : xRes} (h : b53_29 a0 v1 M = some res) (hN : xN (pg53 p l e s m args below meth c G z0 y0 r M') r M' res) : xV G p l e (xRm 6 (h_sz M' - z0) (h_sl M' - y0)) s m args below meth c z0 y0 (h_sz M') (h_sl M') 3 (MQ below (xQc G r M') args s (h_sz M' - z0) (h_sl M' - y0) (xFr G)) 29 [(0, .inr (.inr (some a0))), (1, .inl v1)] [] M := by
  unfold b53_29 at h
  refine xv_b E [.iinc 1 1] (pc' := 32) (lv' := [(1, .inl (v1 + (1 : Int32))), (0, .inr (.inr (some a0)))]) (st' := []) (by decide +kernel) rfl rfl ?_
  refine xv_goto E 2 (show decode prog_6_method_5_code 32 = .ok (.goto (-30), 3) by decide +kernel) rfl ?_
  obtain rfl := Option.some.inj h
  exact xv_w hN rfl
theorem sb53_2 (E : xE G p (xRm 6 (h_sz M' - z0) (h_sl M' - y0)) s m args c prog_6_method_5_code "ZonedFabric$Host" z0 y0 (h_sz M') (h_sl M') 3) (B : xB ym53 none meth) (a0 : Nat) (v1 : Int32) (M : hM) {res : xRes} (h : b53_2 a0 v1 M = some res) (hN : xN (pg53 p l e s m args below meth c G z0 y0 r M') r M' res) : xV G p l e (xRm 6 (h_sz M' - z0) (h_sl M' - y0)) s m args below meth c z0 y0 (h_sz M') (h_sl M') 3 (MQ below (xQc G r M') args s (h_sz M' - z0) (h_sl M' - y0) (xFr G)) 2 [(0, .inr (.inr (some a0))), (1, .inl v1)] [] M := by
  unfold b53_2 at h
  refine xv_b E [.iload_n 1, .aload_n 0] (pc' := 4) (lv' := [(0, .inr (.inr (some a0))), (1, .inl v1)]) (st' := [.inr (.inr (some a0)), .inl v1]) (by decide +kernel) rfl rfl ?_
  obtain ⟨v_1, h2, h⟩ := bd h
  refine xg_i E 4 5 h2 mw324 (show decode prog_6_method_5_code 4 = .ok (.getfield 35, 3) by decide +kernel) ?_
  by_cases q16 : v_1 ≤ v1
  · rw [if_pos q16] at h
    refine xv_icmp_ge E 35 (show decode prog_6_method_5_code 7 = .ok (.if_icmp .ge (28), 3) by decide +kernel) rfl (fun _ => ?_) (fun z => absurd q16 z)
    obtain rfl := Option.some.inj h
    obtain ⟨rfl, rfl⟩ := Prod.mk.inj (show ((none : Option aV), M) = (r, M') from hN)
    exact xv_rv E B.1 B.2.1 (show decode prog_6_method_5_code 35 = .ok (.return_, 1) by decide +kernel) rfl rfl
  · rw [if_neg q16] at h
    refine xv_icmp_ge E 35 (show decode prog_6_method_5_code 7 = .ok (.if_icmp .ge (28), 3) by decide +kernel) rfl (fun z => absurd z q16) (fun _ => ?_)
    refine xv_b E [.aload_n 0] (pc' := 11) (lv' := [(0, .inr (.inr (some a0))), (1, .inl v1)]) (st' := [.inr (.inr (some a0))]) (by decide +kernel) rfl rfl ?_
    obtain ⟨o_3, h4, h⟩ := bd h
    refine xg_r E 4 4 h4 mw39 (show decode prog_6_method_5_code 11 = .ok (.getfield 11, 3) by decide +kernel) ?_
    refine xv_b E [.iload_n 1] (pc' := 15) (lv' := [(0, .inr (.inr (some a0))), (1, .inl v1)]) (st' := [.inl v1, .inr (.inr o_3)]) (by decide +kernel) rfl rfl ?_
    obtain ⟨o_5, h6, h⟩ := bd h
    refine xa_r E 30 h6 (show decode prog_6_method_5_code 15 = .ok (.aaload, 1) by decide +kernel) ?_
    refine xv_b E [.astore_n 2, .aload_n 2] (pc' := 18) (lv' := [(2, .inr (.inr o_5)), (0, .inr (.inr (some a0))), (1, .inl v1)]) (st' := [.inr (.inr o_5)]) (by decide +kernel) rfl rfl ?_
    obtain ⟨b_9, h10, h⟩ := bd h
    obtain ⟨eh10, th10⟩ := g_o_some h10
    obtain ⟨q_7, h8, h⟩ := bd h
    refine xv_cvo E eh10 0 (as := []) (t47 G l (c_I_some h8)) cd47 mw291 mw292 mw293 (show decode prog_6_method_5_code 18 = .ok (.invokevirtual 38, 3) by decide +kernel) th10 rfl rfl (Nat.le_of_ble_eq_true rfl) ⟨Nat.le_of_ble_eq_true rfl, Nat.le_of_ble_eq_true rfl⟩ ?_
    by_cases q15 : q_7.1 = 0
    · rw [if_pos q15] at h
      refine xv_if_ne E 29 (show decode prog_6_method_5_code 21 = .ok (.ifCond .ne (8), 3) by decide +kernel) rfl (fun z => absurd q15 z) (fun _ => ?_)
      refine xv_b E [.aload_n 0, .aload_n 2] (pc' := 26) (lv' := [(2, .inr (.inr o_5)), (0, .inr (.inr (some a0))), (1, .inl v1)]) (st' := [.inr (.inr o_5), .inr (.inr (some a0))]) (by decide +kernel) rfl rfl ?_
      obtain ⟨b_13, h14, h⟩ := bd h
      obtain ⟨eh14, th14⟩ := g_o_some h14
      obtain ⟨q_11, h12, h⟩ := bd h
      refine xv_cvo E eh14 4 (as := [.inr (.inr o_5)]) (t52 G l (c_V_some h12)) cd52 mw325 mw326 mw327 (show decode prog_6_method_5_code 26 = .ok (.invokevirtual 56, 3) by decide +kernel) th14 rfl rfl (Nat.le_of_ble_eq_true rfl) ⟨Nat.le_of_ble_eq_true rfl, Nat.le_of_ble_eq_true rfl⟩ ?_
      exact xv_w (sb53_29 E B a0 v1 q_11 h hN) rfl
    · rw [if_neg q15] at h
      refine xv_if_ne E 29 (show decode prog_6_method_5_code 21 = .ok (.ifCond .ne (8), 3) by decide +kernel) rfl (fun _ => ?_) (fun z => absurd z q15)
      exact xv_w (sb53_29 E B a0 v1 q_7.2 h hN) rfl
end
theorem t53 (G : gX) (l : Launch) {as : List aV} {M : hM} {r : Option aV} {M' : hM} (h : f53 as M = some (r, M')) : xM G l ym53 prog_6_method_5_code 3 none 6 as M r M' := by
  unfold f53 at h
  split at h
  · have hle : ∀ h as M res, k53 h as M = some res → h_sz M ≤ r_sz res ∧ h_sl M ≤ r_sl res := by
      intro h as M res hb
      unfold k53 at hb
      by_cases e0 : h = 2
      · rw [if_pos e0] at hb
        split at hb
        · exact lb53_2 G l _ _ M hb
        · cases hb
      · rw [if_neg e0] at hb
        cases hb
    obtain ⟨res, hx, hres⟩ := x_go_ok h
    refine xM_of (by decide) (Nat.le_of_ble_eq_true rfl) ?_ ?_
    · have e1 := lb53_0 G l _ M hx
      have e2 := x_go_le hle hres
      omega
    · intro p e s m args below meth c E B
      refine sb53_0 E B _ M hx (hres _ ?_)
      intro h as M res hb hN
      unfold k53 at hb
      unfold pg53
      by_cases e0 : h = 2
      · rw [if_pos e0] at hb ⊢
        split at hb
        · exact sb53_2 E B _ _ M hb hN
        · cases hb
      · rw [if_neg e0] at hb ⊢
        cases hb
  · cases h
/-! ZF.Port.leave()LZF$Frame; -/
def ym54 : MethodName := ⟨"ZonedFabric$Port", "leave", "()LZonedFabric$Frame;"⟩
theorem cd54 : xCd ym54 prog_10_method_13_code 1 (some (FieldType.object "ZonedFabric$Frame")) 0 := ⟨mw328, mw14, by decide, by decide, by decide +kernel⟩
def b54_35 (a0 : Nat) (M : hM) : Option xRes :=
  Option.bind (g_r M 8 10 (some a0)) fun o_17 =>
  Option.bind (g_o M 3 o_17) fun b_21 =>
  Option.bind (c_R (f18 [.inr (.inr (some b_21))] M)) fun q_19 =>
  some (.inl (some (.inr (.inr q_19.1)), q_19.2))
def b54_0 (a0 : Nat) (M : hM) : Option xRes :=
  Option.bind (p_i M 8 13 (some a0) (0 : Int32)) fun M1 =>
  Option.bind (g_r M1 8 3 (some a0)) fun o_3 =>
  if o_3 = none then
    (b54_35 a0 M1)
  else
    (Option.bind (g_r M1 8 10 (some a0)) fun o_5 =>
    Option.bind (g_i M1 3 2 o_5) fun v_7 =>
    if v_7 ≤ 0 then
      (b54_35 a0 M1)
    else
      (Option.bind (g_r M1 8 3 (some a0)) fun o_9 =>
      Option.bind (g_i M1 8 7 o_9) fun v_11 =>
      Option.bind (p_i M1 8 7 o_9 (v_11 + (1 : Int32))) fun M13 =>
      b54_35 a0 M13))
def f54 (as : List aV) (M : hM) : xO := match as with
  | [.inr (.inr (some a0))] => x_out (b54_0 a0 M)
  | _ => none
theorem lb54_35 (G : gX) (l : Launch) (a0 : Nat) (M : hM) {res : xRes} (h : b54_35 a0 M = some res) : h_sz M ≤ r_sz res ∧ h_sl M ≤ r_sl res := by
  unfold b54_35 at h
  obtain ⟨o_17, h18, h⟩ := bd h
  obtain ⟨b_21, h22, h⟩ := bd h
  obtain ⟨q_19, h20, h⟩ := bd h
  have eh20 := (t18 G l (c_R_some h20)).1
  obtain rfl := Option.some.inj h
  show h_sz M ≤ h_sz q_19.2 ∧ h_sl M ≤ h_sl q_19.2
  omega
theorem lb54_0 (G : gX) (l : Launch) (a0 : Nat) (M : hM) {res : xRes} (h : b54_0 a0 M = some res) : h_sz M ≤ r_sz res ∧ h_sl M ≤ r_sl res := by
  unfold b54_0 at h
  obtain ⟨M1, h2, h⟩ := bd h
  have eh2 := p_i_sz h2
  obtain ⟨o_3, h4, h⟩ := bd h
  by_cases q16 : o_3 = none
  · rw [if_pos q16] at h
    have e := lb54_35 G l a0 M1 h
    omega
  · rw [if_neg q16] at h
    obtain ⟨o_5, h6, h⟩ := bd h
    obtain ⟨v_7, h8, h⟩ := bd h
    by_cases q15 : v_7 ≤ 0
    · rw [if_pos q15] at h
      have e := lb54_35 G l a0 M1 h
      omega
    · rw [if_neg q15] at h
      obtain ⟨o_9, h10, h⟩ := bd h
      obtain ⟨v_11, h12, h⟩ := bd h
      obtain ⟨M13, h14, h⟩ := bd h
      have eh14 := p_i_sz h14
      have e := lb54_35 G l a0 M13 h
      omega
section
variable {p : Program} {l : Launch} {e : Env} {s : State} {m : MethodId} {args : Array Value} {below : List Frame} {meth : Method} {c : Code} {G : gX} {z0 y0 : Nat} {r : Option aV} {M' : hM}
theorem sb54_35 (E : xE G p (xRm 1 (h_sz M' - z0) (h_sl M' - y0)) s m args c prog_10_method_13_code "ZonedFabric$Port" z0 y0 (h_sz M') (h_sl M') 1) (B : xB ym54 (some (FieldType.object "ZonedFabric$Frame")) meth) (a0 : Nat) (M : hM) {res : xRes} (h : b54_35 a0 M = some res) (hN : xN (fun _ _ _ => False) r M' res) : xV G p l e (xRm 1 (h_sz M' - z0) (h_sl M' - y0)) s m args below meth c z0 y0 (h_sz M') (h_sl M') 1 (MQ below (xQc G r M') args s (h_sz M' - z0) (h_sl M' - y0) (xFr G)) 35 [(0, .inr (.inr (some a0)))] [] M := by
  unfold b54_35 at h
  refine xv_b E [.aload_n 0] (pc' := 36) (lv' := [(0, .inr (.inr (some a0)))]) (st' := [.inr (.inr (some a0))]) (by decide +kernel) rfl rfl ?_
  obtain ⟨o_17, h18, h⟩ := bd h
  refine xg_r E 8 10 h18 mw19 (show decode prog_10_method_13_code 36 = .ok (.getfield 18, 3) by decide +kernel) ?_
  obtain ⟨b_21, h22, h⟩ := bd h
  obtain ⟨eh22, th22⟩ := g_o_some h22
  obtain ⟨q_19, h20, h⟩ := bd h
  refine xv_cvo E eh22 3 (as := []) (t18 G l (c_R_some h20)) cd18 mw164 mw165 mw166 (show decode prog_10_method_13_code 39 = .ok (.invokevirtual 70, 3) by decide +kernel) th22 rfl rfl (Nat.le_of_ble_eq_true rfl) ⟨Nat.le_of_ble_eq_true rfl, Nat.le_of_ble_eq_true rfl⟩ ?_
  obtain rfl := Option.some.inj h
  obtain ⟨rfl, rfl⟩ := Prod.mk.inj (show ((some (.inr (.inr q_19.1)) : Option aV), q_19.2) = (r, M') from hN)
  exact xv_rr E B.1 (Or.inl ⟨_, rfl⟩) B.2.1 (show decode prog_10_method_13_code 42 = .ok (.areturn, 1) by decide +kernel) rfl rfl
theorem sb54_0 (E : xE G p (xRm 1 (h_sz M' - z0) (h_sl M' - y0)) s m args c prog_10_method_13_code "ZonedFabric$Port" z0 y0 (h_sz M') (h_sl M') 1) (B : xB ym54 (some (FieldType.object "ZonedFabric$Frame")) meth) (a0 : Nat) (M : hM) {res : xRes} (h : b54_0 a0 M = some res) (hN : xN (fun _ _ _ => False) r M' res) : xV G p l e (xRm 1 (h_sz M' - z0) (h_sl M' - y0)) s m args below meth c z0 y0 (h_sz M') (h_sl M') 1 (MQ below (xQc G r M') args s (h_sz M' - z0) (h_sl M' - y0) (xFr G)) 0 [(0, .inr (.inr (some a0)))] [] M := by
  unfold b54_0 at h
  refine xv_b E [.aload_n 0, .iconst 0] (pc' := 2) (lv' := [(0, .inr (.inr (some a0)))]) (st' := [.inl (0 : Int32), .inr (.inr (some a0))]) (by decide +kernel) rfl rfl ?_
  obtain ⟨M1, h2, h⟩ := bd h
  refine xp_i E 8 13 h2 mw158 (show decode prog_10_method_13_code 2 = .ok (.putfield 56, 3) by decide +kernel) (Or.inl rfl) ?_
  refine xv_b E [.aload_n 0] (pc' := 6) (lv' := [(0, .inr (.inr (some a0)))]) (st' := [.inr (.inr (some a0))]) (by decide +kernel) rfl rfl ?_
  obtain ⟨o_3, h4, h⟩ := bd h
  refine xg_r E 8 3 h4 mw329 (show decode prog_10_method_13_code 6 = .ok (.getfield 74, 3) by decide +kernel) ?_
  by_cases q16 : o_3 = none
  · rw [if_pos q16] at h
    refine xi_null E 35 (show decode prog_10_method_13_code 9 = .ok (.ifnull (26), 3) by decide +kernel) rfl (fun _ => ?_) (fun z => absurd q16 z)
    exact xv_w (sb54_35 E B a0 M1 h hN) rfl
  · rw [if_neg q16] at h
    refine xi_null E 35 (show decode prog_10_method_13_code 9 = .ok (.ifnull (26), 3) by decide +kernel) rfl (fun z => absurd z q16) (fun _ => ?_)
    refine xv_b E [.aload_n 0] (pc' := 13) (lv' := [(0, .inr (.inr (some a0)))]) (st' := [.inr (.inr (some a0))]) (by decide +kernel) rfl rfl ?_
    obtain ⟨o_5, h6, h⟩ := bd h
    refine xg_r E 8 10 h6 mw19 (show decode prog_10_method_13_code 13 = .ok (.getfield 18, 3) by decide +kernel) ?_
    obtain ⟨v_7, h8, h⟩ := bd h
    refine xg_i E 3 2 h8 mw163 (show decode prog_10_method_13_code 16 = .ok (.getfield 67, 3) by decide +kernel) ?_
    by_cases q15 : v_7 ≤ 0
    · rw [if_pos q15] at h
      refine xv_if_le E 35 (show decode prog_10_method_13_code 19 = .ok (.ifCond .le (16), 3) by decide +kernel) rfl (fun _ => ?_) (fun z => absurd q15 z)
      exact xv_w (sb54_35 E B a0 M1 h hN) rfl
    · rw [if_neg q15] at h
      refine xv_if_le E 35 (show decode prog_10_method_13_code 19 = .ok (.ifCond .le (16), 3) by decide +kernel) rfl (fun z => absurd z q15) (fun _ => ?_)
      refine xv_b E [.aload_n 0] (pc' := 23) (lv' := [(0, .inr (.inr (some a0)))]) (st' := [.inr (.inr (some a0))]) (by decide +kernel) rfl rfl ?_
      obtain ⟨o_9, h10, h⟩ := bd h
      refine xg_r E 8 3 h10 mw329 (show decode prog_10_method_13_code 23 = .ok (.getfield 74, 3) by decide +kernel) ?_
      refine xv_b E [.dup] (pc' := 27) (lv' := [(0, .inr (.inr (some a0)))]) (st' := [.inr (.inr o_9), .inr (.inr o_9)]) (by decide +kernel) rfl rfl ?_
      obtain ⟨v_11, h12, h⟩ := bd h
      refine xg_i E 8 7 h12 mw156 (show decode prog_10_method_13_code 27 = .ok (.getfield 50, 3) by decide +kernel) ?_
      refine xv_b E [.iconst 1, .iadd] (pc' := 32) (lv' := [(0, .inr (.inr (some a0)))]) (st' := [.inl (v_11 + (1 : Int32)), .inr (.inr o_9)]) (by decide +kernel) rfl rfl ?_
      obtain ⟨M13, h14, h⟩ := bd h
      refine xp_i E 8 7 h14 mw156 (show decode prog_10_method_13_code 32 = .ok (.putfield 50, 3) by decide +kernel) (Or.inl rfl) ?_
      exact xv_w (sb54_35 E B a0 M13 h hN) rfl
end
theorem t54 (G : gX) (l : Launch) {as : List aV} {M : hM} {r : Option aV} {M' : hM} (h : f54 as M = some (r, M')) : xM G l ym54 prog_10_method_13_code 1 (some (FieldType.object "ZonedFabric$Frame")) 1 as M r M' := by
  unfold f54 at h
  split at h
  · have h := x_out_ok h
    refine xM_of (by decide) (Nat.le_of_ble_eq_true rfl) (lb54_0 G l _ M h) ?_
    intro p e s m args below meth c E B
    exact sb54_0 E B _ M h rfl
  · cases h
/-! ZF.Frame.byteAt(I)I -/
def ym55 : MethodName := ⟨"ZonedFabric$Frame", "byteAt", "(I)I"⟩
theorem cd55 : xCd ym55 prog_4_method_8_code 2 (some FieldType.int) 1 := ⟨mw330, mw207, by decide, by decide, by decide +kernel⟩
def b55_27 (si0 : Int32) (M : hM) : Option xRes :=
  some (.inl (some (.inl si0), M))
def b55_26  (M : hM) : Option xRes :=
  b55_27 (0 : Int32) M
def b55_0 (a0 : Nat) (v1 : Int32) (M : hM) : Option xRes :=
  if v1 < 0 then
    (b55_26  M)
  else
    (Option.bind (g_r M 2 0 (some a0)) fun o_1 =>
    Option.bind (a_ln M 21 o_1) fun v_3 =>
    if v_3 ≤ v1 then
      (b55_26  M)
    else
      (Option.bind (g_r M 2 0 (some a0)) fun o_5 =>
      Option.bind (al_i M 21 o_5 v1) fun v_7 =>
      b55_27 (v_7 &&& (255 : Int32)) M))
def f55 (as : List aV) (M : hM) : xO := match as with
  | [.inr (.inr (some a0)), .inl v1] => x_out (b55_0 a0 v1 M)
  | _ => none
theorem lb55_27 (G : gX) (l : Launch) (si0 : Int32) (M : hM) {res : xRes} (h : b55_27 si0 M = some res) : h_sz M ≤ r_sz res ∧ h_sl M ≤ r_sl res := by
  unfold b55_27 at h
  obtain rfl := Option.some.inj h
  show h_sz M ≤ h_sz M ∧ h_sl M ≤ h_sl M
  omega
theorem lb55_26 (G : gX) (l : Launch)  (M : hM) {res : xRes} (h : b55_26  M = some res) : h_sz M ≤ r_sz res ∧ h_sl M ≤ r_sl res := by
  unfold b55_26 at h
  have e := lb55_27 G l (0 : Int32) M h
  omega
theorem lb55_0 (G : gX) (l : Launch) (a0 : Nat) (v1 : Int32) (M : hM) {res : xRes} (h : b55_0 a0 v1 M = some res) : h_sz M ≤ r_sz res ∧ h_sl M ≤ r_sl res := by
  unfold b55_0 at h
  by_cases q10 : v1 < 0
  · rw [if_pos q10] at h
    have e := lb55_26 G l  M h
    omega
  · rw [if_neg q10] at h
    obtain ⟨o_1, h2, h⟩ := bd h
    obtain ⟨v_3, h4, h⟩ := bd h
    by_cases q9 : v_3 ≤ v1
    · rw [if_pos q9] at h
      have e := lb55_26 G l  M h
      omega
    · rw [if_neg q9] at h
      obtain ⟨o_5, h6, h⟩ := bd h
      obtain ⟨v_7, h8, h⟩ := bd h
      have e := lb55_27 G l (v_7 &&& (255 : Int32)) M h
      omega
section
variable {p : Program} {l : Launch} {e : Env} {s : State} {m : MethodId} {args : Array Value} {below : List Frame} {meth : Method} {c : Code} {G : gX} {z0 y0 : Nat} {r : Option aV} {M' : hM}
theorem sb55_27 (E : xE G p (xRm 0 (h_sz M' - z0) (h_sl M' - y0)) s m args c prog_4_method_8_code "ZonedFabric$Frame" z0 y0 (h_sz M') (h_sl M') 2) (B : xB ym55 (some FieldType.int) meth) (si0 : Int32) (M : hM) {res : xRes} (h : b55_27 si0 M = some res) (hN : xN (fun _ _ _ => False) r M' res) : xV G p l e (xRm 0 (h_sz M' - z0) (h_sl M' - y0)) s m args below meth c z0 y0 (h_sz M') (h_sl M') 2 (MQ below (xQc G r M') args s (h_sz M' - z0) (h_sl M' - y0) (xFr G)) 27 [] [.inl si0] M := by
  unfold b55_27 at h
  obtain rfl := Option.some.inj h
  obtain ⟨rfl, rfl⟩ := Prod.mk.inj (show ((some (.inl si0) : Option aV), M) = (r, M') from hN)
  exact xv_ri E B.1 rfl B.2.1 (show decode prog_4_method_8_code 27 = .ok (.ireturn, 1) by decide +kernel) rfl rfl
theorem sb55_26 (E : xE G p (xRm 0 (h_sz M' - z0) (h_sl M' - y0)) s m args c prog_4_method_8_code "ZonedFabric$Frame" z0 y0 (h_sz M') (h_sl M') 2) (B : xB ym55 (some FieldType.int) meth)  (M : hM) {res : xRes} (h : b55_26  M = some res) (hN : xN (fun _ _ _ => False) r M' res) : xV G p l e (xRm 0 (h_sz M' - z0) (h_sl M' - y0)) s m args below meth c z0 y0 (h_sz M') (h_sl M') 2 (MQ below (xQc G r M') args s (h_sz M' - z0) (h_sl M' - y0) (xFr G)) 26 [] [] M := by
  unfold b55_26 at h
  refine xv_b E [.iconst 0] (pc' := 27) (lv' := []) (st' := [.inl (0 : Int32)]) (by decide +kernel) rfl rfl ?_
  exact xv_w (sb55_27 E B (0 : Int32) M h hN) rfl
theorem sb55_0 (E : xE G p (xRm 0 (h_sz M' - z0) (h_sl M' - y0)) s m args c prog_4_method_8_code "ZonedFabric$Frame" z0 y0 (h_sz M') (h_sl M') 2) (B : xB ym55 (some FieldType.int) meth) (a0 : Nat) (v1 : Int32) (M : hM) {res : xRes} (h : b55_0 a0 v1 M = some res) (hN : xN (fun _ _ _ => False) r M' res) : xV G p l e (xRm 0 (h_sz M' - z0) (h_sl M' - y0)) s m args below meth c z0 y0 (h_sz M') (h_sl M') 2 (MQ below (xQc G r M') args s (h_sz M' - z0) (h_sl M' - y0) (xFr G)) 0 [(0, .inr (.inr (some a0))), (1, .inl v1)] [] M := by
  unfold b55_0 at h
  refine xv_b E [.iload_n 1] (pc' := 1) (lv' := [(0, .inr (.inr (some a0))), (1, .inl v1)]) (st' := [.inl v1]) (by decide +kernel) rfl rfl ?_
  by_cases q10 : v1 < 0
  · rw [if_pos q10] at h
    refine xv_if_lt E 26 (show decode prog_4_method_8_code 1 = .ok (.ifCond .lt (25), 3) by decide +kernel) rfl (fun _ => ?_) (fun z => absurd q10 z)
    exact xv_w (sb55_26 E B  M h hN) rfl
  · rw [if_neg q10] at h
    refine xv_if_lt E 26 (show decode prog_4_method_8_code 1 = .ok (.ifCond .lt (25), 3) by decide +kernel) rfl (fun z => absurd z q10) (fun _ => ?_)
    refine xv_b E [.iload_n 1, .aload_n 0] (pc' := 6) (lv' := [(0, .inr (.inr (some a0))), (1, .inl v1)]) (st' := [.inr (.inr (some a0)), .inl v1]) (by decide +kernel) rfl rfl ?_
    obtain ⟨o_1, h2, h⟩ := bd h
    refine xg_r E 2 0 h2 mw208 (show decode prog_4_method_8_code 6 = .ok (.getfield 9, 3) by decide +kernel) ?_
    obtain ⟨v_3, h4, h⟩ := bd h
    refine xa_n E 21 h4 (show decode prog_4_method_8_code 9 = .ok (.arraylength, 1) by decide +kernel) ?_
    by_cases q9 : v_3 ≤ v1
    · rw [if_pos q9] at h
      refine xv_icmp_ge E 26 (show decode prog_4_method_8_code 10 = .ok (.if_icmp .ge (16), 3) by decide +kernel) rfl (fun _ => ?_) (fun z => absurd q9 z)
      exact xv_w (sb55_26 E B  M h hN) rfl
    · rw [if_neg q9] at h
      refine xv_icmp_ge E 26 (show decode prog_4_method_8_code 10 = .ok (.if_icmp .ge (16), 3) by decide +kernel) rfl (fun z => absurd z q9) (fun _ => ?_)
      refine xv_b E [.aload_n 0] (pc' := 14) (lv' := [(0, .inr (.inr (some a0))), (1, .inl v1)]) (st' := [.inr (.inr (some a0))]) (by decide +kernel) rfl rfl ?_
      obtain ⟨o_5, h6, h⟩ := bd h
      refine xg_r E 2 0 h6 mw208 (show decode prog_4_method_8_code 14 = .ok (.getfield 9, 3) by decide +kernel) ?_
      refine xv_b E [.iload_n 1] (pc' := 18) (lv' := [(0, .inr (.inr (some a0))), (1, .inl v1)]) (st' := [.inl v1, .inr (.inr o_5)]) (by decide +kernel) rfl rfl ?_
      obtain ⟨v_7, h8, h⟩ := bd h
      refine xa_b E h8 (show decode prog_4_method_8_code 18 = .ok (.baload, 1) by decide +kernel) ?_
      refine xv_b E [.sipush 255, .iand] (pc' := 23) (lv' := [(0, .inr (.inr (some a0))), (1, .inl v1)]) (st' := [.inl (v_7 &&& (255 : Int32))]) (by decide +kernel) rfl rfl ?_
      refine xv_goto E 27 (show decode prog_4_method_8_code 23 = .ok (.goto (4), 3) by decide +kernel) rfl ?_
      exact xv_w (sb55_27 E B (v_7 &&& (255 : Int32)) M h hN) rfl
end
theorem t55 (G : gX) (l : Launch) {as : List aV} {M : hM} {r : Option aV} {M' : hM} (h : f55 as M = some (r, M')) : xM G l ym55 prog_4_method_8_code 2 (some FieldType.int) 0 as M r M' := by
  unfold f55 at h
  split at h
  · have h := x_out_ok h
    refine xM_of (by decide) (Nat.le_of_ble_eq_true rfl) (lb55_0 G l _ _ M h) ?_
    intro p e s m args below meth c E B
    exact sb55_0 E B _ _ M h rfl
  · cases h
/-! ZF.Frame.number(II)J -/
def ym56 : MethodName := ⟨"ZonedFabric$Frame", "number", "(II)J"⟩
theorem cd56 : xCd ym56 prog_4_method_9_code 6 (some FieldType.long) 2 := ⟨mw331, mw207, by decide, by decide, by decide +kernel⟩
def b56_0 (a0 : Nat) (v1 : Int32) (v2 : Int32) (M : hM) : Option xRes :=
  some (.inr (5, [.inr (.inr (some a0)), .inl v1, .inl v2, .inr (.inl (0 : Int64)), .inl (0 : Int32)], M))
def b56_5 (a0 : Nat) (v1 : Int32) (v2 : Int32) (w3 : Int64) (v5 : Int32) (M : hM) : Option xRes :=
  if v2 ≤ v5 then
    (some (.inl (some (.inr (.inl w3)), M)))
  else
    (Option.bind (g_o M 2 (some a0)) fun b_3 =>
    Option.bind (c_I (f55 [.inr (.inr (some b_3)), .inl (v1 + v5)] M)) fun q_1 =>
    some (.inr (5, [.inr (.inr (some a0)), .inl v1, .inl v2, .inr (.inl ((w3 <<< (Int32.toInt64 (8 : Int32) &&& 63)) ||| (Int32.toInt64 q_1.1))), .inl (v5 + (1 : Int32))], q_1.2)))
def k56 (h : Nat) (as : List aV) (M : hM) : Option xRes :=
  if h = 5 then (match as with | [.inr (.inr (some a0)), .inl v1, .inl v2, .inr (.inl w3), .inl v5] => b56_5 a0 v1 v2 w3 v5 M | _ => none) else
  none
def f56 (as : List aV) (M : hM) : xO := match as with
  | [.inr (.inr (some a0)), .inl v1, .inl v2] => x_go k56 (b56_0 a0 v1 v2 M)
  | _ => none
theorem lb56_0 (G : gX) (l : Launch) (a0 : Nat) (v1 : Int32) (v2 : Int32) (M : hM) {res : xRes} (h : b56_0 a0 v1 v2 M = some res) : h_sz M ≤ r_sz res ∧ h_sl M ≤ r_sl res := by
  unfold b56_0 at h
  obtain rfl := Option.some.inj h
  show h_sz M ≤ h_sz M ∧ h_sl M ≤ h_sl M
  omega
theorem lb56_5 (G : gX) (l : Launch) (a0 : Nat) (v1 : Int32) (v2 : Int32) (w3 : Int64) (v5 : Int32) (M : hM) {res : xRes} (h : b56_5 a0 v1 v2 w3 v5 M = some res) : h_sz M ≤ r_sz res ∧ h_sl M ≤ r_sl res := by
  unfold b56_5 at h
  by_cases q5 : v2 ≤ v5
  · rw [if_pos q5] at h
    obtain rfl := Option.some.inj h
    show h_sz M ≤ h_sz M ∧ h_sl M ≤ h_sl M
    omega
  · rw [if_neg q5] at h
    obtain ⟨b_3, h4, h⟩ := bd h
    obtain ⟨q_1, h2, h⟩ := bd h
    have eh2 := (t55 G l (c_I_some h2)).1
    obtain rfl := Option.some.inj h
    show h_sz M ≤ h_sz q_1.2 ∧ h_sl M ≤ h_sl q_1.2
    omega
section
variable {p : Program} {l : Launch} {e : Env} {s : State} {m : MethodId} {args : Array Value} {below : List Frame} {meth : Method} {c : Code} {G : gX} {z0 y0 : Nat} {r : Option aV} {M' : hM}
def pg56 (p : Program) (l : Launch) (e : Env) (s : State) (m : MethodId) (args : Array Value) (below : List Frame) (meth : Method) (c : Code) (G : gX) (z0 y0 : Nat) (r : Option aV) (M' : hM) (h : Nat) (as : List aV) (M : hM) : Prop :=
  if h = 5 then (match as with | [.inr (.inr (some a0)), .inl v1, .inl v2, .inr (.inl w3), .inl v5] => xV G p l e (xRm 1 (h_sz M' - z0) (h_sl M' - y0)) s m args below meth c z0 y0 (h_sz M') (h_sl M') 6 (MQ below (xQc G r M') args s (h_sz M' - z0) (h_sl M' - y0) (xFr G)) 5 [(0, .inr (.inr (some a0))), (1, .inl v1), (2, .inl v2), (3, .inr (.inl w3)), (5, .inl v5)] [] M | _ => False) else
  False
theorem sb56_0 (E : xE G p (xRm 1 (h_sz M' - z0) (h_sl M' - y0)) s m args c prog_4_method_9_code "ZonedFabric$Frame" z0 y0 (h_sz M') (h_sl M') 6) (B : xB ym56 (some FieldType.long) meth) (a0 : Nat) (v1 : Int32) (v2 : Int32) (M : hM) {res : xRes} (h : b56_0 a0 v1 v2 M = some res) (hN : xN (pg56 p l e s m args below meth c G z0 y0 r M') r M' res) : xV G p l e (xRm 1 (h_sz M' - z0) (h_sl M' - y0)) s m args below meth c z0 y0 (h_sz M') (h_sl M') 6 (MQ below (xQc G r M') args s (h_sz M' - z0) (h_sl M' - y0) (xFr G)) 0 [(0, .inr (.inr (some a0))), (1, .inl v1), (2, .inl v2)] [] M := by
  unfold b56_0 at h
  refine xv_b E [.lconst 0, .lstore_n 3, .iconst 0, .istore 5] (pc' := 5) (lv' := [(5, .inl (0 : Int32)), (3, .inr (.inl (0 : Int64))), (0, .inr (.inr (some a0))), (1, .inl v1), (2, .inl v2)]) (st' := []) (by decide +kernel) rfl rfl ?_
  obtain rfl := Option.some.inj h
  exact xv_w hN rfl
theorem sb56_5 (E : xE G p (xRm 1 (h_sz M' - z0) (h_sl M' - y0)) s m args c prog_4_method_9_code "ZonedFabric$Frame" z0 y0 (h_sz M') (h_sl M') 6) (B : xB ym56 (some FieldType.long) meth) (a0 : Nat) (v1 : Int32) (v2 : Int32) (w3 : Int64) (v5 : Int32) (M : hM) {res : xRes} (h : b56_5 a0 v1 v2 w3 v5 M = some res) (hN : xN (pg56 p l e s m args below meth c G z0 y0 r M') r M' res) : xV G p l e (xRm 1 (h_sz M' - z0) (h_sl M' - y0)) s m args below meth c z0 y0 (h_sz M') (h_sl M') 6 (MQ below (xQc G r M') args s (h_sz M' - z0) (h_sl M' - y0) (xFr G)) 5 [(0, .inr (.inr (some a0))), (1, .inl v1), (2, .inl v2), (3, .inr (.inl w3)), (5, .inl v5)] [] M := by
  unfold b56_5 at h
  refine xv_b E [.iload 5, .iload_n 2] (pc' := 8) (lv' := [(0, .inr (.inr (some a0))), (1, .inl v1), (2, .inl v2), (3, .inr (.inl w3)), (5, .inl v5)]) (st' := [.inl v2, .inl v5]) (by decide +kernel) rfl rfl ?_
  by_cases q5 : v2 ≤ v5
  · rw [if_pos q5] at h
    refine xv_icmp_ge E 32 (show decode prog_4_method_9_code 8 = .ok (.if_icmp .ge (24), 3) by decide +kernel) rfl (fun _ => ?_) (fun z => absurd q5 z)
    refine xv_b E [.lload_n 3] (pc' := 33) (lv' := [(0, .inr (.inr (some a0))), (1, .inl v1), (2, .inl v2), (3, .inr (.inl w3)), (5, .inl v5)]) (st' := [.inr (.inl w3)]) (by decide +kernel) rfl rfl ?_
    obtain rfl := Option.some.inj h
    obtain ⟨rfl, rfl⟩ := Prod.mk.inj (show ((some (.inr (.inl w3)) : Option aV), M) = (r, M') from hN)
    exact xv_rl E B.1 B.2.1 (show decode prog_4_method_9_code 33 = .ok (.lreturn, 1) by decide +kernel) rfl rfl
  · rw [if_neg q5] at h
    refine xv_icmp_ge E 32 (show decode prog_4_method_9_code 8 = .ok (.if_icmp .ge (24), 3) by decide +kernel) rfl (fun z => absurd z q5) (fun _ => ?_)
    refine xv_b E [.lload_n 3, .bipush 8, .lshl, .aload_n 0, .iload_n 1, .iload 5, .iadd] (pc' := 20) (lv' := [(0, .inr (.inr (some a0))), (1, .inl v1), (2, .inl v2), (3, .inr (.inl w3)), (5, .inl v5)]) (st' := [.inl (v1 + v5), .inr (.inr (some a0)), .inr (.inl (w3 <<< (Int32.toInt64 (8 : Int32) &&& 63)))]) (by decide +kernel) rfl rfl ?_
    obtain ⟨b_3, h4, h⟩ := bd h
    obtain ⟨eh4, th4⟩ := g_o_some h4
    obtain ⟨q_1, h2, h⟩ := bd h
    refine xv_cvo E eh4 2 (as := [.inl (v1 + v5)]) (t55 G l (c_I_some h2)) cd55 mw332 mw333 mw334 (show decode prog_4_method_9_code 20 = .ok (.invokevirtual 49, 3) by decide +kernel) th4 rfl rfl (Nat.le_of_ble_eq_true rfl) ⟨Nat.le_of_ble_eq_true rfl, Nat.le_of_ble_eq_true rfl⟩ ?_
    refine xv_b E [.i2l, .lor, .lstore_n 3, .iinc 5 1] (pc' := 29) (lv' := [(5, .inl (v5 + (1 : Int32))), (3, .inr (.inl ((w3 <<< (Int32.toInt64 (8 : Int32) &&& 63)) ||| (Int32.toInt64 q_1.1)))), (0, .inr (.inr (some a0))), (1, .inl v1), (2, .inl v2)]) (st' := []) (by decide +kernel) rfl rfl ?_
    refine xv_goto E 5 (show decode prog_4_method_9_code 29 = .ok (.goto (-24), 3) by decide +kernel) rfl ?_
    obtain rfl := Option.some.inj h
    exact xv_w hN rfl
end
theorem t56 (G : gX) (l : Launch) {as : List aV} {M : hM} {r : Option aV} {M' : hM} (h : f56 as M = some (r, M')) : xM G l ym56 prog_4_method_9_code 6 (some FieldType.long) 1 as M r M' := by
  unfold f56 at h
  split at h
  · have hle : ∀ h as M res, k56 h as M = some res → h_sz M ≤ r_sz res ∧ h_sl M ≤ r_sl res := by
      intro h as M res hb
      unfold k56 at hb
      by_cases e0 : h = 5
      · rw [if_pos e0] at hb
        split at hb
        · exact lb56_5 G l _ _ _ _ _ M hb
        · cases hb
      · rw [if_neg e0] at hb
        cases hb
    obtain ⟨res, hx, hres⟩ := x_go_ok h
    refine xM_of (by decide) (Nat.le_of_ble_eq_true rfl) ?_ ?_
    · have e1 := lb56_0 G l _ _ _ M hx
      have e2 := x_go_le hle hres
      omega
    · intro p e s m args below meth c E B
      refine sb56_0 E B _ _ _ M hx (hres _ ?_)
      intro h as M res hb hN
      unfold k56 at hb
      unfold pg56
      by_cases e0 : h = 5
      · rw [if_pos e0] at hb ⊢
        split at hb
        · exact sb56_5 E B _ _ _ _ _ M hb hN
        · cases hb
      · rw [if_neg e0] at hb ⊢
        cases hb
  · cases h
/-! ZF.Frame.kind()I -/
def ym57 : MethodName := ⟨"ZonedFabric$Frame", "kind", "()I"⟩
theorem cd57 : xCd ym57 prog_4_method_10_code 1 (some FieldType.int) 0 := ⟨mw335, mw207, by decide, by decide, by decide +kernel⟩
def b57_0 (a0 : Nat) (M : hM) : Option xRes :=
  Option.bind (g_o M 2 (some a0)) fun b_3 =>
  Option.bind (c_I (f55 [.inr (.inr (some b_3)), .inl (0 : Int32)] M)) fun q_1 =>
  some (.inl (some (.inl q_1.1), q_1.2))
def f57 (as : List aV) (M : hM) : xO := match as with
  | [.inr (.inr (some a0))] => x_out (b57_0 a0 M)
  | _ => none
theorem lb57_0 (G : gX) (l : Launch) (a0 : Nat) (M : hM) {res : xRes} (h : b57_0 a0 M = some res) : h_sz M ≤ r_sz res ∧ h_sl M ≤ r_sl res := by
  unfold b57_0 at h
  obtain ⟨b_3, h4, h⟩ := bd h
  obtain ⟨q_1, h2, h⟩ := bd h
  have eh2 := (t55 G l (c_I_some h2)).1
  obtain rfl := Option.some.inj h
  show h_sz M ≤ h_sz q_1.2 ∧ h_sl M ≤ h_sl q_1.2
  omega
section
variable {p : Program} {l : Launch} {e : Env} {s : State} {m : MethodId} {args : Array Value} {below : List Frame} {meth : Method} {c : Code} {G : gX} {z0 y0 : Nat} {r : Option aV} {M' : hM}
theorem sb57_0 (E : xE G p (xRm 1 (h_sz M' - z0) (h_sl M' - y0)) s m args c prog_4_method_10_code "ZonedFabric$Frame" z0 y0 (h_sz M') (h_sl M') 1) (B : xB ym57 (some FieldType.int) meth) (a0 : Nat) (M : hM) {res : xRes} (h : b57_0 a0 M = some res) (hN : xN (fun _ _ _ => False) r M' res) : xV G p l e (xRm 1 (h_sz M' - z0) (h_sl M' - y0)) s m args below meth c z0 y0 (h_sz M') (h_sl M') 1 (MQ below (xQc G r M') args s (h_sz M' - z0) (h_sl M' - y0) (xFr G)) 0 [(0, .inr (.inr (some a0)))] [] M := by
  unfold b57_0 at h
  refine xv_b E [.aload_n 0, .iconst 0] (pc' := 2) (lv' := [(0, .inr (.inr (some a0)))]) (st' := [.inl (0 : Int32), .inr (.inr (some a0))]) (by decide +kernel) rfl rfl ?_
  obtain ⟨b_3, h4, h⟩ := bd h
  obtain ⟨eh4, th4⟩ := g_o_some h4
  obtain ⟨q_1, h2, h⟩ := bd h
  refine xv_cvo E eh4 2 (as := [.inl (0 : Int32)]) (t55 G l (c_I_some h2)) cd55 mw332 mw333 mw334 (show decode prog_4_method_10_code 2 = .ok (.invokevirtual 49, 3) by decide +kernel) th4 rfl rfl (Nat.le_of_ble_eq_true rfl) ⟨Nat.le_of_ble_eq_true rfl, Nat.le_of_ble_eq_true rfl⟩ ?_
  obtain rfl := Option.some.inj h
  obtain ⟨rfl, rfl⟩ := Prod.mk.inj (show ((some (.inl q_1.1) : Option aV), q_1.2) = (r, M') from hN)
  exact xv_ri E B.1 rfl B.2.1 (show decode prog_4_method_10_code 5 = .ok (.ireturn, 1) by decide +kernel) rfl rfl
end
theorem t57 (G : gX) (l : Launch) {as : List aV} {M : hM} {r : Option aV} {M' : hM} (h : f57 as M = some (r, M')) : xM G l ym57 prog_4_method_10_code 1 (some FieldType.int) 1 as M r M' := by
  unfold f57 at h
  split at h
  · have h := x_out_ok h
    refine xM_of (by decide) (Nat.le_of_ble_eq_true rfl) (lb57_0 G l _ M h) ?_
    intro p e s m args below meth c E B
    exact sb57_0 E B _ M h rfl
  · cases h
/-! ZF.Frame.load(I)I -/
def ym58 : MethodName := ⟨"ZonedFabric$Frame", "load", "(I)I"⟩
theorem cd58 : xCd ym58 prog_4_method_16_code 2 (some FieldType.int) 1 := ⟨mw336, mw207, by decide, by decide, by decide +kernel⟩
def b58_0 (a0 : Nat) (v1 : Int32) (M : hM) : Option xRes :=
  Option.bind (g_o M 2 (some a0)) fun b_3 =>
  Option.bind (c_I (f55 [.inr (.inr (some b_3)), .inl ((13 : Int32) + v1)] M)) fun q_1 =>
  some (.inl (some (.inl q_1.1), q_1.2))
def f58 (as : List aV) (M : hM) : xO := match as with
  | [.inr (.inr (some a0)), .inl v1] => x_out (b58_0 a0 v1 M)
  | _ => none
theorem lb58_0 (G : gX) (l : Launch) (a0 : Nat) (v1 : Int32) (M : hM) {res : xRes} (h : b58_0 a0 v1 M = some res) : h_sz M ≤ r_sz res ∧ h_sl M ≤ r_sl res := by
  unfold b58_0 at h
  obtain ⟨b_3, h4, h⟩ := bd h
  obtain ⟨q_1, h2, h⟩ := bd h
  have eh2 := (t55 G l (c_I_some h2)).1
  obtain rfl := Option.some.inj h
  show h_sz M ≤ h_sz q_1.2 ∧ h_sl M ≤ h_sl q_1.2
  omega
section
variable {p : Program} {l : Launch} {e : Env} {s : State} {m : MethodId} {args : Array Value} {below : List Frame} {meth : Method} {c : Code} {G : gX} {z0 y0 : Nat} {r : Option aV} {M' : hM}
theorem sb58_0 (E : xE G p (xRm 1 (h_sz M' - z0) (h_sl M' - y0)) s m args c prog_4_method_16_code "ZonedFabric$Frame" z0 y0 (h_sz M') (h_sl M') 2) (B : xB ym58 (some FieldType.int) meth) (a0 : Nat) (v1 : Int32) (M : hM) {res : xRes} (h : b58_0 a0 v1 M = some res) (hN : xN (fun _ _ _ => False) r M' res) : xV G p l e (xRm 1 (h_sz M' - z0) (h_sl M' - y0)) s m args below meth c z0 y0 (h_sz M') (h_sl M') 2 (MQ below (xQc G r M') args s (h_sz M' - z0) (h_sl M' - y0) (xFr G)) 0 [(0, .inr (.inr (some a0))), (1, .inl v1)] [] M := by
  unfold b58_0 at h
  refine xv_b E [.aload_n 0, .bipush 13, .iload_n 1, .iadd] (pc' := 5) (lv' := [(0, .inr (.inr (some a0))), (1, .inl v1)]) (st' := [.inl ((13 : Int32) + v1), .inr (.inr (some a0))]) (by decide +kernel) rfl rfl ?_
  obtain ⟨b_3, h4, h⟩ := bd h
  obtain ⟨eh4, th4⟩ := g_o_some h4
  obtain ⟨q_1, h2, h⟩ := bd h
  refine xv_cvo E eh4 2 (as := [.inl ((13 : Int32) + v1)]) (t55 G l (c_I_some h2)) cd55 mw332 mw333 mw334 (show decode prog_4_method_16_code 5 = .ok (.invokevirtual 49, 3) by decide +kernel) th4 rfl rfl (Nat.le_of_ble_eq_true rfl) ⟨Nat.le_of_ble_eq_true rfl, Nat.le_of_ble_eq_true rfl⟩ ?_
  obtain rfl := Option.some.inj h
  obtain ⟨rfl, rfl⟩ := Prod.mk.inj (show ((some (.inl q_1.1) : Option aV), q_1.2) = (r, M') from hN)
  exact xv_ri E B.1 rfl B.2.1 (show decode prog_4_method_16_code 8 = .ok (.ireturn, 1) by decide +kernel) rfl rfl
end
theorem t58 (G : gX) (l : Launch) {as : List aV} {M : hM} {r : Option aV} {M' : hM} (h : f58 as M = some (r, M')) : xM G l ym58 prog_4_method_16_code 2 (some FieldType.int) 1 as M r M' := by
  unfold f58 at h
  split at h
  · have h := x_out_ok h
    refine xM_of (by decide) (Nat.le_of_ble_eq_true rfl) (lb58_0 G l _ _ M h) ?_
    intro p e s m args below meth c E B
    exact sb58_0 E B _ _ M h rfl
  · cases h
/-! ZF.Frame.hasForm(ILZF$Shared;)Z -/
def ym59 : MethodName := ⟨"ZonedFabric$Frame", "hasForm", "(ILZonedFabric$Shared;)Z"⟩
theorem cd59 : xCd ym59 prog_4_method_19_code 3 (some FieldType.boolean) 2 := ⟨mw337, mw207, by decide, by decide, by decide +kernel⟩
def b59_90 (si0 : Int32) (M : hM) : Option xRes :=
  if si0 = 0 ∨ si0 = 1 then
    (some (.inl (some (.inl si0), M)))
  else
    none
def b59_89  (M : hM) : Option xRes :=
  b59_90 (0 : Int32) M
def b59_113 (si0 : Int32) (M : hM) : Option xRes :=
  if si0 = 0 ∨ si0 = 1 then
    (some (.inl (some (.inl si0), M)))
  else
    none
def b59_112  (M : hM) : Option xRes :=
  b59_113 (0 : Int32) M
def b59_163 (si0 : Int32) (M : hM) : Option xRes :=
  if si0 = 0 ∨ si0 = 1 then
    (some (.inl (some (.inl si0), M)))
  else
    none
def b59_158  (M : hM) : Option xRes :=
  b59_163 (1 : Int32) M
def b59_162  (M : hM) : Option xRes :=
  b59_163 (0 : Int32) M
def b59_183 (si0 : Int32) (M : hM) : Option xRes :=
  if si0 = 0 ∨ si0 = 1 then
    (some (.inl (some (.inl si0), M)))
  else
    none
def b59_182  (M : hM) : Option xRes :=
  b59_183 (0 : Int32) M
def b59_194 (si0 : Int32) (M : hM) : Option xRes :=
  if si0 = 0 ∨ si0 = 1 then
    (some (.inl (some (.inl si0), M)))
  else
    none
def b59_206 (si0 : Int32) (M : hM) : Option xRes :=
  if si0 = 0 ∨ si0 = 1 then
    (some (.inl (some (.inl si0), M)))
  else
    none
def b59_226 (si0 : Int32) (M : hM) : Option xRes :=
  if si0 = 0 ∨ si0 = 1 then
    (some (.inl (some (.inl si0), M)))
  else
    none
def b59_225  (M : hM) : Option xRes :=
  b59_226 (0 : Int32) M
def b59_0 (a0 : Nat) (v1 : Int32) (o2 : Option Nat) (M : hM) : Option xRes :=
  Option.bind (g_o M 2 (some a0)) fun b_3 =>
  Option.bind (c_I (f57 [.inr (.inr (some b_3))] M)) fun q_1 =>
  if q_1.1 = 1 then
    (if v1 = (1 : Int32) then
      (Option.bind (g_o q_1.2 2 (some a0)) fun b_8 =>
      Option.bind (c_I (f58 [.inr (.inr (some b_8)), .inl (0 : Int32)] q_1.2)) fun q_6 =>
      Option.bind (g_i q_6.2 9 0 o2) fun v_10 =>
      if v_10 ≤ q_6.1 then
        (b59_89  q_6.2)
      else
        (b59_90 (1 : Int32) q_6.2))
    else
      (b59_89  q_1.2))
  else
    (if q_1.1 = 2 then
      (some (.inl (some (.inl (1 : Int32)), q_1.2)))
    else
      (if q_1.1 = 3 then
        (if v1 = (1 : Int32) then
          (Option.bind (g_o q_1.2 2 (some a0)) fun b_18 =>
          Option.bind (c_I (f58 [.inr (.inr (some b_18)), .inl (0 : Int32)] q_1.2)) fun q_16 =>
          Option.bind (g_o q_16.2 9 o2) fun b_22 =>
          Option.bind (c_I (f8 [.inr (.inr (some b_22)), .inl q_16.1] q_16.2)) fun q_20 =>
          if q_20.1 = 0 then
            (b59_112  q_20.2)
          else
            (b59_113 (1 : Int32) q_20.2))
        else
          (b59_112  q_1.2))
      else
        (if q_1.1 = 4 then
          (some (.inl (some (.inl (1 : Int32)), q_1.2)))
        else
          (if q_1.1 = 5 then
            (if v1 = (1 : Int32) then
              (Option.bind (g_o q_1.2 2 (some a0)) fun b_30 =>
              Option.bind (c_I (f58 [.inr (.inr (some b_30)), .inl (0 : Int32)] q_1.2)) fun q_28 =>
              Option.bind (g_o q_28.2 9 o2) fun b_34 =>
              Option.bind (c_I (f8 [.inr (.inr (some b_34)), .inl q_28.1] q_28.2)) fun q_32 =>
              if q_32.1 = 0 then
                (b59_112  q_32.2)
              else
                (b59_113 (1 : Int32) q_32.2))
            else
              (b59_112  q_1.2))
          else
            (if q_1.1 = 6 then
              (if v1 = (4 : Int32) then
                (Option.bind (g_o q_1.2 2 (some a0)) fun b_41 =>
                Option.bind (c_I (f58 [.inr (.inr (some b_41)), .inl (0 : Int32)] q_1.2)) fun q_39 =>
                Option.bind (g_o q_39.2 9 o2) fun b_45 =>
                Option.bind (c_I (f8 [.inr (.inr (some b_45)), .inl q_39.1] q_39.2)) fun q_43 =>
                if q_43.1 = 0 then
                  (b59_162  q_43.2)
                else
                  (Option.bind (g_o q_43.2 2 (some a0)) fun b_49 =>
                  Option.bind (c_L (f56 [.inr (.inr (some b_49)), .inl (14 : Int32), .inl (3 : Int32)] q_43.2)) fun q_47 =>
                  if (lg_cmp q_47.1 (0 : Int64)) = 0 then
                    (b59_158  q_47.2)
                  else
                    (Option.bind (g_o q_47.2 2 (some a0)) fun b_53 =>
                    Option.bind (c_I (f58 [.inr (.inr (some b_53)), .inl (3 : Int32)] q_47.2)) fun q_51 =>
                    Option.bind (g_o q_51.2 2 (some a0)) fun b_57 =>
                    Option.bind (c_I (f58 [.inr (.inr (some b_57)), .inl (0 : Int32)] q_51.2)) fun q_55 =>
                    if q_51.1 = (q_55.1 + (1 : Int32)) then
                      (b59_158  q_55.2)
                    else
                      (b59_162  q_55.2))))
              else
                (b59_162  q_1.2))
            else
              (if q_1.1 = 7 then
                (if v1 = (1 : Int32) then
                  (Option.bind (g_o q_1.2 2 (some a0)) fun b_66 =>
                  Option.bind (c_I (f58 [.inr (.inr (some b_66)), .inl (0 : Int32)] q_1.2)) fun q_64 =>
                  Option.bind (g_o q_64.2 9 o2) fun b_70 =>
                  Option.bind (c_I (f8 [.inr (.inr (some b_70)), .inl q_64.1] q_64.2)) fun q_68 =>
                  if q_68.1 = 0 then
                    (b59_112  q_68.2)
                  else
                    (b59_113 (1 : Int32) q_68.2))
                else
                  (b59_112  q_1.2))
              else
                (if q_1.1 = 8 then
                  (some (.inl (some (.inl (1 : Int32)), q_1.2)))
                else
                  (if q_1.1 = 9 then
                    (if v1 = (4 : Int32) then
                      (Option.bind (g_o q_1.2 2 (some a0)) fun b_78 =>
                      Option.bind (c_I (f58 [.inr (.inr (some b_78)), .inl (1 : Int32)] q_1.2)) fun q_76 =>
                      if (1 : Int32) < q_76.1 then
                        (b59_182  q_76.2)
                      else
                        (b59_183 (1 : Int32) q_76.2))
                    else
                      (b59_182  q_1.2))
                  else
                    (if q_1.1 = 10 then
                      (if v1 = (1 : Int32) then
                        (b59_194 (1 : Int32) q_1.2)
                      else
                        (b59_194 (0 : Int32) q_1.2))
                    else
                      (if q_1.1 = 11 then
                        (if v1 = (8 : Int32) then
                          (b59_206 (1 : Int32) q_1.2)
                        else
                          (b59_206 (0 : Int32) q_1.2))
                      else
                        (if q_1.1 = 12 then
                          (if v1 = (1 : Int32) then
                            (Option.bind (g_o q_1.2 2 (some a0)) fun b_89 =>
                            Option.bind (c_I (f58 [.inr (.inr (some b_89)), .inl (0 : Int32)] q_1.2)) fun q_87 =>
                            if (1 : Int32) < q_87.1 then
                              (b59_225  q_87.2)
                            else
                              (b59_226 (1 : Int32) q_87.2))
                          else
                            (b59_225  q_1.2))
                        else
                          (some (.inl (some (.inl (1 : Int32)), q_1.2))))))))))))))
def f59 (as : List aV) (M : hM) : xO := match as with
  | [.inr (.inr (some a0)), .inl v1, .inr (.inr o2)] => x_out (b59_0 a0 v1 o2 M)
  | _ => none
theorem lb59_90 (G : gX) (l : Launch) (si0 : Int32) (M : hM) {res : xRes} (h : b59_90 si0 M = some res) : h_sz M ≤ r_sz res ∧ h_sl M ≤ r_sl res := by
  unfold b59_90 at h
  by_cases q93 : si0 = 0 ∨ si0 = 1
  · rw [if_pos q93] at h
    obtain rfl := Option.some.inj h
    show h_sz M ≤ h_sz M ∧ h_sl M ≤ h_sl M
    omega
  · rw [if_neg q93] at h
    cases h
theorem lb59_89 (G : gX) (l : Launch)  (M : hM) {res : xRes} (h : b59_89  M = some res) : h_sz M ≤ r_sz res ∧ h_sl M ≤ r_sl res := by
  unfold b59_89 at h
  have e := lb59_90 G l (0 : Int32) M h
  omega
theorem lb59_113 (G : gX) (l : Launch) (si0 : Int32) (M : hM) {res : xRes} (h : b59_113 si0 M = some res) : h_sz M ≤ r_sz res ∧ h_sl M ≤ r_sl res := by
  unfold b59_113 at h
  by_cases q94 : si0 = 0 ∨ si0 = 1
  · rw [if_pos q94] at h
    obtain rfl := Option.some.inj h
    show h_sz M ≤ h_sz M ∧ h_sl M ≤ h_sl M
    omega
  · rw [if_neg q94] at h
    cases h
theorem lb59_112 (G : gX) (l : Launch)  (M : hM) {res : xRes} (h : b59_112  M = some res) : h_sz M ≤ r_sz res ∧ h_sl M ≤ r_sl res := by
  unfold b59_112 at h
  have e := lb59_113 G l (0 : Int32) M h
  omega
theorem lb59_163 (G : gX) (l : Launch) (si0 : Int32) (M : hM) {res : xRes} (h : b59_163 si0 M = some res) : h_sz M ≤ r_sz res ∧ h_sl M ≤ r_sl res := by
  unfold b59_163 at h
  by_cases q95 : si0 = 0 ∨ si0 = 1
  · rw [if_pos q95] at h
    obtain rfl := Option.some.inj h
    show h_sz M ≤ h_sz M ∧ h_sl M ≤ h_sl M
    omega
  · rw [if_neg q95] at h
    cases h
theorem lb59_158 (G : gX) (l : Launch)  (M : hM) {res : xRes} (h : b59_158  M = some res) : h_sz M ≤ r_sz res ∧ h_sl M ≤ r_sl res := by
  unfold b59_158 at h
  have e := lb59_163 G l (1 : Int32) M h
  omega
theorem lb59_162 (G : gX) (l : Launch)  (M : hM) {res : xRes} (h : b59_162  M = some res) : h_sz M ≤ r_sz res ∧ h_sl M ≤ r_sl res := by
  unfold b59_162 at h
  have e := lb59_163 G l (0 : Int32) M h
  omega
theorem lb59_183 (G : gX) (l : Launch) (si0 : Int32) (M : hM) {res : xRes} (h : b59_183 si0 M = some res) : h_sz M ≤ r_sz res ∧ h_sl M ≤ r_sl res := by
  unfold b59_183 at h
  by_cases q96 : si0 = 0 ∨ si0 = 1
  · rw [if_pos q96] at h
    obtain rfl := Option.some.inj h
    show h_sz M ≤ h_sz M ∧ h_sl M ≤ h_sl M
    omega
  · rw [if_neg q96] at h
    cases h
theorem lb59_182 (G : gX) (l : Launch)  (M : hM) {res : xRes} (h : b59_182  M = some res) : h_sz M ≤ r_sz res ∧ h_sl M ≤ r_sl res := by
  unfold b59_182 at h
  have e := lb59_183 G l (0 : Int32) M h
  omega
theorem lb59_194 (G : gX) (l : Launch) (si0 : Int32) (M : hM) {res : xRes} (h : b59_194 si0 M = some res) : h_sz M ≤ r_sz res ∧ h_sl M ≤ r_sl res := by
  unfold b59_194 at h
  by_cases q97 : si0 = 0 ∨ si0 = 1
  · rw [if_pos q97] at h
    obtain rfl := Option.some.inj h
    show h_sz M ≤ h_sz M ∧ h_sl M ≤ h_sl M
    omega
  · rw [if_neg q97] at h
    cases h
theorem lb59_206 (G : gX) (l : Launch) (si0 : Int32) (M : hM) {res : xRes} (h : b59_206 si0 M = some res) : h_sz M ≤ r_sz res ∧ h_sl M ≤ r_sl res := by
  unfold b59_206 at h
  by_cases q98 : si0 = 0 ∨ si0 = 1
  · rw [if_pos q98] at h
    obtain rfl := Option.some.inj h
    show h_sz M ≤ h_sz M ∧ h_sl M ≤ h_sl M
    omega
  · rw [if_neg q98] at h
    cases h
theorem lb59_226 (G : gX) (l : Launch) (si0 : Int32) (M : hM) {res : xRes} (h : b59_226 si0 M = some res) : h_sz M ≤ r_sz res ∧ h_sl M ≤ r_sl res := by
  unfold b59_226 at h
  by_cases q99 : si0 = 0 ∨ si0 = 1
  · rw [if_pos q99] at h
    obtain rfl := Option.some.inj h
    show h_sz M ≤ h_sz M ∧ h_sl M ≤ h_sl M
    omega
  · rw [if_neg q99] at h
    cases h
theorem lb59_225 (G : gX) (l : Launch)  (M : hM) {res : xRes} (h : b59_225  M = some res) : h_sz M ≤ r_sz res ∧ h_sl M ≤ r_sl res := by
  unfold b59_225 at h
  have e := lb59_226 G l (0 : Int32) M h
  omega
theorem lb59_0 (G : gX) (l : Launch) (a0 : Nat) (v1 : Int32) (o2 : Option Nat) (M : hM) {res : xRes} (h : b59_0 a0 v1 o2 M = some res) : h_sz M ≤ r_sz res ∧ h_sl M ≤ r_sl res := by
  unfold b59_0 at h
  obtain ⟨b_3, h4, h⟩ := bd h
  obtain ⟨q_1, h2, h⟩ := bd h
  have eh2 := (t57 G l (c_I_some h2)).1
  by_cases q5 : q_1.1 = 1
  · rw [if_pos q5] at h
    by_cases q13 : v1 = (1 : Int32)
    · rw [if_pos q13] at h
      obtain ⟨b_8, h9, h⟩ := bd h
      obtain ⟨q_6, h7, h⟩ := bd h
      have eh7 := (t58 G l (c_I_some h7)).1
      obtain ⟨v_10, h11, h⟩ := bd h
      by_cases q12 : v_10 ≤ q_6.1
      · rw [if_pos q12] at h
        have e := lb59_89 G l  q_6.2 h
        omega
      · rw [if_neg q12] at h
        have e := lb59_90 G l (1 : Int32) q_6.2 h
        omega
    · rw [if_neg q13] at h
      have e := lb59_89 G l  q_1.2 h
      omega
  · rw [if_neg q5] at h
    by_cases q14 : q_1.1 = 2
    · rw [if_pos q14] at h
      obtain rfl := Option.some.inj h
      show h_sz M ≤ h_sz q_1.2 ∧ h_sl M ≤ h_sl q_1.2
      omega
    · rw [if_neg q14] at h
      by_cases q15 : q_1.1 = 3
      · rw [if_pos q15] at h
        by_cases q25 : v1 = (1 : Int32)
        · rw [if_pos q25] at h
          obtain ⟨b_18, h19, h⟩ := bd h
          obtain ⟨q_16, h17, h⟩ := bd h
          have eh17 := (t58 G l (c_I_some h17)).1
          obtain ⟨b_22, h23, h⟩ := bd h
          obtain ⟨q_20, h21, h⟩ := bd h
          have eh21 := (t8 G l (c_I_some h21)).1
          by_cases q24 : q_20.1 = 0
          · rw [if_pos q24] at h
            have e := lb59_112 G l  q_20.2 h
            omega
          · rw [if_neg q24] at h
            have e := lb59_113 G l (1 : Int32) q_20.2 h
            omega
        · rw [if_neg q25] at h
          have e := lb59_112 G l  q_1.2 h
          omega
      · rw [if_neg q15] at h
        by_cases q26 : q_1.1 = 4
        · rw [if_pos q26] at h
          obtain rfl := Option.some.inj h
          show h_sz M ≤ h_sz q_1.2 ∧ h_sl M ≤ h_sl q_1.2
          omega
        · rw [if_neg q26] at h
          by_cases q27 : q_1.1 = 5
          · rw [if_pos q27] at h
            by_cases q37 : v1 = (1 : Int32)
            · rw [if_pos q37] at h
              obtain ⟨b_30, h31, h⟩ := bd h
              obtain ⟨q_28, h29, h⟩ := bd h
              have eh29 := (t58 G l (c_I_some h29)).1
              obtain ⟨b_34, h35, h⟩ := bd h
              obtain ⟨q_32, h33, h⟩ := bd h
              have eh33 := (t8 G l (c_I_some h33)).1
              by_cases q36 : q_32.1 = 0
              · rw [if_pos q36] at h
                have e := lb59_112 G l  q_32.2 h
                omega
              · rw [if_neg q36] at h
                have e := lb59_113 G l (1 : Int32) q_32.2 h
                omega
            · rw [if_neg q37] at h
              have e := lb59_112 G l  q_1.2 h
              omega
          · rw [if_neg q27] at h
            by_cases q38 : q_1.1 = 6
            · rw [if_pos q38] at h
              by_cases q62 : v1 = (4 : Int32)
              · rw [if_pos q62] at h
                obtain ⟨b_41, h42, h⟩ := bd h
                obtain ⟨q_39, h40, h⟩ := bd h
                have eh40 := (t58 G l (c_I_some h40)).1
                obtain ⟨b_45, h46, h⟩ := bd h
                obtain ⟨q_43, h44, h⟩ := bd h
                have eh44 := (t8 G l (c_I_some h44)).1
                by_cases q61 : q_43.1 = 0
                · rw [if_pos q61] at h
                  have e := lb59_162 G l  q_43.2 h
                  omega
                · rw [if_neg q61] at h
                  obtain ⟨b_49, h50, h⟩ := bd h
                  obtain ⟨q_47, h48, h⟩ := bd h
                  have eh48 := (t56 G l (c_L_some h48)).1
                  by_cases q60 : (lg_cmp q_47.1 (0 : Int64)) = 0
                  · rw [if_pos q60] at h
                    have e := lb59_158 G l  q_47.2 h
                    omega
                  · rw [if_neg q60] at h
                    obtain ⟨b_53, h54, h⟩ := bd h
                    obtain ⟨q_51, h52, h⟩ := bd h
                    have eh52 := (t58 G l (c_I_some h52)).1
                    obtain ⟨b_57, h58, h⟩ := bd h
                    obtain ⟨q_55, h56, h⟩ := bd h
                    have eh56 := (t58 G l (c_I_some h56)).1
                    by_cases q59 : q_51.1 = (q_55.1 + (1 : Int32))
                    · rw [if_pos q59] at h
                      have e := lb59_158 G l  q_55.2 h
                      omega
                    · rw [if_neg q59] at h
                      have e := lb59_162 G l  q_55.2 h
                      omega
              · rw [if_neg q62] at h
                have e := lb59_162 G l  q_1.2 h
                omega
            · rw [if_neg q38] at h
              by_cases q63 : q_1.1 = 7
              · rw [if_pos q63] at h
                by_cases q73 : v1 = (1 : Int32)
                · rw [if_pos q73] at h
                  obtain ⟨b_66, h67, h⟩ := bd h
                  obtain ⟨q_64, h65, h⟩ := bd h
                  have eh65 := (t58 G l (c_I_some h65)).1
                  obtain ⟨b_70, h71, h⟩ := bd h
                  obtain ⟨q_68, h69, h⟩ := bd h
                  have eh69 := (t8 G l (c_I_some h69)).1
                  by_cases q72 : q_68.1 = 0
                  · rw [if_pos q72] at h
                    have e := lb59_112 G l  q_68.2 h
                    omega
                  · rw [if_neg q72] at h
                    have e := lb59_113 G l (1 : Int32) q_68.2 h
                    omega
                · rw [if_neg q73] at h
                  have e := lb59_112 G l  q_1.2 h
                  omega
              · rw [if_neg q63] at h
                by_cases q74 : q_1.1 = 8
                · rw [if_pos q74] at h
                  obtain rfl := Option.some.inj h
                  show h_sz M ≤ h_sz q_1.2 ∧ h_sl M ≤ h_sl q_1.2
                  omega
                · rw [if_neg q74] at h
                  by_cases q75 : q_1.1 = 9
                  · rw [if_pos q75] at h
                    by_cases q81 : v1 = (4 : Int32)
                    · rw [if_pos q81] at h
                      obtain ⟨b_78, h79, h⟩ := bd h
                      obtain ⟨q_76, h77, h⟩ := bd h
                      have eh77 := (t58 G l (c_I_some h77)).1
                      by_cases q80 : (1 : Int32) < q_76.1
                      · rw [if_pos q80] at h
                        have e := lb59_182 G l  q_76.2 h
                        omega
                      · rw [if_neg q80] at h
                        have e := lb59_183 G l (1 : Int32) q_76.2 h
                        omega
                    · rw [if_neg q81] at h
                      have e := lb59_182 G l  q_1.2 h
                      omega
                  · rw [if_neg q75] at h
                    by_cases q82 : q_1.1 = 10
                    · rw [if_pos q82] at h
                      by_cases q83 : v1 = (1 : Int32)
                      · rw [if_pos q83] at h
                        have e := lb59_194 G l (1 : Int32) q_1.2 h
                        omega
                      · rw [if_neg q83] at h
                        have e := lb59_194 G l (0 : Int32) q_1.2 h
                        omega
                    · rw [if_neg q82] at h
                      by_cases q84 : q_1.1 = 11
                      · rw [if_pos q84] at h
                        by_cases q85 : v1 = (8 : Int32)
                        · rw [if_pos q85] at h
                          have e := lb59_206 G l (1 : Int32) q_1.2 h
                          omega
                        · rw [if_neg q85] at h
                          have e := lb59_206 G l (0 : Int32) q_1.2 h
                          omega
                      · rw [if_neg q84] at h
                        by_cases q86 : q_1.1 = 12
                        · rw [if_pos q86] at h
                          by_cases q92 : v1 = (1 : Int32)
                          · rw [if_pos q92] at h
                            obtain ⟨b_89, h90, h⟩ := bd h
                            obtain ⟨q_87, h88, h⟩ := bd h
                            have eh88 := (t58 G l (c_I_some h88)).1
                            by_cases q91 : (1 : Int32) < q_87.1
                            · rw [if_pos q91] at h
                              have e := lb59_225 G l  q_87.2 h
                              omega
                            · rw [if_neg q91] at h
                              have e := lb59_226 G l (1 : Int32) q_87.2 h
                              omega
                          · rw [if_neg q92] at h
                            have e := lb59_225 G l  q_1.2 h
                            omega
                        · rw [if_neg q86] at h
                          obtain rfl := Option.some.inj h
                          show h_sz M ≤ h_sz q_1.2 ∧ h_sl M ≤ h_sl q_1.2
                          omega
section
variable {p : Program} {l : Launch} {e : Env} {s : State} {m : MethodId} {args : Array Value} {below : List Frame} {meth : Method} {c : Code} {G : gX} {z0 y0 : Nat} {r : Option aV} {M' : hM}
theorem sb59_90 (E : xE G p (xRm 2 (h_sz M' - z0) (h_sl M' - y0)) s m args c prog_4_method_19_code "ZonedFabric$Frame" z0 y0 (h_sz M') (h_sl M') 3) (B : xB ym59 (some FieldType.boolean) meth) (si0 : Int32) (M : hM) {res : xRes} (h : b59_90 si0 M = some res) (hN : xN (fun _ _ _ => False) r M' res) : xV G p l e (xRm 2 (h_sz M' - z0) (h_sl M' - y0)) s m args below meth c z0 y0 (h_sz M') (h_sl M') 3 (MQ below (xQc G r M') args s (h_sz M' - z0) (h_sl M' - y0) (xFr G)) 90 [] [.inl si0] M := by
  unfold b59_90 at h
  by_cases q93 : si0 = 0 ∨ si0 = 1
  · rw [if_pos q93] at h
    obtain rfl := Option.some.inj h
    obtain ⟨rfl, rfl⟩ := Prod.mk.inj (show ((some (.inl si0) : Option aV), M) = (r, M') from hN)
    exact xv_ri E B.1 (by rcases q93 with z | z <;> rw [z] <;> rfl) B.2.1 (show decode prog_4_method_19_code 90 = .ok (.ireturn, 1) by decide +kernel) rfl rfl
  · rw [if_neg q93] at h
    cases h
theorem sb59_89 (E : xE G p (xRm 2 (h_sz M' - z0) (h_sl M' - y0)) s m args c prog_4_method_19_code "ZonedFabric$Frame" z0 y0 (h_sz M') (h_sl M') 3) (B : xB ym59 (some FieldType.boolean) meth)  (M : hM) {res : xRes} (h : b59_89  M = some res) (hN : xN (fun _ _ _ => False) r M' res) : xV G p l e (xRm 2 (h_sz M' - z0) (h_sl M' - y0)) s m args below meth c z0 y0 (h_sz M') (h_sl M') 3 (MQ below (xQc G r M') args s (h_sz M' - z0) (h_sl M' - y0) (xFr G)) 89 [] [] M := by
  unfold b59_89 at h
  refine xv_b E [.iconst 0] (pc' := 90) (lv' := []) (st' := [.inl (0 : Int32)]) (by decide +kernel) rfl rfl ?_
  exact xv_w (sb59_90 E B (0 : Int32) M h hN) rfl
theorem sb59_113 (E : xE G p (xRm 2 (h_sz M' - z0) (h_sl M' - y0)) s m args c prog_4_method_19_code "ZonedFabric$Frame" z0 y0 (h_sz M') (h_sl M') 3) (B : xB ym59 (some FieldType.boolean) meth) (si0 : Int32) (M : hM) {res : xRes} (h : b59_113 si0 M = some res) (hN : xN (fun _ _ _ => False) r M' res) : xV G p l e (xRm 2 (h_sz M' - z0) (h_sl M' - y0)) s m args below meth c z0 y0 (h_sz M') (h_sl M') 3 (MQ below (xQc G r M') args s (h_sz M' - z0) (h_sl M' - y0) (xFr G)) 113 [] [.inl si0] M := by
  unfold b59_113 at h
  by_cases q94 : si0 = 0 ∨ si0 = 1
  · rw [if_pos q94] at h
    obtain rfl := Option.some.inj h
    obtain ⟨rfl, rfl⟩ := Prod.mk.inj (show ((some (.inl si0) : Option aV), M) = (r, M') from hN)
    exact xv_ri E B.1 (by rcases q94 with z | z <;> rw [z] <;> rfl) B.2.1 (show decode prog_4_method_19_code 113 = .ok (.ireturn, 1) by decide +kernel) rfl rfl
  · rw [if_neg q94] at h
    cases h
theorem sb59_112 (E : xE G p (xRm 2 (h_sz M' - z0) (h_sl M' - y0)) s m args c prog_4_method_19_code "ZonedFabric$Frame" z0 y0 (h_sz M') (h_sl M') 3) (B : xB ym59 (some FieldType.boolean) meth)  (M : hM) {res : xRes} (h : b59_112  M = some res) (hN : xN (fun _ _ _ => False) r M' res) : xV G p l e (xRm 2 (h_sz M' - z0) (h_sl M' - y0)) s m args below meth c z0 y0 (h_sz M') (h_sl M') 3 (MQ below (xQc G r M') args s (h_sz M' - z0) (h_sl M' - y0) (xFr G)) 112 [] [] M := by
  unfold b59_112 at h
  refine xv_b E [.iconst 0] (pc' := 113) (lv' := []) (st' := [.inl (0 : Int32)]) (by decide +kernel) rfl rfl ?_
  exact xv_w (sb59_113 E B (0 : Int32) M h hN) rfl
theorem sb59_163 (E : xE G p (xRm 2 (h_sz M' - z0) (h_sl M' - y0)) s m args c prog_4_method_19_code "ZonedFabric$Frame" z0 y0 (h_sz M') (h_sl M') 3) (B : xB ym59 (some FieldType.boolean) meth) (si0 : Int32) (M : hM) {res : xRes} (h : b59_163 si0 M = some res) (hN : xN (fun _ _ _ => False) r M' res) : xV G p l e (xRm 2 (h_sz M' - z0) (h_sl M' - y0)) s m args below meth c z0 y0 (h_sz M') (h_sl M') 3 (MQ below (xQc G r M') args s (h_sz M' - z0) (h_sl M' - y0) (xFr G)) 163 [] [.inl si0] M := by
  unfold b59_163 at h
  by_cases q95 : si0 = 0 ∨ si0 = 1
  · rw [if_pos q95] at h
    obtain rfl := Option.some.inj h
    obtain ⟨rfl, rfl⟩ := Prod.mk.inj (show ((some (.inl si0) : Option aV), M) = (r, M') from hN)
    exact xv_ri E B.1 (by rcases q95 with z | z <;> rw [z] <;> rfl) B.2.1 (show decode prog_4_method_19_code 163 = .ok (.ireturn, 1) by decide +kernel) rfl rfl
  · rw [if_neg q95] at h
    cases h
theorem sb59_158 (E : xE G p (xRm 2 (h_sz M' - z0) (h_sl M' - y0)) s m args c prog_4_method_19_code "ZonedFabric$Frame" z0 y0 (h_sz M') (h_sl M') 3) (B : xB ym59 (some FieldType.boolean) meth)  (M : hM) {res : xRes} (h : b59_158  M = some res) (hN : xN (fun _ _ _ => False) r M' res) : xV G p l e (xRm 2 (h_sz M' - z0) (h_sl M' - y0)) s m args below meth c z0 y0 (h_sz M') (h_sl M') 3 (MQ below (xQc G r M') args s (h_sz M' - z0) (h_sl M' - y0) (xFr G)) 158 [] [] M := by
  unfold b59_158 at h
  refine xv_b E [.iconst 1] (pc' := 159) (lv' := []) (st' := [.inl (1 : Int32)]) (by decide +kernel) rfl rfl ?_
  refine xv_goto E 163 (show decode prog_4_method_19_code 159 = .ok (.goto (4), 3) by decide +kernel) rfl ?_
  exact xv_w (sb59_163 E B (1 : Int32) M h hN) rfl
theorem sb59_162 (E : xE G p (xRm 2 (h_sz M' - z0) (h_sl M' - y0)) s m args c prog_4_method_19_code "ZonedFabric$Frame" z0 y0 (h_sz M') (h_sl M') 3) (B : xB ym59 (some FieldType.boolean) meth)  (M : hM) {res : xRes} (h : b59_162  M = some res) (hN : xN (fun _ _ _ => False) r M' res) : xV G p l e (xRm 2 (h_sz M' - z0) (h_sl M' - y0)) s m args below meth c z0 y0 (h_sz M') (h_sl M') 3 (MQ below (xQc G r M') args s (h_sz M' - z0) (h_sl M' - y0) (xFr G)) 162 [] [] M := by
  unfold b59_162 at h
  refine xv_b E [.iconst 0] (pc' := 163) (lv' := []) (st' := [.inl (0 : Int32)]) (by decide +kernel) rfl rfl ?_
  exact xv_w (sb59_163 E B (0 : Int32) M h hN) rfl
theorem sb59_183 (E : xE G p (xRm 2 (h_sz M' - z0) (h_sl M' - y0)) s m args c prog_4_method_19_code "ZonedFabric$Frame" z0 y0 (h_sz M') (h_sl M') 3) (B : xB ym59 (some FieldType.boolean) meth) (si0 : Int32) (M : hM) {res : xRes} (h : b59_183 si0 M = some res) (hN : xN (fun _ _ _ => False) r M' res) : xV G p l e (xRm 2 (h_sz M' - z0) (h_sl M' - y0)) s m args below meth c z0 y0 (h_sz M') (h_sl M') 3 (MQ below (xQc G r M') args s (h_sz M' - z0) (h_sl M' - y0) (xFr G)) 183 [] [.inl si0] M := by
  unfold b59_183 at h
  by_cases q96 : si0 = 0 ∨ si0 = 1
  · rw [if_pos q96] at h
    obtain rfl := Option.some.inj h
    obtain ⟨rfl, rfl⟩ := Prod.mk.inj (show ((some (.inl si0) : Option aV), M) = (r, M') from hN)
    exact xv_ri E B.1 (by rcases q96 with z | z <;> rw [z] <;> rfl) B.2.1 (show decode prog_4_method_19_code 183 = .ok (.ireturn, 1) by decide +kernel) rfl rfl
  · rw [if_neg q96] at h
    cases h
theorem sb59_182 (E : xE G p (xRm 2 (h_sz M' - z0) (h_sl M' - y0)) s m args c prog_4_method_19_code "ZonedFabric$Frame" z0 y0 (h_sz M') (h_sl M') 3) (B : xB ym59 (some FieldType.boolean) meth)  (M : hM) {res : xRes} (h : b59_182  M = some res) (hN : xN (fun _ _ _ => False) r M' res) : xV G p l e (xRm 2 (h_sz M' - z0) (h_sl M' - y0)) s m args below meth c z0 y0 (h_sz M') (h_sl M') 3 (MQ below (xQc G r M') args s (h_sz M' - z0) (h_sl M' - y0) (xFr G)) 182 [] [] M := by
  unfold b59_182 at h
  refine xv_b E [.iconst 0] (pc' := 183) (lv' := []) (st' := [.inl (0 : Int32)]) (by decide +kernel) rfl rfl ?_
  exact xv_w (sb59_183 E B (0 : Int32) M h hN) rfl
theorem sb59_194 (E : xE G p (xRm 2 (h_sz M' - z0) (h_sl M' - y0)) s m args c prog_4_method_19_code "ZonedFabric$Frame" z0 y0 (h_sz M') (h_sl M') 3) (B : xB ym59 (some FieldType.boolean) meth) (si0 : Int32) (M : hM) {res : xRes} (h : b59_194 si0 M = some res) (hN : xN (fun _ _ _ => False) r M' res) : xV G p l e (xRm 2 (h_sz M' - z0) (h_sl M' - y0)) s m args below meth c z0 y0 (h_sz M') (h_sl M') 3 (MQ below (xQc G r M') args s (h_sz M' - z0) (h_sl M' - y0) (xFr G)) 194 [] [.inl si0] M := by
  unfold b59_194 at h
  by_cases q97 : si0 = 0 ∨ si0 = 1
  · rw [if_pos q97] at h
    obtain rfl := Option.some.inj h
    obtain ⟨rfl, rfl⟩ := Prod.mk.inj (show ((some (.inl si0) : Option aV), M) = (r, M') from hN)
    exact xv_ri E B.1 (by rcases q97 with z | z <;> rw [z] <;> rfl) B.2.1 (show decode prog_4_method_19_code 194 = .ok (.ireturn, 1) by decide +kernel) rfl rfl
  · rw [if_neg q97] at h
    cases h
theorem sb59_206 (E : xE G p (xRm 2 (h_sz M' - z0) (h_sl M' - y0)) s m args c prog_4_method_19_code "ZonedFabric$Frame" z0 y0 (h_sz M') (h_sl M') 3) (B : xB ym59 (some FieldType.boolean) meth) (si0 : Int32) (M : hM) {res : xRes} (h : b59_206 si0 M = some res) (hN : xN (fun _ _ _ => False) r M' res) : xV G p l e (xRm 2 (h_sz M' - z0) (h_sl M' - y0)) s m args below meth c z0 y0 (h_sz M') (h_sl M') 3 (MQ below (xQc G r M') args s (h_sz M' - z0) (h_sl M' - y0) (xFr G)) 206 [] [.inl si0] M := by
  unfold b59_206 at h
  by_cases q98 : si0 = 0 ∨ si0 = 1
  · rw [if_pos q98] at h
    obtain rfl := Option.some.inj h
    obtain ⟨rfl, rfl⟩ := Prod.mk.inj (show ((some (.inl si0) : Option aV), M) = (r, M') from hN)
    exact xv_ri E B.1 (by rcases q98 with z | z <;> rw [z] <;> rfl) B.2.1 (show decode prog_4_method_19_code 206 = .ok (.ireturn, 1) by decide +kernel) rfl rfl
  · rw [if_neg q98] at h
    cases h
theorem sb59_226 (E : xE G p (xRm 2 (h_sz M' - z0) (h_sl M' - y0)) s m args c prog_4_method_19_code "ZonedFabric$Frame" z0 y0 (h_sz M') (h_sl M') 3) (B : xB ym59 (some FieldType.boolean) meth) (si0 : Int32) (M : hM) {res : xRes} (h : b59_226 si0 M = some res) (hN : xN (fun _ _ _ => False) r M' res) : xV G p l e (xRm 2 (h_sz M' - z0) (h_sl M' - y0)) s m args below meth c z0 y0 (h_sz M') (h_sl M') 3 (MQ below (xQc G r M') args s (h_sz M' - z0) (h_sl M' - y0) (xFr G)) 226 [] [.inl si0] M := by
  unfold b59_226 at h
  by_cases q99 : si0 = 0 ∨ si0 = 1
  · rw [if_pos q99] at h
    obtain rfl := Option.some.inj h
    obtain ⟨rfl, rfl⟩ := Prod.mk.inj (show ((some (.inl si0) : Option aV), M) = (r, M') from hN)
    exact xv_ri E B.1 (by rcases q99 with z | z <;> rw [z] <;> rfl) B.2.1 (show decode prog_4_method_19_code 226 = .ok (.ireturn, 1) by decide +kernel) rfl rfl
  · rw [if_neg q99] at h
    cases h
theorem sb59_225 (E : xE G p (xRm 2 (h_sz M' - z0) (h_sl M' - y0)) s m args c prog_4_method_19_code "ZonedFabric$Frame" z0 y0 (h_sz M') (h_sl M') 3) (B : xB ym59 (some FieldType.boolean) meth)  (M : hM) {res : xRes} (h : b59_225  M = some res) (hN : xN (fun _ _ _ => False) r M' res) : xV G p l e (xRm 2 (h_sz M' - z0) (h_sl M' - y0)) s m args below meth c z0 y0 (h_sz M') (h_sl M') 3 (MQ below (xQc G r M') args s (h_sz M' - z0) (h_sl M' - y0) (xFr G)) 225 [] [] M := by
  unfold b59_225 at h
  refine xv_b E [.iconst 0] (pc' := 226) (lv' := []) (st' := [.inl (0 : Int32)]) (by decide +kernel) rfl rfl ?_
  exact xv_w (sb59_226 E B (0 : Int32) M h hN) rfl
theorem sb59_0 (E : xE G p (xRm 2 (h_sz M' - z0) (h_sl M' - y0)) s m args c prog_4_method_19_code "ZonedFabric$Frame" z0 y0 (h_sz M') (h_sl M') 3) (B : xB ym59 (some FieldType.boolean) meth) (a0 : Nat) (v1 : Int32) (o2 : Option Nat) (M : hM) {res : xRes} (h : b59_0 a0 v1 o2 M = some res) (hN : xN (fun _ _ _ => False) r M' res) : xV G p l e (xRm 2 (h_sz M' - z0) (h_sl M' - y0)) s m args below meth c z0 y0 (h_sz M') (h_sl M') 3 (MQ below (xQc G r M') args s (h_sz M' - z0) (h_sl M' - y0) (xFr G)) 0 [(0, .inr (.inr (some a0))), (1, .inl v1), (2, .inr (.inr o2))] [] M := by
  unfold b59_0 at h
  refine xv_b E [.aload_n 0] (pc' := 1) (lv' := [(0, .inr (.inr (some a0))), (1, .inl v1), (2, .inr (.inr o2))]) (st' := [.inr (.inr (some a0))]) (by decide +kernel) rfl rfl ?_
  obtain ⟨b_3, h4, h⟩ := bd h
  obtain ⟨eh4, th4⟩ := g_o_some h4
  obtain ⟨q_1, h2, h⟩ := bd h
  refine xv_cvo E eh4 2 (as := []) (t57 G l (c_I_some h2)) cd57 mw338 mw339 mw340 (show decode prog_4_method_19_code 1 = .ok (.invokevirtual 54, 3) by decide +kernel) th4 rfl rfl (Nat.le_of_ble_eq_true rfl) ⟨Nat.le_of_ble_eq_true rfl, Nat.le_of_ble_eq_true rfl⟩ ?_
  by_cases q5 : q_1.1 = 1
  · rw [if_pos q5] at h
    refine xv_tabIn E (off := 64) 68 (show decode prog_4_method_19_code 4 = .ok (.tableswitch (223) 1 12 #[64, 223, 87, 223, 87, 110, 87, 223, 160, 180, 191, 203], 64) by decide +kernel) (by rw [q5]; decide) (by rw [q5]; decide) (by rw [q5]; rfl) rfl ?_
    refine xv_b E [.iload_n 1, .iconst 1] (pc' := 70) (lv' := [(0, .inr (.inr (some a0))), (1, .inl v1), (2, .inr (.inr o2))]) (st' := [.inl (1 : Int32), .inl v1]) (by decide +kernel) rfl rfl ?_
    by_cases q13 : v1 = (1 : Int32)
    · rw [if_pos q13] at h
      refine xv_icmp_ne E 89 (show decode prog_4_method_19_code 70 = .ok (.if_icmp .ne (19), 3) by decide +kernel) rfl (fun z => absurd q13 z) (fun _ => ?_)
      refine xv_b E [.aload_n 0, .iconst 0] (pc' := 75) (lv' := [(0, .inr (.inr (some a0))), (1, .inl v1), (2, .inr (.inr o2))]) (st' := [.inl (0 : Int32), .inr (.inr (some a0))]) (by decide +kernel) rfl rfl ?_
      obtain ⟨b_8, h9, h⟩ := bd h
      obtain ⟨eh9, th9⟩ := g_o_some h9
      obtain ⟨q_6, h7, h⟩ := bd h
      refine xv_cvo E eh9 2 (as := [.inl (0 : Int32)]) (t58 G l (c_I_some h7)) cd58 mw341 mw342 mw343 (show decode prog_4_method_19_code 75 = .ok (.invokevirtual 65, 3) by decide +kernel) th9 rfl rfl (Nat.le_of_ble_eq_true rfl) ⟨Nat.le_of_ble_eq_true rfl, Nat.le_of_ble_eq_true rfl⟩ ?_
      refine xv_b E [.aload_n 2] (pc' := 79) (lv' := [(0, .inr (.inr (some a0))), (1, .inl v1), (2, .inr (.inr o2))]) (st' := [.inr (.inr o2), .inl q_6.1]) (by decide +kernel) rfl rfl ?_
      obtain ⟨v_10, h11, h⟩ := bd h
      refine xg_i E 9 0 h11 mw344 (show decode prog_4_method_19_code 79 = .ok (.getfield 68, 3) by decide +kernel) ?_
      by_cases q12 : v_10 ≤ q_6.1
      · rw [if_pos q12] at h
        refine xv_icmp_ge E 89 (show decode prog_4_method_19_code 82 = .ok (.if_icmp .ge (7), 3) by decide +kernel) rfl (fun _ => ?_) (fun z => absurd q12 z)
        exact xv_w (sb59_89 E B  q_6.2 h hN) rfl
      · rw [if_neg q12] at h
        refine xv_icmp_ge E 89 (show decode prog_4_method_19_code 82 = .ok (.if_icmp .ge (7), 3) by decide +kernel) rfl (fun z => absurd z q12) (fun _ => ?_)
        refine xv_b E [.iconst 1] (pc' := 86) (lv' := [(0, .inr (.inr (some a0))), (1, .inl v1), (2, .inr (.inr o2))]) (st' := [.inl (1 : Int32)]) (by decide +kernel) rfl rfl ?_
        refine xv_goto E 90 (show decode prog_4_method_19_code 86 = .ok (.goto (4), 3) by decide +kernel) rfl ?_
        exact xv_w (sb59_90 E B (1 : Int32) q_6.2 h hN) rfl
    · rw [if_neg q13] at h
      refine xv_icmp_ne E 89 (show decode prog_4_method_19_code 70 = .ok (.if_icmp .ne (19), 3) by decide +kernel) rfl (fun _ => ?_) (fun z => absurd z q13)
      exact xv_w (sb59_89 E B  q_1.2 h hN) rfl
  · rw [if_neg q5] at h
    by_cases q14 : q_1.1 = 2
    · rw [if_pos q14] at h
      refine xv_tabIn E (off := 223) 227 (show decode prog_4_method_19_code 4 = .ok (.tableswitch (223) 1 12 #[64, 223, 87, 223, 87, 110, 87, 223, 160, 180, 191, 203], 64) by decide +kernel) (by rw [q14]; decide) (by rw [q14]; decide) (by rw [q14]; rfl) rfl ?_
      refine xv_b E [.iconst 1] (pc' := 228) (lv' := [(0, .inr (.inr (some a0))), (1, .inl v1), (2, .inr (.inr o2))]) (st' := [.inl (1 : Int32)]) (by decide +kernel) rfl rfl ?_
      obtain rfl := Option.some.inj h
      obtain ⟨rfl, rfl⟩ := Prod.mk.inj (show ((some (.inl (1 : Int32)) : Option aV), q_1.2) = (r, M') from hN)
      exact xv_ri E B.1 rfl B.2.1 (show decode prog_4_method_19_code 228 = .ok (.ireturn, 1) by decide +kernel) rfl rfl
    · rw [if_neg q14] at h
      by_cases q15 : q_1.1 = 3
      · rw [if_pos q15] at h
        refine xv_tabIn E (off := 87) 91 (show decode prog_4_method_19_code 4 = .ok (.tableswitch (223) 1 12 #[64, 223, 87, 223, 87, 110, 87, 223, 160, 180, 191, 203], 64) by decide +kernel) (by rw [q15]; decide) (by rw [q15]; decide) (by rw [q15]; rfl) rfl ?_
        refine xv_b E [.iload_n 1, .iconst 1] (pc' := 93) (lv' := [(0, .inr (.inr (some a0))), (1, .inl v1), (2, .inr (.inr o2))]) (st' := [.inl (1 : Int32), .inl v1]) (by decide +kernel) rfl rfl ?_
        by_cases q25 : v1 = (1 : Int32)
        · rw [if_pos q25] at h
          refine xv_icmp_ne E 112 (show decode prog_4_method_19_code 93 = .ok (.if_icmp .ne (19), 3) by decide +kernel) rfl (fun z => absurd q25 z) (fun _ => ?_)
          refine xv_b E [.aload_n 2, .aload_n 0, .iconst 0] (pc' := 99) (lv' := [(0, .inr (.inr (some a0))), (1, .inl v1), (2, .inr (.inr o2))]) (st' := [.inl (0 : Int32), .inr (.inr (some a0)), .inr (.inr o2)]) (by decide +kernel) rfl rfl ?_
          obtain ⟨b_18, h19, h⟩ := bd h
          obtain ⟨eh19, th19⟩ := g_o_some h19
          obtain ⟨q_16, h17, h⟩ := bd h
          refine xv_cvo E eh19 2 (as := [.inl (0 : Int32)]) (t58 G l (c_I_some h17)) cd58 mw341 mw342 mw343 (show decode prog_4_method_19_code 99 = .ok (.invokevirtual 65, 3) by decide +kernel) th19 rfl rfl (Nat.le_of_ble_eq_true rfl) ⟨Nat.le_of_ble_eq_true rfl, Nat.le_of_ble_eq_true rfl⟩ ?_
          obtain ⟨b_22, h23, h⟩ := bd h
          obtain ⟨eh23, th23⟩ := g_o_some h23
          obtain ⟨q_20, h21, h⟩ := bd h
          refine xv_cvo E eh23 9 (as := [.inl q_16.1]) (t8 G l (c_I_some h21)) cd8 mw345 mw117 mw118 (show decode prog_4_method_19_code 102 = .ok (.invokevirtual 73, 3) by decide +kernel) th23 rfl rfl (Nat.le_of_ble_eq_true rfl) ⟨Nat.le_of_ble_eq_true rfl, Nat.le_of_ble_eq_true rfl⟩ ?_
          by_cases q24 : q_20.1 = 0
          · rw [if_pos q24] at h
            refine xv_if_eq E 112 (show decode prog_4_method_19_code 105 = .ok (.ifCond .eq (7), 3) by decide +kernel) rfl (fun _ => ?_) (fun z => absurd q24 z)
            exact xv_w (sb59_112 E B  q_20.2 h hN) rfl
          · rw [if_neg q24] at h
            refine xv_if_eq E 112 (show decode prog_4_method_19_code 105 = .ok (.ifCond .eq (7), 3) by decide +kernel) rfl (fun z => absurd z q24) (fun _ => ?_)
            refine xv_b E [.iconst 1] (pc' := 109) (lv' := [(0, .inr (.inr (some a0))), (1, .inl v1), (2, .inr (.inr o2))]) (st' := [.inl (1 : Int32)]) (by decide +kernel) rfl rfl ?_
            refine xv_goto E 113 (show decode prog_4_method_19_code 109 = .ok (.goto (4), 3) by decide +kernel) rfl ?_
            exact xv_w (sb59_113 E B (1 : Int32) q_20.2 h hN) rfl
        · rw [if_neg q25] at h
          refine xv_icmp_ne E 112 (show decode prog_4_method_19_code 93 = .ok (.if_icmp .ne (19), 3) by decide +kernel) rfl (fun _ => ?_) (fun z => absurd z q25)
          exact xv_w (sb59_112 E B  q_1.2 h hN) rfl
      · rw [if_neg q15] at h
        by_cases q26 : q_1.1 = 4
        · rw [if_pos q26] at h
          refine xv_tabIn E (off := 223) 227 (show decode prog_4_method_19_code 4 = .ok (.tableswitch (223) 1 12 #[64, 223, 87, 223, 87, 110, 87, 223, 160, 180, 191, 203], 64) by decide +kernel) (by rw [q26]; decide) (by rw [q26]; decide) (by rw [q26]; rfl) rfl ?_
          refine xv_b E [.iconst 1] (pc' := 228) (lv' := [(0, .inr (.inr (some a0))), (1, .inl v1), (2, .inr (.inr o2))]) (st' := [.inl (1 : Int32)]) (by decide +kernel) rfl rfl ?_
          obtain rfl := Option.some.inj h
          obtain ⟨rfl, rfl⟩ := Prod.mk.inj (show ((some (.inl (1 : Int32)) : Option aV), q_1.2) = (r, M') from hN)
          exact xv_ri E B.1 rfl B.2.1 (show decode prog_4_method_19_code 228 = .ok (.ireturn, 1) by decide +kernel) rfl rfl
        · rw [if_neg q26] at h
          by_cases q27 : q_1.1 = 5
          · rw [if_pos q27] at h
            refine xv_tabIn E (off := 87) 91 (show decode prog_4_method_19_code 4 = .ok (.tableswitch (223) 1 12 #[64, 223, 87, 223, 87, 110, 87, 223, 160, 180, 191, 203], 64) by decide +kernel) (by rw [q27]; decide) (by rw [q27]; decide) (by rw [q27]; rfl) rfl ?_
            refine xv_b E [.iload_n 1, .iconst 1] (pc' := 93) (lv' := [(0, .inr (.inr (some a0))), (1, .inl v1), (2, .inr (.inr o2))]) (st' := [.inl (1 : Int32), .inl v1]) (by decide +kernel) rfl rfl ?_
            by_cases q37 : v1 = (1 : Int32)
            · rw [if_pos q37] at h
              refine xv_icmp_ne E 112 (show decode prog_4_method_19_code 93 = .ok (.if_icmp .ne (19), 3) by decide +kernel) rfl (fun z => absurd q37 z) (fun _ => ?_)
              refine xv_b E [.aload_n 2, .aload_n 0, .iconst 0] (pc' := 99) (lv' := [(0, .inr (.inr (some a0))), (1, .inl v1), (2, .inr (.inr o2))]) (st' := [.inl (0 : Int32), .inr (.inr (some a0)), .inr (.inr o2)]) (by decide +kernel) rfl rfl ?_
              obtain ⟨b_30, h31, h⟩ := bd h
              obtain ⟨eh31, th31⟩ := g_o_some h31
              obtain ⟨q_28, h29, h⟩ := bd h
              refine xv_cvo E eh31 2 (as := [.inl (0 : Int32)]) (t58 G l (c_I_some h29)) cd58 mw341 mw342 mw343 (show decode prog_4_method_19_code 99 = .ok (.invokevirtual 65, 3) by decide +kernel) th31 rfl rfl (Nat.le_of_ble_eq_true rfl) ⟨Nat.le_of_ble_eq_true rfl, Nat.le_of_ble_eq_true rfl⟩ ?_
              obtain ⟨b_34, h35, h⟩ := bd h
              obtain ⟨eh35, th35⟩ := g_o_some h35
              obtain ⟨q_32, h33, h⟩ := bd h
              refine xv_cvo E eh35 9 (as := [.inl q_28.1]) (t8 G l (c_I_some h33)) cd8 mw345 mw117 mw118 (show decode prog_4_method_19_code 102 = .ok (.invokevirtual 73, 3) by decide +kernel) th35 rfl rfl (Nat.le_of_ble_eq_true rfl) ⟨Nat.le_of_ble_eq_true rfl, Nat.le_of_ble_eq_true rfl⟩ ?_
              by_cases q36 : q_32.1 = 0
              · rw [if_pos q36] at h
                refine xv_if_eq E 112 (show decode prog_4_method_19_code 105 = .ok (.ifCond .eq (7), 3) by decide +kernel) rfl (fun _ => ?_) (fun z => absurd q36 z)
                exact xv_w (sb59_112 E B  q_32.2 h hN) rfl
              · rw [if_neg q36] at h
                refine xv_if_eq E 112 (show decode prog_4_method_19_code 105 = .ok (.ifCond .eq (7), 3) by decide +kernel) rfl (fun z => absurd z q36) (fun _ => ?_)
                refine xv_b E [.iconst 1] (pc' := 109) (lv' := [(0, .inr (.inr (some a0))), (1, .inl v1), (2, .inr (.inr o2))]) (st' := [.inl (1 : Int32)]) (by decide +kernel) rfl rfl ?_
                refine xv_goto E 113 (show decode prog_4_method_19_code 109 = .ok (.goto (4), 3) by decide +kernel) rfl ?_
                exact xv_w (sb59_113 E B (1 : Int32) q_32.2 h hN) rfl
            · rw [if_neg q37] at h
              refine xv_icmp_ne E 112 (show decode prog_4_method_19_code 93 = .ok (.if_icmp .ne (19), 3) by decide +kernel) rfl (fun _ => ?_) (fun z => absurd z q37)
              exact xv_w (sb59_112 E B  q_1.2 h hN) rfl
          · rw [if_neg q27] at h
            by_cases q38 : q_1.1 = 6
            · rw [if_pos q38] at h
              refine xv_tabIn E (off := 110) 114 (show decode prog_4_method_19_code 4 = .ok (.tableswitch (223) 1 12 #[64, 223, 87, 223, 87, 110, 87, 223, 160, 180, 191, 203], 64) by decide +kernel) (by rw [q38]; decide) (by rw [q38]; decide) (by rw [q38]; rfl) rfl ?_
              refine xv_b E [.iload_n 1, .iconst 4] (pc' := 116) (lv' := [(0, .inr (.inr (some a0))), (1, .inl v1), (2, .inr (.inr o2))]) (st' := [.inl (4 : Int32), .inl v1]) (by decide +kernel) rfl rfl ?_
              by_cases q62 : v1 = (4 : Int32)
              · rw [if_pos q62] at h
                refine xv_icmp_ne E 162 (show decode prog_4_method_19_code 116 = .ok (.if_icmp .ne (46), 3) by decide +kernel) rfl (fun z => absurd q62 z) (fun _ => ?_)
                refine xv_b E [.aload_n 2, .aload_n 0, .iconst 0] (pc' := 122) (lv' := [(0, .inr (.inr (some a0))), (1, .inl v1), (2, .inr (.inr o2))]) (st' := [.inl (0 : Int32), .inr (.inr (some a0)), .inr (.inr o2)]) (by decide +kernel) rfl rfl ?_
                obtain ⟨b_41, h42, h⟩ := bd h
                obtain ⟨eh42, th42⟩ := g_o_some h42
                obtain ⟨q_39, h40, h⟩ := bd h
                refine xv_cvo E eh42 2 (as := [.inl (0 : Int32)]) (t58 G l (c_I_some h40)) cd58 mw341 mw342 mw343 (show decode prog_4_method_19_code 122 = .ok (.invokevirtual 65, 3) by decide +kernel) th42 rfl rfl (Nat.le_of_ble_eq_true rfl) ⟨Nat.le_of_ble_eq_true rfl, Nat.le_of_ble_eq_true rfl⟩ ?_
                obtain ⟨b_45, h46, h⟩ := bd h
                obtain ⟨eh46, th46⟩ := g_o_some h46
                obtain ⟨q_43, h44, h⟩ := bd h
                refine xv_cvo E eh46 9 (as := [.inl q_39.1]) (t8 G l (c_I_some h44)) cd8 mw345 mw117 mw118 (show decode prog_4_method_19_code 125 = .ok (.invokevirtual 73, 3) by decide +kernel) th46 rfl rfl (Nat.le_of_ble_eq_true rfl) ⟨Nat.le_of_ble_eq_true rfl, Nat.le_of_ble_eq_true rfl⟩ ?_
                by_cases q61 : q_43.1 = 0
                · rw [if_pos q61] at h
                  refine xv_if_eq E 162 (show decode prog_4_method_19_code 128 = .ok (.ifCond .eq (34), 3) by decide +kernel) rfl (fun _ => ?_) (fun z => absurd q61 z)
                  exact xv_w (sb59_162 E B  q_43.2 h hN) rfl
                · rw [if_neg q61] at h
                  refine xv_if_eq E 162 (show decode prog_4_method_19_code 128 = .ok (.ifCond .eq (34), 3) by decide +kernel) rfl (fun z => absurd z q61) (fun _ => ?_)
                  refine xv_b E [.aload_n 0, .bipush 14, .iconst 3] (pc' := 135) (lv' := [(0, .inr (.inr (some a0))), (1, .inl v1), (2, .inr (.inr o2))]) (st' := [.inl (3 : Int32), .inl (14 : Int32), .inr (.inr (some a0))]) (by decide +kernel) rfl rfl ?_
                  obtain ⟨b_49, h50, h⟩ := bd h
                  obtain ⟨eh50, th50⟩ := g_o_some h50
                  obtain ⟨q_47, h48, h⟩ := bd h
                  refine xv_cvo E eh50 2 (as := [.inl (14 : Int32), .inl (3 : Int32)]) (t56 G l (c_L_some h48)) cd56 mw346 mw347 mw348 (show decode prog_4_method_19_code 135 = .ok (.invokevirtual 50, 3) by decide +kernel) th50 rfl rfl (Nat.le_of_ble_eq_true rfl) ⟨Nat.le_of_ble_eq_true rfl, Nat.le_of_ble_eq_true rfl⟩ ?_
                  refine xv_b E [.lconst 0] (pc' := 139) (lv' := [(0, .inr (.inr (some a0))), (1, .inl v1), (2, .inr (.inr o2))]) (st' := [.inr (.inl (0 : Int64)), .inr (.inl q_47.1)]) (by decide +kernel) rfl rfl ?_
                  refine xv_lcmp E (show decode prog_4_method_19_code 139 = .ok (.lcmp, 1) by decide +kernel) ?_
                  by_cases q60 : (lg_cmp q_47.1 (0 : Int64)) = 0
                  · rw [if_pos q60] at h
                    refine xv_if_eq E 158 (show decode prog_4_method_19_code 140 = .ok (.ifCond .eq (18), 3) by decide +kernel) rfl (fun _ => ?_) (fun z => absurd q60 z)
                    exact xv_w (sb59_158 E B  q_47.2 h hN) rfl
                  · rw [if_neg q60] at h
                    refine xv_if_eq E 158 (show decode prog_4_method_19_code 140 = .ok (.ifCond .eq (18), 3) by decide +kernel) rfl (fun z => absurd z q60) (fun _ => ?_)
                    refine xv_b E [.aload_n 0, .iconst 3] (pc' := 145) (lv' := [(0, .inr (.inr (some a0))), (1, .inl v1), (2, .inr (.inr o2))]) (st' := [.inl (3 : Int32), .inr (.inr (some a0))]) (by decide +kernel) rfl rfl ?_
                    obtain ⟨b_53, h54, h⟩ := bd h
                    obtain ⟨eh54, th54⟩ := g_o_some h54
                    obtain ⟨q_51, h52, h⟩ := bd h
                    refine xv_cvo E eh54 2 (as := [.inl (3 : Int32)]) (t58 G l (c_I_some h52)) cd58 mw341 mw342 mw343 (show decode prog_4_method_19_code 145 = .ok (.invokevirtual 65, 3) by decide +kernel) th54 rfl rfl (Nat.le_of_ble_eq_true rfl) ⟨Nat.le_of_ble_eq_true rfl, Nat.le_of_ble_eq_true rfl⟩ ?_
                    refine xv_b E [.aload_n 0, .iconst 0] (pc' := 150) (lv' := [(0, .inr (.inr (some a0))), (1, .inl v1), (2, .inr (.inr o2))]) (st' := [.inl (0 : Int32), .inr (.inr (some a0)), .inl q_51.1]) (by decide +kernel) rfl rfl ?_
                    obtain ⟨b_57, h58, h⟩ := bd h
                    obtain ⟨eh58, th58⟩ := g_o_some h58
                    obtain ⟨q_55, h56, h⟩ := bd h
                    refine xv_cvo E eh58 2 (as := [.inl (0 : Int32)]) (t58 G l (c_I_some h56)) cd58 mw341 mw342 mw343 (show decode prog_4_method_19_code 150 = .ok (.invokevirtual 65, 3) by decide +kernel) th58 rfl rfl (Nat.le_of_ble_eq_true rfl) ⟨Nat.le_of_ble_eq_true rfl, Nat.le_of_ble_eq_true rfl⟩ ?_
                    refine xv_b E [.iconst 1, .iadd] (pc' := 155) (lv' := [(0, .inr (.inr (some a0))), (1, .inl v1), (2, .inr (.inr o2))]) (st' := [.inl (q_55.1 + (1 : Int32)), .inl q_51.1]) (by decide +kernel) rfl rfl ?_
                    by_cases q59 : q_51.1 = (q_55.1 + (1 : Int32))
                    · rw [if_pos q59] at h
                      refine xv_icmp_ne E 162 (show decode prog_4_method_19_code 155 = .ok (.if_icmp .ne (7), 3) by decide +kernel) rfl (fun z => absurd q59 z) (fun _ => ?_)
                      exact xv_w (sb59_158 E B  q_55.2 h hN) rfl
                    · rw [if_neg q59] at h
                      refine xv_icmp_ne E 162 (show decode prog_4_method_19_code 155 = .ok (.if_icmp .ne (7), 3) by decide +kernel) rfl (fun _ => ?_) (fun z => absurd z q59)
                      exact xv_w (sb59_162 E B  q_55.2 h hN) rfl
              · rw [if_neg q62] at h
                refine xv_icmp_ne E 162 (show decode prog_4_method_19_code 116 = .ok (.if_icmp .ne (46), 3) by decide +kernel) rfl (fun _ => ?_) (fun z => absurd z q62)
                exact xv_w (sb59_162 E B  q_1.2 h hN) rfl
            · rw [if_neg q38] at h
              by_cases q63 : q_1.1 = 7
              · rw [if_pos q63] at h
                refine xv_tabIn E (off := 87) 91 (show decode prog_4_method_19_code 4 = .ok (.tableswitch (223) 1 12 #[64, 223, 87, 223, 87, 110, 87, 223, 160, 180, 191, 203], 64) by decide +kernel) (by rw [q63]; decide) (by rw [q63]; decide) (by rw [q63]; rfl) rfl ?_
                refine xv_b E [.iload_n 1, .iconst 1] (pc' := 93) (lv' := [(0, .inr (.inr (some a0))), (1, .inl v1), (2, .inr (.inr o2))]) (st' := [.inl (1 : Int32), .inl v1]) (by decide +kernel) rfl rfl ?_
                by_cases q73 : v1 = (1 : Int32)
                · rw [if_pos q73] at h
                  refine xv_icmp_ne E 112 (show decode prog_4_method_19_code 93 = .ok (.if_icmp .ne (19), 3) by decide +kernel) rfl (fun z => absurd q73 z) (fun _ => ?_)
                  refine xv_b E [.aload_n 2, .aload_n 0, .iconst 0] (pc' := 99) (lv' := [(0, .inr (.inr (some a0))), (1, .inl v1), (2, .inr (.inr o2))]) (st' := [.inl (0 : Int32), .inr (.inr (some a0)), .inr (.inr o2)]) (by decide +kernel) rfl rfl ?_
                  obtain ⟨b_66, h67, h⟩ := bd h
                  obtain ⟨eh67, th67⟩ := g_o_some h67
                  obtain ⟨q_64, h65, h⟩ := bd h
                  refine xv_cvo E eh67 2 (as := [.inl (0 : Int32)]) (t58 G l (c_I_some h65)) cd58 mw341 mw342 mw343 (show decode prog_4_method_19_code 99 = .ok (.invokevirtual 65, 3) by decide +kernel) th67 rfl rfl (Nat.le_of_ble_eq_true rfl) ⟨Nat.le_of_ble_eq_true rfl, Nat.le_of_ble_eq_true rfl⟩ ?_
                  obtain ⟨b_70, h71, h⟩ := bd h
                  obtain ⟨eh71, th71⟩ := g_o_some h71
                  obtain ⟨q_68, h69, h⟩ := bd h
                  refine xv_cvo E eh71 9 (as := [.inl q_64.1]) (t8 G l (c_I_some h69)) cd8 mw345 mw117 mw118 (show decode prog_4_method_19_code 102 = .ok (.invokevirtual 73, 3) by decide +kernel) th71 rfl rfl (Nat.le_of_ble_eq_true rfl) ⟨Nat.le_of_ble_eq_true rfl, Nat.le_of_ble_eq_true rfl⟩ ?_
                  by_cases q72 : q_68.1 = 0
                  · rw [if_pos q72] at h
                    refine xv_if_eq E 112 (show decode prog_4_method_19_code 105 = .ok (.ifCond .eq (7), 3) by decide +kernel) rfl (fun _ => ?_) (fun z => absurd q72 z)
                    exact xv_w (sb59_112 E B  q_68.2 h hN) rfl
                  · rw [if_neg q72] at h
                    refine xv_if_eq E 112 (show decode prog_4_method_19_code 105 = .ok (.ifCond .eq (7), 3) by decide +kernel) rfl (fun z => absurd z q72) (fun _ => ?_)
                    refine xv_b E [.iconst 1] (pc' := 109) (lv' := [(0, .inr (.inr (some a0))), (1, .inl v1), (2, .inr (.inr o2))]) (st' := [.inl (1 : Int32)]) (by decide +kernel) rfl rfl ?_
                    refine xv_goto E 113 (show decode prog_4_method_19_code 109 = .ok (.goto (4), 3) by decide +kernel) rfl ?_
                    exact xv_w (sb59_113 E B (1 : Int32) q_68.2 h hN) rfl
                · rw [if_neg q73] at h
                  refine xv_icmp_ne E 112 (show decode prog_4_method_19_code 93 = .ok (.if_icmp .ne (19), 3) by decide +kernel) rfl (fun _ => ?_) (fun z => absurd z q73)
                  exact xv_w (sb59_112 E B  q_1.2 h hN) rfl
              · rw [if_neg q63] at h
                by_cases q74 : q_1.1 = 8
                · rw [if_pos q74] at h
                  refine xv_tabIn E (off := 223) 227 (show decode prog_4_method_19_code 4 = .ok (.tableswitch (223) 1 12 #[64, 223, 87, 223, 87, 110, 87, 223, 160, 180, 191, 203], 64) by decide +kernel) (by rw [q74]; decide) (by rw [q74]; decide) (by rw [q74]; rfl) rfl ?_
                  refine xv_b E [.iconst 1] (pc' := 228) (lv' := [(0, .inr (.inr (some a0))), (1, .inl v1), (2, .inr (.inr o2))]) (st' := [.inl (1 : Int32)]) (by decide +kernel) rfl rfl ?_
                  obtain rfl := Option.some.inj h
                  obtain ⟨rfl, rfl⟩ := Prod.mk.inj (show ((some (.inl (1 : Int32)) : Option aV), q_1.2) = (r, M') from hN)
                  exact xv_ri E B.1 rfl B.2.1 (show decode prog_4_method_19_code 228 = .ok (.ireturn, 1) by decide +kernel) rfl rfl
                · rw [if_neg q74] at h
                  by_cases q75 : q_1.1 = 9
                  · rw [if_pos q75] at h
                    refine xv_tabIn E (off := 160) 164 (show decode prog_4_method_19_code 4 = .ok (.tableswitch (223) 1 12 #[64, 223, 87, 223, 87, 110, 87, 223, 160, 180, 191, 203], 64) by decide +kernel) (by rw [q75]; decide) (by rw [q75]; decide) (by rw [q75]; rfl) rfl ?_
                    refine xv_b E [.iload_n 1, .iconst 4] (pc' := 166) (lv' := [(0, .inr (.inr (some a0))), (1, .inl v1), (2, .inr (.inr o2))]) (st' := [.inl (4 : Int32), .inl v1]) (by decide +kernel) rfl rfl ?_
                    by_cases q81 : v1 = (4 : Int32)
                    · rw [if_pos q81] at h
                      refine xv_icmp_ne E 182 (show decode prog_4_method_19_code 166 = .ok (.if_icmp .ne (16), 3) by decide +kernel) rfl (fun z => absurd q81 z) (fun _ => ?_)
                      refine xv_b E [.aload_n 0, .iconst 1] (pc' := 171) (lv' := [(0, .inr (.inr (some a0))), (1, .inl v1), (2, .inr (.inr o2))]) (st' := [.inl (1 : Int32), .inr (.inr (some a0))]) (by decide +kernel) rfl rfl ?_
                      obtain ⟨b_78, h79, h⟩ := bd h
                      obtain ⟨eh79, th79⟩ := g_o_some h79
                      obtain ⟨q_76, h77, h⟩ := bd h
                      refine xv_cvo E eh79 2 (as := [.inl (1 : Int32)]) (t58 G l (c_I_some h77)) cd58 mw341 mw342 mw343 (show decode prog_4_method_19_code 171 = .ok (.invokevirtual 65, 3) by decide +kernel) th79 rfl rfl (Nat.le_of_ble_eq_true rfl) ⟨Nat.le_of_ble_eq_true rfl, Nat.le_of_ble_eq_true rfl⟩ ?_
                      refine xv_b E [.iconst 1] (pc' := 175) (lv' := [(0, .inr (.inr (some a0))), (1, .inl v1), (2, .inr (.inr o2))]) (st' := [.inl (1 : Int32), .inl q_76.1]) (by decide +kernel) rfl rfl ?_
                      by_cases q80 : (1 : Int32) < q_76.1
                      · rw [if_pos q80] at h
                        refine xv_icmp_gt E 182 (show decode prog_4_method_19_code 175 = .ok (.if_icmp .gt (7), 3) by decide +kernel) rfl (fun _ => ?_) (fun z => absurd q80 z)
                        exact xv_w (sb59_182 E B  q_76.2 h hN) rfl
                      · rw [if_neg q80] at h
                        refine xv_icmp_gt E 182 (show decode prog_4_method_19_code 175 = .ok (.if_icmp .gt (7), 3) by decide +kernel) rfl (fun z => absurd z q80) (fun _ => ?_)
                        refine xv_b E [.iconst 1] (pc' := 179) (lv' := [(0, .inr (.inr (some a0))), (1, .inl v1), (2, .inr (.inr o2))]) (st' := [.inl (1 : Int32)]) (by decide +kernel) rfl rfl ?_
                        refine xv_goto E 183 (show decode prog_4_method_19_code 179 = .ok (.goto (4), 3) by decide +kernel) rfl ?_
                        exact xv_w (sb59_183 E B (1 : Int32) q_76.2 h hN) rfl
                    · rw [if_neg q81] at h
                      refine xv_icmp_ne E 182 (show decode prog_4_method_19_code 166 = .ok (.if_icmp .ne (16), 3) by decide +kernel) rfl (fun _ => ?_) (fun z => absurd z q81)
                      exact xv_w (sb59_182 E B  q_1.2 h hN) rfl
                  · rw [if_neg q75] at h
                    by_cases q82 : q_1.1 = 10
                    · rw [if_pos q82] at h
                      refine xv_tabIn E (off := 180) 184 (show decode prog_4_method_19_code 4 = .ok (.tableswitch (223) 1 12 #[64, 223, 87, 223, 87, 110, 87, 223, 160, 180, 191, 203], 64) by decide +kernel) (by rw [q82]; decide) (by rw [q82]; decide) (by rw [q82]; rfl) rfl ?_
                      refine xv_b E [.iload_n 1, .iconst 1] (pc' := 186) (lv' := [(0, .inr (.inr (some a0))), (1, .inl v1), (2, .inr (.inr o2))]) (st' := [.inl (1 : Int32), .inl v1]) (by decide +kernel) rfl rfl ?_
                      by_cases q83 : v1 = (1 : Int32)
                      · rw [if_pos q83] at h
                        refine xv_icmp_ne E 193 (show decode prog_4_method_19_code 186 = .ok (.if_icmp .ne (7), 3) by decide +kernel) rfl (fun z => absurd q83 z) (fun _ => ?_)
                        refine xv_b E [.iconst 1] (pc' := 190) (lv' := [(0, .inr (.inr (some a0))), (1, .inl v1), (2, .inr (.inr o2))]) (st' := [.inl (1 : Int32)]) (by decide +kernel) rfl rfl ?_
                        refine xv_goto E 194 (show decode prog_4_method_19_code 190 = .ok (.goto (4), 3) by decide +kernel) rfl ?_
                        exact xv_w (sb59_194 E B (1 : Int32) q_1.2 h hN) rfl
                      · rw [if_neg q83] at h
                        refine xv_icmp_ne E 193 (show decode prog_4_method_19_code 186 = .ok (.if_icmp .ne (7), 3) by decide +kernel) rfl (fun _ => ?_) (fun z => absurd z q83)
                        refine xv_b E [.iconst 0] (pc' := 194) (lv' := [(0, .inr (.inr (some a0))), (1, .inl v1), (2, .inr (.inr o2))]) (st' := [.inl (0 : Int32)]) (by decide +kernel) rfl rfl ?_
                        exact xv_w (sb59_194 E B (0 : Int32) q_1.2 h hN) rfl
                    · rw [if_neg q82] at h
                      by_cases q84 : q_1.1 = 11
                      · rw [if_pos q84] at h
                        refine xv_tabIn E (off := 191) 195 (show decode prog_4_method_19_code 4 = .ok (.tableswitch (223) 1 12 #[64, 223, 87, 223, 87, 110, 87, 223, 160, 180, 191, 203], 64) by decide +kernel) (by rw [q84]; decide) (by rw [q84]; decide) (by rw [q84]; rfl) rfl ?_
                        refine xv_b E [.iload_n 1, .bipush 8] (pc' := 198) (lv' := [(0, .inr (.inr (some a0))), (1, .inl v1), (2, .inr (.inr o2))]) (st' := [.inl (8 : Int32), .inl v1]) (by decide +kernel) rfl rfl ?_
                        by_cases q85 : v1 = (8 : Int32)
                        · rw [if_pos q85] at h
                          refine xv_icmp_ne E 205 (show decode prog_4_method_19_code 198 = .ok (.if_icmp .ne (7), 3) by decide +kernel) rfl (fun z => absurd q85 z) (fun _ => ?_)
                          refine xv_b E [.iconst 1] (pc' := 202) (lv' := [(0, .inr (.inr (some a0))), (1, .inl v1), (2, .inr (.inr o2))]) (st' := [.inl (1 : Int32)]) (by decide +kernel) rfl rfl ?_
                          refine xv_goto E 206 (show decode prog_4_method_19_code 202 = .ok (.goto (4), 3) by decide +kernel) rfl ?_
                          exact xv_w (sb59_206 E B (1 : Int32) q_1.2 h hN) rfl
                        · rw [if_neg q85] at h
                          refine xv_icmp_ne E 205 (show decode prog_4_method_19_code 198 = .ok (.if_icmp .ne (7), 3) by decide +kernel) rfl (fun _ => ?_) (fun z => absurd z q85)
                          refine xv_b E [.iconst 0] (pc' := 206) (lv' := [(0, .inr (.inr (some a0))), (1, .inl v1), (2, .inr (.inr o2))]) (st' := [.inl (0 : Int32)]) (by decide +kernel) rfl rfl ?_
                          exact xv_w (sb59_206 E B (0 : Int32) q_1.2 h hN) rfl
                      · rw [if_neg q84] at h
                        by_cases q86 : q_1.1 = 12
                        · rw [if_pos q86] at h
                          refine xv_tabIn E (off := 203) 207 (show decode prog_4_method_19_code 4 = .ok (.tableswitch (223) 1 12 #[64, 223, 87, 223, 87, 110, 87, 223, 160, 180, 191, 203], 64) by decide +kernel) (by rw [q86]; decide) (by rw [q86]; decide) (by rw [q86]; rfl) rfl ?_
                          refine xv_b E [.iload_n 1, .iconst 1] (pc' := 209) (lv' := [(0, .inr (.inr (some a0))), (1, .inl v1), (2, .inr (.inr o2))]) (st' := [.inl (1 : Int32), .inl v1]) (by decide +kernel) rfl rfl ?_
                          by_cases q92 : v1 = (1 : Int32)
                          · rw [if_pos q92] at h
                            refine xv_icmp_ne E 225 (show decode prog_4_method_19_code 209 = .ok (.if_icmp .ne (16), 3) by decide +kernel) rfl (fun z => absurd q92 z) (fun _ => ?_)
                            refine xv_b E [.aload_n 0, .iconst 0] (pc' := 214) (lv' := [(0, .inr (.inr (some a0))), (1, .inl v1), (2, .inr (.inr o2))]) (st' := [.inl (0 : Int32), .inr (.inr (some a0))]) (by decide +kernel) rfl rfl ?_
                            obtain ⟨b_89, h90, h⟩ := bd h
                            obtain ⟨eh90, th90⟩ := g_o_some h90
                            obtain ⟨q_87, h88, h⟩ := bd h
                            refine xv_cvo E eh90 2 (as := [.inl (0 : Int32)]) (t58 G l (c_I_some h88)) cd58 mw341 mw342 mw343 (show decode prog_4_method_19_code 214 = .ok (.invokevirtual 65, 3) by decide +kernel) th90 rfl rfl (Nat.le_of_ble_eq_true rfl) ⟨Nat.le_of_ble_eq_true rfl, Nat.le_of_ble_eq_true rfl⟩ ?_
                            refine xv_b E [.iconst 1] (pc' := 218) (lv' := [(0, .inr (.inr (some a0))), (1, .inl v1), (2, .inr (.inr o2))]) (st' := [.inl (1 : Int32), .inl q_87.1]) (by decide +kernel) rfl rfl ?_
                            by_cases q91 : (1 : Int32) < q_87.1
                            · rw [if_pos q91] at h
                              refine xv_icmp_gt E 225 (show decode prog_4_method_19_code 218 = .ok (.if_icmp .gt (7), 3) by decide +kernel) rfl (fun _ => ?_) (fun z => absurd q91 z)
                              exact xv_w (sb59_225 E B  q_87.2 h hN) rfl
                            · rw [if_neg q91] at h
                              refine xv_icmp_gt E 225 (show decode prog_4_method_19_code 218 = .ok (.if_icmp .gt (7), 3) by decide +kernel) rfl (fun z => absurd z q91) (fun _ => ?_)
                              refine xv_b E [.iconst 1] (pc' := 222) (lv' := [(0, .inr (.inr (some a0))), (1, .inl v1), (2, .inr (.inr o2))]) (st' := [.inl (1 : Int32)]) (by decide +kernel) rfl rfl ?_
                              refine xv_goto E 226 (show decode prog_4_method_19_code 222 = .ok (.goto (4), 3) by decide +kernel) rfl ?_
                              exact xv_w (sb59_226 E B (1 : Int32) q_87.2 h hN) rfl
                          · rw [if_neg q92] at h
                            refine xv_icmp_ne E 225 (show decode prog_4_method_19_code 209 = .ok (.if_icmp .ne (16), 3) by decide +kernel) rfl (fun _ => ?_) (fun z => absurd z q92)
                            exact xv_w (sb59_225 E B  q_1.2 h hN) rfl
                        · rw [if_neg q86] at h
                          refine xv_tabOut E 227 (show decode prog_4_method_19_code 4 = .ok (.tableswitch (223) 1 12 #[64, 223, 87, 223, 87, 110, 87, 223, 160, 180, 191, 203], 64) by decide +kernel) (sw_out (lo := 1) (hi := 12) (by decide) (by decide) (fun k h1 h2 => ?_)) rfl ?_
                          · rcases (show k = 1 ∨ k = 2 ∨ k = 3 ∨ k = 4 ∨ k = 5 ∨ k = 6 ∨ k = 7 ∨ k = 8 ∨ k = 9 ∨ k = 10 ∨ k = 11 ∨ k = 12 by omega) with rfl | rfl | rfl | rfl | rfl | rfl | rfl | rfl | rfl | rfl | rfl | rfl
                            · exact q5
                            · exact q14
                            · exact q15
                            · exact q26
                            · exact q27
                            · exact q38
                            · exact q63
                            · exact q74
                            · exact q75
                            · exact q82
                            · exact q84
                            · exact q86
                          · refine xv_b E [.iconst 1] (pc' := 228) (lv' := [(0, .inr (.inr (some a0))), (1, .inl v1), (2, .inr (.inr o2))]) (st' := [.inl (1 : Int32)]) (by decide +kernel) rfl rfl ?_
                            obtain rfl := Option.some.inj h
                            obtain ⟨rfl, rfl⟩ := Prod.mk.inj (show ((some (.inl (1 : Int32)) : Option aV), q_1.2) = (r, M') from hN)
                            exact xv_ri E B.1 rfl B.2.1 (show decode prog_4_method_19_code 228 = .ok (.ireturn, 1) by decide +kernel) rfl rfl
end
theorem t59 (G : gX) (l : Launch) {as : List aV} {M : hM} {r : Option aV} {M' : hM} (h : f59 as M = some (r, M')) : xM G l ym59 prog_4_method_19_code 3 (some FieldType.boolean) 2 as M r M' := by
  unfold f59 at h
  split at h
  · have h := x_out_ok h
    refine xM_of (by decide) (Nat.le_of_ble_eq_true rfl) (lb59_0 G l _ _ _ M h) ?_
    intro p e s m args below meth c E B
    exact sb59_0 E B _ _ _ M h rfl
  · cases h
/-! ZF.Frame.haveNeighboursForm(ILZF$Shared;)Z -/
def ym60 : MethodName := ⟨"ZonedFabric$Frame", "haveNeighboursForm", "(ILZonedFabric$Shared;)Z"⟩
theorem cd60 : xCd ym60 prog_4_method_21_code 7 (some FieldType.boolean) 2 := ⟨mw349, mw207, by decide, by decide, by decide +kernel⟩
def b60_0 (a0 : Nat) (v1 : Int32) (o2 : Option Nat) (M : hM) : Option xRes :=
  some (.inr (5, [.inr (.inr (some a0)), .inl v1, .inr (.inr o2), .inl (-1 : Int32), .inl (0 : Int32)], M))
def b60_81  (M : hM) : Option xRes :=
  some (.inl (some (.inl (0 : Int32)), M))
def b60_5 (a0 : Nat) (v1 : Int32) (o2 : Option Nat) (v3 : Int32) (v4 : Int32) (M : hM) : Option xRes :=
  if v1 ≤ v4 then
    (some (.inl (some (.inl (1 : Int32)), M)))
  else
    (Option.bind (g_o M 2 (some a0)) fun b_3 =>
    Option.bind (c_I (f58 [.inr (.inr (some b_3)), .inl ((6 : Int32) + ((3 : Int32) * v4))] M)) fun q_1 =>
    Option.bind (g_o q_1.2 2 (some a0)) fun b_7 =>
    Option.bind (c_I (f58 [.inr (.inr (some b_7)), .inl ((8 : Int32) + ((3 : Int32) * v4))] q_1.2)) fun q_5 =>
    if q_1.1 ≤ v3 then
      (b60_81  q_5.2)
    else
      (if (8 : Int32) ≤ q_1.1 then
        (b60_81  q_5.2)
      else
        (Option.bind (g_o q_5.2 2 (some a0)) fun b_11 =>
        Option.bind (c_I (f58 [.inr (.inr (some b_11)), .inl ((7 : Int32) + ((3 : Int32) * v4))] q_5.2)) fun q_9 =>
        Option.bind (g_i q_9.2 9 0 o2) fun v_13 =>
        if v_13 ≤ q_9.1 then
          (b60_81  q_9.2)
        else
          (if q_5.1 < (1 : Int32) then
            (b60_81  q_9.2)
          else
            (if q_5.1 ≤ (9 : Int32) then
              (some (.inr (5, [.inr (.inr (some a0)), .inl v1, .inr (.inr o2), .inl q_1.1, .inl (v4 + (1 : Int32))], q_9.2)))
            else
              (b60_81  q_9.2))))))
def k60 (h : Nat) (as : List aV) (M : hM) : Option xRes :=
  if h = 5 then (match as with | [.inr (.inr (some a0)), .inl v1, .inr (.inr o2), .inl v3, .inl v4] => b60_5 a0 v1 o2 v3 v4 M | _ => none) else
  none
def f60 (as : List aV) (M : hM) : xO := match as with
  | [.inr (.inr (some a0)), .inl v1, .inr (.inr o2)] => x_go k60 (b60_0 a0 v1 o2 M)
  | _ => none
theorem lb60_0 (G : gX) (l : Launch) (a0 : Nat) (v1 : Int32) (o2 : Option Nat) (M : hM) {res : xRes} (h : b60_0 a0 v1 o2 M = some res) : h_sz M ≤ r_sz res ∧ h_sl M ≤ r_sl res := by
  unfold b60_0 at h
  obtain rfl := Option.some.inj h
  show h_sz M ≤ h_sz M ∧ h_sl M ≤ h_sl M
  omega
theorem lb60_81 (G : gX) (l : Launch)  (M : hM) {res : xRes} (h : b60_81  M = some res) : h_sz M ≤ r_sz res ∧ h_sl M ≤ r_sl res := by
  unfold b60_81 at h
  obtain rfl := Option.some.inj h
  show h_sz M ≤ h_sz M ∧ h_sl M ≤ h_sl M
  omega
theorem lb60_5 (G : gX) (l : Launch) (a0 : Nat) (v1 : Int32) (o2 : Option Nat) (v3 : Int32) (v4 : Int32) (M : hM) {res : xRes} (h : b60_5 a0 v1 o2 v3 v4 M = some res) : h_sz M ≤ r_sz res ∧ h_sl M ≤ r_sl res := by
  unfold b60_5 at h
  by_cases q20 : v1 ≤ v4
  · rw [if_pos q20] at h
    obtain rfl := Option.some.inj h
    show h_sz M ≤ h_sz M ∧ h_sl M ≤ h_sl M
    omega
  · rw [if_neg q20] at h
    obtain ⟨b_3, h4, h⟩ := bd h
    obtain ⟨q_1, h2, h⟩ := bd h
    have eh2 := (t58 G l (c_I_some h2)).1
    obtain ⟨b_7, h8, h⟩ := bd h
    obtain ⟨q_5, h6, h⟩ := bd h
    have eh6 := (t58 G l (c_I_some h6)).1
    by_cases q19 : q_1.1 ≤ v3
    · rw [if_pos q19] at h
      have e := lb60_81 G l  q_5.2 h
      omega
    · rw [if_neg q19] at h
      by_cases q18 : (8 : Int32) ≤ q_1.1
      · rw [if_pos q18] at h
        have e := lb60_81 G l  q_5.2 h
        omega
      · rw [if_neg q18] at h
        obtain ⟨b_11, h12, h⟩ := bd h
        obtain ⟨q_9, h10, h⟩ := bd h
        have eh10 := (t58 G l (c_I_some h10)).1
        obtain ⟨v_13, h14, h⟩ := bd h
        by_cases q17 : v_13 ≤ q_9.1
        · rw [if_pos q17] at h
          have e := lb60_81 G l  q_9.2 h
          omega
        · rw [if_neg q17] at h
          by_cases q16 : q_5.1 < (1 : Int32)
          · rw [if_pos q16] at h
            have e := lb60_81 G l  q_9.2 h
            omega
          · rw [if_neg q16] at h
            by_cases q15 : q_5.1 ≤ (9 : Int32)
            · rw [if_pos q15] at h
              obtain rfl := Option.some.inj h
              show h_sz M ≤ h_sz q_9.2 ∧ h_sl M ≤ h_sl q_9.2
              omega
            · rw [if_neg q15] at h
              have e := lb60_81 G l  q_9.2 h
              omega
section
variable {p : Program} {l : Launch} {e : Env} {s : State} {m : MethodId} {args : Array Value} {below : List Frame} {meth : Method} {c : Code} {G : gX} {z0 y0 : Nat} {r : Option aV} {M' : hM}
def pg60 (p : Program) (l : Launch) (e : Env) (s : State) (m : MethodId) (args : Array Value) (below : List Frame) (meth : Method) (c : Code) (G : gX) (z0 y0 : Nat) (r : Option aV) (M' : hM) (h : Nat) (as : List aV) (M : hM) : Prop :=
  if h = 5 then (match as with | [.inr (.inr (some a0)), .inl v1, .inr (.inr o2), .inl v3, .inl v4] => xV G p l e (xRm 2 (h_sz M' - z0) (h_sl M' - y0)) s m args below meth c z0 y0 (h_sz M') (h_sl M') 7 (MQ below (xQc G r M') args s (h_sz M' - z0) (h_sl M' - y0) (xFr G)) 5 [(0, .inr (.inr (some a0))), (1, .inl v1), (2, .inr (.inr o2)), (3, .inl v3), (4, .inl v4)] [] M | _ => False) else
  False
theorem sb60_0 (E : xE G p (xRm 2 (h_sz M' - z0) (h_sl M' - y0)) s m args c prog_4_method_21_code "ZonedFabric$Frame" z0 y0 (h_sz M') (h_sl M') 7) (B : xB ym60 (some FieldType.boolean) meth) (a0 : Nat) (v1 : Int32) (o2 : Option Nat) (M : hM) {res : xRes} (h : b60_0 a0 v1 o2 M = some res) (hN : xN (pg60 p l e s m args below meth c G z0 y0 r M') r M' res) : xV G p l e (xRm 2 (h_sz M' - z0) (h_sl M' - y0)) s m args below meth c z0 y0 (h_sz M') (h_sl M') 7 (MQ below (xQc G r M') args s (h_sz M' - z0) (h_sl M' - y0) (xFr G)) 0 [(0, .inr (.inr (some a0))), (1, .inl v1), (2, .inr (.inr o2))] [] M := by
  unfold b60_0 at h
  refine xv_b E [.iconst (-1), .istore_n 3, .iconst 0, .istore 4] (pc' := 5) (lv' := [(4, .inl (0 : Int32)), (3, .inl (-1 : Int32)), (0, .inr (.inr (some a0))), (1, .inl v1), (2, .inr (.inr o2))]) (st' := []) (by decide +kernel) rfl rfl ?_
  obtain rfl := Option.some.inj h
  exact xv_w hN rfl
theorem sb60_81 (E : xE G p (xRm 2 (h_sz M' - z0) (h_sl M' - y0)) s m args c prog_4_method_21_code "ZonedFabric$Frame" z0 y0 (h_sz M') (h_sl M') 7) (B : xB ym60 (some FieldType.boolean) meth)  (M : hM) {res : xRes} (h : b60_81  M = some res) (hN : xN (pg60 p l e s m args below meth c G z0 y0 r M') r M' res) : xV G p l e (xRm 2 (h_sz M' - z0) (h_sl M' - y0)) s m args below meth c z0 y0 (h_sz M') (h_sl M') 7 (MQ below (xQc G r M') args s (h_sz M' - z0) (h_sl M' - y0) (xFr G)) 81 [] [] M := by
  unfold b60_81 at h
  refine xv_b E [.iconst 0] (pc' := 82) (lv' := []) (st' := [.inl (0 : Int32)]) (by decide +kernel) rfl rfl ?_
  obtain rfl := Option.some.inj h
  obtain ⟨rfl, rfl⟩ := Prod.mk.inj (show ((some (.inl (0 : Int32)) : Option aV), M) = (r, M') from hN)
  exact xv_ri E B.1 rfl B.2.1 (show decode prog_4_method_21_code 82 = .ok (.ireturn, 1) by decide +kernel) rfl rfl
theorem sb60_5 (E : xE G p (xRm 2 (h_sz M' - z0) (h_sl M' - y0)) s m args c prog_4_method_21_code "ZonedFabric$Frame" z0 y0 (h_sz M') (h_sl M') 7) (B : xB ym60 (some FieldType.boolean) meth) (a0 : Nat) (v1 : Int32) (o2 : Option Nat) (v3 : Int32) (v4 : Int32) (M : hM) {res : xRes} (h : b60_5 a0 v1 o2 v3 v4 M = some res) (hN : xN (pg60 p l e s m args below meth c G z0 y0 r M') r M' res) : xV G p l e (xRm 2 (h_sz M' - z0) (h_sl M' - y0)) s m args below meth c z0 y0 (h_sz M') (h_sl M') 7 (MQ below (xQc G r M') args s (h_sz M' - z0) (h_sl M' - y0) (xFr G)) 5 [(0, .inr (.inr (some a0))), (1, .inl v1), (2, .inr (.inr o2)), (3, .inl v3), (4, .inl v4)] [] M := by
  unfold b60_5 at h
  refine xv_b E [.iload 4, .iload_n 1] (pc' := 8) (lv' := [(0, .inr (.inr (some a0))), (1, .inl v1), (2, .inr (.inr o2)), (3, .inl v3), (4, .inl v4)]) (st' := [.inl v1, .inl v4]) (by decide +kernel) rfl rfl ?_
  by_cases q20 : v1 ≤ v4
  · rw [if_pos q20] at h
    refine xv_icmp_ge E 92 (show decode prog_4_method_21_code 8 = .ok (.if_icmp .ge (84), 3) by decide +kernel) rfl (fun _ => ?_) (fun z => absurd q20 z)
    refine xv_b E [.iconst 1] (pc' := 93) (lv' := [(0, .inr (.inr (some a0))), (1, .inl v1), (2, .inr (.inr o2)), (3, .inl v3), (4, .inl v4)]) (st' := [.inl (1 : Int32)]) (by decide +kernel) rfl rfl ?_
    obtain rfl := Option.some.inj h
    obtain ⟨rfl, rfl⟩ := Prod.mk.inj (show ((some (.inl (1 : Int32)) : Option aV), M) = (r, M') from hN)
    exact xv_ri E B.1 rfl B.2.1 (show decode prog_4_method_21_code 93 = .ok (.ireturn, 1) by decide +kernel) rfl rfl
  · rw [if_neg q20] at h
    refine xv_icmp_ge E 92 (show decode prog_4_method_21_code 8 = .ok (.if_icmp .ge (84), 3) by decide +kernel) rfl (fun z => absurd z q20) (fun _ => ?_)
    refine xv_b E [.aload_n 0, .bipush 6, .iconst 3, .iload 4, .imul, .iadd] (pc' := 19) (lv' := [(0, .inr (.inr (some a0))), (1, .inl v1), (2, .inr (.inr o2)), (3, .inl v3), (4, .inl v4)]) (st' := [.inl ((6 : Int32) + ((3 : Int32) * v4)), .inr (.inr (some a0))]) (by decide +kernel) rfl rfl ?_
    obtain ⟨b_3, h4, h⟩ := bd h
    obtain ⟨eh4, th4⟩ := g_o_some h4
    obtain ⟨q_1, h2, h⟩ := bd h
    refine xv_cvo E eh4 2 (as := [.inl ((6 : Int32) + ((3 : Int32) * v4))]) (t58 G l (c_I_some h2)) cd58 mw341 mw342 mw343 (show decode prog_4_method_21_code 19 = .ok (.invokevirtual 65, 3) by decide +kernel) th4 rfl rfl (Nat.le_of_ble_eq_true rfl) ⟨Nat.le_of_ble_eq_true rfl, Nat.le_of_ble_eq_true rfl⟩ ?_
    refine xv_b E [.istore 5, .aload_n 0, .bipush 8, .iconst 3, .iload 4, .imul, .iadd] (pc' := 32) (lv' := [(5, .inl q_1.1), (0, .inr (.inr (some a0))), (1, .inl v1), (2, .inr (.inr o2)), (3, .inl v3), (4, .inl v4)]) (st' := [.inl ((8 : Int32) + ((3 : Int32) * v4)), .inr (.inr (some a0))]) (by decide +kernel) rfl rfl ?_
    obtain ⟨b_7, h8, h⟩ := bd h
    obtain ⟨eh8, th8⟩ := g_o_some h8
    obtain ⟨q_5, h6, h⟩ := bd h
    refine xv_cvo E eh8 2 (as := [.inl ((8 : Int32) + ((3 : Int32) * v4))]) (t58 G l (c_I_some h6)) cd58 mw341 mw342 mw343 (show decode prog_4_method_21_code 32 = .ok (.invokevirtual 65, 3) by decide +kernel) th8 rfl rfl (Nat.le_of_ble_eq_true rfl) ⟨Nat.le_of_ble_eq_true rfl, Nat.le_of_ble_eq_true rfl⟩ ?_
    refine xv_b E [.istore 6, .iload 5, .iload_n 3] (pc' := 40) (lv' := [(6, .inl q_5.1), (5, .inl q_1.1), (0, .inr (.inr (some a0))), (1, .inl v1), (2, .inr (.inr o2)), (3, .inl v3), (4, .inl v4)]) (st' := [.inl v3, .inl q_1.1]) (by decide +kernel) rfl rfl ?_
    by_cases q19 : q_1.1 ≤ v3
    · rw [if_pos q19] at h
      refine xv_icmp_le E 81 (show decode prog_4_method_21_code 40 = .ok (.if_icmp .le (41), 3) by decide +kernel) rfl (fun _ => ?_) (fun z => absurd q19 z)
      exact xv_w (sb60_81 E B  q_5.2 h hN) rfl
    · rw [if_neg q19] at h
      refine xv_icmp_le E 81 (show decode prog_4_method_21_code 40 = .ok (.if_icmp .le (41), 3) by decide +kernel) rfl (fun z => absurd z q19) (fun _ => ?_)
      refine xv_b E [.iload 5, .bipush 8] (pc' := 47) (lv' := [(6, .inl q_5.1), (5, .inl q_1.1), (0, .inr (.inr (some a0))), (1, .inl v1), (2, .inr (.inr o2)), (3, .inl v3), (4, .inl v4)]) (st' := [.inl (8 : Int32), .inl q_1.1]) (by decide +kernel) rfl rfl ?_
      by_cases q18 : (8 : Int32) ≤ q_1.1
      · rw [if_pos q18] at h
        refine xv_icmp_ge E 81 (show decode prog_4_method_21_code 47 = .ok (.if_icmp .ge (34), 3) by decide +kernel) rfl (fun _ => ?_) (fun z => absurd q18 z)
        exact xv_w (sb60_81 E B  q_5.2 h hN) rfl
      · rw [if_neg q18] at h
        refine xv_icmp_ge E 81 (show decode prog_4_method_21_code 47 = .ok (.if_icmp .ge (34), 3) by decide +kernel) rfl (fun z => absurd z q18) (fun _ => ?_)
        refine xv_b E [.aload_n 0, .bipush 7, .iconst 3, .iload 4, .imul, .iadd] (pc' := 58) (lv' := [(6, .inl q_5.1), (5, .inl q_1.1), (0, .inr (.inr (some a0))), (1, .inl v1), (2, .inr (.inr o2)), (3, .inl v3), (4, .inl v4)]) (st' := [.inl ((7 : Int32) + ((3 : Int32) * v4)), .inr (.inr (some a0))]) (by decide +kernel) rfl rfl ?_
        obtain ⟨b_11, h12, h⟩ := bd h
        obtain ⟨eh12, th12⟩ := g_o_some h12
        obtain ⟨q_9, h10, h⟩ := bd h
        refine xv_cvo E eh12 2 (as := [.inl ((7 : Int32) + ((3 : Int32) * v4))]) (t58 G l (c_I_some h10)) cd58 mw341 mw342 mw343 (show decode prog_4_method_21_code 58 = .ok (.invokevirtual 65, 3) by decide +kernel) th12 rfl rfl (Nat.le_of_ble_eq_true rfl) ⟨Nat.le_of_ble_eq_true rfl, Nat.le_of_ble_eq_true rfl⟩ ?_
        refine xv_b E [.aload_n 2] (pc' := 62) (lv' := [(6, .inl q_5.1), (5, .inl q_1.1), (0, .inr (.inr (some a0))), (1, .inl v1), (2, .inr (.inr o2)), (3, .inl v3), (4, .inl v4)]) (st' := [.inr (.inr o2), .inl q_9.1]) (by decide +kernel) rfl rfl ?_
        obtain ⟨v_13, h14, h⟩ := bd h
        refine xg_i E 9 0 h14 mw344 (show decode prog_4_method_21_code 62 = .ok (.getfield 68, 3) by decide +kernel) ?_
        by_cases q17 : v_13 ≤ q_9.1
        · rw [if_pos q17] at h
          refine xv_icmp_ge E 81 (show decode prog_4_method_21_code 65 = .ok (.if_icmp .ge (16), 3) by decide +kernel) rfl (fun _ => ?_) (fun z => absurd q17 z)
          exact xv_w (sb60_81 E B  q_9.2 h hN) rfl
        · rw [if_neg q17] at h
          refine xv_icmp_ge E 81 (show decode prog_4_method_21_code 65 = .ok (.if_icmp .ge (16), 3) by decide +kernel) rfl (fun z => absurd z q17) (fun _ => ?_)
          refine xv_b E [.iload 6, .iconst 1] (pc' := 71) (lv' := [(6, .inl q_5.1), (5, .inl q_1.1), (0, .inr (.inr (some a0))), (1, .inl v1), (2, .inr (.inr o2)), (3, .inl v3), (4, .inl v4)]) (st' := [.inl (1 : Int32), .inl q_5.1]) (by decide +kernel) rfl rfl ?_
          by_cases q16 : q_5.1 < (1 : Int32)
          · rw [if_pos q16] at h
            refine xv_icmp_lt E 81 (show decode prog_4_method_21_code 71 = .ok (.if_icmp .lt (10), 3) by decide +kernel) rfl (fun _ => ?_) (fun z => absurd q16 z)
            exact xv_w (sb60_81 E B  q_9.2 h hN) rfl
          · rw [if_neg q16] at h
            refine xv_icmp_lt E 81 (show decode prog_4_method_21_code 71 = .ok (.if_icmp .lt (10), 3) by decide +kernel) rfl (fun z => absurd z q16) (fun _ => ?_)
            refine xv_b E [.iload 6, .bipush 9] (pc' := 78) (lv' := [(6, .inl q_5.1), (5, .inl q_1.1), (0, .inr (.inr (some a0))), (1, .inl v1), (2, .inr (.inr o2)), (3, .inl v3), (4, .inl v4)]) (st' := [.inl (9 : Int32), .inl q_5.1]) (by decide +kernel) rfl rfl ?_
            by_cases q15 : q_5.1 ≤ (9 : Int32)
            · rw [if_pos q15] at h
              refine xv_icmp_le E 83 (show decode prog_4_method_21_code 78 = .ok (.if_icmp .le (5), 3) by decide +kernel) rfl (fun _ => ?_) (fun z => absurd q15 z)
              refine xv_b E [.iload 5, .istore_n 3, .iinc 4 1] (pc' := 89) (lv' := [(4, .inl (v4 + (1 : Int32))), (3, .inl q_1.1), (6, .inl q_5.1), (5, .inl q_1.1), (0, .inr (.inr (some a0))), (1, .inl v1), (2, .inr (.inr o2))]) (st' := []) (by decide +kernel) rfl rfl ?_
              refine xv_goto E 5 (show decode prog_4_method_21_code 89 = .ok (.goto (-84), 3) by decide +kernel) rfl ?_
              obtain rfl := Option.some.inj h
              exact xv_w hN rfl
            · rw [if_neg q15] at h
              refine xv_icmp_le E 83 (show decode prog_4_method_21_code 78 = .ok (.if_icmp .le (5), 3) by decide +kernel) rfl (fun z => absurd z q15) (fun _ => ?_)
              exact xv_w (sb60_81 E B  q_9.2 h hN) rfl
end
theorem t60 (G : gX) (l : Launch) {as : List aV} {M : hM} {r : Option aV} {M' : hM} (h : f60 as M = some (r, M')) : xM G l ym60 prog_4_method_21_code 7 (some FieldType.boolean) 2 as M r M' := by
  unfold f60 at h
  split at h
  · have hle : ∀ h as M res, k60 h as M = some res → h_sz M ≤ r_sz res ∧ h_sl M ≤ r_sl res := by
      intro h as M res hb
      unfold k60 at hb
      by_cases e0 : h = 5
      · rw [if_pos e0] at hb
        split at hb
        · exact lb60_5 G l _ _ _ _ _ M hb
        · cases hb
      · rw [if_neg e0] at hb
        cases hb
    obtain ⟨res, hx, hres⟩ := x_go_ok h
    refine xM_of (by decide) (Nat.le_of_ble_eq_true rfl) ?_ ?_
    · have e1 := lb60_0 G l _ _ _ M hx
      have e2 := x_go_le hle hres
      omega
    · intro p e s m args below meth c E B
      refine sb60_0 E B _ _ _ M hx (hres _ ?_)
      intro h as M res hb hN
      unfold k60 at hb
      unfold pg60
      by_cases e0 : h = 5
      · rw [if_pos e0] at hb ⊢
        split at hb
        · exact sb60_5 E B _ _ _ _ _ M hb hN
        · cases hb
      · rw [if_neg e0] at hb ⊢
        cases hb
  · cases h
/-! ZF.Frame.haveNodesForm(ILZF$Shared;)Z -/
def ym61 : MethodName := ⟨"ZonedFabric$Frame", "haveNodesForm", "(ILZonedFabric$Shared;)Z"⟩
theorem cd61 : xCd ym61 prog_4_method_22_code 8 (some FieldType.boolean) 2 := ⟨mw350, mw207, by decide, by decide, by decide +kernel⟩
def b61_0 (a0 : Nat) (v1 : Int32) (o2 : Option Nat) (M : hM) : Option xRes :=
  some (.inr (8, [.inr (.inr (some a0)), .inl v1, .inr (.inr o2), .inl (-1 : Int32), .inl (0 : Int32), .inl (0 : Int32)], M))
def b61_79  (M : hM) : Option xRes :=
  some (.inl (some (.inl (0 : Int32)), M))
def b61_8 (a0 : Nat) (v1 : Int32) (o2 : Option Nat) (v3 : Int32) (v4 : Int32) (v5 : Int32) (M : hM) : Option xRes :=
  Option.bind (g_o M 2 (some a0)) fun b_3 =>
  Option.bind (c_I (f58 [.inr (.inr (some b_3)), .inl v1] M)) fun q_1 =>
  if q_1.1 ≤ v5 then
    (some (.inl (some (.inl (1 : Int32)), q_1.2)))
  else
    (Option.bind (g_o q_1.2 2 (some a0)) fun b_7 =>
    Option.bind (c_I (f58 [.inr (.inr (some b_7)), .inl ((v1 + (1 : Int32)) + ((2 : Int32) * v5))] q_1.2)) fun q_5 =>
    Option.bind (g_o q_5.2 2 (some a0)) fun b_11 =>
    Option.bind (c_I (f58 [.inr (.inr (some b_11)), .inl ((v1 + (2 : Int32)) + ((2 : Int32) * v5))] q_5.2)) fun q_9 =>
    if q_9.1 ≤ v3 then
      (b61_79  q_9.2)
    else
      (if (8 : Int32) ≤ q_9.1 then
        (b61_79  q_9.2)
      else
        (Option.bind (g_o q_9.2 9 o2) fun b_15 =>
        Option.bind (c_I (f8 [.inr (.inr (some b_15)), .inl q_5.1] q_9.2)) fun q_13 =>
        if q_13.1 = 0 then
          (b61_79  q_13.2)
        else
          (if ((v4 >>> (q_5.1 &&& 31)) &&& (1 : Int32)) = (1 : Int32) then
            (b61_79  q_13.2)
          else
            (some (.inr (8, [.inr (.inr (some a0)), .inl v1, .inr (.inr o2), .inl q_9.1, .inl (v4 ||| ((1 : Int32) <<< (q_5.1 &&& 31))), .inl (v5 + (1 : Int32))], q_13.2)))))))
def k61 (h : Nat) (as : List aV) (M : hM) : Option xRes :=
  if h = 8 then (match as with | [.inr (.inr (some a0)), .inl v1, .inr (.inr o2), .inl v3, .inl v4, .inl v5] => b61_8 a0 v1 o2 v3 v4 v5 M | _ => none) else
  none
def f61 (as : List aV) (M : hM) : xO := match as with
  | [.inr (.inr (some a0)), .inl v1, .inr (.inr o2)] => x_go k61 (b61_0 a0 v1 o2 M)
  | _ => none
theorem lb61_0 (G : gX) (l : Launch) (a0 : Nat) (v1 : Int32) (o2 : Option Nat) (M : hM) {res : xRes} (h : b61_0 a0 v1 o2 M = some res) : h_sz M ≤ r_sz res ∧ h_sl M ≤ r_sl res := by
  unfold b61_0 at h
  obtain rfl := Option.some.inj h
  show h_sz M ≤ h_sz M ∧ h_sl M ≤ h_sl M
  omega
theorem lb61_79 (G : gX) (l : Launch)  (M : hM) {res : xRes} (h : b61_79  M = some res) : h_sz M ≤ r_sz res ∧ h_sl M ≤ r_sl res := by
  unfold b61_79 at h
  obtain rfl := Option.some.inj h
  show h_sz M ≤ h_sz M ∧ h_sl M ≤ h_sl M
  omega
theorem lb61_8 (G : gX) (l : Launch) (a0 : Nat) (v1 : Int32) (o2 : Option Nat) (v3 : Int32) (v4 : Int32) (v5 : Int32) (M : hM) {res : xRes} (h : b61_8 a0 v1 o2 v3 v4 v5 M = some res) : h_sz M ≤ r_sz res ∧ h_sl M ≤ r_sl res := by
  unfold b61_8 at h
  obtain ⟨b_3, h4, h⟩ := bd h
  obtain ⟨q_1, h2, h⟩ := bd h
  have eh2 := (t58 G l (c_I_some h2)).1
  by_cases q21 : q_1.1 ≤ v5
  · rw [if_pos q21] at h
    obtain rfl := Option.some.inj h
    show h_sz M ≤ h_sz q_1.2 ∧ h_sl M ≤ h_sl q_1.2
    omega
  · rw [if_neg q21] at h
    obtain ⟨b_7, h8, h⟩ := bd h
    obtain ⟨q_5, h6, h⟩ := bd h
    have eh6 := (t58 G l (c_I_some h6)).1
    obtain ⟨b_11, h12, h⟩ := bd h
    obtain ⟨q_9, h10, h⟩ := bd h
    have eh10 := (t58 G l (c_I_some h10)).1
    by_cases q20 : q_9.1 ≤ v3
    · rw [if_pos q20] at h
      have e := lb61_79 G l  q_9.2 h
      omega
    · rw [if_neg q20] at h
      by_cases q19 : (8 : Int32) ≤ q_9.1
      · rw [if_pos q19] at h
        have e := lb61_79 G l  q_9.2 h
        omega
      · rw [if_neg q19] at h
        obtain ⟨b_15, h16, h⟩ := bd h
        obtain ⟨q_13, h14, h⟩ := bd h
        have eh14 := (t8 G l (c_I_some h14)).1
        by_cases q18 : q_13.1 = 0
        · rw [if_pos q18] at h
          have e := lb61_79 G l  q_13.2 h
          omega
        · rw [if_neg q18] at h
          by_cases q17 : ((v4 >>> (q_5.1 &&& 31)) &&& (1 : Int32)) = (1 : Int32)
          · rw [if_pos q17] at h
            have e := lb61_79 G l  q_13.2 h
            omega
          · rw [if_neg q17] at h
            obtain rfl := Option.some.inj h
            show h_sz M ≤ h_sz q_13.2 ∧ h_sl M ≤ h_sl q_13.2
            omega
section
variable {p : Program} {l : Launch} {e : Env} {s : State} {m : MethodId} {args : Array Value} {below : List Frame} {meth : Method} {c : Code} {G : gX} {z0 y0 : Nat} {r : Option aV} {M' : hM}
def pg61 (p : Program) (l : Launch) (e : Env) (s : State) (m : MethodId) (args : Array Value) (below : List Frame) (meth : Method) (c : Code) (G : gX) (z0 y0 : Nat) (r : Option aV) (M' : hM) (h : Nat) (as : List aV) (M : hM) : Prop :=
  if h = 8 then (match as with | [.inr (.inr (some a0)), .inl v1, .inr (.inr o2), .inl v3, .inl v4, .inl v5] => xV G p l e (xRm 2 (h_sz M' - z0) (h_sl M' - y0)) s m args below meth c z0 y0 (h_sz M') (h_sl M') 8 (MQ below (xQc G r M') args s (h_sz M' - z0) (h_sl M' - y0) (xFr G)) 8 [(0, .inr (.inr (some a0))), (1, .inl v1), (2, .inr (.inr o2)), (3, .inl v3), (4, .inl v4), (5, .inl v5)] [] M | _ => False) else
  False
theorem sb61_0 (E : xE G p (xRm 2 (h_sz M' - z0) (h_sl M' - y0)) s m args c prog_4_method_22_code "ZonedFabric$Frame" z0 y0 (h_sz M') (h_sl M') 8) (B : xB ym61 (some FieldType.boolean) meth) (a0 : Nat) (v1 : Int32) (o2 : Option Nat) (M : hM) {res : xRes} (h : b61_0 a0 v1 o2 M = some res) (hN : xN (pg61 p l e s m args below meth c G z0 y0 r M') r M' res) : xV G p l e (xRm 2 (h_sz M' - z0) (h_sl M' - y0)) s m args below meth c z0 y0 (h_sz M') (h_sl M') 8 (MQ below (xQc G r M') args s (h_sz M' - z0) (h_sl M' - y0) (xFr G)) 0 [(0, .inr (.inr (some a0))), (1, .inl v1), (2, .inr (.inr o2))] [] M := by
  unfold b61_0 at h
  refine xv_b E [.iconst (-1), .istore_n 3, .iconst 0, .istore 4, .iconst 0, .istore 5] (pc' := 8) (lv' := [(5, .inl (0 : Int32)), (4, .inl (0 : Int32)), (3, .inl (-1 : Int32)), (0, .inr (.inr (some a0))), (1, .inl v1), (2, .inr (.inr o2))]) (st' := []) (by decide +kernel) rfl rfl ?_
  obtain rfl := Option.some.inj h
  exact xv_w hN rfl
theorem sb61_79 (E : xE G p (xRm 2 (h_sz M' - z0) (h_sl M' - y0)) s m args c prog_4_method_22_code "ZonedFabric$Frame" z0 y0 (h_sz M') (h_sl M') 8) (B : xB ym61 (some FieldType.boolean) meth)  (M : hM) {res : xRes} (h : b61_79  M = some res) (hN : xN (pg61 p l e s m args below meth c G z0 y0 r M') r M' res) : xV G p l e (xRm 2 (h_sz M' - z0) (h_sl M' - y0)) s m args below meth c z0 y0 (h_sz M') (h_sl M') 8 (MQ below (xQc G r M') args s (h_sz M' - z0) (h_sl M' - y0) (xFr G)) 79 [] [] M := by
  unfold b61_79 at h
  refine xv_b E [.iconst 0] (pc' := 80) (lv' := []) (st' := [.inl (0 : Int32)]) (by decide +kernel) rfl rfl ?_
  obtain rfl := Option.some.inj h
  obtain ⟨rfl, rfl⟩ := Prod.mk.inj (show ((some (.inl (0 : Int32)) : Option aV), M) = (r, M') from hN)
  exact xv_ri E B.1 rfl B.2.1 (show decode prog_4_method_22_code 80 = .ok (.ireturn, 1) by decide +kernel) rfl rfl
theorem sb61_8 (E : xE G p (xRm 2 (h_sz M' - z0) (h_sl M' - y0)) s m args c prog_4_method_22_code "ZonedFabric$Frame" z0 y0 (h_sz M') (h_sl M') 8) (B : xB ym61 (some FieldType.boolean) meth) (a0 : Nat) (v1 : Int32) (o2 : Option Nat) (v3 : Int32) (v4 : Int32) (v5 : Int32) (M : hM) {res : xRes} (h : b61_8 a0 v1 o2 v3 v4 v5 M = some res) (hN : xN (pg61 p l e s m args below meth c G z0 y0 r M') r M' res) : xV G p l e (xRm 2 (h_sz M' - z0) (h_sl M' - y0)) s m args below meth c z0 y0 (h_sz M') (h_sl M') 8 (MQ below (xQc G r M') args s (h_sz M' - z0) (h_sl M' - y0) (xFr G)) 8 [(0, .inr (.inr (some a0))), (1, .inl v1), (2, .inr (.inr o2)), (3, .inl v3), (4, .inl v4), (5, .inl v5)] [] M := by
  unfold b61_8 at h
  refine xv_b E [.iload 5, .aload_n 0, .iload_n 1] (pc' := 12) (lv' := [(0, .inr (.inr (some a0))), (1, .inl v1), (2, .inr (.inr o2)), (3, .inl v3), (4, .inl v4), (5, .inl v5)]) (st' := [.inl v1, .inr (.inr (some a0)), .inl v5]) (by decide +kernel) rfl rfl ?_
  obtain ⟨b_3, h4, h⟩ := bd h
  obtain ⟨eh4, th4⟩ := g_o_some h4
  obtain ⟨q_1, h2, h⟩ := bd h
  refine xv_cvo E eh4 2 (as := [.inl v1]) (t58 G l (c_I_some h2)) cd58 mw341 mw342 mw343 (show decode prog_4_method_22_code 12 = .ok (.invokevirtual 65, 3) by decide +kernel) th4 rfl rfl (Nat.le_of_ble_eq_true rfl) ⟨Nat.le_of_ble_eq_true rfl, Nat.le_of_ble_eq_true rfl⟩ ?_
  by_cases q21 : q_1.1 ≤ v5
  · rw [if_pos q21] at h
    refine xv_icmp_ge E 99 (show decode prog_4_method_22_code 15 = .ok (.if_icmp .ge (84), 3) by decide +kernel) rfl (fun _ => ?_) (fun z => absurd q21 z)
    refine xv_b E [.iconst 1] (pc' := 100) (lv' := [(0, .inr (.inr (some a0))), (1, .inl v1), (2, .inr (.inr o2)), (3, .inl v3), (4, .inl v4), (5, .inl v5)]) (st' := [.inl (1 : Int32)]) (by decide +kernel) rfl rfl ?_
    obtain rfl := Option.some.inj h
    obtain ⟨rfl, rfl⟩ := Prod.mk.inj (show ((some (.inl (1 : Int32)) : Option aV), q_1.2) = (r, M') from hN)
    exact xv_ri E B.1 rfl B.2.1 (show decode prog_4_method_22_code 100 = .ok (.ireturn, 1) by decide +kernel) rfl rfl
  · rw [if_neg q21] at h
    refine xv_icmp_ge E 99 (show decode prog_4_method_22_code 15 = .ok (.if_icmp .ge (84), 3) by decide +kernel) rfl (fun z => absurd z q21) (fun _ => ?_)
    refine xv_b E [.aload_n 0, .iload_n 1, .iconst 1, .iadd, .iconst 2, .iload 5, .imul, .iadd] (pc' := 27) (lv' := [(0, .inr (.inr (some a0))), (1, .inl v1), (2, .inr (.inr o2)), (3, .inl v3), (4, .inl v4), (5, .inl v5)]) (st' := [.inl ((v1 + (1 : Int32)) + ((2 : Int32) * v5)), .inr (.inr (some a0))]) (by decide +kernel) rfl rfl ?_
    obtain ⟨b_7, h8, h⟩ := bd h
    obtain ⟨eh8, th8⟩ := g_o_some h8
    obtain ⟨q_5, h6, h⟩ := bd h
    refine xv_cvo E eh8 2 (as := [.inl ((v1 + (1 : Int32)) + ((2 : Int32) * v5))]) (t58 G l (c_I_some h6)) cd58 mw341 mw342 mw343 (show decode prog_4_method_22_code 27 = .ok (.invokevirtual 65, 3) by decide +kernel) th8 rfl rfl (Nat.le_of_ble_eq_true rfl) ⟨Nat.le_of_ble_eq_true rfl, Nat.le_of_ble_eq_true rfl⟩ ?_
    refine xv_b E [.istore 6, .aload_n 0, .iload_n 1, .iconst 2, .iadd, .iconst 2, .iload 5, .imul, .iadd] (pc' := 41) (lv' := [(6, .inl q_5.1), (0, .inr (.inr (some a0))), (1, .inl v1), (2, .inr (.inr o2)), (3, .inl v3), (4, .inl v4), (5, .inl v5)]) (st' := [.inl ((v1 + (2 : Int32)) + ((2 : Int32) * v5)), .inr (.inr (some a0))]) (by decide +kernel) rfl rfl ?_
    obtain ⟨b_11, h12, h⟩ := bd h
    obtain ⟨eh12, th12⟩ := g_o_some h12
    obtain ⟨q_9, h10, h⟩ := bd h
    refine xv_cvo E eh12 2 (as := [.inl ((v1 + (2 : Int32)) + ((2 : Int32) * v5))]) (t58 G l (c_I_some h10)) cd58 mw341 mw342 mw343 (show decode prog_4_method_22_code 41 = .ok (.invokevirtual 65, 3) by decide +kernel) th12 rfl rfl (Nat.le_of_ble_eq_true rfl) ⟨Nat.le_of_ble_eq_true rfl, Nat.le_of_ble_eq_true rfl⟩ ?_
    refine xv_b E [.istore 7, .iload 7, .iload_n 3] (pc' := 49) (lv' := [(7, .inl q_9.1), (6, .inl q_5.1), (0, .inr (.inr (some a0))), (1, .inl v1), (2, .inr (.inr o2)), (3, .inl v3), (4, .inl v4), (5, .inl v5)]) (st' := [.inl v3, .inl q_9.1]) (by decide +kernel) rfl rfl ?_
    by_cases q20 : q_9.1 ≤ v3
    · rw [if_pos q20] at h
      refine xv_icmp_le E 79 (show decode prog_4_method_22_code 49 = .ok (.if_icmp .le (30), 3) by decide +kernel) rfl (fun _ => ?_) (fun z => absurd q20 z)
      exact xv_w (sb61_79 E B  q_9.2 h hN) rfl
    · rw [if_neg q20] at h
      refine xv_icmp_le E 79 (show decode prog_4_method_22_code 49 = .ok (.if_icmp .le (30), 3) by decide +kernel) rfl (fun z => absurd z q20) (fun _ => ?_)
      refine xv_b E [.iload 7, .bipush 8] (pc' := 56) (lv' := [(7, .inl q_9.1), (6, .inl q_5.1), (0, .inr (.inr (some a0))), (1, .inl v1), (2, .inr (.inr o2)), (3, .inl v3), (4, .inl v4), (5, .inl v5)]) (st' := [.inl (8 : Int32), .inl q_9.1]) (by decide +kernel) rfl rfl ?_
      by_cases q19 : (8 : Int32) ≤ q_9.1
      · rw [if_pos q19] at h
        refine xv_icmp_ge E 79 (show decode prog_4_method_22_code 56 = .ok (.if_icmp .ge (23), 3) by decide +kernel) rfl (fun _ => ?_) (fun z => absurd q19 z)
        exact xv_w (sb61_79 E B  q_9.2 h hN) rfl
      · rw [if_neg q19] at h
        refine xv_icmp_ge E 79 (show decode prog_4_method_22_code 56 = .ok (.if_icmp .ge (23), 3) by decide +kernel) rfl (fun z => absurd z q19) (fun _ => ?_)
        refine xv_b E [.aload_n 2, .iload 6] (pc' := 62) (lv' := [(7, .inl q_9.1), (6, .inl q_5.1), (0, .inr (.inr (some a0))), (1, .inl v1), (2, .inr (.inr o2)), (3, .inl v3), (4, .inl v4), (5, .inl v5)]) (st' := [.inl q_5.1, .inr (.inr o2)]) (by decide +kernel) rfl rfl ?_
        obtain ⟨b_15, h16, h⟩ := bd h
        obtain ⟨eh16, th16⟩ := g_o_some h16
        obtain ⟨q_13, h14, h⟩ := bd h
        refine xv_cvo E eh16 9 (as := [.inl q_5.1]) (t8 G l (c_I_some h14)) cd8 mw345 mw117 mw118 (show decode prog_4_method_22_code 62 = .ok (.invokevirtual 73, 3) by decide +kernel) th16 rfl rfl (Nat.le_of_ble_eq_true rfl) ⟨Nat.le_of_ble_eq_true rfl, Nat.le_of_ble_eq_true rfl⟩ ?_
        by_cases q18 : q_13.1 = 0
        · rw [if_pos q18] at h
          refine xv_if_eq E 79 (show decode prog_4_method_22_code 65 = .ok (.ifCond .eq (14), 3) by decide +kernel) rfl (fun _ => ?_) (fun z => absurd q18 z)
          exact xv_w (sb61_79 E B  q_13.2 h hN) rfl
        · rw [if_neg q18] at h
          refine xv_if_eq E 79 (show decode prog_4_method_22_code 65 = .ok (.ifCond .eq (14), 3) by decide +kernel) rfl (fun z => absurd z q18) (fun _ => ?_)
          refine xv_b E [.iload 4, .iload 6, .ishr, .iconst 1, .iand, .iconst 1] (pc' := 76) (lv' := [(7, .inl q_9.1), (6, .inl q_5.1), (0, .inr (.inr (some a0))), (1, .inl v1), (2, .inr (.inr o2)), (3, .inl v3), (4, .inl v4), (5, .inl v5)]) (st' := [.inl (1 : Int32), .inl ((v4 >>> (q_5.1 &&& 31)) &&& (1 : Int32))]) (by decide +kernel) rfl rfl ?_
          by_cases q17 : ((v4 >>> (q_5.1 &&& 31)) &&& (1 : Int32)) = (1 : Int32)
          · rw [if_pos q17] at h
            refine xv_icmp_ne E 81 (show decode prog_4_method_22_code 76 = .ok (.if_icmp .ne (5), 3) by decide +kernel) rfl (fun z => absurd q17 z) (fun _ => ?_)
            exact xv_w (sb61_79 E B  q_13.2 h hN) rfl
          · rw [if_neg q17] at h
            refine xv_icmp_ne E 81 (show decode prog_4_method_22_code 76 = .ok (.if_icmp .ne (5), 3) by decide +kernel) rfl (fun _ => ?_) (fun z => absurd z q17)
            refine xv_b E [.iload 7, .istore_n 3, .iload 4, .iconst 1, .iload 6, .ishl, .ior, .istore 4, .iinc 5 1] (pc' := 96) (lv' := [(5, .inl (v5 + (1 : Int32))), (4, .inl (v4 ||| ((1 : Int32) <<< (q_5.1 &&& 31)))), (3, .inl q_9.1), (7, .inl q_9.1), (6, .inl q_5.1), (0, .inr (.inr (some a0))), (1, .inl v1), (2, .inr (.inr o2))]) (st' := []) (by decide +kernel) rfl rfl ?_
            refine xv_goto E 8 (show decode prog_4_method_22_code 96 = .ok (.goto (-88), 3) by decide +kernel) rfl ?_
            obtain rfl := Option.some.inj h
            exact xv_w hN rfl
end
theorem t61 (G : gX) (l : Launch) {as : List aV} {M : hM} {r : Option aV} {M' : hM} (h : f61 as M = some (r, M')) : xM G l ym61 prog_4_method_22_code 8 (some FieldType.boolean) 2 as M r M' := by
  unfold f61 at h
  split at h
  · have hle : ∀ h as M res, k61 h as M = some res → h_sz M ≤ r_sz res ∧ h_sl M ≤ r_sl res := by
      intro h as M res hb
      unfold k61 at hb
      by_cases e0 : h = 8
      · rw [if_pos e0] at hb
        split at hb
        · exact lb61_8 G l _ _ _ _ _ _ M hb
        · cases hb
      · rw [if_neg e0] at hb
        cases hb
    obtain ⟨res, hx, hres⟩ := x_go_ok h
    refine xM_of (by decide) (Nat.le_of_ble_eq_true rfl) ?_ ?_
    · have e1 := lb61_0 G l _ _ _ M hx
      have e2 := x_go_le hle hres
      omega
    · intro p e s m args below meth c E B
      refine sb61_0 E B _ _ _ M hx (hres _ ?_)
      intro h as M res hb hN
      unfold k61 at hb
      unfold pg61
      by_cases e0 : h = 8
      · rw [if_pos e0] at hb ⊢
        split at hb
        · exact sb61_8 E B _ _ _ _ _ _ M hb hN
        · cases hb
      · rw [if_neg e0] at hb ⊢
        cases hb
  · cases h
/-! ZF.Frame.hasRecordForm(ILZF$Shared;)Z -/
def ym62 : MethodName := ⟨"ZonedFabric$Frame", "hasRecordForm", "(ILZonedFabric$Shared;)Z"⟩
theorem cd62 : xCd ym62 prog_4_method_20_code 5 (some FieldType.boolean) 2 := ⟨mw351, mw207, by decide, by decide, by decide +kernel⟩
def b62_37  (M : hM) : Option xRes :=
  some (.inl (some (.inl (0 : Int32)), M))
def b62_94 (si0 : Int32) (M : hM) : Option xRes :=
  if si0 = 0 ∨ si0 = 1 then
    (some (.inl (some (.inl si0), M)))
  else
    none
def b62_93  (M : hM) : Option xRes :=
  b62_94 (0 : Int32) M
def b62_0 (a0 : Nat) (v1 : Int32) (o2 : Option Nat) (M : hM) : Option xRes :=
  Option.bind (g_o M 2 (some a0)) fun b_3 =>
  Option.bind (c_I (f58 [.inr (.inr (some b_3)), .inl (5 : Int32)] M)) fun q_1 =>
  if v1 ≤ ((6 : Int32) + ((3 : Int32) * q_1.1)) then
    (b62_37  q_1.2)
  else
    (Option.bind (g_o q_1.2 2 (some a0)) fun b_7 =>
    Option.bind (c_I (f58 [.inr (.inr (some b_7)), .inl ((6 : Int32) + ((3 : Int32) * q_1.1))] q_1.2)) fun q_5 =>
    if v1 = ((((6 : Int32) + ((3 : Int32) * q_1.1)) + (1 : Int32)) + ((2 : Int32) * q_5.1)) then
      (Option.bind (g_o q_5.2 2 (some a0)) fun b_11 =>
      Option.bind (c_I (f58 [.inr (.inr (some b_11)), .inl (0 : Int32)] q_5.2)) fun q_9 =>
      Option.bind (g_i q_9.2 9 0 o2) fun v_13 =>
      if v_13 ≤ q_9.1 then
        (b62_93  q_9.2)
      else
        (Option.bind (g_o q_9.2 2 (some a0)) fun b_17 =>
        Option.bind (c_I (f58 [.inr (.inr (some b_17)), .inl (4 : Int32)] q_9.2)) fun q_15 =>
        if q_15.1 < (1 : Int32) then
          (b62_93  q_15.2)
        else
          (Option.bind (g_o q_15.2 2 (some a0)) fun b_21 =>
          Option.bind (c_I (f58 [.inr (.inr (some b_21)), .inl (4 : Int32)] q_15.2)) fun q_19 =>
          if (15 : Int32) < q_19.1 then
            (b62_93  q_19.2)
          else
            (Option.bind (g_o q_19.2 2 (some a0)) fun b_25 =>
            Option.bind (c_I (f60 [.inr (.inr (some b_25)), .inl q_1.1, .inr (.inr o2)] q_19.2)) fun q_23 =>
            if q_23.1 = 0 then
              (b62_93  q_23.2)
            else
              (Option.bind (g_o q_23.2 2 (some a0)) fun b_29 =>
              Option.bind (c_I (f61 [.inr (.inr (some b_29)), .inl ((6 : Int32) + ((3 : Int32) * q_1.1)), .inr (.inr o2)] q_23.2)) fun q_27 =>
              if q_27.1 = 0 then
                (b62_93  q_27.2)
              else
                (b62_94 (1 : Int32) q_27.2))))))
    else
      (b62_37  q_5.2))
def f62 (as : List aV) (M : hM) : xO := match as with
  | [.inr (.inr (some a0)), .inl v1, .inr (.inr o2)] => x_out (b62_0 a0 v1 o2 M)
  | _ => none
theorem lb62_37 (G : gX) (l : Launch)  (M : hM) {res : xRes} (h : b62_37  M = some res) : h_sz M ≤ r_sz res ∧ h_sl M ≤ r_sl res := by
  unfold b62_37 at h
  obtain rfl := Option.some.inj h
  show h_sz M ≤ h_sz M ∧ h_sl M ≤ h_sl M
  omega
theorem lb62_94 (G : gX) (l : Launch) (si0 : Int32) (M : hM) {res : xRes} (h : b62_94 si0 M = some res) : h_sz M ≤ r_sz res ∧ h_sl M ≤ r_sl res := by
  unfold b62_94 at h
  by_cases q38 : si0 = 0 ∨ si0 = 1
  · rw [if_pos q38] at h
    obtain rfl := Option.some.inj h
    show h_sz M ≤ h_sz M ∧ h_sl M ≤ h_sl M
    omega
  · rw [if_neg q38] at h
    cases h
theorem lb62_93 (G : gX) (l : Launch)  (M : hM) {res : xRes} (h : b62_93  M = some res) : h_sz M ≤ r_sz res ∧ h_sl M ≤ r_sl res := by
  unfold b62_93 at h
  have e := lb62_94 G l (0 : Int32) M h
  omega
theorem lb62_0 (G : gX) (l : Launch) (a0 : Nat) (v1 : Int32) (o2 : Option Nat) (M : hM) {res : xRes} (h : b62_0 a0 v1 o2 M = some res) : h_sz M ≤ r_sz res ∧ h_sl M ≤ r_sl res := by
  unfold b62_0 at h
  obtain ⟨b_3, h4, h⟩ := bd h
  obtain ⟨q_1, h2, h⟩ := bd h
  have eh2 := (t58 G l (c_I_some h2)).1
  by_cases q37 : v1 ≤ ((6 : Int32) + ((3 : Int32) * q_1.1))
  · rw [if_pos q37] at h
    have e := lb62_37 G l  q_1.2 h
    omega
  · rw [if_neg q37] at h
    obtain ⟨b_7, h8, h⟩ := bd h
    obtain ⟨q_5, h6, h⟩ := bd h
    have eh6 := (t58 G l (c_I_some h6)).1
    by_cases q36 : v1 = ((((6 : Int32) + ((3 : Int32) * q_1.1)) + (1 : Int32)) + ((2 : Int32) * q_5.1))
    · rw [if_pos q36] at h
      obtain ⟨b_11, h12, h⟩ := bd h
      obtain ⟨q_9, h10, h⟩ := bd h
      have eh10 := (t58 G l (c_I_some h10)).1
      obtain ⟨v_13, h14, h⟩ := bd h
      by_cases q35 : v_13 ≤ q_9.1
      · rw [if_pos q35] at h
        have e := lb62_93 G l  q_9.2 h
        omega
      · rw [if_neg q35] at h
        obtain ⟨b_17, h18, h⟩ := bd h
        obtain ⟨q_15, h16, h⟩ := bd h
        have eh16 := (t58 G l (c_I_some h16)).1
        by_cases q34 : q_15.1 < (1 : Int32)
        · rw [if_pos q34] at h
          have e := lb62_93 G l  q_15.2 h
          omega
        · rw [if_neg q34] at h
          obtain ⟨b_21, h22, h⟩ := bd h
          obtain ⟨q_19, h20, h⟩ := bd h
          have eh20 := (t58 G l (c_I_some h20)).1
          by_cases q33 : (15 : Int32) < q_19.1
          · rw [if_pos q33] at h
            have e := lb62_93 G l  q_19.2 h
            omega
          · rw [if_neg q33] at h
            obtain ⟨b_25, h26, h⟩ := bd h
            obtain ⟨q_23, h24, h⟩ := bd h
            have eh24 := (t60 G l (c_I_some h24)).1
            by_cases q32 : q_23.1 = 0
            · rw [if_pos q32] at h
              have e := lb62_93 G l  q_23.2 h
              omega
            · rw [if_neg q32] at h
              obtain ⟨b_29, h30, h⟩ := bd h
              obtain ⟨q_27, h28, h⟩ := bd h
              have eh28 := (t61 G l (c_I_some h28)).1
              by_cases q31 : q_27.1 = 0
              · rw [if_pos q31] at h
                have e := lb62_93 G l  q_27.2 h
                omega
              · rw [if_neg q31] at h
                have e := lb62_94 G l (1 : Int32) q_27.2 h
                omega
    · rw [if_neg q36] at h
      have e := lb62_37 G l  q_5.2 h
      omega
section
variable {p : Program} {l : Launch} {e : Env} {s : State} {m : MethodId} {args : Array Value} {below : List Frame} {meth : Method} {c : Code} {G : gX} {z0 y0 : Nat} {r : Option aV} {M' : hM}
theorem sb62_37 (E : xE G p (xRm 3 (h_sz M' - z0) (h_sl M' - y0)) s m args c prog_4_method_20_code "ZonedFabric$Frame" z0 y0 (h_sz M') (h_sl M') 5) (B : xB ym62 (some FieldType.boolean) meth)  (M : hM) {res : xRes} (h : b62_37  M = some res) (hN : xN (fun _ _ _ => False) r M' res) : xV G p l e (xRm 3 (h_sz M' - z0) (h_sl M' - y0)) s m args below meth c z0 y0 (h_sz M') (h_sl M') 5 (MQ below (xQc G r M') args s (h_sz M' - z0) (h_sl M' - y0) (xFr G)) 37 [] [] M := by
  unfold b62_37 at h
  refine xv_b E [.iconst 0] (pc' := 38) (lv' := []) (st' := [.inl (0 : Int32)]) (by decide +kernel) rfl rfl ?_
  obtain rfl := Option.some.inj h
  obtain ⟨rfl, rfl⟩ := Prod.mk.inj (show ((some (.inl (0 : Int32)) : Option aV), M) = (r, M') from hN)
  exact xv_ri E B.1 rfl B.2.1 (show decode prog_4_method_20_code 38 = .ok (.ireturn, 1) by decide +kernel) rfl rfl
theorem sb62_94 (E : xE G p (xRm 3 (h_sz M' - z0) (h_sl M' - y0)) s m args c prog_4_method_20_code "ZonedFabric$Frame" z0 y0 (h_sz M') (h_sl M') 5) (B : xB ym62 (some FieldType.boolean) meth) (si0 : Int32) (M : hM) {res : xRes} (h : b62_94 si0 M = some res) (hN : xN (fun _ _ _ => False) r M' res) : xV G p l e (xRm 3 (h_sz M' - z0) (h_sl M' - y0)) s m args below meth c z0 y0 (h_sz M') (h_sl M') 5 (MQ below (xQc G r M') args s (h_sz M' - z0) (h_sl M' - y0) (xFr G)) 94 [] [.inl si0] M := by
  unfold b62_94 at h
  by_cases q38 : si0 = 0 ∨ si0 = 1
  · rw [if_pos q38] at h
    obtain rfl := Option.some.inj h
    obtain ⟨rfl, rfl⟩ := Prod.mk.inj (show ((some (.inl si0) : Option aV), M) = (r, M') from hN)
    exact xv_ri E B.1 (by rcases q38 with z | z <;> rw [z] <;> rfl) B.2.1 (show decode prog_4_method_20_code 94 = .ok (.ireturn, 1) by decide +kernel) rfl rfl
  · rw [if_neg q38] at h
    cases h
theorem sb62_93 (E : xE G p (xRm 3 (h_sz M' - z0) (h_sl M' - y0)) s m args c prog_4_method_20_code "ZonedFabric$Frame" z0 y0 (h_sz M') (h_sl M') 5) (B : xB ym62 (some FieldType.boolean) meth)  (M : hM) {res : xRes} (h : b62_93  M = some res) (hN : xN (fun _ _ _ => False) r M' res) : xV G p l e (xRm 3 (h_sz M' - z0) (h_sl M' - y0)) s m args below meth c z0 y0 (h_sz M') (h_sl M') 5 (MQ below (xQc G r M') args s (h_sz M' - z0) (h_sl M' - y0) (xFr G)) 93 [] [] M := by
  unfold b62_93 at h
  refine xv_b E [.iconst 0] (pc' := 94) (lv' := []) (st' := [.inl (0 : Int32)]) (by decide +kernel) rfl rfl ?_
  exact xv_w (sb62_94 E B (0 : Int32) M h hN) rfl
theorem sb62_0 (E : xE G p (xRm 3 (h_sz M' - z0) (h_sl M' - y0)) s m args c prog_4_method_20_code "ZonedFabric$Frame" z0 y0 (h_sz M') (h_sl M') 5) (B : xB ym62 (some FieldType.boolean) meth) (a0 : Nat) (v1 : Int32) (o2 : Option Nat) (M : hM) {res : xRes} (h : b62_0 a0 v1 o2 M = some res) (hN : xN (fun _ _ _ => False) r M' res) : xV G p l e (xRm 3 (h_sz M' - z0) (h_sl M' - y0)) s m args below meth c z0 y0 (h_sz M') (h_sl M') 5 (MQ below (xQc G r M') args s (h_sz M' - z0) (h_sl M' - y0) (xFr G)) 0 [(0, .inr (.inr (some a0))), (1, .inl v1), (2, .inr (.inr o2))] [] M := by
  unfold b62_0 at h
  refine xv_b E [.aload_n 0, .iconst 5] (pc' := 2) (lv' := [(0, .inr (.inr (some a0))), (1, .inl v1), (2, .inr (.inr o2))]) (st' := [.inl (5 : Int32), .inr (.inr (some a0))]) (by decide +kernel) rfl rfl ?_
  obtain ⟨b_3, h4, h⟩ := bd h
  obtain ⟨eh4, th4⟩ := g_o_some h4
  obtain ⟨q_1, h2, h⟩ := bd h
  refine xv_cvo E eh4 2 (as := [.inl (5 : Int32)]) (t58 G l (c_I_some h2)) cd58 mw341 mw342 mw343 (show decode prog_4_method_20_code 2 = .ok (.invokevirtual 65, 3) by decide +kernel) th4 rfl rfl (Nat.le_of_ble_eq_true rfl) ⟨Nat.le_of_ble_eq_true rfl, Nat.le_of_ble_eq_true rfl⟩ ?_
  refine xv_b E [.istore_n 3, .bipush 6, .iconst 3, .iload_n 3, .imul, .iadd, .istore 4, .iload_n 1, .iload 4] (pc' := 17) (lv' := [(4, .inl ((6 : Int32) + ((3 : Int32) * q_1.1))), (3, .inl q_1.1), (0, .inr (.inr (some a0))), (1, .inl v1), (2, .inr (.inr o2))]) (st' := [.inl ((6 : Int32) + ((3 : Int32) * q_1.1)), .inl v1]) (by decide +kernel) rfl rfl ?_
  by_cases q37 : v1 ≤ ((6 : Int32) + ((3 : Int32) * q_1.1))
  · rw [if_pos q37] at h
    refine xv_icmp_le E 37 (show decode prog_4_method_20_code 17 = .ok (.if_icmp .le (20), 3) by decide +kernel) rfl (fun _ => ?_) (fun z => absurd q37 z)
    exact xv_w (sb62_37 E B  q_1.2 h hN) rfl
  · rw [if_neg q37] at h
    refine xv_icmp_le E 37 (show decode prog_4_method_20_code 17 = .ok (.if_icmp .le (20), 3) by decide +kernel) rfl (fun z => absurd z q37) (fun _ => ?_)
    refine xv_b E [.iload_n 1, .iload 4, .iconst 1, .iadd, .iconst 2, .aload_n 0, .iload 4] (pc' := 29) (lv' := [(4, .inl ((6 : Int32) + ((3 : Int32) * q_1.1))), (3, .inl q_1.1), (0, .inr (.inr (some a0))), (1, .inl v1), (2, .inr (.inr o2))]) (st' := [.inl ((6 : Int32) + ((3 : Int32) * q_1.1)), .inr (.inr (some a0)), .inl (2 : Int32), .inl (((6 : Int32) + ((3 : Int32) * q_1.1)) + (1 : Int32)), .inl v1]) (by decide +kernel) rfl rfl ?_
    obtain ⟨b_7, h8, h⟩ := bd h
    obtain ⟨eh8, th8⟩ := g_o_some h8
    obtain ⟨q_5, h6, h⟩ := bd h
    refine xv_cvo E eh8 2 (as := [.inl ((6 : Int32) + ((3 : Int32) * q_1.1))]) (t58 G l (c_I_some h6)) cd58 mw341 mw342 mw343 (show decode prog_4_method_20_code 29 = .ok (.invokevirtual 65, 3) by decide +kernel) th8 rfl rfl (Nat.le_of_ble_eq_true rfl) ⟨Nat.le_of_ble_eq_true rfl, Nat.le_of_ble_eq_true rfl⟩ ?_
    refine xv_b E [.imul, .iadd] (pc' := 34) (lv' := [(4, .inl ((6 : Int32) + ((3 : Int32) * q_1.1))), (3, .inl q_1.1), (0, .inr (.inr (some a0))), (1, .inl v1), (2, .inr (.inr o2))]) (st' := [.inl ((((6 : Int32) + ((3 : Int32) * q_1.1)) + (1 : Int32)) + ((2 : Int32) * q_5.1)), .inl v1]) (by decide +kernel) rfl rfl ?_
    by_cases q36 : v1 = ((((6 : Int32) + ((3 : Int32) * q_1.1)) + (1 : Int32)) + ((2 : Int32) * q_5.1))
    · rw [if_pos q36] at h
      refine xv_icmp_eq E 39 (show decode prog_4_method_20_code 34 = .ok (.if_icmp .eq (5), 3) by decide +kernel) rfl (fun _ => ?_) (fun z => absurd q36 z)
      refine xv_b E [.aload_n 0, .iconst 0] (pc' := 41) (lv' := [(4, .inl ((6 : Int32) + ((3 : Int32) * q_1.1))), (3, .inl q_1.1), (0, .inr (.inr (some a0))), (1, .inl v1), (2, .inr (.inr o2))]) (st' := [.inl (0 : Int32), .inr (.inr (some a0))]) (by decide +kernel) rfl rfl ?_
      obtain ⟨b_11, h12, h⟩ := bd h
      obtain ⟨eh12, th12⟩ := g_o_some h12
      obtain ⟨q_9, h10, h⟩ := bd h
      refine xv_cvo E eh12 2 (as := [.inl (0 : Int32)]) (t58 G l (c_I_some h10)) cd58 mw341 mw342 mw343 (show decode prog_4_method_20_code 41 = .ok (.invokevirtual 65, 3) by decide +kernel) th12 rfl rfl (Nat.le_of_ble_eq_true rfl) ⟨Nat.le_of_ble_eq_true rfl, Nat.le_of_ble_eq_true rfl⟩ ?_
      refine xv_b E [.aload_n 2] (pc' := 45) (lv' := [(4, .inl ((6 : Int32) + ((3 : Int32) * q_1.1))), (3, .inl q_1.1), (0, .inr (.inr (some a0))), (1, .inl v1), (2, .inr (.inr o2))]) (st' := [.inr (.inr o2), .inl q_9.1]) (by decide +kernel) rfl rfl ?_
      obtain ⟨v_13, h14, h⟩ := bd h
      refine xg_i E 9 0 h14 mw344 (show decode prog_4_method_20_code 45 = .ok (.getfield 68, 3) by decide +kernel) ?_
      by_cases q35 : v_13 ≤ q_9.1
      · rw [if_pos q35] at h
        refine xv_icmp_ge E 93 (show decode prog_4_method_20_code 48 = .ok (.if_icmp .ge (45), 3) by decide +kernel) rfl (fun _ => ?_) (fun z => absurd q35 z)
        exact xv_w (sb62_93 E B  q_9.2 h hN) rfl
      · rw [if_neg q35] at h
        refine xv_icmp_ge E 93 (show decode prog_4_method_20_code 48 = .ok (.if_icmp .ge (45), 3) by decide +kernel) rfl (fun z => absurd z q35) (fun _ => ?_)
        refine xv_b E [.aload_n 0, .iconst 4] (pc' := 53) (lv' := [(4, .inl ((6 : Int32) + ((3 : Int32) * q_1.1))), (3, .inl q_1.1), (0, .inr (.inr (some a0))), (1, .inl v1), (2, .inr (.inr o2))]) (st' := [.inl (4 : Int32), .inr (.inr (some a0))]) (by decide +kernel) rfl rfl ?_
        obtain ⟨b_17, h18, h⟩ := bd h
        obtain ⟨eh18, th18⟩ := g_o_some h18
        obtain ⟨q_15, h16, h⟩ := bd h
        refine xv_cvo E eh18 2 (as := [.inl (4 : Int32)]) (t58 G l (c_I_some h16)) cd58 mw341 mw342 mw343 (show decode prog_4_method_20_code 53 = .ok (.invokevirtual 65, 3) by decide +kernel) th18 rfl rfl (Nat.le_of_ble_eq_true rfl) ⟨Nat.le_of_ble_eq_true rfl, Nat.le_of_ble_eq_true rfl⟩ ?_
        refine xv_b E [.iconst 1] (pc' := 57) (lv' := [(4, .inl ((6 : Int32) + ((3 : Int32) * q_1.1))), (3, .inl q_1.1), (0, .inr (.inr (some a0))), (1, .inl v1), (2, .inr (.inr o2))]) (st' := [.inl (1 : Int32), .inl q_15.1]) (by decide +kernel) rfl rfl ?_
        by_cases q34 : q_15.1 < (1 : Int32)
        · rw [if_pos q34] at h
          refine xv_icmp_lt E 93 (show decode prog_4_method_20_code 57 = .ok (.if_icmp .lt (36), 3) by decide +kernel) rfl (fun _ => ?_) (fun z => absurd q34 z)
          exact xv_w (sb62_93 E B  q_15.2 h hN) rfl
        · rw [if_neg q34] at h
          refine xv_icmp_lt E 93 (show decode prog_4_method_20_code 57 = .ok (.if_icmp .lt (36), 3) by decide +kernel) rfl (fun z => absurd z q34) (fun _ => ?_)
          refine xv_b E [.aload_n 0, .iconst 4] (pc' := 62) (lv' := [(4, .inl ((6 : Int32) + ((3 : Int32) * q_1.1))), (3, .inl q_1.1), (0, .inr (.inr (some a0))), (1, .inl v1), (2, .inr (.inr o2))]) (st' := [.inl (4 : Int32), .inr (.inr (some a0))]) (by decide +kernel) rfl rfl ?_
          obtain ⟨b_21, h22, h⟩ := bd h
          obtain ⟨eh22, th22⟩ := g_o_some h22
          obtain ⟨q_19, h20, h⟩ := bd h
          refine xv_cvo E eh22 2 (as := [.inl (4 : Int32)]) (t58 G l (c_I_some h20)) cd58 mw341 mw342 mw343 (show decode prog_4_method_20_code 62 = .ok (.invokevirtual 65, 3) by decide +kernel) th22 rfl rfl (Nat.le_of_ble_eq_true rfl) ⟨Nat.le_of_ble_eq_true rfl, Nat.le_of_ble_eq_true rfl⟩ ?_
          refine xv_b E [.bipush 15] (pc' := 67) (lv' := [(4, .inl ((6 : Int32) + ((3 : Int32) * q_1.1))), (3, .inl q_1.1), (0, .inr (.inr (some a0))), (1, .inl v1), (2, .inr (.inr o2))]) (st' := [.inl (15 : Int32), .inl q_19.1]) (by decide +kernel) rfl rfl ?_
          by_cases q33 : (15 : Int32) < q_19.1
          · rw [if_pos q33] at h
            refine xv_icmp_gt E 93 (show decode prog_4_method_20_code 67 = .ok (.if_icmp .gt (26), 3) by decide +kernel) rfl (fun _ => ?_) (fun z => absurd q33 z)
            exact xv_w (sb62_93 E B  q_19.2 h hN) rfl
          · rw [if_neg q33] at h
            refine xv_icmp_gt E 93 (show decode prog_4_method_20_code 67 = .ok (.if_icmp .gt (26), 3) by decide +kernel) rfl (fun z => absurd z q33) (fun _ => ?_)
            refine xv_b E [.aload_n 0, .iload_n 3, .aload_n 2] (pc' := 73) (lv' := [(4, .inl ((6 : Int32) + ((3 : Int32) * q_1.1))), (3, .inl q_1.1), (0, .inr (.inr (some a0))), (1, .inl v1), (2, .inr (.inr o2))]) (st' := [.inr (.inr o2), .inl q_1.1, .inr (.inr (some a0))]) (by decide +kernel) rfl rfl ?_
            obtain ⟨b_25, h26, h⟩ := bd h
            obtain ⟨eh26, th26⟩ := g_o_some h26
            obtain ⟨q_23, h24, h⟩ := bd h
            refine xv_cvo E eh26 2 (as := [.inl q_1.1, .inr (.inr o2)]) (t60 G l (c_I_some h24)) cd60 mw352 mw353 mw354 (show decode prog_4_method_20_code 73 = .ok (.invokevirtual 77, 3) by decide +kernel) th26 rfl rfl (Nat.le_of_ble_eq_true rfl) ⟨Nat.le_of_ble_eq_true rfl, Nat.le_of_ble_eq_true rfl⟩ ?_
            by_cases q32 : q_23.1 = 0
            · rw [if_pos q32] at h
              refine xv_if_eq E 93 (show decode prog_4_method_20_code 76 = .ok (.ifCond .eq (17), 3) by decide +kernel) rfl (fun _ => ?_) (fun z => absurd q32 z)
              exact xv_w (sb62_93 E B  q_23.2 h hN) rfl
            · rw [if_neg q32] at h
              refine xv_if_eq E 93 (show decode prog_4_method_20_code 76 = .ok (.ifCond .eq (17), 3) by decide +kernel) rfl (fun z => absurd z q32) (fun _ => ?_)
              refine xv_b E [.aload_n 0, .iload 4, .aload_n 2] (pc' := 83) (lv' := [(4, .inl ((6 : Int32) + ((3 : Int32) * q_1.1))), (3, .inl q_1.1), (0, .inr (.inr (some a0))), (1, .inl v1), (2, .inr (.inr o2))]) (st' := [.inr (.inr o2), .inl ((6 : Int32) + ((3 : Int32) * q_1.1)), .inr (.inr (some a0))]) (by decide +kernel) rfl rfl ?_
              obtain ⟨b_29, h30, h⟩ := bd h
              obtain ⟨eh30, th30⟩ := g_o_some h30
              obtain ⟨q_27, h28, h⟩ := bd h
              refine xv_cvo E eh30 2 (as := [.inl ((6 : Int32) + ((3 : Int32) * q_1.1)), .inr (.inr o2)]) (t61 G l (c_I_some h28)) cd61 mw355 mw356 mw357 (show decode prog_4_method_20_code 83 = .ok (.invokevirtual 80, 3) by decide +kernel) th30 rfl rfl (Nat.le_of_ble_eq_true rfl) ⟨Nat.le_of_ble_eq_true rfl, Nat.le_of_ble_eq_true rfl⟩ ?_
              by_cases q31 : q_27.1 = 0
              · rw [if_pos q31] at h
                refine xv_if_eq E 93 (show decode prog_4_method_20_code 86 = .ok (.ifCond .eq (7), 3) by decide +kernel) rfl (fun _ => ?_) (fun z => absurd q31 z)
                exact xv_w (sb62_93 E B  q_27.2 h hN) rfl
              · rw [if_neg q31] at h
                refine xv_if_eq E 93 (show decode prog_4_method_20_code 86 = .ok (.ifCond .eq (7), 3) by decide +kernel) rfl (fun z => absurd z q31) (fun _ => ?_)
                refine xv_b E [.iconst 1] (pc' := 90) (lv' := [(4, .inl ((6 : Int32) + ((3 : Int32) * q_1.1))), (3, .inl q_1.1), (0, .inr (.inr (some a0))), (1, .inl v1), (2, .inr (.inr o2))]) (st' := [.inl (1 : Int32)]) (by decide +kernel) rfl rfl ?_
                refine xv_goto E 94 (show decode prog_4_method_20_code 90 = .ok (.goto (4), 3) by decide +kernel) rfl ?_
                exact xv_w (sb62_94 E B (1 : Int32) q_27.2 h hN) rfl
    · rw [if_neg q36] at h
      refine xv_icmp_eq E 39 (show decode prog_4_method_20_code 34 = .ok (.if_icmp .eq (5), 3) by decide +kernel) rfl (fun z => absurd z q36) (fun _ => ?_)
      exact xv_w (sb62_37 E B  q_5.2 h hN) rfl
end
theorem t62 (G : gX) (l : Launch) {as : List aV} {M : hM} {r : Option aV} {M' : hM} (h : f62 as M = some (r, M')) : xM G l ym62 prog_4_method_20_code 5 (some FieldType.boolean) 3 as M r M' := by
  unfold f62 at h
  split at h
  · have h := x_out_ok h
    refine xM_of (by decide) (Nat.le_of_ble_eq_true rfl) (lb62_0 G l _ _ _ M h) ?_
    intro p e s m args below meth c E B
    exact sb62_0 E B _ _ _ M h rfl
  · cases h
