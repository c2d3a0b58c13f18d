theorem mw358 : Cond.code ⟨"ZonedFabric$Frame", "isTrue", "(LZonedFabric$Shared;)Z"⟩ prog_4_method_18_code 3 (some FieldType.boolean) ∈ xTs := xTs_in (tk3 (List.mem_of_getElem? (i := 218) (by decide +kernel))) rfl
theorem mw359 : Cond.methodLink "ZonedFabric$Frame" 62 ⟨"ZonedFabric$Frame", "hasForm", "(ILZonedFabric$Shared;)Z"⟩ ∈ xTs := xTs_in (tk4 (List.mem_of_getElem? (i := 8) (by decide +kernel))) rfl
theorem mw360 : Cond.instanceMethod ⟨"ZonedFabric$Frame", "hasForm", "(ILZonedFabric$Shared;)Z"⟩ ∈ xTs := xTs_in (tk4 (List.mem_of_getElem? (i := 10) (by decide +kernel))) rfl
theorem mw361 : Cond.selects "ZonedFabric$Frame" ⟨"ZonedFabric$Frame", "hasForm", "(ILZonedFabric$Shared;)Z"⟩ ⟨"ZonedFabric$Frame", "hasForm", "(ILZonedFabric$Shared;)Z"⟩ ∈ xTs := xTs_in (List.mem_append_left _ (List.mem_of_getElem? (i := 24) (by decide +kernel))) rfl
theorem mw362 : Cond.methodLink "ZonedFabric$Frame" 58 ⟨"ZonedFabric$Frame", "hasRecordForm", "(ILZonedFabric$Shared;)Z"⟩ ∈ xTs := xTs_in (tk3 (List.mem_of_getElem? (i := 231) (by decide +kernel))) rfl
theorem mw363 : Cond.instanceMethod ⟨"ZonedFabric$Frame", "hasRecordForm", "(ILZonedFabric$Shared;)Z"⟩ ∈ xTs := xTs_in (tk3 (List.mem_of_getElem? (i := 233) (by decide +kernel))) rfl
theorem mw364 : Cond.selects "ZonedFabric$Frame" ⟨"ZonedFabric$Frame", "hasRecordForm", "(ILZonedFabric$Shared;)Z"⟩ ⟨"ZonedFabric$Frame", "hasRecordForm", "(ILZonedFabric$Shared;)Z"⟩ ∈ xTs := xTs_in (List.mem_append_left _ (List.mem_of_getElem? (i := 21) (by decide +kernel))) rfl
theorem mw365 : Cond.code ⟨"ZonedFabric$Frame", "to", "()I"⟩ prog_4_method_11_code 1 (some FieldType.int) ∈ xTs := xTs_in (tk4 (List.mem_of_getElem? (i := 23) (by decide +kernel))) rfl
theorem mw366 : Cond.code ⟨"ZonedFabric$Frame", "from", "()I"⟩ prog_4_method_12_code 1 (some FieldType.int) ∈ xTs := xTs_in (tk4 (List.mem_of_getElem? (i := 33) (by decide +kernel))) rfl
theorem mw367 : Cond.code ⟨"ZonedFabric$Frame", "ox", "()I"⟩ prog_4_method_13_code 1 (some FieldType.int) ∈ xTs := xTs_in (tk4 (List.mem_of_getElem? (i := 147) (by decide +kernel))) rfl
theorem mw368 : Cond.code ⟨"ZonedFabric$Disc", "answer", "(ILZonedFabric$Frame;IIJ)V"⟩ prog_3_method_5_code 8 none ∈ xTs := xTs_in (tk4 (List.mem_of_getElem? (i := 201) (by decide +kernel))) rfl
theorem mw369 : Cond.methodLink "ZonedFabric$Disc" 56 ⟨"ZonedFabric$Frame", "from", "()I"⟩ ∈ xTs := xTs_in (tk4 (List.mem_of_getElem? (i := 186) (by decide +kernel))) rfl
theorem mw370 : Cond.instanceMethod ⟨"ZonedFabric$Frame", "from", "()I"⟩ ∈ xTs := xTs_in (tk4 (List.mem_of_getElem? (i := 31) (by decide +kernel))) rfl
theorem mw371 : Cond.selects "ZonedFabric$Frame" ⟨"ZonedFabric$Frame", "from", "()I"⟩ ⟨"ZonedFabric$Frame", "from", "()I"⟩ ∈ xTs := xTs_in (tk4 (List.mem_of_getElem? (i := 32) (by decide +kernel))) rfl
theorem mw372 : Cond.fieldLink "ZonedFabric$Disc" 77 "ZonedFabric$Node" "address" "I" ∈ xTs := xTs_in (tk2 (List.mem_of_getElem? (i := 7) (by decide +kernel))) rfl
theorem mw373 : Cond.methodLink "ZonedFabric$Disc" 82 ⟨"ZonedFabric$Frame", "ox", "()I"⟩ ∈ xTs := xTs_in (tk4 (List.mem_of_getElem? (i := 202) (by decide +kernel))) rfl
theorem mw374 : Cond.instanceMethod ⟨"ZonedFabric$Frame", "ox", "()I"⟩ ∈ xTs := xTs_in (tk4 (List.mem_of_getElem? (i := 145) (by decide +kernel))) rfl
theorem mw375 : Cond.selects "ZonedFabric$Frame" ⟨"ZonedFabric$Frame", "ox", "()I"⟩ ⟨"ZonedFabric$Frame", "ox", "()I"⟩ ∈ xTs := xTs_in (tk4 (List.mem_of_getElem? (i := 146) (by decide +kernel))) rfl
theorem mw376 : Cond.methodLink "ZonedFabric$Disc" 85 ⟨"ZonedFabric$Shared", "draft", "(IIII)LZonedFabric$Frame;"⟩ ∈ xTs := xTs_in (tk4 (List.mem_of_getElem? (i := 203) (by decide +kernel))) rfl
theorem mw377 : Cond.methodLink "ZonedFabric$Disc" 89 ⟨"ZonedFabric$Frame", "put", "(IIJ)V"⟩ ∈ xTs := xTs_in (tk4 (List.mem_of_getElem? (i := 204) (by decide +kernel))) rfl
theorem mw378 : Cond.methodLink "ZonedFabric$Disc" 93 ⟨"ZonedFabric$Frame", "addLoad", "(IJ)V"⟩ ∈ xTs := xTs_in (tk4 (List.mem_of_getElem? (i := 205) (by decide +kernel))) rfl
theorem mw379 : Cond.fieldLink "ZonedFabric$Disc" 97 "ZonedFabric$Node" "port" "LZonedFabric$Port;" ∈ xTs := xTs_in (tk2 (List.mem_of_getElem? (i := 4) (by decide +kernel))) rfl
theorem mw380 : Cond.methodLink "ZonedFabric$Disc" 101 ⟨"ZonedFabric$Port", "post", "(LZonedFabric$Frame;)V"⟩ ∈ xTs := xTs_in (tk4 (List.mem_of_getElem? (i := 206) (by decide +kernel))) rfl
theorem mw381 : Cond.code ⟨"ZonedFabric$OpenWrite", "isOf", "(LZonedFabric$Frame;)Z"⟩ prog_9_method_3_code 2 (some FieldType.boolean) ∈ xTs := xTs_in (tk4 (List.mem_of_getElem? (i := 235) (by decide +kernel))) rfl
theorem mw382 : Cond.fieldLink "ZonedFabric$OpenWrite" 15 "ZonedFabric$OpenWrite" "open" "Z" ∈ xTs := xTs_in (tk2 (List.mem_of_getElem? (i := 100) (by decide +kernel))) rfl
theorem mw383 : Cond.fieldLink "ZonedFabric$OpenWrite" 25 "ZonedFabric$OpenWrite" "ox" "I" ∈ xTs := xTs_in (tk2 (List.mem_of_getElem? (i := 102) (by decide +kernel))) rfl
theorem mw384 : Cond.methodLink "ZonedFabric$OpenWrite" 19 ⟨"ZonedFabric$Frame", "ox", "()I"⟩ ∈ xTs := xTs_in (tk4 (List.mem_of_getElem? (i := 221) (by decide +kernel))) rfl
theorem mw385 : Cond.fieldLink "ZonedFabric$OpenWrite" 31 "ZonedFabric$OpenWrite" "from" "I" ∈ xTs := xTs_in (tk2 (List.mem_of_getElem? (i := 103) (by decide +kernel))) rfl
theorem mw386 : Cond.methodLink "ZonedFabric$OpenWrite" 28 ⟨"ZonedFabric$Frame", "from", "()I"⟩ ∈ xTs := xTs_in (tk4 (List.mem_of_getElem? (i := 222) (by decide +kernel))) rfl
theorem mw387 : Cond.code ⟨"ZonedFabric$Disc", "takeAbort", "(LZonedFabric$Frame;)V"⟩ prog_3_method_13_code 3 none ∈ xTs := xTs_in (tk5 (List.mem_of_getElem? (i := 14) (by decide +kernel))) rfl
theorem mw388 : Cond.methodLink "ZonedFabric$Disc" 63 ⟨"ZonedFabric$Disc", "answer", "(ILZonedFabric$Frame;IIJ)V"⟩ ∈ xTs := xTs_in (tk4 (List.mem_of_getElem? (i := 198) (by decide +kernel))) rfl
theorem mw389 : Cond.instanceMethod ⟨"ZonedFabric$Disc", "answer", "(ILZonedFabric$Frame;IIJ)V"⟩ ∈ xTs := xTs_in (tk4 (List.mem_of_getElem? (i := 200) (by decide +kernel))) rfl
theorem mw390 : Cond.selects "ZonedFabric$Disc" ⟨"ZonedFabric$Disc", "answer", "(ILZonedFabric$Frame;IIJ)V"⟩ ⟨"ZonedFabric$Disc", "answer", "(ILZonedFabric$Frame;IIJ)V"⟩ ∈ xTs := xTs_in (List.mem_append_left _ (List.mem_of_getElem? (i := 44) (by decide +kernel))) rfl
theorem mw391 : Cond.methodLink "ZonedFabric$Disc" 135 ⟨"ZonedFabric$OpenWrite", "isOf", "(LZonedFabric$Frame;)Z"⟩ ∈ xTs := xTs_in (tk4 (List.mem_of_getElem? (i := 232) (by decide +kernel))) rfl
theorem mw392 : Cond.instanceMethod ⟨"ZonedFabric$OpenWrite", "isOf", "(LZonedFabric$Frame;)Z"⟩ ∈ xTs := xTs_in (tk4 (List.mem_of_getElem? (i := 233) (by decide +kernel))) rfl
theorem mw393 : Cond.selects "ZonedFabric$OpenWrite" ⟨"ZonedFabric$OpenWrite", "isOf", "(LZonedFabric$Frame;)Z"⟩ ⟨"ZonedFabric$OpenWrite", "isOf", "(LZonedFabric$Frame;)Z"⟩ ∈ xTs := xTs_in (tk4 (List.mem_of_getElem? (i := 234) (by decide +kernel))) rfl
theorem mw394 : Cond.code ⟨"ZonedFabric$Frame", "rx", "()I"⟩ prog_4_method_14_code 1 (some FieldType.int) ∈ xTs := xTs_in (tk4 (List.mem_of_getElem? (i := 151) (by decide +kernel))) rfl
theorem mw395 : Cond.code ⟨"ZonedFabric$Frame", "part", "()I"⟩ prog_4_method_15_code 1 (some FieldType.int) ∈ xTs := xTs_in (tk4 (List.mem_of_getElem? (i := 160) (by decide +kernel))) rfl
theorem mw396 : Cond.code ⟨"ZonedFabric$OpenWrite", "keep", "(IJ)V"⟩ prog_9_method_4_code 4 none ∈ xTs := xTs_in (tk5 (List.mem_of_getElem? (i := 2) (by decide +kernel))) rfl
theorem mw397 : Cond.fieldLink "ZonedFabric$OpenWrite" 49 "ZonedFabric$OpenWrite" "cameBits" "I" ∈ xTs := xTs_in (tk2 (List.mem_of_getElem? (i := 112) (by decide +kernel))) rfl
theorem mw398 : Cond.code ⟨"ZonedFabric$OpenWrite", "hasAll", "()Z"⟩ prog_9_method_5_code 1 (some FieldType.boolean) ∈ xTs := xTs_in (tk5 (List.mem_of_getElem? (i := 6) (by decide +kernel))) rfl
theorem mw399 : Cond.fieldLink "ZonedFabric$OpenWrite" 43 "ZonedFabric$OpenWrite" "count" "I" ∈ xTs := xTs_in (tk2 (List.mem_of_getElem? (i := 108) (by decide +kernel))) rfl
theorem mw400 : Cond.code ⟨"ZonedFabric$Disc", "store", "(LZonedFabric$OpenWrite;)V"⟩ prog_3_method_12_code 3 none ∈ xTs := xTs_in (tk5 (List.mem_of_getElem? (i := 10) (by decide +kernel))) rfl
theorem mw401 : Cond.fieldLink "ZonedFabric$Disc" 147 "ZonedFabric$OpenWrite" "count" "I" ∈ xTs := xTs_in (tk2 (List.mem_of_getElem? (i := 109) (by decide +kernel))) rfl
theorem mw402 : Cond.fieldLink "ZonedFabric$Disc" 165 "ZonedFabric$OpenWrite" "at" "I" ∈ xTs := xTs_in (tk2 (List.mem_of_getElem? (i := 107) (by decide +kernel))) rfl
theorem mw403 : Cond.fieldLink "ZonedFabric$Disc" 168 "ZonedFabric$OpenWrite" "values" "[J" ∈ xTs := xTs_in (tk2 (List.mem_of_getElem? (i := 114) (by decide +kernel))) rfl
theorem mw404 : Cond.code ⟨"ZonedFabric$Disc", "takeData", "(LZonedFabric$Frame;)V"⟩ prog_3_method_11_code 4 none ∈ xTs := xTs_in (tk4 (List.mem_of_getElem? (i := 231) (by decide +kernel))) rfl
theorem mw405 : Cond.fieldLink "ZonedFabric$Disc" 139 "ZonedFabric$OpenWrite" "rx" "I" ∈ xTs := xTs_in (tk2 (List.mem_of_getElem? (i := 105) (by decide +kernel))) rfl
theorem mw406 : Cond.methodLink "ZonedFabric$Disc" 142 ⟨"ZonedFabric$Frame", "rx", "()I"⟩ ∈ xTs := xTs_in (tk4 (List.mem_of_getElem? (i := 236) (by decide +kernel))) rfl
theorem mw407 : Cond.instanceMethod ⟨"ZonedFabric$Frame", "rx", "()I"⟩ ∈ xTs := xTs_in (tk4 (List.mem_of_getElem? (i := 149) (by decide +kernel))) rfl
theorem mw408 : Cond.selects "ZonedFabric$Frame" ⟨"ZonedFabric$Frame", "rx", "()I"⟩ ⟨"ZonedFabric$Frame", "rx", "()I"⟩ ∈ xTs := xTs_in (tk4 (List.mem_of_getElem? (i := 150) (by decide +kernel))) rfl
theorem mw409 : Cond.methodLink "ZonedFabric$Disc" 144 ⟨"ZonedFabric$Frame", "part", "()I"⟩ ∈ xTs := xTs_in (tk4 (List.mem_of_getElem? (i := 237) (by decide +kernel))) rfl
theorem mw410 : Cond.instanceMethod ⟨"ZonedFabric$Frame", "part", "()I"⟩ ∈ xTs := xTs_in (tk4 (List.mem_of_getElem? (i := 158) (by decide +kernel))) rfl
theorem mw411 : Cond.selects "ZonedFabric$Frame" ⟨"ZonedFabric$Frame", "part", "()I"⟩ ⟨"ZonedFabric$Frame", "part", "()I"⟩ ∈ xTs := xTs_in (tk4 (List.mem_of_getElem? (i := 159) (by decide +kernel))) rfl
theorem mw412 : Cond.methodLink "ZonedFabric$Disc" 150 ⟨"ZonedFabric$Frame", "number", "(II)J"⟩ ∈ xTs := xTs_in (tk4 (List.mem_of_getElem? (i := 238) (by decide +kernel))) rfl
theorem mw413 : Cond.methodLink "ZonedFabric$Disc" 154 ⟨"ZonedFabric$OpenWrite", "keep", "(IJ)V"⟩ ∈ xTs := xTs_in (tk4 (List.mem_of_getElem? (i := 239) (by decide +kernel))) rfl
theorem mw414 : Cond.instanceMethod ⟨"ZonedFabric$OpenWrite", "keep", "(IJ)V"⟩ ∈ xTs := xTs_in (tk5 (List.mem_of_getElem? (i := 0) (by decide +kernel))) rfl
theorem mw415 : Cond.selects "ZonedFabric$OpenWrite" ⟨"ZonedFabric$OpenWrite", "keep", "(IJ)V"⟩ ⟨"ZonedFabric$OpenWrite", "keep", "(IJ)V"⟩ ∈ xTs := xTs_in (tk5 (List.mem_of_getElem? (i := 1) (by decide +kernel))) rfl
theorem mw416 : Cond.methodLink "ZonedFabric$Disc" 157 ⟨"ZonedFabric$OpenWrite", "hasAll", "()Z"⟩ ∈ xTs := xTs_in (tk5 (List.mem_of_getElem? (i := 3) (by decide +kernel))) rfl
theorem mw417 : Cond.instanceMethod ⟨"ZonedFabric$OpenWrite", "hasAll", "()Z"⟩ ∈ xTs := xTs_in (tk5 (List.mem_of_getElem? (i := 4) (by decide +kernel))) rfl
theorem mw418 : Cond.selects "ZonedFabric$OpenWrite" ⟨"ZonedFabric$OpenWrite", "hasAll", "()Z"⟩ ⟨"ZonedFabric$OpenWrite", "hasAll", "()Z"⟩ ∈ xTs := xTs_in (tk5 (List.mem_of_getElem? (i := 5) (by decide +kernel))) rfl
theorem mw419 : Cond.methodLink "ZonedFabric$Disc" 161 ⟨"ZonedFabric$Disc", "store", "(LZonedFabric$OpenWrite;)V"⟩ ∈ xTs := xTs_in (tk5 (List.mem_of_getElem? (i := 7) (by decide +kernel))) rfl
theorem mw420 : Cond.instanceMethod ⟨"ZonedFabric$Disc", "store", "(LZonedFabric$OpenWrite;)V"⟩ ∈ xTs := xTs_in (tk5 (List.mem_of_getElem? (i := 9) (by decide +kernel))) rfl
theorem mw421 : Cond.selects "ZonedFabric$Disc" ⟨"ZonedFabric$Disc", "store", "(LZonedFabric$OpenWrite;)V"⟩ ⟨"ZonedFabric$Disc", "store", "(LZonedFabric$OpenWrite;)V"⟩ ∈ xTs := xTs_in (List.mem_append_left _ (List.mem_of_getElem? (i := 49) (by decide +kernel))) rfl
theorem mw422 : Cond.code ⟨"ZonedFabric$Disc", "freeWrite", "()LZonedFabric$OpenWrite;"⟩ prog_3_method_8_code 2 (some (FieldType.object "ZonedFabric$OpenWrite")) ∈ xTs := xTs_in (tk4 (List.mem_of_getElem? (i := 215) (by decide +kernel))) rfl
theorem mw423 : Cond.code ⟨"ZonedFabric$Disc", "isLoggedIn", "(I)Z"⟩ prog_3_method_6_code 3 (some FieldType.boolean) ∈ xTs := xTs_in (tk4 (List.mem_of_getElem? (i := 194) (by decide +kernel))) rfl
theorem mw424 : Cond.code ⟨"ZonedFabric$Disc", "sendBlocks", "(LZonedFabric$Frame;II)V"⟩ prog_3_method_10_code 6 none ∈ xTs := xTs_in (tk4 (List.mem_of_getElem? (i := 227) (by decide +kernel))) rfl
theorem mw425 : Cond.code ⟨"ZonedFabric$OpenWrite", "begin", "(LZonedFabric$Frame;II)V"⟩ prog_9_method_2_code 4 none ∈ xTs := xTs_in (tk4 (List.mem_of_getElem? (i := 220) (by decide +kernel))) rfl
theorem mw426 : Cond.fieldLink "ZonedFabric$OpenWrite" 33 "ZonedFabric$OpenWrite" "rx" "I" ∈ xTs := xTs_in (tk2 (List.mem_of_getElem? (i := 104) (by decide +kernel))) rfl
theorem mw427 : Cond.methodLink "ZonedFabric$OpenWrite" 36 ⟨"ZonedFabric$Frame", "load", "(I)I"⟩ ∈ xTs := xTs_in (tk4 (List.mem_of_getElem? (i := 223) (by decide +kernel))) rfl
theorem mw428 : Cond.fieldLink "ZonedFabric$OpenWrite" 40 "ZonedFabric$OpenWrite" "at" "I" ∈ xTs := xTs_in (tk2 (List.mem_of_getElem? (i := 106) (by decide +kernel))) rfl
theorem mw429 : Cond.fieldLink "ZonedFabric$OpenWrite" 46 "ZonedFabric$OpenWrite" "openedAt" "I" ∈ xTs := xTs_in (tk2 (List.mem_of_getElem? (i := 110) (by decide +kernel))) rfl
theorem mw430 : Cond.code ⟨"ZonedFabric$Disc", "takeCommand", "(LZonedFabric$Frame;)V"⟩ prog_3_method_9_code 7 none ∈ xTs := xTs_in (tk4 (List.mem_of_getElem? (i := 210) (by decide +kernel))) rfl
theorem mw431 : Cond.methodLink "ZonedFabric$Disc" 116 ⟨"ZonedFabric$Frame", "load", "(I)I"⟩ ∈ xTs := xTs_in (tk4 (List.mem_of_getElem? (i := 211) (by decide +kernel))) rfl
theorem mw432 : Cond.methodLink "ZonedFabric$Disc" 120 ⟨"ZonedFabric$Disc", "freeWrite", "()LZonedFabric$OpenWrite;"⟩ ∈ xTs := xTs_in (tk4 (List.mem_of_getElem? (i := 212) (by decide +kernel))) rfl
theorem mw433 : Cond.instanceMethod ⟨"ZonedFabric$Disc", "freeWrite", "()LZonedFabric$OpenWrite;"⟩ ∈ xTs := xTs_in (tk4 (List.mem_of_getElem? (i := 214) (by decide +kernel))) rfl
theorem mw434 : Cond.selects "ZonedFabric$Disc" ⟨"ZonedFabric$Disc", "freeWrite", "()LZonedFabric$OpenWrite;"⟩ ⟨"ZonedFabric$Disc", "freeWrite", "()LZonedFabric$OpenWrite;"⟩ ∈ xTs := xTs_in (List.mem_append_left _ (List.mem_of_getElem? (i := 46) (by decide +kernel))) rfl
theorem mw435 : Cond.methodLink "ZonedFabric$Disc" 106 ⟨"ZonedFabric$Disc", "isLoggedIn", "(I)Z"⟩ ∈ xTs := xTs_in (tk4 (List.mem_of_getElem? (i := 191) (by decide +kernel))) rfl
theorem mw436 : Cond.instanceMethod ⟨"ZonedFabric$Disc", "isLoggedIn", "(I)Z"⟩ ∈ xTs := xTs_in (tk4 (List.mem_of_getElem? (i := 193) (by decide +kernel))) rfl
theorem mw437 : Cond.selects "ZonedFabric$Disc" ⟨"ZonedFabric$Disc", "isLoggedIn", "(I)Z"⟩ ⟨"ZonedFabric$Disc", "isLoggedIn", "(I)Z"⟩ ∈ xTs := xTs_in (List.mem_append_left _ (List.mem_of_getElem? (i := 43) (by decide +kernel))) rfl
theorem mw438 : Cond.methodLink "ZonedFabric$Disc" 132 ⟨"ZonedFabric$Disc", "sendBlocks", "(LZonedFabric$Frame;II)V"⟩ ∈ xTs := xTs_in (tk4 (List.mem_of_getElem? (i := 224) (by decide +kernel))) rfl
theorem mw439 : Cond.instanceMethod ⟨"ZonedFabric$Disc", "sendBlocks", "(LZonedFabric$Frame;II)V"⟩ ∈ xTs := xTs_in (tk4 (List.mem_of_getElem? (i := 226) (by decide +kernel))) rfl
theorem mw440 : Cond.selects "ZonedFabric$Disc" ⟨"ZonedFabric$Disc", "sendBlocks", "(LZonedFabric$Frame;II)V"⟩ ⟨"ZonedFabric$Disc", "sendBlocks", "(LZonedFabric$Frame;II)V"⟩ ∈ xTs := xTs_in (List.mem_append_left _ (List.mem_of_getElem? (i := 47) (by decide +kernel))) rfl
theorem mw441 : Cond.fieldLink "ZonedFabric$Disc" 124 "ZonedFabric$Disc" "lastRx" "I" ∈ xTs := xTs_in (tk2 (List.mem_of_getElem? (i := 142) (by decide +kernel))) rfl
theorem mw442 : Cond.methodLink "ZonedFabric$Disc" 128 ⟨"ZonedFabric$OpenWrite", "begin", "(LZonedFabric$Frame;II)V"⟩ ∈ xTs := xTs_in (tk4 (List.mem_of_getElem? (i := 217) (by decide +kernel))) rfl
theorem mw443 : Cond.instanceMethod ⟨"ZonedFabric$OpenWrite", "begin", "(LZonedFabric$Frame;II)V"⟩ ∈ xTs := xTs_in (tk4 (List.mem_of_getElem? (i := 218) (by decide +kernel))) rfl
theorem mw444 : Cond.selects "ZonedFabric$OpenWrite" ⟨"ZonedFabric$OpenWrite", "begin", "(LZonedFabric$Frame;II)V"⟩ ⟨"ZonedFabric$OpenWrite", "begin", "(LZonedFabric$Frame;II)V"⟩ ∈ xTs := xTs_in (tk4 (List.mem_of_getElem? (i := 219) (by decide +kernel))) rfl
theorem mw445 : Cond.constant "ZonedFabric$Disc" 127 (65535) ∈ xTs := xTs_in (tk4 (List.mem_of_getElem? (i := 216) (by decide +kernel))) rfl
theorem mw446 : Cond.code ⟨"ZonedFabric$Disc", "logIn", "(I)V"⟩ prog_3_method_7_code 2 none ∈ xTs := xTs_in (tk4 (List.mem_of_getElem? (i := 190) (by decide +kernel))) rfl
theorem mw447 : Cond.methodLink "ZonedFabric$Disc" 110 ⟨"java/lang/System", "arraycopy", "(Ljava/lang/Object;ILjava/lang/Object;II)V"⟩ ∈ xTs := xTs_in (tk4 (List.mem_of_getElem? (i := 195) (by decide +kernel))) rfl
theorem mw448 : Cond.native ⟨"java/lang/System", "arraycopy", "(Ljava/lang/Object;ILjava/lang/Object;II)V"⟩ ∈ xTs := xTs_in (tk4 (List.mem_of_getElem? (i := 197) (by decide +kernel))) rfl
theorem mw449 : Cond.static ⟨"java/lang/System", "arraycopy", "(Ljava/lang/Object;ILjava/lang/Object;II)V"⟩ ∈ xTs := xTs_in (tk4 (List.mem_of_getElem? (i := 196) (by decide +kernel))) rfl
theorem mw450 : Cond.initialized "java/lang/System" ∈ xTs := xTs_in (tk1 (List.mem_of_getElem? (i := 14) (by decide +kernel))) rfl
theorem mw451 : Cond.code ⟨"ZonedFabric$Disc", "take", "(LZonedFabric$Frame;)V"⟩ prog_3_method_4_code 2 none ∈ xTs := xTs_in (tk4 (List.mem_of_getElem? (i := 184) (by decide +kernel))) rfl
theorem mw452 : Cond.methodLink "ZonedFabric$Disc" 50 ⟨"ZonedFabric$Frame", "kind", "()I"⟩ ∈ xTs := xTs_in (tk4 (List.mem_of_getElem? (i := 185) (by decide +kernel))) rfl
theorem mw453 : Cond.methodLink "ZonedFabric$Disc" 59 ⟨"ZonedFabric$Disc", "logIn", "(I)V"⟩ ∈ xTs := xTs_in (tk4 (List.mem_of_getElem? (i := 187) (by decide +kernel))) rfl
theorem mw454 : Cond.instanceMethod ⟨"ZonedFabric$Disc", "logIn", "(I)V"⟩ ∈ xTs := xTs_in (tk4 (List.mem_of_getElem? (i := 189) (by decide +kernel))) rfl
theorem mw455 : Cond.selects "ZonedFabric$Disc" ⟨"ZonedFabric$Disc", "logIn", "(I)V"⟩ ⟨"ZonedFabric$Disc", "logIn", "(I)V"⟩ ∈ xTs := xTs_in (List.mem_append_left _ (List.mem_of_getElem? (i := 42) (by decide +kernel))) rfl
theorem mw456 : Cond.methodLink "ZonedFabric$Disc" 67 ⟨"ZonedFabric$Disc", "takeCommand", "(LZonedFabric$Frame;)V"⟩ ∈ xTs := xTs_in (tk4 (List.mem_of_getElem? (i := 207) (by decide +kernel))) rfl
theorem mw457 : Cond.instanceMethod ⟨"ZonedFabric$Disc", "takeCommand", "(LZonedFabric$Frame;)V"⟩ ∈ xTs := xTs_in (tk4 (List.mem_of_getElem? (i := 209) (by decide +kernel))) rfl
theorem mw458 : Cond.selects "ZonedFabric$Disc" ⟨"ZonedFabric$Disc", "takeCommand", "(LZonedFabric$Frame;)V"⟩ ⟨"ZonedFabric$Disc", "takeCommand", "(LZonedFabric$Frame;)V"⟩ ∈ xTs := xTs_in (List.mem_append_left _ (List.mem_of_getElem? (i := 45) (by decide +kernel))) rfl
theorem mw459 : Cond.methodLink "ZonedFabric$Disc" 71 ⟨"ZonedFabric$Disc", "takeData", "(LZonedFabric$Frame;)V"⟩ ∈ xTs := xTs_in (tk4 (List.mem_of_getElem? (i := 228) (by decide +kernel))) rfl
theorem mw460 : Cond.instanceMethod ⟨"ZonedFabric$Disc", "takeData", "(LZonedFabric$Frame;)V"⟩ ∈ xTs := xTs_in (tk4 (List.mem_of_getElem? (i := 230) (by decide +kernel))) rfl
theorem mw461 : Cond.selects "ZonedFabric$Disc" ⟨"ZonedFabric$Disc", "takeData", "(LZonedFabric$Frame;)V"⟩ ⟨"ZonedFabric$Disc", "takeData", "(LZonedFabric$Frame;)V"⟩ ∈ xTs := xTs_in (List.mem_append_left _ (List.mem_of_getElem? (i := 48) (by decide +kernel))) rfl
theorem mw462 : Cond.methodLink "ZonedFabric$Disc" 74 ⟨"ZonedFabric$Disc", "takeAbort", "(LZonedFabric$Frame;)V"⟩ ∈ xTs := xTs_in (tk5 (List.mem_of_getElem? (i := 11) (by decide +kernel))) rfl
theorem mw463 : Cond.instanceMethod ⟨"ZonedFabric$Disc", "takeAbort", "(LZonedFabric$Frame;)V"⟩ ∈ xTs := xTs_in (tk5 (List.mem_of_getElem? (i := 13) (by decide +kernel))) rfl
theorem mw464 : Cond.selects "ZonedFabric$Disc" ⟨"ZonedFabric$Disc", "takeAbort", "(LZonedFabric$Frame;)V"⟩ ⟨"ZonedFabric$Disc", "takeAbort", "(LZonedFabric$Frame;)V"⟩ ∈ xTs := xTs_in (List.mem_append_left _ (List.mem_of_getElem? (i := 50) (by decide +kernel))) rfl
theorem mw465 : Cond.code ⟨"ZonedFabric$Host", "commandOf", "(LZonedFabric$Frame;I)LZonedFabric$Command;"⟩ prog_6_method_12_code 5 (some (FieldType.object "ZonedFabric$Command")) ∈ xTs := xTs_in (tk4 (List.mem_of_getElem? (i := 143) (by decide +kernel))) rfl
theorem mw466 : Cond.methodLink "ZonedFabric$Host" 147 ⟨"ZonedFabric$Frame", "ox", "()I"⟩ ∈ xTs := xTs_in (tk4 (List.mem_of_getElem? (i := 144) (by decide +kernel))) rfl
theorem mw467 : Cond.methodLink "ZonedFabric$Host" 121 ⟨"ZonedFabric$Frame", "from", "()I"⟩ ∈ xTs := xTs_in (tk4 (List.mem_of_getElem? (i := 109) (by decide +kernel))) rfl
theorem mw468 : Cond.code ⟨"ZonedFabric$Host", "takeAborted", "(LZonedFabric$Frame;)V"⟩ prog_6_method_16_code 3 none ∈ xTs := xTs_in (tk4 (List.mem_of_getElem? (i := 180) (by decide +kernel))) rfl
theorem mw469 : Cond.methodLink "ZonedFabric$Host" 150 ⟨"ZonedFabric$Host", "commandOf", "(LZonedFabric$Frame;I)LZonedFabric$Command;"⟩ ∈ xTs := xTs_in (tk4 (List.mem_of_getElem? (i := 140) (by decide +kernel))) rfl
theorem mw470 : Cond.instanceMethod ⟨"ZonedFabric$Host", "commandOf", "(LZonedFabric$Frame;I)LZonedFabric$Command;"⟩ ∈ xTs := xTs_in (tk4 (List.mem_of_getElem? (i := 142) (by decide +kernel))) rfl
theorem mw471 : Cond.selects "ZonedFabric$Host" ⟨"ZonedFabric$Host", "commandOf", "(LZonedFabric$Frame;I)LZonedFabric$Command;"⟩ ⟨"ZonedFabric$Host", "commandOf", "(LZonedFabric$Frame;I)LZonedFabric$Command;"⟩ ∈ xTs := xTs_in (List.mem_append_left _ (List.mem_of_getElem? (i := 38) (by decide +kernel))) rfl
theorem mw472 : Cond.code ⟨"ZonedFabric$Command", "hasAll", "()Z"⟩ prog_2_method_6_code 1 (some FieldType.boolean) ∈ xTs := xTs_in (tk4 (List.mem_of_getElem? (i := 176) (by decide +kernel))) rfl
theorem mw473 : Cond.fieldLink "ZonedFabric$Command" 39 "ZonedFabric$Command" "cameBits" "I" ∈ xTs := xTs_in (tk5 (List.mem_of_getElem? (i := 72) (by decide +kernel))) rfl
/-! ZF.Frame.isTrue(LZF$Shared;)Z -/
def ym63 : MethodName := ⟨"ZonedFabric$Frame", "isTrue", "(LZonedFabric$Shared;)Z"⟩
theorem cd63 : xCd ym63 prog_4_method_18_code 3 (some FieldType.boolean) 1 := ⟨mw358, mw207, by decide, by decide, by decide +kernel⟩
def b63_88 (si0 : Int32) (M : hM) : Option xRes :=
  if si0 = 0 ∨ si0 = 1 then
    (some (.inl (some (.inl si0), M)))
  else
    none
def b63_83  (M : hM) : Option xRes :=
  b63_88 (1 : Int32) M
def b63_87  (M : hM) : Option xRes :=
  b63_88 (0 : Int32) M
def b63_0 (a0 : Nat) (o1 : Option Nat) (M : hM) : Option xRes :=
  Option.bind (g_i M 2 2 (some a0)) fun v_1 =>
  if v_1 = 0 then
    (some (.inl (some (.inl (1 : Int32)), M)))
  else
    (Option.bind (g_i M 2 1 (some a0)) fun v_3 =>
    Option.bind (g_o M 2 (some a0)) fun b_7 =>
    Option.bind (c_I (f55 [.inr (.inr (some b_7)), .inl (12 : Int32)] M)) fun q_5 =>
    if q_5.1 = ((v_3 - (13 : Int32)) - (4 : Int32)) then
      (Option.bind (g_i q_5.2 2 1 (some a0)) fun v_9 =>
      Option.bind (g_o q_5.2 2 (some a0)) fun b_13 =>
      Option.bind (c_L (f56 [.inr (.inr (some b_13)), .inl (v_9 - (4 : Int32)), .inl (4 : Int32)] q_5.2)) fun q_11 =>
      Option.bind (g_i q_11.2 2 1 (some a0)) fun v_15 =>
      Option.bind (g_o q_11.2 2 (some a0)) fun b_19 =>
      Option.bind (c_I (f42 [.inr (.inr (some b_19)), .inl (v_15 - (4 : Int32))] q_11.2)) fun q_17 =>
      if (Int64.toInt32 q_11.1) = q_17.1 then
        (Option.bind (g_o q_17.2 2 (some a0)) fun b_23 =>
        Option.bind (c_I (f57 [.inr (.inr (some b_23))] q_17.2)) fun q_21 =>
        if q_21.1 = (2 : Int32) then
          (Option.bind (g_o q_21.2 2 (some a0)) fun b_32 =>
          Option.bind (c_I (f62 [.inr (.inr (some b_32)), .inl ((v_3 - (13 : Int32)) - (4 : Int32)), .inr (.inr o1)] q_21.2)) fun q_30 =>
          if q_30.1 = 0 then
            (b63_87  q_30.2)
          else
            (b63_83  q_30.2))
        else
          (Option.bind (g_o q_21.2 2 (some a0)) fun b_27 =>
          Option.bind (c_I (f59 [.inr (.inr (some b_27)), .inl ((v_3 - (13 : Int32)) - (4 : Int32)), .inr (.inr o1)] q_21.2)) fun q_25 =>
          if q_25.1 = 0 then
            (b63_87  q_25.2)
          else
            (b63_83  q_25.2)))
      else
        (b63_87  q_17.2))
    else
      (b63_87  q_5.2))
def f63 (as : List aV) (M : hM) : xO := match as with
  | [.inr (.inr (some a0)), .inr (.inr o1)] => x_out (b63_0 a0 o1 M)
  | _ => none
theorem lb63_88 (G : gX) (l : Launch) (si0 : Int32) (M : hM) {res : xRes} (h : b63_88 si0 M = some res) : h_sz M ≤ r_sz res ∧ h_sl M ≤ r_sl res := by
  unfold b63_88 at h
  by_cases q39 : si0 = 0 ∨ si0 = 1
  · rw [if_pos q39] at h
    obtain rfl := Option.some.inj h
    show h_sz M ≤ h_sz M ∧ h_sl M ≤ h_sl M
    omega
  · rw [if_neg q39] at h
    cases h
theorem lb63_83 (G : gX) (l : Launch)  (M : hM) {res : xRes} (h : b63_83  M = some res) : h_sz M ≤ r_sz res ∧ h_sl M ≤ r_sl res := by
  unfold b63_83 at h
  have e := lb63_88 G l (1 : Int32) M h
  omega
theorem lb63_87 (G : gX) (l : Launch)  (M : hM) {res : xRes} (h : b63_87  M = some res) : h_sz M ≤ r_sz res ∧ h_sl M ≤ r_sl res := by
  unfold b63_87 at h
  have e := lb63_88 G l (0 : Int32) M h
  omega
theorem lb63_0 (G : gX) (l : Launch) (a0 : Nat) (o1 : Option Nat) (M : hM) {res : xRes} (h : b63_0 a0 o1 M = some res) : h_sz M ≤ r_sz res ∧ h_sl M ≤ r_sl res := by
  unfold b63_0 at h
  obtain ⟨v_1, h2, h⟩ := bd h
  by_cases q38 : v_1 = 0
  · rw [if_pos q38] at h
    obtain rfl := Option.some.inj h
    show h_sz M ≤ h_sz M ∧ h_sl M ≤ h_sl M
    omega
  · rw [if_neg q38] at h
    obtain ⟨v_3, h4, h⟩ := bd h
    obtain ⟨b_7, h8, h⟩ := bd h
    obtain ⟨q_5, h6, h⟩ := bd h
    have eh6 := (t55 G l (c_I_some h6)).1
    by_cases q37 : q_5.1 = ((v_3 - (13 : Int32)) - (4 : Int32))
    · rw [if_pos q37] at h
      obtain ⟨v_9, h10, h⟩ := bd h
      obtain ⟨b_13, h14, h⟩ := bd h
      obtain ⟨q_11, h12, h⟩ := bd h
      have eh12 := (t56 G l (c_L_some h12)).1
      obtain ⟨v_15, h16, h⟩ := bd h
      obtain ⟨b_19, h20, h⟩ := bd h
      obtain ⟨q_17, h18, h⟩ := bd h
      have eh18 := (t42 G l (c_I_some h18)).1
      by_cases q36 : (Int64.toInt32 q_11.1) = q_17.1
      · rw [if_pos q36] at h
        obtain ⟨b_23, h24, h⟩ := bd h
        obtain ⟨q_21, h22, h⟩ := bd h
        have eh22 := (t57 G l (c_I_some h22)).1
        by_cases q35 : q_21.1 = (2 : Int32)
        · rw [if_pos q35] at h
          obtain ⟨b_32, h33, h⟩ := bd h
          obtain ⟨q_30, h31, h⟩ := bd h
          have eh31 := (t62 G l (c_I_some h31)).1
          by_cases q34 : q_30.1 = 0
          · rw [if_pos q34] at h
            have e := lb63_87 G l  q_30.2 h
            omega
          · rw [if_neg q34] at h
            have e := lb63_83 G l  q_30.2 h
            omega
        · rw [if_neg q35] at h
          obtain ⟨b_27, h28, h⟩ := bd h
          obtain ⟨q_25, h26, h⟩ := bd h
          have eh26 := (t59 G l (c_I_some h26)).1
          by_cases q29 : q_25.1 = 0
          · rw [if_pos q29] at h
            have e := lb63_87 G l  q_25.2 h
            omega
          · rw [if_neg q29] at h
            have e := lb63_83 G l  q_25.2 h
            omega
      · rw [if_neg q36] at h
        have e := lb63_87 G l  q_17.2 h
        omega
    · rw [if_neg q37] at h
      have e := lb63_87 G l  q_5.2 h
      omega
section
variable {p : Program} {l : Launch} {e : Env} {s : State} {m : MethodId} {args : Array Value} {below : List Frame} {meth : Method} {c : Code} {G : gX} {z0 y0 : Nat} {r : Option aV} {M' : hM}
theorem sb63_88 (E : xE G p (xRm 4 (h_sz M' - z0) (h_sl M' - y0)) s m args c prog_4_method_18_code "ZonedFabric$Frame" z0 y0 (h_sz M') (h_sl M') 3) (B : xB ym63 (some FieldType.boolean) meth) (si0 : Int32) (M : hM) {res : xRes} (h : b63_88 si0 M = some res) (hN : xN (fun _ _ _ => False) r M' res) : xV G p l e (xRm 4 (h_sz M' - z0) (h_sl M' - y0)) s m args below meth c z0 y0 (h_sz M') (h_sl M') 3 (MQ below (xQc G r M') args s (h_sz M' - z0) (h_sl M' - y0) (xFr G)) 88 [] [.inl si0] M := by
  unfold b63_88 at h
  by_cases q39 : si0 = 0 ∨ si0 = 1
  · rw [if_pos q39] at h
    obtain rfl := Option.some.inj h
    obtain ⟨rfl, rfl⟩ := Prod.mk.inj (show ((some (.inl si0) : Option aV), M) = (r, M') from hN)
    exact xv_ri E B.1 (by rcases q39 with z | z <;> rw [z] <;> rfl) B.2.1 (show decode prog_4_method_18_code 88 = .ok (.ireturn, 1) by decide +kernel) rfl rfl
  · rw [if_neg q39] at h
    cases h
theorem sb63_83 (E : xE G p (xRm 4 (h_sz M' - z0) (h_sl M' - y0)) s m args c prog_4_method_18_code "ZonedFabric$Frame" z0 y0 (h_sz M') (h_sl M') 3) (B : xB ym63 (some FieldType.boolean) meth)  (M : hM) {res : xRes} (h : b63_83  M = some res) (hN : xN (fun _ _ _ => False) r M' res) : xV G p l e (xRm 4 (h_sz M' - z0) (h_sl M' - y0)) s m args below meth c z0 y0 (h_sz M') (h_sl M') 3 (MQ below (xQc G r M') args s (h_sz M' - z0) (h_sl M' - y0) (xFr G)) 83 [] [] M := by
  unfold b63_83 at h
  refine xv_b E [.iconst 1] (pc' := 84) (lv' := []) (st' := [.inl (1 : Int32)]) (by decide +kernel) rfl rfl ?_
  refine xv_goto E 88 (show decode prog_4_method_18_code 84 = .ok (.goto (4), 3) by decide +kernel) rfl ?_
  exact xv_w (sb63_88 E B (1 : Int32) M h hN) rfl
theorem sb63_87 (E : xE G p (xRm 4 (h_sz M' - z0) (h_sl M' - y0)) s m args c prog_4_method_18_code "ZonedFabric$Frame" z0 y0 (h_sz M') (h_sl M') 3) (B : xB ym63 (some FieldType.boolean) meth)  (M : hM) {res : xRes} (h : b63_87  M = some res) (hN : xN (fun _ _ _ => False) r M' res) : xV G p l e (xRm 4 (h_sz M' - z0) (h_sl M' - y0)) s m args below meth c z0 y0 (h_sz M') (h_sl M') 3 (MQ below (xQc G r M') args s (h_sz M' - z0) (h_sl M' - y0) (xFr G)) 87 [] [] M := by
  unfold b63_87 at h
  refine xv_b E [.iconst 0] (pc' := 88) (lv' := []) (st' := [.inl (0 : Int32)]) (by decide +kernel) rfl rfl ?_
  exact xv_w (sb63_88 E B (0 : Int32) M h hN) rfl
theorem sb63_0 (E : xE G p (xRm 4 (h_sz M' - z0) (h_sl M' - y0)) s m args c prog_4_method_18_code "ZonedFabric$Frame" z0 y0 (h_sz M') (h_sl M') 3) (B : xB ym63 (some FieldType.boolean) meth) (a0 : Nat) (o1 : Option Nat) (M : hM) {res : xRes} (h : b63_0 a0 o1 M = some res) (hN : xN (fun _ _ _ => False) r M' res) : xV G p l e (xRm 4 (h_sz M' - z0) (h_sl M' - y0)) s m args below meth c z0 y0 (h_sz M') (h_sl M') 3 (MQ below (xQc G r M') args s (h_sz M' - z0) (h_sl M' - y0) (xFr G)) 0 [(0, .inr (.inr (some a0))), (1, .inr (.inr o1))] [] M := by
  unfold b63_0 at h
  refine xv_b E [.aload_n 0] (pc' := 1) (lv' := [(0, .inr (.inr (some a0))), (1, .inr (.inr o1))]) (st' := [.inr (.inr (some a0))]) (by decide +kernel) rfl rfl ?_
  obtain ⟨v_1, h2, h⟩ := bd h
  refine xg_i E 2 2 h2 mw209 (show decode prog_4_method_18_code 1 = .ok (.getfield 19, 3) by decide +kernel) ?_
  by_cases q38 : v_1 = 0
  · rw [if_pos q38] at h
    refine xv_if_ne E 9 (show decode prog_4_method_18_code 4 = .ok (.ifCond .ne (5), 3) by decide +kernel) rfl (fun z => absurd q38 z) (fun _ => ?_)
    refine xv_b E [.iconst 1] (pc' := 8) (lv' := [(0, .inr (.inr (some a0))), (1, .inr (.inr o1))]) (st' := [.inl (1 : Int32)]) (by decide +kernel) rfl rfl ?_
    obtain rfl := Option.some.inj h
    obtain ⟨rfl, rfl⟩ := Prod.mk.inj (show ((some (.inl (1 : Int32)) : Option aV), M) = (r, M') from hN)
    exact xv_ri E B.1 rfl B.2.1 (show decode prog_4_method_18_code 8 = .ok (.ireturn, 1) by decide +kernel) rfl rfl
  · rw [if_neg q38] at h
    refine xv_if_ne E 9 (show decode prog_4_method_18_code 4 = .ok (.ifCond .ne (5), 3) by decide +kernel) rfl (fun _ => ?_) (fun z => absurd z q38)
    refine xv_b E [.aload_n 0] (pc' := 10) (lv' := [(0, .inr (.inr (some a0))), (1, .inr (.inr o1))]) (st' := [.inr (.inr (some a0))]) (by decide +kernel) rfl rfl ?_
    obtain ⟨v_3, h4, h⟩ := bd h
    refine xg_i E 2 1 h4 mw219 (show decode prog_4_method_18_code 10 = .ok (.getfield 15, 3) by decide +kernel) ?_
    refine xv_b E [.bipush 13, .isub, .iconst 4, .isub, .istore_n 2, .aload_n 0, .bipush 12] (pc' := 22) (lv' := [(2, .inl ((v_3 - (13 : Int32)) - (4 : Int32))), (0, .inr (.inr (some a0))), (1, .inr (.inr o1))]) (st' := [.inl (12 : Int32), .inr (.inr (some a0))]) (by decide +kernel) rfl rfl ?_
    obtain ⟨b_7, h8, h⟩ := bd h
    obtain ⟨eh8, th8⟩ := g_o_some h8
    obtain ⟨q_5, h6, h⟩ := bd h
    refine xv_cvo E eh8 2 (as := [.inl (12 : Int32)]) (t55 G l (c_I_some h6)) cd55 mw332 mw333 mw334 (show decode prog_4_method_18_code 22 = .ok (.invokevirtual 49, 3) by decide +kernel) th8 rfl rfl (Nat.le_of_ble_eq_true rfl) ⟨Nat.le_of_ble_eq_true rfl, Nat.le_of_ble_eq_true rfl⟩ ?_
    refine xv_b E [.iload_n 2] (pc' := 26) (lv' := [(2, .inl ((v_3 - (13 : Int32)) - (4 : Int32))), (0, .inr (.inr (some a0))), (1, .inr (.inr o1))]) (st' := [.inl ((v_3 - (13 : Int32)) - (4 : Int32)), .inl q_5.1]) (by decide +kernel) rfl rfl ?_
    by_cases q37 : q_5.1 = ((v_3 - (13 : Int32)) - (4 : Int32))
    · rw [if_pos q37] at h
      refine xv_icmp_ne E 87 (show decode prog_4_method_18_code 26 = .ok (.if_icmp .ne (61), 3) by decide +kernel) rfl (fun z => absurd q37 z) (fun _ => ?_)
      refine xv_b E [.aload_n 0, .aload_n 0] (pc' := 31) (lv' := [(2, .inl ((v_3 - (13 : Int32)) - (4 : Int32))), (0, .inr (.inr (some a0))), (1, .inr (.inr o1))]) (st' := [.inr (.inr (some a0)), .inr (.inr (some a0))]) (by decide +kernel) rfl rfl ?_
      obtain ⟨v_9, h10, h⟩ := bd h
      refine xg_i E 2 1 h10 mw219 (show decode prog_4_method_18_code 31 = .ok (.getfield 15, 3) by decide +kernel) ?_
      refine xv_b E [.iconst 4, .isub, .iconst 4] (pc' := 37) (lv' := [(2, .inl ((v_3 - (13 : Int32)) - (4 : Int32))), (0, .inr (.inr (some a0))), (1, .inr (.inr o1))]) (st' := [.inl (4 : Int32), .inl (v_9 - (4 : Int32)), .inr (.inr (some a0))]) (by decide +kernel) rfl rfl ?_
      obtain ⟨b_13, h14, h⟩ := bd h
      obtain ⟨eh14, th14⟩ := g_o_some h14
      obtain ⟨q_11, h12, h⟩ := bd h
      refine xv_cvo E eh14 2 (as := [.inl (v_9 - (4 : Int32)), .inl (4 : Int32)]) (t56 G l (c_L_some h12)) cd56 mw346 mw347 mw348 (show decode prog_4_method_18_code 37 = .ok (.invokevirtual 50, 3) by decide +kernel) th14 rfl rfl (Nat.le_of_ble_eq_true rfl) ⟨Nat.le_of_ble_eq_true rfl, Nat.le_of_ble_eq_true rfl⟩ ?_
      refine xv_b E [.l2i, .aload_n 0, .aload_n 0] (pc' := 43) (lv' := [(2, .inl ((v_3 - (13 : Int32)) - (4 : Int32))), (0, .inr (.inr (some a0))), (1, .inr (.inr o1))]) (st' := [.inr (.inr (some a0)), .inr (.inr (some a0)), .inl (Int64.toInt32 q_11.1)]) (by decide +kernel) rfl rfl ?_
      obtain ⟨v_15, h16, h⟩ := bd h
      refine xg_i E 2 1 h16 mw219 (show decode prog_4_method_18_code 43 = .ok (.getfield 15, 3) by decide +kernel) ?_
      refine xv_b E [.iconst 4, .isub] (pc' := 48) (lv' := [(2, .inl ((v_3 - (13 : Int32)) - (4 : Int32))), (0, .inr (.inr (some a0))), (1, .inr (.inr o1))]) (st' := [.inl (v_15 - (4 : Int32)), .inr (.inr (some a0)), .inl (Int64.toInt32 q_11.1)]) (by decide +kernel) rfl rfl ?_
      obtain ⟨b_19, h20, h⟩ := bd h
      obtain ⟨eh20, th20⟩ := g_o_some h20
      obtain ⟨q_17, h18, h⟩ := bd h
      refine xv_cvo E eh20 2 (as := [.inl (v_15 - (4 : Int32))]) (t42 G l (c_I_some h18)) cd42 mw263 mw264 mw265 (show decode prog_4_method_18_code 48 = .ok (.invokevirtual 42, 3) by decide +kernel) th20 rfl rfl (Nat.le_of_ble_eq_true rfl) ⟨Nat.le_of_ble_eq_true rfl, Nat.le_of_ble_eq_true rfl⟩ ?_
      by_cases q36 : (Int64.toInt32 q_11.1) = q_17.1
      · rw [if_pos q36] at h
        refine xv_icmp_ne E 87 (show decode prog_4_method_18_code 51 = .ok (.if_icmp .ne (36), 3) by decide +kernel) rfl (fun z => absurd q36 z) (fun _ => ?_)
        refine xv_b E [.aload_n 0] (pc' := 55) (lv' := [(2, .inl ((v_3 - (13 : Int32)) - (4 : Int32))), (0, .inr (.inr (some a0))), (1, .inr (.inr o1))]) (st' := [.inr (.inr (some a0))]) (by decide +kernel) rfl rfl ?_
        obtain ⟨b_23, h24, h⟩ := bd h
        obtain ⟨eh24, th24⟩ := g_o_some h24
        obtain ⟨q_21, h22, h⟩ := bd h
        refine xv_cvo E eh24 2 (as := []) (t57 G l (c_I_some h22)) cd57 mw338 mw339 mw340 (show decode prog_4_method_18_code 55 = .ok (.invokevirtual 54, 3) by decide +kernel) th24 rfl rfl (Nat.le_of_ble_eq_true rfl) ⟨Nat.le_of_ble_eq_true rfl, Nat.le_of_ble_eq_true rfl⟩ ?_
        refine xv_b E [.iconst 2] (pc' := 59) (lv' := [(2, .inl ((v_3 - (13 : Int32)) - (4 : Int32))), (0, .inr (.inr (some a0))), (1, .inr (.inr o1))]) (st' := [.inl (2 : Int32), .inl q_21.1]) (by decide +kernel) rfl rfl ?_
        by_cases q35 : q_21.1 = (2 : Int32)
        · rw [if_pos q35] at h
          refine xv_icmp_ne E 74 (show decode prog_4_method_18_code 59 = .ok (.if_icmp .ne (15), 3) by decide +kernel) rfl (fun z => absurd q35 z) (fun _ => ?_)
          refine xv_b E [.aload_n 0, .iload_n 2, .aload_n 1] (pc' := 65) (lv' := [(2, .inl ((v_3 - (13 : Int32)) - (4 : Int32))), (0, .inr (.inr (some a0))), (1, .inr (.inr o1))]) (st' := [.inr (.inr o1), .inl ((v_3 - (13 : Int32)) - (4 : Int32)), .inr (.inr (some a0))]) (by decide +kernel) rfl rfl ?_
          obtain ⟨b_32, h33, h⟩ := bd h
          obtain ⟨eh33, th33⟩ := g_o_some h33
          obtain ⟨q_30, h31, h⟩ := bd h
          refine xv_cvo E eh33 2 (as := [.inl ((v_3 - (13 : Int32)) - (4 : Int32)), .inr (.inr o1)]) (t62 G l (c_I_some h31)) cd62 mw362 mw363 mw364 (show decode prog_4_method_18_code 65 = .ok (.invokevirtual 58, 3) by decide +kernel) th33 rfl rfl (Nat.le_of_ble_eq_true rfl) ⟨Nat.le_of_ble_eq_true rfl, Nat.le_of_ble_eq_true rfl⟩ ?_
          by_cases q34 : q_30.1 = 0
          · rw [if_pos q34] at h
            refine xv_if_eq E 87 (show decode prog_4_method_18_code 68 = .ok (.ifCond .eq (19), 3) by decide +kernel) rfl (fun _ => ?_) (fun z => absurd q34 z)
            exact xv_w (sb63_87 E B  q_30.2 h hN) rfl
          · rw [if_neg q34] at h
            refine xv_if_eq E 87 (show decode prog_4_method_18_code 68 = .ok (.ifCond .eq (19), 3) by decide +kernel) rfl (fun z => absurd z q34) (fun _ => ?_)
            refine xv_goto E 83 (show decode prog_4_method_18_code 71 = .ok (.goto (12), 3) by decide +kernel) rfl ?_
            exact xv_w (sb63_83 E B  q_30.2 h hN) rfl
        · rw [if_neg q35] at h
          refine xv_icmp_ne E 74 (show decode prog_4_method_18_code 59 = .ok (.if_icmp .ne (15), 3) by decide +kernel) rfl (fun _ => ?_) (fun z => absurd z q35)
          refine xv_b E [.aload_n 0, .iload_n 2, .aload_n 1] (pc' := 77) (lv' := [(2, .inl ((v_3 - (13 : Int32)) - (4 : Int32))), (0, .inr (.inr (some a0))), (1, .inr (.inr o1))]) (st' := [.inr (.inr o1), .inl ((v_3 - (13 : Int32)) - (4 : Int32)), .inr (.inr (some a0))]) (by decide +kernel) rfl rfl ?_
          obtain ⟨b_27, h28, h⟩ := bd h
          obtain ⟨eh28, th28⟩ := g_o_some h28
          obtain ⟨q_25, h26, h⟩ := bd h
          refine xv_cvo E eh28 2 (as := [.inl ((v_3 - (13 : Int32)) - (4 : Int32)), .inr (.inr o1)]) (t59 G l (c_I_some h26)) cd59 mw359 mw360 mw361 (show decode prog_4_method_18_code 77 = .ok (.invokevirtual 62, 3) by decide +kernel) th28 rfl rfl (Nat.le_of_ble_eq_true rfl) ⟨Nat.le_of_ble_eq_true rfl, Nat.le_of_ble_eq_true rfl⟩ ?_
          by_cases q29 : q_25.1 = 0
          · rw [if_pos q29] at h
            refine xv_if_eq E 87 (show decode prog_4_method_18_code 80 = .ok (.ifCond .eq (7), 3) by decide +kernel) rfl (fun _ => ?_) (fun z => absurd q29 z)
            exact xv_w (sb63_87 E B  q_25.2 h hN) rfl
          · rw [if_neg q29] at h
            refine xv_if_eq E 87 (show decode prog_4_method_18_code 80 = .ok (.ifCond .eq (7), 3) by decide +kernel) rfl (fun z => absurd z q29) (fun _ => ?_)
            exact xv_w (sb63_83 E B  q_25.2 h hN) rfl
      · rw [if_neg q36] at h
        refine xv_icmp_ne E 87 (show decode prog_4_method_18_code 51 = .ok (.if_icmp .ne (36), 3) by decide +kernel) rfl (fun _ => ?_) (fun z => absurd z q36)
        exact xv_w (sb63_87 E B  q_17.2 h hN) rfl
    · rw [if_neg q37] at h
      refine xv_icmp_ne E 87 (show decode prog_4_method_18_code 26 = .ok (.if_icmp .ne (61), 3) by decide +kernel) rfl (fun _ => ?_) (fun z => absurd z q37)
      exact xv_w (sb63_87 E B  q_5.2 h hN) rfl
end
theorem t63 (G : gX) (l : Launch) {as : List aV} {M : hM} {r : Option aV} {M' : hM} (h : f63 as M = some (r, M')) : xM G l ym63 prog_4_method_18_code 3 (some FieldType.boolean) 4 as M r M' := by
  unfold f63 at h
  split at h
  · have h := x_out_ok h
    refine xM_of (by decide) (Nat.le_of_ble_eq_true rfl) (lb63_0 G l _ _ M h) ?_
    intro p e s m args below meth c E B
    exact sb63_0 E B _ _ M h rfl
  · cases h
/-! ZF.Frame.to()I -/
def ym64 : MethodName := ⟨"ZonedFabric$Frame", "to", "()I"⟩
theorem cd64 : xCd ym64 prog_4_method_11_code 1 (some FieldType.int) 0 := ⟨mw365, mw207, by decide, by decide, by decide +kernel⟩
def b64_0 (a0 : Nat) (M : hM) : Option xRes :=
  Option.bind (g_o M 2 (some a0)) fun b_3 =>
  Option.bind (c_L (f56 [.inr (.inr (some b_3)), .inl (1 : Int32), .inl (3 : Int32)] M)) fun q_1 =>
  some (.inl (some (.inl (Int64.toInt32 q_1.1)), q_1.2))
def f64 (as : List aV) (M : hM) : xO := match as with
  | [.inr (.inr (some a0))] => x_out (b64_0 a0 M)
  | _ => none
theorem lb64_0 (G : gX) (l : Launch) (a0 : Nat) (M : hM) {res : xRes} (h : b64_0 a0 M = some res) : h_sz M ≤ r_sz res ∧ h_sl M ≤ r_sl res := by
  unfold b64_0 at h
  obtain ⟨b_3, h4, h⟩ := bd h
  obtain ⟨q_1, h2, h⟩ := bd h
  have eh2 := (t56 G l (c_L_some h2)).1
  obtain rfl := Option.some.inj h
  show h_sz M ≤ h_sz q_1.2 ∧ h_sl M ≤ h_sl q_1.2
  omega
section
variable {p : Program} {l : Launch} {e : Env} {s : State} {m : MethodId} {args : Array Value} {below : List Frame} {meth : Method} {c : Code} {G : gX} {z0 y0 : Nat} {r : Option aV} {M' : hM}
theorem sb64_0 (E : xE G p (xRm 2 (h_sz M' - z0) (h_sl M' - y0)) s m args c prog_4_method_11_code "ZonedFabric$Frame" z0 y0 (h_sz M') (h_sl M') 1) (B : xB ym64 (some FieldType.int) meth) (a0 : Nat) (M : hM) {res : xRes} (h : b64_0 a0 M = some res) (hN : xN (fun _ _ _ => False) r M' res) : xV G p l e (xRm 2 (h_sz M' - z0) (h_sl M' - y0)) s m args below meth c z0 y0 (h_sz M') (h_sl M') 1 (MQ below (xQc G r M') args s (h_sz M' - z0) (h_sl M' - y0) (xFr G)) 0 [(0, .inr (.inr (some a0)))] [] M := by
  unfold b64_0 at h
  refine xv_b E [.aload_n 0, .iconst 1, .iconst 3] (pc' := 3) (lv' := [(0, .inr (.inr (some a0)))]) (st' := [.inl (3 : Int32), .inl (1 : Int32), .inr (.inr (some a0))]) (by decide +kernel) rfl rfl ?_
  obtain ⟨b_3, h4, h⟩ := bd h
  obtain ⟨eh4, th4⟩ := g_o_some h4
  obtain ⟨q_1, h2, h⟩ := bd h
  refine xv_cvo E eh4 2 (as := [.inl (1 : Int32), .inl (3 : Int32)]) (t56 G l (c_L_some h2)) cd56 mw346 mw347 mw348 (show decode prog_4_method_11_code 3 = .ok (.invokevirtual 50, 3) by decide +kernel) th4 rfl rfl (Nat.le_of_ble_eq_true rfl) ⟨Nat.le_of_ble_eq_true rfl, Nat.le_of_ble_eq_true rfl⟩ ?_
  refine xv_b E [.l2i] (pc' := 7) (lv' := [(0, .inr (.inr (some a0)))]) (st' := [.inl (Int64.toInt32 q_1.1)]) (by decide +kernel) rfl rfl ?_
  obtain rfl := Option.some.inj h
  obtain ⟨rfl, rfl⟩ := Prod.mk.inj (show ((some (.inl (Int64.toInt32 q_1.1)) : Option aV), q_1.2) = (r, M') from hN)
  exact xv_ri E B.1 rfl B.2.1 (show decode prog_4_method_11_code 7 = .ok (.ireturn, 1) by decide +kernel) rfl rfl
end
theorem t64 (G : gX) (l : Launch) {as : List aV} {M : hM} {r : Option aV} {M' : hM} (h : f64 as M = some (r, M')) : xM G l ym64 prog_4_method_11_code 1 (some FieldType.int) 2 as M r M' := by
  unfold f64 at h
  split at h
  · have h := x_out_ok h
    refine xM_of (by decide) (Nat.le_of_ble_eq_true rfl) (lb64_0 G l _ M h) ?_
    intro p e s m args below meth c E B
    exact sb64_0 E B _ M h rfl
  · cases h
/-! ZF.Frame.from()I -/
def ym65 : MethodName := ⟨"ZonedFabric$Frame", "from", "()I"⟩
theorem cd65 : xCd ym65 prog_4_method_12_code 1 (some FieldType.int) 0 := ⟨mw366, mw207, by decide, by decide, by decide +kernel⟩
def b65_0 (a0 : Nat) (M : hM) : Option xRes :=
  Option.bind (g_o M 2 (some a0)) fun b_3 =>
  Option.bind (c_L (f56 [.inr (.inr (some b_3)), .inl (4 : Int32), .inl (3 : Int32)] M)) fun q_1 =>
  some (.inl (some (.inl (Int64.toInt32 q_1.1)), q_1.2))
def f65 (as : List aV) (M : hM) : xO := match as with
  | [.inr (.inr (some a0))] => x_out (b65_0 a0 M)
  | _ => none
theorem lb65_0 (G : gX) (l : Launch) (a0 : Nat) (M : hM) {res : xRes} (h : b65_0 a0 M = some res) : h_sz M ≤ r_sz res ∧ h_sl M ≤ r_sl res := by
  unfold b65_0 at h
  obtain ⟨b_3, h4, h⟩ := bd h
  obtain ⟨q_1, h2, h⟩ := bd h
  have eh2 := (t56 G l (c_L_some h2)).1
  obtain rfl := Option.some.inj h
  show h_sz M ≤ h_sz q_1.2 ∧ h_sl M ≤ h_sl q_1.2
  omega
section
variable {p : Program} {l : Launch} {e : Env} {s : State} {m : MethodId} {args : Array Value} {below : List Frame} {meth : Method} {c : Code} {G : gX} {z0 y0 : Nat} {r : Option aV} {M' : hM}
theorem sb65_0 (E : xE G p (xRm 2 (h_sz M' - z0) (h_sl M' - y0)) s m args c prog_4_method_12_code "ZonedFabric$Frame" z0 y0 (h_sz M') (h_sl M') 1) (B : xB ym65 (some FieldType.int) meth) (a0 : Nat) (M : hM) {res : xRes} (h : b65_0 a0 M = some res) (hN : xN (fun _ _ _ => False) r M' res) : xV G p l e (xRm 2 (h_sz M' - z0) (h_sl M' - y0)) s m args below meth c z0 y0 (h_sz M') (h_sl M') 1 (MQ below (xQc G r M') args s (h_sz M' - z0) (h_sl M' - y0) (xFr G)) 0 [(0, .inr (.inr (some a0)))] [] M := by
  unfold b65_0 at h
  refine xv_b E [.aload_n 0, .iconst 4, .iconst 3] (pc' := 3) (lv' := [(0, .inr (.inr (some a0)))]) (st' := [.inl (3 : Int32), .inl (4 : Int32), .inr (.inr (some a0))]) (by decide +kernel) rfl rfl ?_
  obtain ⟨b_3, h4, h⟩ := bd h
  obtain ⟨eh4, th4⟩ := g_o_some h4
  obtain ⟨q_1, h2, h⟩ := bd h
  refine xv_cvo E eh4 2 (as := [.inl (4 : Int32), .inl (3 : Int32)]) (t56 G l (c_L_some h2)) cd56 mw346 mw347 mw348 (show decode prog_4_method_12_code 3 = .ok (.invokevirtual 50, 3) by decide +kernel) th4 rfl rfl (Nat.le_of_ble_eq_true rfl) ⟨Nat.le_of_ble_eq_true rfl, Nat.le_of_ble_eq_true rfl⟩ ?_
  refine xv_b E [.l2i] (pc' := 7) (lv' := [(0, .inr (.inr (some a0)))]) (st' := [.inl (Int64.toInt32 q_1.1)]) (by decide +kernel) rfl rfl ?_
  obtain rfl := Option.some.inj h
  obtain ⟨rfl, rfl⟩ := Prod.mk.inj (show ((some (.inl (Int64.toInt32 q_1.1)) : Option aV), q_1.2) = (r, M') from hN)
  exact xv_ri E B.1 rfl B.2.1 (show decode prog_4_method_12_code 7 = .ok (.ireturn, 1) by decide +kernel) rfl rfl
end
theorem t65 (G : gX) (l : Launch) {as : List aV} {M : hM} {r : Option aV} {M' : hM} (h : f65 as M = some (r, M')) : xM G l ym65 prog_4_method_12_code 1 (some FieldType.int) 2 as M r M' := by
  unfold f65 at h
  split at h
  · have h := x_out_ok h
    refine xM_of (by decide) (Nat.le_of_ble_eq_true rfl) (lb65_0 G l _ M h) ?_
    intro p e s m args below meth c E B
    exact sb65_0 E B _ M h rfl
  · cases h
/-! ZF.Frame.ox()I -/
def ym66 : MethodName := ⟨"ZonedFabric$Frame", "ox", "()I"⟩
theorem cd66 : xCd ym66 prog_4_method_13_code 1 (some FieldType.int) 0 := ⟨mw367, mw207, by decide, by decide, by decide +kernel⟩
def b66_0 (a0 : Nat) (M : hM) : Option xRes :=
  Option.bind (g_o M 2 (some a0)) fun b_3 =>
  Option.bind (c_L (f56 [.inr (.inr (some b_3)), .inl (7 : Int32), .inl (2 : Int32)] M)) fun q_1 =>
  some (.inl (some (.inl (Int64.toInt32 q_1.1)), q_1.2))
def f66 (as : List aV) (M : hM) : xO := match as with
  | [.inr (.inr (some a0))] => x_out (b66_0 a0 M)
  | _ => none
theorem lb66_0 (G : gX) (l : Launch) (a0 : Nat) (M : hM) {res : xRes} (h : b66_0 a0 M = some res) : h_sz M ≤ r_sz res ∧ h_sl M ≤ r_sl res := by
  unfold b66_0 at h
  obtain ⟨b_3, h4, h⟩ := bd h
  obtain ⟨q_1, h2, h⟩ := bd h
  have eh2 := (t56 G l (c_L_some h2)).1
  obtain rfl := Option.some.inj h
  show h_sz M ≤ h_sz q_1.2 ∧ h_sl M ≤ h_sl q_1.2
  omega
section
variable {p : Program} {l : Launch} {e : Env} {s : State} {m : MethodId} {args : Array Value} {below : List Frame} {meth : Method} {c : Code} {G : gX} {z0 y0 : Nat} {r : Option aV} {M' : hM}
theorem sb66_0 (E : xE G p (xRm 2 (h_sz M' - z0) (h_sl M' - y0)) s m args c prog_4_method_13_code "ZonedFabric$Frame" z0 y0 (h_sz M') (h_sl M') 1) (B : xB ym66 (some FieldType.int) meth) (a0 : Nat) (M : hM) {res : xRes} (h : b66_0 a0 M = some res) (hN : xN (fun _ _ _ => False) r M' res) : xV G p l e (xRm 2 (h_sz M' - z0) (h_sl M' - y0)) s m args below meth c z0 y0 (h_sz M') (h_sl M') 1 (MQ below (xQc G r M') args s (h_sz M' - z0) (h_sl M' - y0) (xFr G)) 0 [(0, .inr (.inr (some a0)))] [] M := by
  unfold b66_0 at h
  refine xv_b E [.aload_n 0, .bipush 7, .iconst 2] (pc' := 4) (lv' := [(0, .inr (.inr (some a0)))]) (st' := [.inl (2 : Int32), .inl (7 : Int32), .inr (.inr (some a0))]) (by decide +kernel) rfl rfl ?_
  obtain ⟨b_3, h4, h⟩ := bd h
  obtain ⟨eh4, th4⟩ := g_o_some h4
  obtain ⟨q_1, h2, h⟩ := bd h
  refine xv_cvo E eh4 2 (as := [.inl (7 : Int32), .inl (2 : Int32)]) (t56 G l (c_L_some h2)) cd56 mw346 mw347 mw348 (show decode prog_4_method_13_code 4 = .ok (.invokevirtual 50, 3) by decide +kernel) th4 rfl rfl (Nat.le_of_ble_eq_true rfl) ⟨Nat.le_of_ble_eq_true rfl, Nat.le_of_ble_eq_true rfl⟩ ?_
  refine xv_b E [.l2i] (pc' := 8) (lv' := [(0, .inr (.inr (some a0)))]) (st' := [.inl (Int64.toInt32 q_1.1)]) (by decide +kernel) rfl rfl ?_
  obtain rfl := Option.some.inj h
  obtain ⟨rfl, rfl⟩ := Prod.mk.inj (show ((some (.inl (Int64.toInt32 q_1.1)) : Option aV), q_1.2) = (r, M') from hN)
  exact xv_ri E B.1 rfl B.2.1 (show decode prog_4_method_13_code 8 = .ok (.ireturn, 1) by decide +kernel) rfl rfl
end
theorem t66 (G : gX) (l : Launch) {as : List aV} {M : hM} {r : Option aV} {M' : hM} (h : f66 as M = some (r, M')) : xM G l ym66 prog_4_method_13_code 1 (some FieldType.int) 2 as M r M' := by
  unfold f66 at h
  split at h
  · have h := x_out_ok h
    refine xM_of (by decide) (Nat.le_of_ble_eq_true rfl) (lb66_0 G l _ M h) ?_
    intro p e s m args below meth c E B
    exact sb66_0 E B _ M h rfl
  · cases h
/-! ZF.Disc.answer(ILZF$Frame;IIJ)V -/
def ym67 : MethodName := ⟨"ZonedFabric$Disc", "answer", "(ILZonedFabric$Frame;IIJ)V"⟩
theorem cd67 : xCd ym67 prog_3_method_5_code 8 none 5 := ⟨mw368, mw105, by decide, by decide, by decide +kernel⟩
def b67_0 (a0 : Nat) (v1 : Int32) (o2 : Option Nat) (v3 : Int32) (v4 : Int32) (w5 : Int64) (M : hM) : Option xRes :=
  Option.bind (g_r M 1 0 (some a0)) fun o_1 =>
  Option.bind (g_o M 2 o2) fun b_5 =>
  Option.bind (c_I (f65 [.inr (.inr (some b_5))] M)) fun q_3 =>
  Option.bind (g_r q_3.2 1 1 (some a0)) fun o_7 =>
  Option.bind (g_i q_3.2 5 3 o_7) fun v_9 =>
  Option.bind (g_o q_3.2 2 o2) fun b_13 =>
  Option.bind (c_I (f66 [.inr (.inr (some b_13))] q_3.2)) fun q_11 =>
  Option.bind (g_o q_11.2 9 o_1) fun b_17 =>
  Option.bind (c_R (f34 [.inr (.inr (some b_17)), .inl v1, .inl q_3.1, .inl v_9, .inl q_11.1] q_11.2)) fun q_15 =>
  Option.bind (g_o q_15.2 2 q_15.1) fun b_21 =>
  Option.bind (c_V (f35 [.inr (.inr (some b_21)), .inl (9 : Int32), .inl (2 : Int32), .inr (.inl (Int32.toInt64 v3))] q_15.2)) fun q_19 =>
  Option.bind (g_o q_19 2 q_15.1) fun b_25 =>
  Option.bind (c_V (f36 [.inr (.inr (some b_25)), .inl v4, .inr (.inl w5)] q_19)) fun q_23 =>
  Option.bind (g_r q_23 1 1 (some a0)) fun o_27 =>
  Option.bind (g_r q_23 5 2 o_27) fun o_29 =>
  Option.bind (g_o q_23 8 o_29) fun b_33 =>
  Option.bind (c_V (f39 [.inr (.inr (some b_33)), .inr (.inr q_15.1)] q_23)) fun q_31 =>
  some (.inl (none, q_31))
def f67 (as : List aV) (M : hM) : xO := match as with
  | [.inr (.inr (some a0)), .inl v1, .inr (.inr o2), .inl v3, .inl v4, .inr (.inl w5)] => x_out (b67_0 a0 v1 o2 v3 v4 w5 M)
  | _ => none
theorem lb67_0 (G : gX) (l : Launch) (a0 : Nat) (v1 : Int32) (o2 : Option Nat) (v3 : Int32) (v4 : Int32) (w5 : Int64) (M : hM) {res : xRes} (h : b67_0 a0 v1 o2 v3 v4 w5 M = some res) : h_sz M ≤ r_sz res ∧ h_sl M ≤ r_sl res := by
  unfold b67_0 at h
  obtain ⟨o_1, h2, h⟩ := bd h
  obtain ⟨b_5, h6, h⟩ := bd h
  obtain ⟨q_3, h4, h⟩ := bd h
  have eh4 := (t65 G l (c_I_some h4)).1
  obtain ⟨o_7, h8, h⟩ := bd h
  obtain ⟨v_9, h10, h⟩ := bd h
  obtain ⟨b_13, h14, h⟩ := bd h
  obtain ⟨q_11, h12, h⟩ := bd h
  have eh12 := (t66 G l (c_I_some h12)).1
  obtain ⟨b_17, h18, h⟩ := bd h
  obtain ⟨q_15, h16, h⟩ := bd h
  have eh16 := (t34 G l (c_R_some h16)).1
  obtain ⟨b_21, h22, h⟩ := bd h
  obtain ⟨q_19, h20, h⟩ := bd h
  have eh20 := (t35 G l (c_V_some h20)).1
  obtain ⟨b_25, h26, h⟩ := bd h
  obtain ⟨q_23, h24, h⟩ := bd h
  have eh24 := (t36 G l (c_V_some h24)).1
  obtain ⟨o_27, h28, h⟩ := bd h
  obtain ⟨o_29, h30, h⟩ := bd h
  obtain ⟨b_33, h34, h⟩ := bd h
  obtain ⟨q_31, h32, h⟩ := bd h
  have eh32 := (t39 G l (c_V_some h32)).1
  obtain rfl := Option.some.inj h
  show h_sz M ≤ h_sz q_31 ∧ h_sl M ≤ h_sl q_31
  omega
section
variable {p : Program} {l : Launch} {e : Env} {s : State} {m : MethodId} {args : Array Value} {below : List Frame} {meth : Method} {c : Code} {G : gX} {z0 y0 : Nat} {r : Option aV} {M' : hM}
theorem sb67_0 (E : xE G p (xRm 3 (h_sz M' - z0) (h_sl M' - y0)) s m args c prog_3_method_5_code "ZonedFabric$Disc" z0 y0 (h_sz M') (h_sl M') 8) (B : xB ym67 none meth) (a0 : Nat) (v1 : Int32) (o2 : Option Nat) (v3 : Int32) (v4 : Int32) (w5 : Int64) (M : hM) {res : xRes} (h : b67_0 a0 v1 o2 v3 v4 w5 M = some res) (hN : xN (fun _ _ _ => False) r M' res) : xV G p l e (xRm 3 (h_sz M' - z0) (h_sl M' - y0)) s m args below meth c z0 y0 (h_sz M') (h_sl M') 8 (MQ below (xQc G r M') args s (h_sz M' - z0) (h_sl M' - y0) (xFr G)) 0 [(0, .inr (.inr (some a0))), (1, .inl v1), (2, .inr (.inr o2)), (3, .inl v3), (4, .inl v4), (5, .inr (.inl w5))] [] M := by
  unfold b67_0 at h
  refine xv_b E [.aload_n 0] (pc' := 1) (lv' := [(0, .inr (.inr (some a0))), (1, .inl v1), (2, .inr (.inr o2)), (3, .inl v3), (4, .inl v4), (5, .inr (.inl w5))]) (st' := [.inr (.inr (some a0))]) (by decide +kernel) rfl rfl ?_
  obtain ⟨o_1, h2, h⟩ := bd h
  refine xg_r E 1 0 h2 mw110 (show decode prog_3_method_5_code 1 = .ok (.getfield 25, 3) by decide +kernel) ?_
  refine xv_b E [.iload_n 1, .aload_n 2] (pc' := 6) (lv' := [(0, .inr (.inr (some a0))), (1, .inl v1), (2, .inr (.inr o2)), (3, .inl v3), (4, .inl v4), (5, .inr (.inl w5))]) (st' := [.inr (.inr o2), .inl v1, .inr (.inr o_1)]) (by decide +kernel) rfl rfl ?_
  obtain ⟨b_5, h6, h⟩ := bd h
  obtain ⟨eh6, th6⟩ := g_o_some h6
  obtain ⟨q_3, h4, h⟩ := bd h
  refine xv_cvo E eh6 2 (as := []) (t65 G l (c_I_some h4)) cd65 mw369 mw370 mw371 (show decode prog_3_method_5_code 6 = .ok (.invokevirtual 56, 3) by decide +kernel) th6 rfl rfl (Nat.le_of_ble_eq_true rfl) ⟨Nat.le_of_ble_eq_true rfl, Nat.le_of_ble_eq_true rfl⟩ ?_
  refine xv_b E [.aload_n 0] (pc' := 10) (lv' := [(0, .inr (.inr (some a0))), (1, .inl v1), (2, .inr (.inr o2)), (3, .inl v3), (4, .inl v4), (5, .inr (.inl w5))]) (st' := [.inr (.inr (some a0)), .inl q_3.1, .inl v1, .inr (.inr o_1)]) (by decide +kernel) rfl rfl ?_
  obtain ⟨o_7, h8, h⟩ := bd h
  refine xg_r E 1 1 h8 mw111 (show decode prog_3_method_5_code 10 = .ok (.getfield 29, 3) by decide +kernel) ?_
  obtain ⟨v_9, h10, h⟩ := bd h
  refine xg_i E 5 3 h10 mw372 (show decode prog_3_method_5_code 13 = .ok (.getfield 77, 3) by decide +kernel) ?_
  refine xv_b E [.aload_n 2] (pc' := 17) (lv' := [(0, .inr (.inr (some a0))), (1, .inl v1), (2, .inr (.inr o2)), (3, .inl v3), (4, .inl v4), (5, .inr (.inl w5))]) (st' := [.inr (.inr o2), .inl v_9, .inl q_3.1, .inl v1, .inr (.inr o_1)]) (by decide +kernel) rfl rfl ?_
  obtain ⟨b_13, h14, h⟩ := bd h
  obtain ⟨eh14, th14⟩ := g_o_some h14
  obtain ⟨q_11, h12, h⟩ := bd h
  refine xv_cvo E eh14 2 (as := []) (t66 G l (c_I_some h12)) cd66 mw373 mw374 mw375 (show decode prog_3_method_5_code 17 = .ok (.invokevirtual 82, 3) by decide +kernel) th14 rfl rfl (Nat.le_of_ble_eq_true rfl) ⟨Nat.le_of_ble_eq_true rfl, Nat.le_of_ble_eq_true rfl⟩ ?_
  obtain ⟨b_17, h18, h⟩ := bd h
  obtain ⟨eh18, th18⟩ := g_o_some h18
  obtain ⟨q_15, h16, h⟩ := bd h
  refine xv_cvo E eh18 9 (as := [.inl v1, .inl q_3.1, .inl v_9, .inl q_11.1]) (t34 G l (c_R_some h16)) cd34 mw376 mw251 mw252 (show decode prog_3_method_5_code 20 = .ok (.invokevirtual 85, 3) by decide +kernel) th18 rfl rfl (Nat.le_of_ble_eq_true rfl) ⟨Nat.le_of_ble_eq_true rfl, Nat.le_of_ble_eq_true rfl⟩ ?_
  refine xv_b E [.astore 7, .aload 7, .bipush 9, .iconst 2, .iload_n 3, .i2l] (pc' := 32) (lv' := [(7, .inr (.inr q_15.1)), (0, .inr (.inr (some a0))), (1, .inl v1), (2, .inr (.inr o2)), (3, .inl v3), (4, .inl v4), (5, .inr (.inl w5))]) (st' := [.inr (.inl (Int32.toInt64 v3)), .inl (2 : Int32), .inl (9 : Int32), .inr (.inr q_15.1)]) (by decide +kernel) rfl rfl ?_
  obtain ⟨b_21, h22, h⟩ := bd h
  obtain ⟨eh22, th22⟩ := g_o_some h22
  obtain ⟨q_19, h20, h⟩ := bd h
  refine xv_cvo E eh22 2 (as := [.inl (9 : Int32), .inl (2 : Int32), .inr (.inl (Int32.toInt64 v3))]) (t35 G l (c_V_some h20)) cd35 mw377 mw232 mw233 (show decode prog_3_method_5_code 32 = .ok (.invokevirtual 89, 3) by decide +kernel) th22 rfl rfl (Nat.le_of_ble_eq_true rfl) ⟨Nat.le_of_ble_eq_true rfl, Nat.le_of_ble_eq_true rfl⟩ ?_
  refine xv_b E [.aload 7, .iload 4, .lload 5] (pc' := 41) (lv' := [(7, .inr (.inr q_15.1)), (0, .inr (.inr (some a0))), (1, .inl v1), (2, .inr (.inr o2)), (3, .inl v3), (4, .inl v4), (5, .inr (.inl w5))]) (st' := [.inr (.inl w5), .inl v4, .inr (.inr q_15.1)]) (by decide +kernel) rfl rfl ?_
  obtain ⟨b_25, h26, h⟩ := bd h
  obtain ⟨eh26, th26⟩ := g_o_some h26
  obtain ⟨q_23, h24, h⟩ := bd h
  refine xv_cvo E eh26 2 (as := [.inl v4, .inr (.inl w5)]) (t36 G l (c_V_some h24)) cd36 mw378 mw254 mw255 (show decode prog_3_method_5_code 41 = .ok (.invokevirtual 93, 3) by decide +kernel) th26 rfl rfl (Nat.le_of_ble_eq_true rfl) ⟨Nat.le_of_ble_eq_true rfl, Nat.le_of_ble_eq_true rfl⟩ ?_
  refine xv_b E [.aload_n 0] (pc' := 45) (lv' := [(7, .inr (.inr q_15.1)), (0, .inr (.inr (some a0))), (1, .inl v1), (2, .inr (.inr o2)), (3, .inl v3), (4, .inl v4), (5, .inr (.inl w5))]) (st' := [.inr (.inr (some a0))]) (by decide +kernel) rfl rfl ?_
  obtain ⟨o_27, h28, h⟩ := bd h
  refine xg_r E 1 1 h28 mw111 (show decode prog_3_method_5_code 45 = .ok (.getfield 29, 3) by decide +kernel) ?_
  obtain ⟨o_29, h30, h⟩ := bd h
  refine xg_r E 5 2 h30 mw379 (show decode prog_3_method_5_code 48 = .ok (.getfield 97, 3) by decide +kernel) ?_
  refine xv_b E [.aload 7] (pc' := 53) (lv' := [(7, .inr (.inr q_15.1)), (0, .inr (.inr (some a0))), (1, .inl v1), (2, .inr (.inr o2)), (3, .inl v3), (4, .inl v4), (5, .inr (.inl w5))]) (st' := [.inr (.inr q_15.1), .inr (.inr o_29)]) (by decide +kernel) rfl rfl ?_
  obtain ⟨b_33, h34, h⟩ := bd h
  obtain ⟨eh34, th34⟩ := g_o_some h34
  obtain ⟨q_31, h32, h⟩ := bd h
  refine xv_cvo E eh34 8 (as := [.inr (.inr q_15.1)]) (t39 G l (c_V_some h32)) cd39 mw380 mw257 mw258 (show decode prog_3_method_5_code 53 = .ok (.invokevirtual 101, 3) by decide +kernel) th34 rfl rfl (Nat.le_of_ble_eq_true rfl) ⟨Nat.le_of_ble_eq_true rfl, Nat.le_of_ble_eq_true rfl⟩ ?_
  obtain rfl := Option.some.inj h
  obtain ⟨rfl, rfl⟩ := Prod.mk.inj (show ((none : Option aV), q_31) = (r, M') from hN)
  exact xv_rv E B.1 B.2.1 (show decode prog_3_method_5_code 56 = .ok (.return_, 1) by decide +kernel) rfl rfl
end
theorem t67 (G : gX) (l : Launch) {as : List aV} {M : hM} {r : Option aV} {M' : hM} (h : f67 as M = some (r, M')) : xM G l ym67 prog_3_method_5_code 8 none 3 as M r M' := by
  unfold f67 at h
  split at h
  · have h := x_out_ok h
    refine xM_of (by decide) (Nat.le_of_ble_eq_true rfl) (lb67_0 G l _ _ _ _ _ _ M h) ?_
    intro p e s m args below meth c E B
    exact sb67_0 E B _ _ _ _ _ _ M h rfl
  · cases h
/-! ZF.OpenWrite.isOf(LZF$Frame;)Z -/
def ym68 : MethodName := ⟨"ZonedFabric$OpenWrite", "isOf", "(LZonedFabric$Frame;)Z"⟩
theorem cd68 : xCd ym68 prog_9_method_3_code 2 (some FieldType.boolean) 1 := ⟨mw381, mw100, by decide, by decide, by decide +kernel⟩
def b68_34 (si0 : Int32) (M : hM) : Option xRes :=
  if si0 = 0 ∨ si0 = 1 then
    (some (.inl (some (.inl si0), M)))
  else
    none
def b68_33  (M : hM) : Option xRes :=
  b68_34 (0 : Int32) M
def b68_0 (a0 : Nat) (o1 : Option Nat) (M : hM) : Option xRes :=
  Option.bind (g_i M 7 0 (some a0)) fun v_1 =>
  if v_1 = 0 then
    (b68_33  M)
  else
    (Option.bind (g_i M 7 1 (some a0)) fun v_3 =>
    Option.bind (g_o M 2 o1) fun b_7 =>
    Option.bind (c_I (f66 [.inr (.inr (some b_7))] M)) fun q_5 =>
    if v_3 = q_5.1 then
      (Option.bind (g_i q_5.2 7 2 (some a0)) fun v_9 =>
      Option.bind (g_o q_5.2 2 o1) fun b_13 =>
      Option.bind (c_I (f65 [.inr (.inr (some b_13))] q_5.2)) fun q_11 =>
      if v_9 = q_11.1 then
        (b68_34 (1 : Int32) q_11.2)
      else
        (b68_33  q_11.2))
    else
      (b68_33  q_5.2))
def f68 (as : List aV) (M : hM) : xO := match as with
  | [.inr (.inr (some a0)), .inr (.inr o1)] => x_out (b68_0 a0 o1 M)
  | _ => none
theorem lb68_34 (G : gX) (l : Launch) (si0 : Int32) (M : hM) {res : xRes} (h : b68_34 si0 M = some res) : h_sz M ≤ r_sz res ∧ h_sl M ≤ r_sl res := by
  unfold b68_34 at h
  by_cases q18 : si0 = 0 ∨ si0 = 1
  · rw [if_pos q18] at h
    obtain rfl := Option.some.inj h
    show h_sz M ≤ h_sz M ∧ h_sl M ≤ h_sl M
    omega
  · rw [if_neg q18] at h
    cases h
theorem lb68_33 (G : gX) (l : Launch)  (M : hM) {res : xRes} (h : b68_33  M = some res) : h_sz M ≤ r_sz res ∧ h_sl M ≤ r_sl res := by
  unfold b68_33 at h
  have e := lb68_34 G l (0 : Int32) M h
  omega
theorem lb68_0 (G : gX) (l : Launch) (a0 : Nat) (o1 : Option Nat) (M : hM) {res : xRes} (h : b68_0 a0 o1 M = some res) : h_sz M ≤ r_sz res ∧ h_sl M ≤ r_sl res := by
  unfold b68_0 at h
  obtain ⟨v_1, h2, h⟩ := bd h
  by_cases q17 : v_1 = 0
  · rw [if_pos q17] at h
    have e := lb68_33 G l  M h
    omega
  · rw [if_neg q17] at h
    obtain ⟨v_3, h4, h⟩ := bd h
    obtain ⟨b_7, h8, h⟩ := bd h
    obtain ⟨q_5, h6, h⟩ := bd h
    have eh6 := (t66 G l (c_I_some h6)).1
    by_cases q16 : v_3 = q_5.1
    · rw [if_pos q16] at h
      obtain ⟨v_9, h10, h⟩ := bd h
      obtain ⟨b_13, h14, h⟩ := bd h
      obtain ⟨q_11, h12, h⟩ := bd h
      have eh12 := (t65 G l (c_I_some h12)).1
      by_cases q15 : v_9 = q_11.1
      · rw [if_pos q15] at h
        have e := lb68_34 G l (1 : Int32) q_11.2 h
        omega
      · rw [if_neg q15] at h
        have e := lb68_33 G l  q_11.2 h
        omega
    · rw [if_neg q16] at h
      have e := lb68_33 G l  q_5.2 h
      omega
section
variable {p : Program} {l : Launch} {e : Env} {s : State} {m : MethodId} {args : Array Value} {below : List Frame} {meth : Method} {c : Code} {G : gX} {z0 y0 : Nat} {r : Option aV} {M' : hM}
theorem sb68_34 (E : xE G p (xRm 3 (h_sz M' - z0) (h_sl M' - y0)) s m args c prog_9_method_3_code "ZonedFabric$OpenWrite" z0 y0 (h_sz M') (h_sl M') 2) (B : xB ym68 (some FieldType.boolean) meth) (si0 : Int32) (M : hM) {res : xRes} (h : b68_34 si0 M = some res) (hN : xN (fun _ _ _ => False) r M' res) : xV G p l e (xRm 3 (h_sz M' - z0) (h_sl M' - y0)) s m args below meth c z0 y0 (h_sz M') (h_sl M') 2 (MQ below (xQc G r M') args s (h_sz M' - z0) (h_sl M' - y0) (xFr G)) 34 [] [.inl si0] M := by
  unfold b68_34 at h
  by_cases q18 : si0 = 0 ∨ si0 = 1
  · rw [if_pos q18] at h
    obtain rfl := Option.some.inj h
    obtain ⟨rfl, rfl⟩ := Prod.mk.inj (show ((some (.inl si0) : Option aV), M) = (r, M') from hN)
    exact xv_ri E B.1 (by rcases q18 with z | z <;> rw [z] <;> rfl) B.2.1 (show decode prog_9_method_3_code 34 = .ok (.ireturn, 1) by decide +kernel) rfl rfl
  · rw [if_neg q18] at h
    cases h
theorem sb68_33 (E : xE G p (xRm 3 (h_sz M' - z0) (h_sl M' - y0)) s m args c prog_9_method_3_code "ZonedFabric$OpenWrite" z0 y0 (h_sz M') (h_sl M') 2) (B : xB ym68 (some FieldType.boolean) meth)  (M : hM) {res : xRes} (h : b68_33  M = some res) (hN : xN (fun _ _ _ => False) r M' res) : xV G p l e (xRm 3 (h_sz M' - z0) (h_sl M' - y0)) s m args below meth c z0 y0 (h_sz M') (h_sl M') 2 (MQ below (xQc G r M') args s (h_sz M' - z0) (h_sl M' - y0) (xFr G)) 33 [] [] M := by
  unfold b68_33 at h
  refine xv_b E [.iconst 0] (pc' := 34) (lv' := []) (st' := [.inl (0 : Int32)]) (by decide +kernel) rfl rfl ?_
  exact xv_w (sb68_34 E B (0 : Int32) M h hN) rfl
theorem sb68_0 (E : xE G p (xRm 3 (h_sz M' - z0) (h_sl M' - y0)) s m args c prog_9_method_3_code "ZonedFabric$OpenWrite" z0 y0 (h_sz M') (h_sl M') 2) (B : xB ym68 (some FieldType.boolean) meth) (a0 : Nat) (o1 : Option Nat) (M : hM) {res : xRes} (h : b68_0 a0 o1 M = some res) (hN : xN (fun _ _ _ => False) r M' res) : xV G p l e (xRm 3 (h_sz M' - z0) (h_sl M' - y0)) s m args below meth c z0 y0 (h_sz M') (h_sl M') 2 (MQ below (xQc G r M') args s (h_sz M' - z0) (h_sl M' - y0) (xFr G)) 0 [(0, .inr (.inr (some a0))), (1, .inr (.inr o1))] [] M := by
  unfold b68_0 at h
  refine xv_b E [.aload_n 0] (pc' := 1) (lv' := [(0, .inr (.inr (some a0))), (1, .inr (.inr o1))]) (st' := [.inr (.inr (some a0))]) (by decide +kernel) rfl rfl ?_
  obtain ⟨v_1, h2, h⟩ := bd h
  refine xg_i E 7 0 h2 mw382 (show decode prog_9_method_3_code 1 = .ok (.getfield 15, 3) by decide +kernel) ?_
  by_cases q17 : v_1 = 0
  · rw [if_pos q17] at h
    refine xv_if_eq E 33 (show decode prog_9_method_3_code 4 = .ok (.ifCond .eq (29), 3) by decide +kernel) rfl (fun _ => ?_) (fun z => absurd q17 z)
    exact xv_w (sb68_33 E B  M h hN) rfl
  · rw [if_neg q17] at h
    refine xv_if_eq E 33 (show decode prog_9_method_3_code 4 = .ok (.ifCond .eq (29), 3) by decide +kernel) rfl (fun z => absurd z q17) (fun _ => ?_)
    refine xv_b E [.aload_n 0] (pc' := 8) (lv' := [(0, .inr (.inr (some a0))), (1, .inr (.inr o1))]) (st' := [.inr (.inr (some a0))]) (by decide +kernel) rfl rfl ?_
    obtain ⟨v_3, h4, h⟩ := bd h
    refine xg_i E 7 1 h4 mw383 (show decode prog_9_method_3_code 8 = .ok (.getfield 25, 3) by decide +kernel) ?_
    refine xv_b E [.aload_n 1] (pc' := 12) (lv' := [(0, .inr (.inr (some a0))), (1, .inr (.inr o1))]) (st' := [.inr (.inr o1), .inl v_3]) (by decide +kernel) rfl rfl ?_
    obtain ⟨b_7, h8, h⟩ := bd h
    obtain ⟨eh8, th8⟩ := g_o_some h8
    obtain ⟨q_5, h6, h⟩ := bd h
    refine xv_cvo E eh8 2 (as := []) (t66 G l (c_I_some h6)) cd66 mw384 mw374 mw375 (show decode prog_9_method_3_code 12 = .ok (.invokevirtual 19, 3) by decide +kernel) th8 rfl rfl (Nat.le_of_ble_eq_true rfl) ⟨Nat.le_of_ble_eq_true rfl, Nat.le_of_ble_eq_true rfl⟩ ?_
    by_cases q16 : v_3 = q_5.1
    · rw [if_pos q16] at h
      refine xv_icmp_ne E 33 (show decode prog_9_method_3_code 15 = .ok (.if_icmp .ne (18), 3) by decide +kernel) rfl (fun z => absurd q16 z) (fun _ => ?_)
      refine xv_b E [.aload_n 0] (pc' := 19) (lv' := [(0, .inr (.inr (some a0))), (1, .inr (.inr o1))]) (st' := [.inr (.inr (some a0))]) (by decide +kernel) rfl rfl ?_
      obtain ⟨v_9, h10, h⟩ := bd h
      refine xg_i E 7 2 h10 mw385 (show decode prog_9_method_3_code 19 = .ok (.getfield 31, 3) by decide +kernel) ?_
      refine xv_b E [.aload_n 1] (pc' := 23) (lv' := [(0, .inr (.inr (some a0))), (1, .inr (.inr o1))]) (st' := [.inr (.inr o1), .inl v_9]) (by decide +kernel) rfl rfl ?_
      obtain ⟨b_13, h14, h⟩ := bd h
      obtain ⟨eh14, th14⟩ := g_o_some h14
      obtain ⟨q_11, h12, h⟩ := bd h
      refine xv_cvo E eh14 2 (as := []) (t65 G l (c_I_some h12)) cd65 mw386 mw370 mw371 (show decode prog_9_method_3_code 23 = .ok (.invokevirtual 28, 3) by decide +kernel) th14 rfl rfl (Nat.le_of_ble_eq_true rfl) ⟨Nat.le_of_ble_eq_true rfl, Nat.le_of_ble_eq_true rfl⟩ ?_
      by_cases q15 : v_9 = q_11.1
      · rw [if_pos q15] at h
        refine xv_icmp_ne E 33 (show decode prog_9_method_3_code 26 = .ok (.if_icmp .ne (7), 3) by decide +kernel) rfl (fun z => absurd q15 z) (fun _ => ?_)
        refine xv_b E [.iconst 1] (pc' := 30) (lv' := [(0, .inr (.inr (some a0))), (1, .inr (.inr o1))]) (st' := [.inl (1 : Int32)]) (by decide +kernel) rfl rfl ?_
        refine xv_goto E 34 (show decode prog_9_method_3_code 30 = .ok (.goto (4), 3) by decide +kernel) rfl ?_
        exact xv_w (sb68_34 E B (1 : Int32) q_11.2 h hN) rfl
      · rw [if_neg q15] at h
        refine xv_icmp_ne E 33 (show decode prog_9_method_3_code 26 = .ok (.if_icmp .ne (7), 3) by decide +kernel) rfl (fun _ => ?_) (fun z => absurd z q15)
        exact xv_w (sb68_33 E B  q_11.2 h hN) rfl
    · rw [if_neg q16] at h
      refine xv_icmp_ne E 33 (show decode prog_9_method_3_code 15 = .ok (.if_icmp .ne (18), 3) by decide +kernel) rfl (fun _ => ?_) (fun z => absurd z q16)
      exact xv_w (sb68_33 E B  q_5.2 h hN) rfl
end
theorem t68 (G : gX) (l : Launch) {as : List aV} {M : hM} {r : Option aV} {M' : hM} (h : f68 as M = some (r, M')) : xM G l ym68 prog_9_method_3_code 2 (some FieldType.boolean) 3 as M r M' := by
  unfold f68 at h
  split at h
  · have h := x_out_ok h
    refine xM_of (by decide) (Nat.le_of_ble_eq_true rfl) (lb68_0 G l _ _ M h) ?_
    intro p e s m args below meth c E B
    exact sb68_0 E B _ _ M h rfl
  · cases h
/-! ZF.Disc.takeAbort(LZF$Frame;)V -/
def ym69 : MethodName := ⟨"ZonedFabric$Disc", "takeAbort", "(LZonedFabric$Frame;)V"⟩
theorem cd69 : xCd ym69 prog_3_method_13_code 3 none 1 := ⟨mw387, mw105, by decide, by decide, by decide +kernel⟩
def b69_0 (a0 : Nat) (o1 : Option Nat) (M : hM) : Option xRes :=
  some (.inr (2, [.inr (.inr (some a0)), .inr (.inr o1), .inl (0 : Int32)], M))
def b69_31 (a0 : Nat) (o1 : Option Nat) (v2 : Int32) (M : hM) : Option xRes :=
  some (.inr (2, [.inr (.inr (some a0)), .inr (.inr o1), .inl (v2 + (1 : Int32))], M))
def b69_2 (a0 : Nat) (o1 : Option Nat) (v2 : Int32) (M : hM) : Option xRes :=
  if (6 : Int32) ≤ v2 then
    (Option.bind (g_o M 1 (some a0)) fun b_3 =>
    Option.bind (c_V (f67 [.inr (.inr (some b_3)), .inl (14 : Int32), .inr (.inr o1), .inl (0 : Int32), .inl (0 : Int32), .inr (.inl (0 : Int64))] M)) fun q_1 =>
    some (.inl (none, q_1)))
  else
    (Option.bind (g_r M 1 5 (some a0)) fun o_5 =>
    Option.bind (al_r M 37 o_5 v2) fun o_7 =>
    Option.bind (g_o M 7 o_7) fun b_11 =>
    Option.bind (c_I (f68 [.inr (.inr (some b_11)), .inr (.inr o1)] M)) fun q_9 =>
    if q_9.1 = 0 then
      (b69_31 a0 o1 v2 q_9.2)
    else
      (Option.bind (g_r q_9.2 1 5 (some a0)) fun o_13 =>
      Option.bind (al_r q_9.2 37 o_13 v2) fun o_15 =>
      Option.bind (p_z q_9.2 7 0 o_15 (0 : Int32)) fun M17 =>
      b69_31 a0 o1 v2 M17))
def k69 (h : Nat) (as : List aV) (M : hM) : Option xRes :=
  if h = 2 then (match as with | [.inr (.inr (some a0)), .inr (.inr o1), .inl v2] => b69_2 a0 o1 v2 M | _ => none) else
  none
def f69 (as : List aV) (M : hM) : xO := match as with
  | [.inr (.inr (some a0)), .inr (.inr o1)] => x_go k69 (b69_0 a0 o1 M)
  | _ => none
theorem lb69_0 (G : gX) (l : Launch) (a0 : Nat) (o1 : Option Nat) (M : hM) {res : xRes} (h : b69_0 a0 o1 M = some res) : h_sz M ≤ r_sz res ∧ h_sl M ≤ r_sl res := by
  unfold b69_0 at h
  obtain rfl := Option.some.inj h
  show h_sz M ≤ h_sz M ∧ h_sl M ≤ h_sl M
  omega
theorem lb69_31 (G : gX) (l : Launch) (a0 : Nat) (o1 : Option Nat) (v2 : Int32) (M : hM) {res : xRes} (h : b69_31 a0 o1 v2 M = some res) : h_sz M ≤ r_sz res ∧ h_sl M ≤ r_sl res := by
  unfold b69_31 at h
  obtain rfl := Option.some.inj h
  show h_sz M ≤ h_sz M ∧ h_sl M ≤ h_sl M
  omega
theorem lb69_2 (G : gX) (l : Launch) (a0 : Nat) (o1 : Option Nat) (v2 : Int32) (M : hM) {res : xRes} (h : b69_2 a0 o1 v2 M = some res) : h_sz M ≤ r_sz res ∧ h_sl M ≤ r_sl res := by
  unfold b69_2 at h
  by_cases q20 : (6 : Int32) ≤ v2
  · rw [if_pos q20] at h
    obtain ⟨b_3, h4, h⟩ := bd h
    obtain ⟨q_1, h2, h⟩ := bd h
    have eh2 := (t67 G l (c_V_some h2)).1
    obtain rfl := Option.some.inj h
    show h_sz M ≤ h_sz q_1 ∧ h_sl M ≤ h_sl q_1
    omega
  · rw [if_neg q20] at h
    obtain ⟨o_5, h6, h⟩ := bd h
    obtain ⟨o_7, h8, h⟩ := bd h
    obtain ⟨b_11, h12, h⟩ := bd h
    obtain ⟨q_9, h10, h⟩ := bd h
    have eh10 := (t68 G l (c_I_some h10)).1
    by_cases q19 : q_9.1 = 0
    · rw [if_pos q19] at h
      have e := lb69_31 G l a0 o1 v2 q_9.2 h
      omega
    · rw [if_neg q19] at h
      obtain ⟨o_13, h14, h⟩ := bd h
      obtain ⟨o_15, h16, h⟩ := bd h
      obtain ⟨M17, h18, h⟩ := bd h
      have eh18 := p_z_sz h18
      have e := lb69_31 G l a0 o1 v2 M17 h
      omega
section
variable {p : Program} {l : Launch} {e : Env} {s : State} {m : MethodId} {args : Array Value} {below : List Frame} {meth : Method} {c : Code} {G : gX} {z0 y0 : Nat} {r : Option aV} {M' : hM}
def pg69 (p : Program) (l : Launch) (e : Env) (s : State) (m : MethodId) (args : Array Value) (below : List Frame) (meth : Method) (c : Code) (G : gX) (z0 y0 : Nat) (r : Option aV) (M' : hM) (h : Nat) (as : List aV) (M : hM) : Prop :=
  if h = 2 then (match as with | [.inr (.inr (some a0)), .inr (.inr o1), .inl v2] => xV G p l e (xRm 4 (h_sz M' - z0) (h_sl M' - y0)) s m args below meth c z0 y0 (h_sz M') (h_sl M') 3 (MQ below (xQc G r M') args s (h_sz M' - z0) (h_sl M' - y0) (xFr G)) 2 [(0, .inr (.inr (some a0))), (1, .inr (.inr o1)), (2, .inl v2)] [] M | _ => False) else
  False
theorem sb69_0 (E : xE G p (xRm 4 (h_sz M' - z0) (h_sl M' - y0)) s m args c prog_3_method_13_code "ZonedFabric$Disc" z0 y0 (h_sz M') (h_sl M') 3) (B : xB ym69 none meth) (a0 : Nat) (o1 : Option Nat) (M : hM) {res : xRes} (h : b69_0 a0 o1 M = some res) (hN : xN (pg69 p l e s m args below meth c G z0 y0 r M') r M' res) : xV G p l e (xRm 4 (h_sz M' - z0) (h_sl M' - y0)) s m args below meth c z0 y0 (h_sz M') (h_sl M') 3 (MQ below (xQc G r M') args s (h_sz M' - z0) (h_sl M' - y0) (xFr G)) 0 [(0, .inr (.inr (some a0))), (1, .inr (.inr o1))] [] M := by
  unfold b69_0 at h
  refine xv_b E [.iconst 0, .istore_n 2] (pc' := 2) (lv' := [(2, .inl (0 : Int32)), (0, .inr (.inr (some a0))), (1, .inr (.inr o1))]) (st' := []) (by decide +kernel) rfl rfl ?_
  obtain rfl := Option.some.inj h
  exact xv_w hN rfl
theorem sb69_31 (E : xE G p (xRm 4 (h_sz M' - z0) (h_sl M' - y0)) s m args c prog_3_method_13_code "ZonedFabric$Disc" z0 y0 (h_sz M') (h_sl M') 3) (B : xB ym69 none meth) (a0 : Nat) (o1 : Option Nat) (v2 : Int32) (M : hM) {res : xRes} (h : b69_31 a0 o1 v2 M = some res) (hN : xN (pg69 p l e s m args below meth c G z0 y0 r M') r M' res) : xV G p l e (xRm 4 (h_sz M' - z0) (h_sl M' - y0)) s m args below meth c z0 y0 (h_sz M') (h_sl M') 3 (MQ below (xQc G r M') args s (h_sz M' - z0) (h_sl M' - y0) (xFr G)) 31 [(0, .inr (.inr (some a0))), (1, .inr (.inr o1)), (2, .inl v2)] [] M := by
  unfold b69_31 at h
  refine xv_b E [.iinc 2 1] (pc' := 34) (lv' := [(2, .inl (v2 + (1 : Int32))), (0, .inr (.inr (some a0))), (1, .inr (.inr o1))]) (st' := []) (by decide +kernel) rfl rfl ?_
  refine xv_goto E 2 (show decode prog_3_method_13_code 34 = .ok (.goto (-32), 3) by decide +kernel) rfl ?_
  obtain rfl := Option.some.inj h
  exact xv_w hN rfl
theorem sb69_2 (E : xE G p (xRm 4 (h_sz M' - z0) (h_sl M' - y0)) s m args c prog_3_method_13_code "ZonedFabric$Disc" z0 y0 (h_sz M') (h_sl M') 3) (B : xB ym69 none meth) (a0 : Nat) (o1 : Option Nat) (v2 : Int32) (M : hM) {res : xRes} (h : b69_2 a0 o1 v2 M = some res) (hN : xN (pg69 p l e s m args below meth c G z0 y0 r M') r M' res) : xV G p l e (xRm 4 (h_sz M' - z0) (h_sl M' - y0)) s m args below meth c z0 y0 (h_sz M') (h_sl M') 3 (MQ below (xQc G r M') args s (h_sz M' - z0) (h_sl M' - y0) (xFr G)) 2 [(0, .inr (.inr (some a0))), (1, .inr (.inr o1)), (2, .inl v2)] [] M := by
  unfold b69_2 at h
  refine xv_b E [.iload_n 2, .bipush 6] (pc' := 5) (lv' := [(0, .inr (.inr (some a0))), (1, .inr (.inr o1)), (2, .inl v2)]) (st' := [.inl (6 : Int32), .inl v2]) (by decide +kernel) rfl rfl ?_
  by_cases q20 : (6 : Int32) ≤ v2
  · rw [if_pos q20] at h
    refine xv_icmp_ge E 37 (show decode prog_3_method_13_code 5 = .ok (.if_icmp .ge (32), 3) by decide +kernel) rfl (fun _ => ?_) (fun z => absurd q20 z)
    refine xv_b E [.aload_n 0, .bipush 14, .aload_n 1, .iconst 0, .iconst 0, .lconst 0] (pc' := 44) (lv' := [(0, .inr (.inr (some a0))), (1, .inr (.inr o1)), (2, .inl v2)]) (st' := [.inr (.inl (0 : Int64)), .inl (0 : Int32), .inl (0 : Int32), .inr (.inr o1), .inl (14 : Int32), .inr (.inr (some a0))]) (by decide +kernel) rfl rfl ?_
    obtain ⟨b_3, h4, h⟩ := bd h
    obtain ⟨eh4, th4⟩ := g_o_some h4
    obtain ⟨q_1, h2, h⟩ := bd h
    refine xv_cvo E eh4 1 (as := [.inl (14 : Int32), .inr (.inr o1), .inl (0 : Int32), .inl (0 : Int32), .inr (.inl (0 : Int64))]) (t67 G l (c_V_some h2)) cd67 mw388 mw389 mw390 (show decode prog_3_method_13_code 44 = .ok (.invokevirtual 63, 3) by decide +kernel) th4 rfl rfl (Nat.le_of_ble_eq_true rfl) ⟨Nat.le_of_ble_eq_true rfl, Nat.le_of_ble_eq_true rfl⟩ ?_
    obtain rfl := Option.some.inj h
    obtain ⟨rfl, rfl⟩ := Prod.mk.inj (show ((none : Option aV), q_1) = (r, M') from hN)
    exact xv_rv E B.1 B.2.1 (show decode prog_3_method_13_code 47 = .ok (.return_, 1) by decide +kernel) rfl rfl
  · rw [if_neg q20] at h
    refine xv_icmp_ge E 37 (show decode prog_3_method_13_code 5 = .ok (.if_icmp .ge (32), 3) by decide +kernel) rfl (fun z => absurd z q20) (fun _ => ?_)
    refine xv_b E [.aload_n 0] (pc' := 9) (lv' := [(0, .inr (.inr (some a0))), (1, .inr (.inr o1)), (2, .inl v2)]) (st' := [.inr (.inr (some a0))]) (by decide +kernel) rfl rfl ?_
    obtain ⟨o_5, h6, h⟩ := bd h
    refine xg_r E 1 5 h6 mw109 (show decode prog_3_method_13_code 9 = .ok (.getfield 21, 3) by decide +kernel) ?_
    refine xv_b E [.iload_n 2] (pc' := 13) (lv' := [(0, .inr (.inr (some a0))), (1, .inr (.inr o1)), (2, .inl v2)]) (st' := [.inl v2, .inr (.inr o_5)]) (by decide +kernel) rfl rfl ?_
    obtain ⟨o_7, h8, h⟩ := bd h
    refine xa_r E 37 h8 (show decode prog_3_method_13_code 13 = .ok (.aaload, 1) by decide +kernel) ?_
    refine xv_b E [.aload_n 1] (pc' := 15) (lv' := [(0, .inr (.inr (some a0))), (1, .inr (.inr o1)), (2, .inl v2)]) (st' := [.inr (.inr o1), .inr (.inr o_7)]) (by decide +kernel) rfl rfl ?_
    obtain ⟨b_11, h12, h⟩ := bd h
    obtain ⟨eh12, th12⟩ := g_o_some h12
    obtain ⟨q_9, h10, h⟩ := bd h
    refine xv_cvo E eh12 7 (as := [.inr (.inr o1)]) (t68 G l (c_I_some h10)) cd68 mw391 mw392 mw393 (show decode prog_3_method_13_code 15 = .ok (.invokevirtual 135, 3) by decide +kernel) th12 rfl rfl (Nat.le_of_ble_eq_true rfl) ⟨Nat.le_of_ble_eq_true rfl, Nat.le_of_ble_eq_true rfl⟩ ?_
    by_cases q19 : q_9.1 = 0
    · rw [if_pos q19] at h
      refine xv_if_eq E 31 (show decode prog_3_method_13_code 18 = .ok (.ifCond .eq (13), 3) by decide +kernel) rfl (fun _ => ?_) (fun z => absurd q19 z)
      exact xv_w (sb69_31 E B a0 o1 v2 q_9.2 h hN) rfl
    · rw [if_neg q19] at h
      refine xv_if_eq E 31 (show decode prog_3_method_13_code 18 = .ok (.ifCond .eq (13), 3) by decide +kernel) rfl (fun z => absurd z q19) (fun _ => ?_)
      refine xv_b E [.aload_n 0] (pc' := 22) (lv' := [(0, .inr (.inr (some a0))), (1, .inr (.inr o1)), (2, .inl v2)]) (st' := [.inr (.inr (some a0))]) (by decide +kernel) rfl rfl ?_
      obtain ⟨o_13, h14, h⟩ := bd h
      refine xg_r E 1 5 h14 mw109 (show decode prog_3_method_13_code 22 = .ok (.getfield 21, 3) by decide +kernel) ?_
      refine xv_b E [.iload_n 2] (pc' := 26) (lv' := [(0, .inr (.inr (some a0))), (1, .inr (.inr o1)), (2, .inl v2)]) (st' := [.inl v2, .inr (.inr o_13)]) (by decide +kernel) rfl rfl ?_
      obtain ⟨o_15, h16, h⟩ := bd h
      refine xa_r E 37 h16 (show decode prog_3_method_13_code 26 = .ok (.aaload, 1) by decide +kernel) ?_
      refine xv_b E [.iconst 0] (pc' := 28) (lv' := [(0, .inr (.inr (some a0))), (1, .inr (.inr o1)), (2, .inl v2)]) (st' := [.inl (0 : Int32), .inr (.inr o_15)]) (by decide +kernel) rfl rfl ?_
      obtain ⟨M17, h18, h⟩ := bd h
      refine xp_z E 7 0 h18 mw169 (show decode prog_3_method_13_code 28 = .ok (.putfield 38, 3) by decide +kernel) (Or.inl rfl) ?_
      exact xv_w (sb69_31 E B a0 o1 v2 M17 h hN) rfl
end
theorem t69 (G : gX) (l : Launch) {as : List aV} {M : hM} {r : Option aV} {M' : hM} (h : f69 as M = some (r, M')) : xM G l ym69 prog_3_method_13_code 3 none 4 as M r M' := by
  unfold f69 at h
  split at h
  · have hle : ∀ h as M res, k69 h as M = some res → h_sz M ≤ r_sz res ∧ h_sl M ≤ r_sl res := by
      intro h as M res hb
      unfold k69 at hb
      by_cases e0 : h = 2
      · rw [if_pos e0] at hb
        split at hb
        · exact lb69_2 G l _ _ _ M hb
        · cases hb
      · rw [if_neg e0] at hb
        cases hb
    obtain ⟨res, hx, hres⟩ := x_go_ok h
    refine xM_of (by decide) (Nat.le_of_ble_eq_true rfl) ?_ ?_
    · have e1 := lb69_0 G l _ _ M hx
      have e2 := x_go_le hle hres
      omega
    · intro p e s m args below meth c E B
      refine sb69_0 E B _ _ M hx (hres _ ?_)
      intro h as M res hb hN
      unfold k69 at hb
      unfold pg69
      by_cases e0 : h = 2
      · rw [if_pos e0] at hb ⊢
        split at hb
        · exact sb69_2 E B _ _ _ M hb hN
        · cases hb
      · rw [if_neg e0] at hb ⊢
        cases hb
  · cases h
/-! ZF.Frame.rx()I -/
def ym70 : MethodName := ⟨"ZonedFabric$Frame", "rx", "()I"⟩
theorem cd70 : xCd ym70 prog_4_method_14_code 1 (some FieldType.int) 0 := ⟨mw394, mw207, by decide, by decide, by decide +kernel⟩
def b70_0 (a0 : Nat) (M : hM) : Option xRes :=
  Option.bind (g_o M 2 (some a0)) fun b_3 =>
  Option.bind (c_L (f56 [.inr (.inr (some b_3)), .inl (9 : Int32), .inl (2 : Int32)] M)) fun q_1 =>
  some (.inl (some (.inl (Int64.toInt32 q_1.1)), q_1.2))
def f70 (as : List aV) (M : hM) : xO := match as with
  | [.inr (.inr (some a0))] => x_out (b70_0 a0 M)
  | _ => none
theorem lb70_0 (G : gX) (l : Launch) (a0 : Nat) (M : hM) {res : xRes} (h : b70_0 a0 M = some res) : h_sz M ≤ r_sz res ∧ h_sl M ≤ r_sl res := by
  unfold b70_0 at h
  obtain ⟨b_3, h4, h⟩ := bd h
  obtain ⟨q_1, h2, h⟩ := bd h
  have eh2 := (t56 G l (c_L_some h2)).1
  obtain rfl := Option.some.inj h
  show h_sz M ≤ h_sz q_1.2 ∧ h_sl M ≤ h_sl q_1.2
  omega
section
variable {p : Program} {l : Launch} {e : Env} {s : State} {m : MethodId} {args : Array Value} {below : List Frame} {meth : Method} {c : Code} {G : gX} {z0 y0 : Nat} {r : Option aV} {M' : hM}
theorem sb70_0 (E : xE G p (xRm 2 (h_sz M' - z0) (h_sl M' - y0)) s m args c prog_4_method_14_code "ZonedFabric$Frame" z0 y0 (h_sz M') (h_sl M') 1) (B : xB ym70 (some FieldType.int) meth) (a0 : Nat) (M : hM) {res : xRes} (h : b70_0 a0 M = some res) (hN : xN (fun _ _ _ => False) r M' res) : xV G p l e (xRm 2 (h_sz M' - z0) (h_sl M' - y0)) s m args below meth c z0 y0 (h_sz M') (h_sl M') 1 (MQ below (xQc G r M') args s (h_sz M' - z0) (h_sl M' - y0) (xFr G)) 0 [(0, .inr (.inr (some a0)))] [] M := by
  unfold b70_0 at h
  refine xv_b E [.aload_n 0, .bipush 9, .iconst 2] (pc' := 4) (lv' := [(0, .inr (.inr (some a0)))]) (st' := [.inl (2 : Int32), .inl (9 : Int32), .inr (.inr (some a0))]) (by decide +kernel) rfl rfl ?_
  obtain ⟨b_3, h4, h⟩ := bd h
  obtain ⟨eh4, th4⟩ := g_o_some h4
  obtain ⟨q_1, h2, h⟩ := bd h
  refine xv_cvo E eh4 2 (as := [.inl (9 : Int32), .inl (2 : Int32)]) (t56 G l (c_L_some h2)) cd56 mw346 mw347 mw348 (show decode prog_4_method_14_code 4 = .ok (.invokevirtual 50, 3) by decide +kernel) th4 rfl rfl (Nat.le_of_ble_eq_true rfl) ⟨Nat.le_of_ble_eq_true rfl, Nat.le_of_ble_eq_true rfl⟩ ?_
  refine xv_b E [.l2i] (pc' := 8) (lv' := [(0, .inr (.inr (some a0)))]) (st' := [.inl (Int64.toInt32 q_1.1)]) (by decide +kernel) rfl rfl ?_
  obtain rfl := Option.some.inj h
  obtain ⟨rfl, rfl⟩ := Prod.mk.inj (show ((some (.inl (Int64.toInt32 q_1.1)) : Option aV), q_1.2) = (r, M') from hN)
  exact xv_ri E B.1 rfl B.2.1 (show decode prog_4_method_14_code 8 = .ok (.ireturn, 1) by decide +kernel) rfl rfl
end
theorem t70 (G : gX) (l : Launch) {as : List aV} {M : hM} {r : Option aV} {M' : hM} (h : f70 as M = some (r, M')) : xM G l ym70 prog_4_method_14_code 1 (some FieldType.int) 2 as M r M' := by
  unfold f70 at h
  split at h
  · have h := x_out_ok h
    refine xM_of (by decide) (Nat.le_of_ble_eq_true rfl) (lb70_0 G l _ M h) ?_
    intro p e s m args below meth c E B
    exact sb70_0 E B _ M h rfl
  · cases h
/-! ZF.Frame.part()I -/
def ym71 : MethodName := ⟨"ZonedFabric$Frame", "part", "()I"⟩
theorem cd71 : xCd ym71 prog_4_method_15_code 1 (some FieldType.int) 0 := ⟨mw395, mw207, by decide, by decide, by decide +kernel⟩
def b71_0 (a0 : Nat) (M : hM) : Option xRes :=
  Option.bind (g_o M 2 (some a0)) fun b_3 =>
  Option.bind (c_I (f55 [.inr (.inr (some b_3)), .inl (11 : Int32)] M)) fun q_1 =>
  some (.inl (some (.inl q_1.1), q_1.2))
def f71 (as : List aV) (M : hM) : xO := match as with
  | [.inr (.inr (some a0))] => x_out (b71_0 a0 M)
  | _ => none
theorem lb71_0 (G : gX) (l : Launch) (a0 : Nat) (M : hM) {res : xRes} (h : b71_0 a0 M = some res) : h_sz M ≤ r_sz res ∧ h_sl M ≤ r_sl res := by
  unfold b71_0 at h
  obtain ⟨b_3, h4, h⟩ := bd h
  obtain ⟨q_1, h2, h⟩ := bd h
  have eh2 := (t55 G l (c_I_some h2)).1
  obtain rfl := Option.some.inj h
  show h_sz M ≤ h_sz q_1.2 ∧ h_sl M ≤ h_sl q_1.2
  omega
section
variable {p : Program} {l : Launch} {e : Env} {s : State} {m : MethodId} {args : Array Value} {below : List Frame} {meth : Method} {c : Code} {G : gX} {z0 y0 : Nat} {r : Option aV} {M' : hM}
theorem sb71_0 (E : xE G p (xRm 1 (h_sz M' - z0) (h_sl M' - y0)) s m args c prog_4_method_15_code "ZonedFabric$Frame" z0 y0 (h_sz M') (h_sl M') 1) (B : xB ym71 (some FieldType.int) meth) (a0 : Nat) (M : hM) {res : xRes} (h : b71_0 a0 M = some res) (hN : xN (fun _ _ _ => False) r M' res) : xV G p l e (xRm 1 (h_sz M' - z0) (h_sl M' - y0)) s m args below meth c z0 y0 (h_sz M') (h_sl M') 1 (MQ below (xQc G r M') args s (h_sz M' - z0) (h_sl M' - y0) (xFr G)) 0 [(0, .inr (.inr (some a0)))] [] M := by
  unfold b71_0 at h
  refine xv_b E [.aload_n 0, .bipush 11] (pc' := 3) (lv' := [(0, .inr (.inr (some a0)))]) (st' := [.inl (11 : Int32), .inr (.inr (some a0))]) (by decide +kernel) rfl rfl ?_
  obtain ⟨b_3, h4, h⟩ := bd h
  obtain ⟨eh4, th4⟩ := g_o_some h4
  obtain ⟨q_1, h2, h⟩ := bd h
  refine xv_cvo E eh4 2 (as := [.inl (11 : Int32)]) (t55 G l (c_I_some h2)) cd55 mw332 mw333 mw334 (show decode prog_4_method_15_code 3 = .ok (.invokevirtual 49, 3) by decide +kernel) th4 rfl rfl (Nat.le_of_ble_eq_true rfl) ⟨Nat.le_of_ble_eq_true rfl, Nat.le_of_ble_eq_true rfl⟩ ?_
  obtain rfl := Option.some.inj h
  obtain ⟨rfl, rfl⟩ := Prod.mk.inj (show ((some (.inl q_1.1) : Option aV), q_1.2) = (r, M') from hN)
  exact xv_ri E B.1 rfl B.2.1 (show decode prog_4_method_15_code 6 = .ok (.ireturn, 1) by decide +kernel) rfl rfl
end
theorem t71 (G : gX) (l : Launch) {as : List aV} {M : hM} {r : Option aV} {M' : hM} (h : f71 as M = some (r, M')) : xM G l ym71 prog_4_method_15_code 1 (some FieldType.int) 1 as M r M' := by
  unfold f71 at h
  split at h
  · have h := x_out_ok h
    refine xM_of (by decide) (Nat.le_of_ble_eq_true rfl) (lb71_0 G l _ M h) ?_
    intro p e s m args below meth c E B
    exact sb71_0 E B _ M h rfl
  · cases h
/-! ZF.OpenWrite.keep(IJ)V -/
def ym72 : MethodName := ⟨"ZonedFabric$OpenWrite", "keep", "(IJ)V"⟩
theorem cd72 : xCd ym72 prog_9_method_4_code 4 none 2 := ⟨mw396, mw100, by decide, by decide, by decide +kernel⟩
def b72_28  (M : hM) : Option xRes :=
  some (.inl (none, M))
def b72_0 (a0 : Nat) (v1 : Int32) (w2 : Int64) (M : hM) : Option xRes :=
  if v1 < 0 then
    (b72_28  M)
  else
    (if (4 : Int32) ≤ v1 then
      (b72_28  M)
    else
      (Option.bind (g_r M 7 8 (some a0)) fun o_1 =>
      Option.bind (as_l M 23 o_1 v1 w2) fun M3 =>
      Option.bind (g_i M3 7 7 (some a0)) fun v_5 =>
      Option.bind (p_i M3 7 7 (some a0) (v_5 ||| ((1 : Int32) <<< (v1 &&& 31)))) fun M7 =>
      b72_28  M7))
def f72 (as : List aV) (M : hM) : xO := match as with
  | [.inr (.inr (some a0)), .inl v1, .inr (.inl w2)] => x_out (b72_0 a0 v1 w2 M)
  | _ => none
theorem lb72_28 (G : gX) (l : Launch)  (M : hM) {res : xRes} (h : b72_28  M = some res) : h_sz M ≤ r_sz res ∧ h_sl M ≤ r_sl res := by
  unfold b72_28 at h
  obtain rfl := Option.some.inj h
  show h_sz M ≤ h_sz M ∧ h_sl M ≤ h_sl M
  omega
theorem lb72_0 (G : gX) (l : Launch) (a0 : Nat) (v1 : Int32) (w2 : Int64) (M : hM) {res : xRes} (h : b72_0 a0 v1 w2 M = some res) : h_sz M ≤ r_sz res ∧ h_sl M ≤ r_sl res := by
  unfold b72_0 at h
  by_cases q10 : v1 < 0
  · rw [if_pos q10] at h
    have e := lb72_28 G l  M h
    omega
  · rw [if_neg q10] at h
    by_cases q9 : (4 : Int32) ≤ v1
    · rw [if_pos q9] at h
      have e := lb72_28 G l  M h
      omega
    · rw [if_neg q9] at h
      obtain ⟨o_1, h2, h⟩ := bd h
      obtain ⟨M3, h4, h⟩ := bd h
      have eh4 := as_l_sz h4
      obtain ⟨v_5, h6, h⟩ := bd h
      obtain ⟨M7, h8, h⟩ := bd h
      have eh8 := p_i_sz h8
      have e := lb72_28 G l  M7 h
      omega
section
variable {p : Program} {l : Launch} {e : Env} {s : State} {m : MethodId} {args : Array Value} {below : List Frame} {meth : Method} {c : Code} {G : gX} {z0 y0 : Nat} {r : Option aV} {M' : hM}
theorem sb72_28 (E : xE G p (xRm 0 (h_sz M' - z0) (h_sl M' - y0)) s m args c prog_9_method_4_code "ZonedFabric$OpenWrite" z0 y0 (h_sz M') (h_sl M') 4) (B : xB ym72 none meth)  (M : hM) {res : xRes} (h : b72_28  M = some res) (hN : xN (fun _ _ _ => False) r M' res) : xV G p l e (xRm 0 (h_sz M' - z0) (h_sl M' - y0)) s m args below meth c z0 y0 (h_sz M') (h_sl M') 4 (MQ below (xQc G r M') args s (h_sz M' - z0) (h_sl M' - y0) (xFr G)) 28 [] [] M := by
  unfold b72_28 at h
  obtain rfl := Option.some.inj h
  obtain ⟨rfl, rfl⟩ := Prod.mk.inj (show ((none : Option aV), M) = (r, M') from hN)
  exact xv_rv E B.1 B.2.1 (show decode prog_9_method_4_code 28 = .ok (.return_, 1) by decide +kernel) rfl rfl
theorem sb72_0 (E : xE G p (xRm 0 (h_sz M' - z0) (h_sl M' - y0)) s m args c prog_9_method_4_code "ZonedFabric$OpenWrite" z0 y0 (h_sz M') (h_sl M') 4) (B : xB ym72 none meth) (a0 : Nat) (v1 : Int32) (w2 : Int64) (M : hM) {res : xRes} (h : b72_0 a0 v1 w2 M = some res) (hN : xN (fun _ _ _ => False) r M' res) : xV G p l e (xRm 0 (h_sz M' - z0) (h_sl M' - y0)) s m args below meth c z0 y0 (h_sz M') (h_sl M') 4 (MQ below (xQc G r M') args s (h_sz M' - z0) (h_sl M' - y0) (xFr G)) 0 [(0, .inr (.inr (some a0))), (1, .inl v1), (2, .inr (.inl w2))] [] M := by
  unfold b72_0 at h
  refine xv_b E [.iload_n 1] (pc' := 1) (lv' := [(0, .inr (.inr (some a0))), (1, .inl v1), (2, .inr (.inl w2))]) (st' := [.inl v1]) (by decide +kernel) rfl rfl ?_
  by_cases q10 : v1 < 0
  · rw [if_pos q10] at h
    refine xv_if_lt E 28 (show decode prog_9_method_4_code 1 = .ok (.ifCond .lt (27), 3) by decide +kernel) rfl (fun _ => ?_) (fun z => absurd q10 z)
    exact xv_w (sb72_28 E B  M h hN) rfl
  · rw [if_neg q10] at h
    refine xv_if_lt E 28 (show decode prog_9_method_4_code 1 = .ok (.ifCond .lt (27), 3) by decide +kernel) rfl (fun z => absurd z q10) (fun _ => ?_)
    refine xv_b E [.iload_n 1, .iconst 4] (pc' := 6) (lv' := [(0, .inr (.inr (some a0))), (1, .inl v1), (2, .inr (.inl w2))]) (st' := [.inl (4 : Int32), .inl v1]) (by decide +kernel) rfl rfl ?_
    by_cases q9 : (4 : Int32) ≤ v1
    · rw [if_pos q9] at h
      refine xv_icmp_ge E 28 (show decode prog_9_method_4_code 6 = .ok (.if_icmp .ge (22), 3) by decide +kernel) rfl (fun _ => ?_) (fun z => absurd q9 z)
      exact xv_w (sb72_28 E B  M h hN) rfl
    · rw [if_neg q9] at h
      refine xv_icmp_ge E 28 (show decode prog_9_method_4_code 6 = .ok (.if_icmp .ge (22), 3) by decide +kernel) rfl (fun z => absurd z q9) (fun _ => ?_)
      refine xv_b E [.aload_n 0] (pc' := 10) (lv' := [(0, .inr (.inr (some a0))), (1, .inl v1), (2, .inr (.inl w2))]) (st' := [.inr (.inr (some a0))]) (by decide +kernel) rfl rfl ?_
      obtain ⟨o_1, h2, h⟩ := bd h
      refine xg_r E 7 8 h2 mw102 (show decode prog_9_method_4_code 10 = .ok (.getfield 9, 3) by decide +kernel) ?_
      refine xv_b E [.iload_n 1, .lload_n 2] (pc' := 15) (lv' := [(0, .inr (.inr (some a0))), (1, .inl v1), (2, .inr (.inl w2))]) (st' := [.inr (.inl w2), .inl v1, .inr (.inr o_1)]) (by decide +kernel) rfl rfl ?_
      obtain ⟨M3, h4, h⟩ := bd h
      refine xs_l E h4 (show decode prog_9_method_4_code 15 = .ok (.lastore, 1) by decide +kernel) ?_
      refine xv_b E [.aload_n 0, .dup] (pc' := 18) (lv' := [(0, .inr (.inr (some a0))), (1, .inl v1), (2, .inr (.inl w2))]) (st' := [.inr (.inr (some a0)), .inr (.inr (some a0))]) (by decide +kernel) rfl rfl ?_
      obtain ⟨v_5, h6, h⟩ := bd h
      refine xg_i E 7 7 h6 mw397 (show decode prog_9_method_4_code 18 = .ok (.getfield 49, 3) by decide +kernel) ?_
      refine xv_b E [.iconst 1, .iload_n 1, .ishl, .ior] (pc' := 25) (lv' := [(0, .inr (.inr (some a0))), (1, .inl v1), (2, .inr (.inl w2))]) (st' := [.inl (v_5 ||| ((1 : Int32) <<< (v1 &&& 31))), .inr (.inr (some a0))]) (by decide +kernel) rfl rfl ?_
      obtain ⟨M7, h8, h⟩ := bd h
      refine xp_i E 7 7 h8 mw397 (show decode prog_9_method_4_code 25 = .ok (.putfield 49, 3) by decide +kernel) (Or.inl rfl) ?_
      exact xv_w (sb72_28 E B  M7 h hN) rfl
end
theorem t72 (G : gX) (l : Launch) {as : List aV} {M : hM} {r : Option aV} {M' : hM} (h : f72 as M = some (r, M')) : xM G l ym72 prog_9_method_4_code 4 none 0 as M r M' := by
  unfold f72 at h
  split at h
  · have h := x_out_ok h
    refine xM_of (by decide) (Nat.le_of_ble_eq_true rfl) (lb72_0 G l _ _ _ M h) ?_
    intro p e s m args below meth c E B
    exact sb72_0 E B _ _ _ M h rfl
  · cases h
/-! ZF.OpenWrite.hasAll()Z -/
def ym73 : MethodName := ⟨"ZonedFabric$OpenWrite", "hasAll", "()Z"⟩
theorem cd73 : xCd ym73 prog_9_method_5_code 1 (some FieldType.boolean) 0 := ⟨mw398, mw100, by decide, by decide, by decide +kernel⟩
def b73_20 (si0 : Int32) (M : hM) : Option xRes :=
  if si0 = 0 ∨ si0 = 1 then
    (some (.inl (some (.inl si0), M)))
  else
    none
def b73_0 (a0 : Nat) (M : hM) : Option xRes :=
  Option.bind (g_i M 7 7 (some a0)) fun v_1 =>
  Option.bind (g_i M 7 5 (some a0)) fun v_3 =>
  if v_1 = (((1 : Int32) <<< (v_3 &&& 31)) - (1 : Int32)) then
    (b73_20 (1 : Int32) M)
  else
    (b73_20 (0 : Int32) M)
def f73 (as : List aV) (M : hM) : xO := match as with
  | [.inr (.inr (some a0))] => x_out (b73_0 a0 M)
  | _ => none
theorem lb73_20 (G : gX) (l : Launch) (si0 : Int32) (M : hM) {res : xRes} (h : b73_20 si0 M = some res) : h_sz M ≤ r_sz res ∧ h_sl M ≤ r_sl res := by
  unfold b73_20 at h
  by_cases q6 : si0 = 0 ∨ si0 = 1
  · rw [if_pos q6] at h
    obtain rfl := Option.some.inj h
    show h_sz M ≤ h_sz M ∧ h_sl M ≤ h_sl M
    omega
  · rw [if_neg q6] at h
    cases h
theorem lb73_0 (G : gX) (l : Launch) (a0 : Nat) (M : hM) {res : xRes} (h : b73_0 a0 M = some res) : h_sz M ≤ r_sz res ∧ h_sl M ≤ r_sl res := by
  unfold b73_0 at h
  obtain ⟨v_1, h2, h⟩ := bd h
  obtain ⟨v_3, h4, h⟩ := bd h
  by_cases q5 : v_1 = (((1 : Int32) <<< (v_3 &&& 31)) - (1 : Int32))
  · rw [if_pos q5] at h
    have e := lb73_20 G l (1 : Int32) M h
    omega
  · rw [if_neg q5] at h
    have e := lb73_20 G l (0 : Int32) M h
    omega
section
variable {p : Program} {l : Launch} {e : Env} {s : State} {m : MethodId} {args : Array Value} {below : List Frame} {meth : Method} {c : Code} {G : gX} {z0 y0 : Nat} {r : Option aV} {M' : hM}
theorem sb73_20 (E : xE G p (xRm 0 (h_sz M' - z0) (h_sl M' - y0)) s m args c prog_9_method_5_code "ZonedFabric$OpenWrite" z0 y0 (h_sz M') (h_sl M') 1) (B : xB ym73 (some FieldType.boolean) meth) (si0 : Int32) (M : hM) {res : xRes} (h : b73_20 si0 M = some res) (hN : xN (fun _ _ _ => False) r M' res) : xV G p l e (xRm 0 (h_sz M' - z0) (h_sl M' - y0)) s m args below meth c z0 y0 (h_sz M') (h_sl M') 1 (MQ below (xQc G r M') args s (h_sz M' - z0) (h_sl M' - y0) (xFr G)) 20 [] [.inl si0] M := by
  unfold b73_20 at h
  by_cases q6 : si0 = 0 ∨ si0 = 1
  · rw [if_pos q6] at h
    obtain rfl := Option.some.inj h
    obtain ⟨rfl, rfl⟩ := Prod.mk.inj (show ((some (.inl si0) : Option aV), M) = (r, M') from hN)
    exact xv_ri E B.1 (by rcases q6 with z | z <;> rw [z] <;> rfl) B.2.1 (show decode prog_9_method_5_code 20 = .ok (.ireturn, 1) by decide +kernel) rfl rfl
  · rw [if_neg q6] at h
    cases h
theorem sb73_0 (E : xE G p (xRm 0 (h_sz M' - z0) (h_sl M' - y0)) s m args c prog_9_method_5_code "ZonedFabric$OpenWrite" z0 y0 (h_sz M') (h_sl M') 1) (B : xB ym73 (some FieldType.boolean) meth) (a0 : Nat) (M : hM) {res : xRes} (h : b73_0 a0 M = some res) (hN : xN (fun _ _ _ => False) r M' res) : xV G p l e (xRm 0 (h_sz M' - z0) (h_sl M' - y0)) s m args below meth c z0 y0 (h_sz M') (h_sl M') 1 (MQ below (xQc G r M') args s (h_sz M' - z0) (h_sl M' - y0) (xFr G)) 0 [(0, .inr (.inr (some a0)))] [] M := by
  unfold b73_0 at h
  refine xv_b E [.aload_n 0] (pc' := 1) (lv' := [(0, .inr (.inr (some a0)))]) (st' := [.inr (.inr (some a0))]) (by decide +kernel) rfl rfl ?_
  obtain ⟨v_1, h2, h⟩ := bd h
  refine xg_i E 7 7 h2 mw397 (show decode prog_9_method_5_code 1 = .ok (.getfield 49, 3) by decide +kernel) ?_
  refine xv_b E [.iconst 1, .aload_n 0] (pc' := 6) (lv' := [(0, .inr (.inr (some a0)))]) (st' := [.inr (.inr (some a0)), .inl (1 : Int32), .inl v_1]) (by decide +kernel) rfl rfl ?_
  obtain ⟨v_3, h4, h⟩ := bd h
  refine xg_i E 7 5 h4 mw399 (show decode prog_9_method_5_code 6 = .ok (.getfield 43, 3) by decide +kernel) ?_
  refine xv_b E [.ishl, .iconst 1, .isub] (pc' := 12) (lv' := [(0, .inr (.inr (some a0)))]) (st' := [.inl (((1 : Int32) <<< (v_3 &&& 31)) - (1 : Int32)), .inl v_1]) (by decide +kernel) rfl rfl ?_
  by_cases q5 : v_1 = (((1 : Int32) <<< (v_3 &&& 31)) - (1 : Int32))
  · rw [if_pos q5] at h
    refine xv_icmp_ne E 19 (show decode prog_9_method_5_code 12 = .ok (.if_icmp .ne (7), 3) by decide +kernel) rfl (fun z => absurd q5 z) (fun _ => ?_)
    refine xv_b E [.iconst 1] (pc' := 16) (lv' := [(0, .inr (.inr (some a0)))]) (st' := [.inl (1 : Int32)]) (by decide +kernel) rfl rfl ?_
    refine xv_goto E 20 (show decode prog_9_method_5_code 16 = .ok (.goto (4), 3) by decide +kernel) rfl ?_
    exact xv_w (sb73_20 E B (1 : Int32) M h hN) rfl
  · rw [if_neg q5] at h
    refine xv_icmp_ne E 19 (show decode prog_9_method_5_code 12 = .ok (.if_icmp .ne (7), 3) by decide +kernel) rfl (fun _ => ?_) (fun z => absurd z q5)
    refine xv_b E [.iconst 0] (pc' := 20) (lv' := [(0, .inr (.inr (some a0)))]) (st' := [.inl (0 : Int32)]) (by decide +kernel) rfl rfl ?_
    exact xv_w (sb73_20 E B (0 : Int32) M h hN) rfl
end
theorem t73 (G : gX) (l : Launch) {as : List aV} {M : hM} {r : Option aV} {M' : hM} (h : f73 as M = some (r, M')) : xM G l ym73 prog_9_method_5_code 1 (some FieldType.boolean) 0 as M r M' := by
  unfold f73 at h
  split at h
  · have h := x_out_ok h
    refine xM_of (by decide) (Nat.le_of_ble_eq_true rfl) (lb73_0 G l _ M h) ?_
    intro p e s m args below meth c E B
    exact sb73_0 E B _ M h rfl
  · cases h
/-! ZF.Disc.store(LZF$OpenWrite;)V -/
def ym74 : MethodName := ⟨"ZonedFabric$Disc", "store", "(LZonedFabric$OpenWrite;)V"⟩
theorem cd74 : xCd ym74 prog_3_method_12_code 3 none 1 := ⟨mw400, mw105, by decide, by decide, by decide +kernel⟩
def b74_0 (a0 : Nat) (o1 : Option Nat) (M : hM) : Option xRes :=
  some (.inr (2, [.inr (.inr (some a0)), .inr (.inr o1), .inl (0 : Int32)], M))
def b74_47 (o1 : Option Nat) (M : hM) : Option xRes :=
  Option.bind (p_z M 7 0 o1 (0 : Int32)) fun M21 =>
  some (.inl (none, M21))
def b74_2 (a0 : Nat) (o1 : Option Nat) (v2 : Int32) (M : hM) : Option xRes :=
  Option.bind (g_i M 7 5 o1) fun v_1 =>
  if v_1 ≤ v2 then
    (b74_47 o1 M)
  else
    (Option.bind (g_i M 7 4 o1) fun v_3 =>
    Option.bind (g_r M 1 2 (some a0)) fun o_5 =>
    Option.bind (a_ln M 23 o_5) fun v_7 =>
    if v_7 ≤ (v_3 + v2) then
      (b74_47 o1 M)
    else
      (Option.bind (g_r M 1 2 (some a0)) fun o_9 =>
      Option.bind (g_i M 7 4 o1) fun v_11 =>
      Option.bind (g_r M 7 8 o1) fun o_13 =>
      Option.bind (al_l M 23 o_13 v2) fun w_15 =>
      Option.bind (as_l M 23 o_9 (v_11 + v2) w_15) fun M17 =>
      some (.inr (2, [.inr (.inr (some a0)), .inr (.inr o1), .inl (v2 + (1 : Int32))], M17))))
def k74 (h : Nat) (as : List aV) (M : hM) : Option xRes :=
  if h = 2 then (match as with | [.inr (.inr (some a0)), .inr (.inr o1), .inl v2] => b74_2 a0 o1 v2 M | _ => none) else
  none
def f74 (as : List aV) (M : hM) : xO := match as with
  | [.inr (.inr (some a0)), .inr (.inr o1)] => x_go k74 (b74_0 a0 o1 M)
  | _ => none
theorem lb74_0 (G : gX) (l : Launch) (a0 : Nat) (o1 : Option Nat) (M : hM) {res : xRes} (h : b74_0 a0 o1 M = some res) : h_sz M ≤ r_sz res ∧ h_sl M ≤ r_sl res := by
  unfold b74_0 at h
  obtain rfl := Option.some.inj h
  show h_sz M ≤ h_sz M ∧ h_sl M ≤ h_sl M
  omega
theorem lb74_47 (G : gX) (l : Launch) (o1 : Option Nat) (M : hM) {res : xRes} (h : b74_47 o1 M = some res) : h_sz M ≤ r_sz res ∧ h_sl M ≤ r_sl res := by
  unfold b74_47 at h
  obtain ⟨M21, h22, h⟩ := bd h
  have eh22 := p_z_sz h22
  obtain rfl := Option.some.inj h
  show h_sz M ≤ h_sz M21 ∧ h_sl M ≤ h_sl M21
  omega
theorem lb74_2 (G : gX) (l : Launch) (a0 : Nat) (o1 : Option Nat) (v2 : Int32) (M : hM) {res : xRes} (h : b74_2 a0 o1 v2 M = some res) : h_sz M ≤ r_sz res ∧ h_sl M ≤ r_sl res := by
  unfold b74_2 at h
  obtain ⟨v_1, h2, h⟩ := bd h
  by_cases q20 : v_1 ≤ v2
  · rw [if_pos q20] at h
    have e := lb74_47 G l o1 M h
    omega
  · rw [if_neg q20] at h
    obtain ⟨v_3, h4, h⟩ := bd h
    obtain ⟨o_5, h6, h⟩ := bd h
    obtain ⟨v_7, h8, h⟩ := bd h
    by_cases q19 : v_7 ≤ (v_3 + v2)
    · rw [if_pos q19] at h
      have e := lb74_47 G l o1 M h
      omega
    · rw [if_neg q19] at h
      obtain ⟨o_9, h10, h⟩ := bd h
      obtain ⟨v_11, h12, h⟩ := bd h
      obtain ⟨o_13, h14, h⟩ := bd h
      obtain ⟨w_15, h16, h⟩ := bd h
      obtain ⟨M17, h18, h⟩ := bd h
      have eh18 := as_l_sz h18
      obtain rfl := Option.some.inj h
      show h_sz M ≤ h_sz M17 ∧ h_sl M ≤ h_sl M17
      omega
section
variable {p : Program} {l : Launch} {e : Env} {s : State} {m : MethodId} {args : Array Value} {below : List Frame} {meth : Method} {c : Code} {G : gX} {z0 y0 : Nat} {r : Option aV} {M' : hM}
def pg74 (p : Program) (l : Launch) (e : Env) (s : State) (m : MethodId) (args : Array Value) (below : List Frame) (meth : Method) (c : Code) (G : gX) (z0 y0 : Nat) (r : Option aV) (M' : hM) (h : Nat) (as : List aV) (M : hM) : Prop :=
  if h = 2 then (match as with | [.inr (.inr (some a0)), .inr (.inr o1), .inl v2] => xV G p l e (xRm 0 (h_sz M' - z0) (h_sl M' - y0)) s m args below meth c z0 y0 (h_sz M') (h_sl M') 3 (MQ below (xQc G r M') args s (h_sz M' - z0) (h_sl M' - y0) (xFr G)) 2 [(0, .inr (.inr (some a0))), (1, .inr (.inr o1)), (2, .inl v2)] [] M | _ => False) else
  False
theorem sb74_0 (E : xE G p (xRm 0 (h_sz M' - z0) (h_sl M' - y0)) s m args c prog_3_method_12_code "ZonedFabric$Disc" z0 y0 (h_sz M') (h_sl M') 3) (B : xB ym74 none meth) (a0 : Nat) (o1 : Option Nat) (M : hM) {res : xRes} (h : b74_0 a0 o1 M = some res) (hN : xN (pg74 p l e s m args below meth c G z0 y0 r M') r M' res) : xV G p l e (xRm 0 (h_sz M' - z0) (h_sl M' - y0)) s m args below meth c z0 y0 (h_sz M') (h_sl M') 3 (MQ below (xQc G r M') args s (h_sz M' - z0) (h_sl M' - y0) (xFr G)) 0 [(0, .inr (.inr (some a0))), (1, .inr (.inr o1))] [] M := by
  unfold b74_0 at h
  refine xv_b E [.iconst 0, .istore_n 2] (pc' := 2) (lv' := [(2, .inl (0 : Int32)), (0, .inr (.inr (some a0))), (1, .inr (.inr o1))]) (st' := []) (by decide +kernel) rfl rfl ?_
  obtain rfl := Option.some.inj h
  exact xv_w hN rfl
theorem sb74_47 (E : xE G p (xRm 0 (h_sz M' - z0) (h_sl M' - y0)) s m args c prog_3_method_12_code "ZonedFabric$Disc" z0 y0 (h_sz M') (h_sl M') 3) (B : xB ym74 none meth) (o1 : Option Nat) (M : hM) {res : xRes} (h : b74_47 o1 M = some res) (hN : xN (pg74 p l e s m args below meth c G z0 y0 r M') r M' res) : xV G p l e (xRm 0 (h_sz M' - z0) (h_sl M' - y0)) s m args below meth c z0 y0 (h_sz M') (h_sl M') 3 (MQ below (xQc G r M') args s (h_sz M' - z0) (h_sl M' - y0) (xFr G)) 47 [(1, .inr (.inr o1))] [] M := by
  unfold b74_47 at h
  refine xv_b E [.aload_n 1, .iconst 0] (pc' := 49) (lv' := [(1, .inr (.inr o1))]) (st' := [.inl (0 : Int32), .inr (.inr o1)]) (by decide +kernel) rfl rfl ?_
  obtain ⟨M21, h22, h⟩ := bd h
  refine xp_z E 7 0 h22 mw169 (show decode prog_3_method_12_code 49 = .ok (.putfield 38, 3) by decide +kernel) (Or.inl rfl) ?_
  obtain rfl := Option.some.inj h
  obtain ⟨rfl, rfl⟩ := Prod.mk.inj (show ((none : Option aV), M21) = (r, M') from hN)
  exact xv_rv E B.1 B.2.1 (show decode prog_3_method_12_code 52 = .ok (.return_, 1) by decide +kernel) rfl rfl
theorem sb74_2 (E : xE G p (xRm 0 (h_sz M' - z0) (h_sl M' - y0)) s m args c prog_3_method_12_code "ZonedFabric$Disc" z0 y0 (h_sz M') (h_sl M') 3) (B : xB ym74 none meth) (a0 : Nat) (o1 : Option Nat) (v2 : Int32) (M : hM) {res : xRes} (h : b74_2 a0 o1 v2 M = some res) (hN : xN (pg74 p l e s m args below meth c G z0 y0 r M') r M' res) : xV G p l e (xRm 0 (h_sz M' - z0) (h_sl M' - y0)) s m args below meth c z0 y0 (h_sz M') (h_sl M') 3 (MQ below (xQc G r M') args s (h_sz M' - z0) (h_sl M' - y0) (xFr G)) 2 [(0, .inr (.inr (some a0))), (1, .inr (.inr o1)), (2, .inl v2)] [] M := by
  unfold b74_2 at h
  refine xv_b E [.iload_n 2, .aload_n 1] (pc' := 4) (lv' := [(0, .inr (.inr (some a0))), (1, .inr (.inr o1)), (2, .inl v2)]) (st' := [.inr (.inr o1), .inl v2]) (by decide +kernel) rfl rfl ?_
  obtain ⟨v_1, h2, h⟩ := bd h
  refine xg_i E 7 5 h2 mw401 (show decode prog_3_method_12_code 4 = .ok (.getfield 147, 3) by decide +kernel) ?_
  by_cases q20 : v_1 ≤ v2
  · rw [if_pos q20] at h
    refine xv_icmp_ge E 47 (show decode prog_3_method_12_code 7 = .ok (.if_icmp .ge (40), 3) by decide +kernel) rfl (fun _ => ?_) (fun z => absurd q20 z)
    exact xv_w (sb74_47 E B o1 M h hN) rfl
  · rw [if_neg q20] at h
    refine xv_icmp_ge E 47 (show decode prog_3_method_12_code 7 = .ok (.if_icmp .ge (40), 3) by decide +kernel) rfl (fun z => absurd z q20) (fun _ => ?_)
    refine xv_b E [.aload_n 1] (pc' := 11) (lv' := [(0, .inr (.inr (some a0))), (1, .inr (.inr o1)), (2, .inl v2)]) (st' := [.inr (.inr o1)]) (by decide +kernel) rfl rfl ?_
    obtain ⟨v_3, h4, h⟩ := bd h
    refine xg_i E 7 4 h4 mw402 (show decode prog_3_method_12_code 11 = .ok (.getfield 165, 3) by decide +kernel) ?_
    refine xv_b E [.iload_n 2, .iadd, .aload_n 0] (pc' := 17) (lv' := [(0, .inr (.inr (some a0))), (1, .inr (.inr o1)), (2, .inl v2)]) (st' := [.inr (.inr (some a0)), .inl (v_3 + v2)]) (by decide +kernel) rfl rfl ?_
    obtain ⟨o_5, h6, h⟩ := bd h
    refine xg_r E 1 2 h6 mw106 (show decode prog_3_method_12_code 17 = .ok (.getfield 9, 3) by decide +kernel) ?_
    obtain ⟨v_7, h8, h⟩ := bd h
    refine xa_n E 23 h8 (show decode prog_3_method_12_code 20 = .ok (.arraylength, 1) by decide +kernel) ?_
    by_cases q19 : v_7 ≤ (v_3 + v2)
    · rw [if_pos q19] at h
      refine xv_icmp_ge E 47 (show decode prog_3_method_12_code 21 = .ok (.if_icmp .ge (26), 3) by decide +kernel) rfl (fun _ => ?_) (fun z => absurd q19 z)
      exact xv_w (sb74_47 E B o1 M h hN) rfl
    · rw [if_neg q19] at h
      refine xv_icmp_ge E 47 (show decode prog_3_method_12_code 21 = .ok (.if_icmp .ge (26), 3) by decide +kernel) rfl (fun z => absurd z q19) (fun _ => ?_)
      refine xv_b E [.aload_n 0] (pc' := 25) (lv' := [(0, .inr (.inr (some a0))), (1, .inr (.inr o1)), (2, .inl v2)]) (st' := [.inr (.inr (some a0))]) (by decide +kernel) rfl rfl ?_
      obtain ⟨o_9, h10, h⟩ := bd h
      refine xg_r E 1 2 h10 mw106 (show decode prog_3_method_12_code 25 = .ok (.getfield 9, 3) by decide +kernel) ?_
      refine xv_b E [.aload_n 1] (pc' := 29) (lv' := [(0, .inr (.inr (some a0))), (1, .inr (.inr o1)), (2, .inl v2)]) (st' := [.inr (.inr o1), .inr (.inr o_9)]) (by decide +kernel) rfl rfl ?_
      obtain ⟨v_11, h12, h⟩ := bd h
      refine xg_i E 7 4 h12 mw402 (show decode prog_3_method_12_code 29 = .ok (.getfield 165, 3) by decide +kernel) ?_
      refine xv_b E [.iload_n 2, .iadd, .aload_n 1] (pc' := 35) (lv' := [(0, .inr (.inr (some a0))), (1, .inr (.inr o1)), (2, .inl v2)]) (st' := [.inr (.inr o1), .inl (v_11 + v2), .inr (.inr o_9)]) (by decide +kernel) rfl rfl ?_
      obtain ⟨o_13, h14, h⟩ := bd h
      refine xg_r E 7 8 h14 mw403 (show decode prog_3_method_12_code 35 = .ok (.getfield 168, 3) by decide +kernel) ?_
      refine xv_b E [.iload_n 2] (pc' := 39) (lv' := [(0, .inr (.inr (some a0))), (1, .inr (.inr o1)), (2, .inl v2)]) (st' := [.inl v2, .inr (.inr o_13), .inl (v_11 + v2), .inr (.inr o_9)]) (by decide +kernel) rfl rfl ?_
      obtain ⟨w_15, h16, h⟩ := bd h
      refine xa_l E h16 (show decode prog_3_method_12_code 39 = .ok (.laload, 1) by decide +kernel) ?_
      obtain ⟨M17, h18, h⟩ := bd h
      refine xs_l E h18 (show decode prog_3_method_12_code 40 = .ok (.lastore, 1) by decide +kernel) ?_
      refine xv_b E [.iinc 2 1] (pc' := 44) (lv' := [(2, .inl (v2 + (1 : Int32))), (0, .inr (.inr (some a0))), (1, .inr (.inr o1))]) (st' := []) (by decide +kernel) rfl rfl ?_
      refine xv_goto E 2 (show decode prog_3_method_12_code 44 = .ok (.goto (-42), 3) by decide +kernel) rfl ?_
      obtain rfl := Option.some.inj h
      exact xv_w hN rfl
end
theorem t74 (G : gX) (l : Launch) {as : List aV} {M : hM} {r : Option aV} {M' : hM} (h : f74 as M = some (r, M')) : xM G l ym74 prog_3_method_12_code 3 none 0 as M r M' := by
  unfold f74 at h
  split at h
  · have hle : ∀ h as M res, k74 h as M = some res → h_sz M ≤ r_sz res ∧ h_sl M ≤ r_sl res := by
      intro h as M res hb
      unfold k74 at hb
      by_cases e0 : h = 2
      · rw [if_pos e0] at hb
        split at hb
        · exact lb74_2 G l _ _ _ M hb
        · cases hb
      · rw [if_neg e0] at hb
        cases hb
    obtain ⟨res, hx, hres⟩ := x_go_ok h
    refine xM_of (by decide) (Nat.le_of_ble_eq_true rfl) ?_ ?_
    · have e1 := lb74_0 G l _ _ M hx
      have e2 := x_go_le hle hres
      omega
    · intro p e s m args below meth c E B
      refine sb74_0 E B _ _ M hx (hres _ ?_)
      intro h as M res hb hN
      unfold k74 at hb
      unfold pg74
      by_cases e0 : h = 2
      · rw [if_pos e0] at hb ⊢
        split at hb
        · exact sb74_2 E B _ _ _ M hb hN
        · cases hb
      · rw [if_neg e0] at hb ⊢
        cases hb
  · cases h
/-! ZF.Disc.takeData(LZF$Frame;)V -/
def ym75 : MethodName := ⟨"ZonedFabric$Disc", "takeData", "(LZonedFabric$Frame;)V"⟩
theorem cd75 : xCd ym75 prog_3_method_11_code 4 none 1 := ⟨mw404, mw105, by decide, by decide, by decide +kernel⟩
def b75_0 (a0 : Nat) (o1 : Option Nat) (M : hM) : Option xRes :=
  some (.inr (2, [.inr (.inr (some a0)), .inr (.inr o1), .inl (0 : Int32)], M))
def b75_86 (a0 : Nat) (o1 : Option Nat) (v2 : Int32) (M : hM) : Option xRes :=
  some (.inr (2, [.inr (.inr (some a0)), .inr (.inr o1), .inl (v2 + (1 : Int32))], M))
def b75_2 (a0 : Nat) (o1 : Option Nat) (v2 : Int32) (M : hM) : Option xRes :=
  if (6 : Int32) ≤ v2 then
    (some (.inl (none, M)))
  else
    (Option.bind (g_r M 1 5 (some a0)) fun o_1 =>
    Option.bind (al_r M 37 o_1 v2) fun o_3 =>
    Option.bind (g_o M 7 o_3) fun b_7 =>
    Option.bind (c_I (f68 [.inr (.inr (some b_7)), .inr (.inr o1)] M)) fun q_5 =>
    if q_5.1 = 0 then
      (b75_86 a0 o1 v2 q_5.2)
    else
      (Option.bind (g_i q_5.2 7 3 o_3) fun v_9 =>
      Option.bind (g_o q_5.2 2 o1) fun b_13 =>
      Option.bind (c_I (f70 [.inr (.inr (some b_13))] q_5.2)) fun q_11 =>
      if v_9 = q_11.1 then
        (Option.bind (g_o q_11.2 2 o1) fun b_17 =>
        Option.bind (c_I (f71 [.inr (.inr (some b_17))] q_11.2)) fun q_15 =>
        Option.bind (g_i q_15.2 7 5 o_3) fun v_19 =>
        if v_19 ≤ q_15.1 then
          (b75_86 a0 o1 v2 q_15.2)
        else
          (Option.bind (g_o q_15.2 2 o1) fun b_23 =>
          Option.bind (c_I (f71 [.inr (.inr (some b_23))] q_15.2)) fun q_21 =>
          Option.bind (g_o q_21.2 2 o1) fun b_27 =>
          Option.bind (c_L (f56 [.inr (.inr (some b_27)), .inl (13 : Int32), .inl (8 : Int32)] q_21.2)) fun q_25 =>
          Option.bind (g_o q_25.2 7 o_3) fun b_31 =>
          Option.bind (c_V (f72 [.inr (.inr (some b_31)), .inl q_21.1, .inr (.inl q_25.1)] q_25.2)) fun q_29 =>
          Option.bind (g_o q_29 7 o_3) fun b_35 =>
          Option.bind (c_I (f73 [.inr (.inr (some b_35))] q_29)) fun q_33 =>
          if q_33.1 = 0 then
            (b75_86 a0 o1 v2 q_33.2)
          else
            (Option.bind (g_o q_33.2 1 (some a0)) fun b_39 =>
            Option.bind (c_V (f74 [.inr (.inr (some b_39)), .inr (.inr o_3)] q_33.2)) fun q_37 =>
            Option.bind (g_i q_37 7 3 o_3) fun v_41 =>
            Option.bind (g_o q_37 1 (some a0)) fun b_45 =>
            Option.bind (c_V (f67 [.inr (.inr (some b_45)), .inl (12 : Int32), .inr (.inr o1), .inl v_41, .inl (1 : Int32), .inr (.inl (0 : Int64))] q_37)) fun q_43 =>
            b75_86 a0 o1 v2 q_43)))
      else
        (b75_86 a0 o1 v2 q_11.2)))
def k75 (h : Nat) (as : List aV) (M : hM) : Option xRes :=
  if h = 2 then (match as with | [.inr (.inr (some a0)), .inr (.inr o1), .inl v2] => b75_2 a0 o1 v2 M | _ => none) else
  none
def f75 (as : List aV) (M : hM) : xO := match as with
  | [.inr (.inr (some a0)), .inr (.inr o1)] => x_go k75 (b75_0 a0 o1 M)
  | _ => none
theorem lb75_0 (G : gX) (l : Launch) (a0 : Nat) (o1 : Option Nat) (M : hM) {res : xRes} (h : b75_0 a0 o1 M = some res) : h_sz M ≤ r_sz res ∧ h_sl M ≤ r_sl res := by
  unfold b75_0 at h
  obtain rfl := Option.some.inj h
  show h_sz M ≤ h_sz M ∧ h_sl M ≤ h_sl M
  omega
theorem lb75_86 (G : gX) (l : Launch) (a0 : Nat) (o1 : Option Nat) (v2 : Int32) (M : hM) {res : xRes} (h : b75_86 a0 o1 v2 M = some res) : h_sz M ≤ r_sz res ∧ h_sl M ≤ r_sl res := by
  unfold b75_86 at h
  obtain rfl := Option.some.inj h
  show h_sz M ≤ h_sz M ∧ h_sl M ≤ h_sl M
  omega
theorem lb75_2 (G : gX) (l : Launch) (a0 : Nat) (o1 : Option Nat) (v2 : Int32) (M : hM) {res : xRes} (h : b75_2 a0 o1 v2 M = some res) : h_sz M ≤ r_sz res ∧ h_sl M ≤ r_sl res := by
  unfold b75_2 at h
  by_cases q51 : (6 : Int32) ≤ v2
  · rw [if_pos q51] at h
    obtain rfl := Option.some.inj h
    show h_sz M ≤ h_sz M ∧ h_sl M ≤ h_sl M
    omega
  · rw [if_neg q51] at h
    obtain ⟨o_1, h2, h⟩ := bd h
    obtain ⟨o_3, h4, h⟩ := bd h
    obtain ⟨b_7, h8, h⟩ := bd h
    obtain ⟨q_5, h6, h⟩ := bd h
    have eh6 := (t68 G l (c_I_some h6)).1
    by_cases q50 : q_5.1 = 0
    · rw [if_pos q50] at h
      have e := lb75_86 G l a0 o1 v2 q_5.2 h
      omega
    · rw [if_neg q50] at h
      obtain ⟨v_9, h10, h⟩ := bd h
      obtain ⟨b_13, h14, h⟩ := bd h
      obtain ⟨q_11, h12, h⟩ := bd h
      have eh12 := (t70 G l (c_I_some h12)).1
      by_cases q49 : v_9 = q_11.1
      · rw [if_pos q49] at h
        obtain ⟨b_17, h18, h⟩ := bd h
        obtain ⟨q_15, h16, h⟩ := bd h
        have eh16 := (t71 G l (c_I_some h16)).1
        obtain ⟨v_19, h20, h⟩ := bd h
        by_cases q48 : v_19 ≤ q_15.1
        · rw [if_pos q48] at h
          have e := lb75_86 G l a0 o1 v2 q_15.2 h
          omega
        · rw [if_neg q48] at h
          obtain ⟨b_23, h24, h⟩ := bd h
          obtain ⟨q_21, h22, h⟩ := bd h
          have eh22 := (t71 G l (c_I_some h22)).1
          obtain ⟨b_27, h28, h⟩ := bd h
          obtain ⟨q_25, h26, h⟩ := bd h
          have eh26 := (t56 G l (c_L_some h26)).1
          obtain ⟨b_31, h32, h⟩ := bd h
          obtain ⟨q_29, h30, h⟩ := bd h
          have eh30 := (t72 G l (c_V_some h30)).1
          obtain ⟨b_35, h36, h⟩ := bd h
          obtain ⟨q_33, h34, h⟩ := bd h
          have eh34 := (t73 G l (c_I_some h34)).1
          by_cases q47 : q_33.1 = 0
          · rw [if_pos q47] at h
            have e := lb75_86 G l a0 o1 v2 q_33.2 h
            omega
          · rw [if_neg q47] at h
            obtain ⟨b_39, h40, h⟩ := bd h
            obtain ⟨q_37, h38, h⟩ := bd h
            have eh38 := (t74 G l (c_V_some h38)).1
            obtain ⟨v_41, h42, h⟩ := bd h
            obtain ⟨b_45, h46, h⟩ := bd h
            obtain ⟨q_43, h44, h⟩ := bd h
            have eh44 := (t67 G l (c_V_some h44)).1
            have e := lb75_86 G l a0 o1 v2 q_43 h
            omega
      · rw [if_neg q49] at h
        have e := lb75_86 G l a0 o1 v2 q_11.2 h
        omega
section
variable {p : Program} {l : Launch} {e : Env} {s : State} {m : MethodId} {args : Array Value} {below : List Frame} {meth : Method} {c : Code} {G : gX} {z0 y0 : Nat} {r : Option aV} {M' : hM}
def pg75 (p : Program) (l : Launch) (e : Env) (s : State) (m : MethodId) (args : Array Value) (below : List Frame) (meth : Method) (c : Code) (G : gX) (z0 y0 : Nat) (r : Option aV) (M' : hM) (h : Nat) (as : List aV) (M : hM) : Prop :=
  if h = 2 then (match as with | [.inr (.inr (some a0)), .inr (.inr o1), .inl v2] => xV G p l e (xRm 4 (h_sz M' - z0) (h_sl M' - y0)) s m args below meth c z0 y0 (h_sz M') (h_sl M') 4 (MQ below (xQc G r M') args s (h_sz M' - z0) (h_sl M' - y0) (xFr G)) 2 [(0, .inr (.inr (some a0))), (1, .inr (.inr o1)), (2, .inl v2)] [] M | _ => False) else
  False
theorem sb75_0 (E : xE G p (xRm 4 (h_sz M' - z0) (h_sl M' - y0)) s m args c prog_3_method_11_code "ZonedFabric$Disc" z0 y0 (h_sz M') (h_sl M') 4) (B : xB ym75 none meth) (a0 : Nat) (o1 : Option Nat) (M : hM) {res : xRes} (h : b75_0 a0 o1 M = some res) (hN : xN (pg75 p l e s m args below meth c G z0 y0 r M') r M' res) : xV G p l e (xRm 4 (h_sz M' - z0) (h_sl M' - y0)) s m args below meth c z0 y0 (h_sz M') (h_sl M') 4 (MQ below (xQc G r M') args s (h_sz M' - z0) (h_sl M' - y0) (xFr G)) 0 [(0, .inr (.inr (some a0))), (1, .inr (.inr o1))] [] M := by
  unfold b75_0 at h
  refine xv_b E [.iconst 0, .istore_n 2] (pc' := 2) (lv' := [(2, .inl (0 : Int32)), (0, .inr (.inr (some a0))), (1, .inr (.inr o1))]) (st' := []) (by decide +kernel) rfl rfl ?_
  obtain rfl := Option.some.inj h
  exact xv_w hN rfl
theorem sb75_86 (E : xE G p (xRm 4 (h_sz M' - z0) (h_sl M' - y0)) s m args c prog_3_method_11_code "ZonedFabric$Disc" z0 y0 (h_sz M') (h_sl M') 4) (B : xB ym75 none meth) (a0 : Nat) (o1 : Option Nat) (v2 : Int32) (M : hM) {res : xRes} (h : b75_86 a0 o1 v2 M = some res) (hN : xN (pg75 p l e s m args below meth c G z0 y0 r M') r M' res) : xV G p l e (xRm 4 (h_sz M' - z0) (h_sl M' - y0)) s m args below meth c z0 y0 (h_sz M') (h_sl M') 4 (MQ below (xQc G r M') args s (h_sz M' - z0) (h_sl M' - y0) (xFr G)) 86 [(0, .inr (.inr (some a0))), (1, .inr (.inr o1)), (2, .inl v2)] [] M := by
  unfold b75_86 at h
  refine xv_b E [.iinc 2 1] (pc' := 89) (lv' := [(2, .inl (v2 + (1 : Int32))), (0, .inr (.inr (some a0))), (1, .inr (.inr o1))]) (st' := []) (by decide +kernel) rfl rfl ?_
  refine xv_goto E 2 (show decode prog_3_method_11_code 89 = .ok (.goto (-87), 3) by decide +kernel) rfl ?_
  obtain rfl := Option.some.inj h
  exact xv_w hN rfl
theorem sb75_2 (E : xE G p (xRm 4 (h_sz M' - z0) (h_sl M' - y0)) s m args c prog_3_method_11_code "ZonedFabric$Disc" z0 y0 (h_sz M') (h_sl M') 4) (B : xB ym75 none meth) (a0 : Nat) (o1 : Option Nat) (v2 : Int32) (M : hM) {res : xRes} (h : b75_2 a0 o1 v2 M = some res) (hN : xN (pg75 p l e s m args below meth c G z0 y0 r M') r M' res) : xV G p l e (xRm 4 (h_sz M' - z0) (h_sl M' - y0)) s m args below meth c z0 y0 (h_sz M') (h_sl M') 4 (MQ below (xQc G r M') args s (h_sz M' - z0) (h_sl M' - y0) (xFr G)) 2 [(0, .inr (.inr (some a0))), (1, .inr (.inr o1)), (2, .inl v2)] [] M := by
  unfold b75_2 at h
  refine xv_b E [.iload_n 2, .bipush 6] (pc' := 5) (lv' := [(0, .inr (.inr (some a0))), (1, .inr (.inr o1)), (2, .inl v2)]) (st' := [.inl (6 : Int32), .inl v2]) (by decide +kernel) rfl rfl ?_
  by_cases q51 : (6 : Int32) ≤ v2
  · rw [if_pos q51] at h
    refine xv_icmp_ge E 92 (show decode prog_3_method_11_code 5 = .ok (.if_icmp .ge (87), 3) by decide +kernel) rfl (fun _ => ?_) (fun z => absurd q51 z)
    obtain rfl := Option.some.inj h
    obtain ⟨rfl, rfl⟩ := Prod.mk.inj (show ((none : Option aV), M) = (r, M') from hN)
    exact xv_rv E B.1 B.2.1 (show decode prog_3_method_11_code 92 = .ok (.return_, 1) by decide +kernel) rfl rfl
  · rw [if_neg q51] at h
    refine xv_icmp_ge E 92 (show decode prog_3_method_11_code 5 = .ok (.if_icmp .ge (87), 3) by decide +kernel) rfl (fun z => absurd z q51) (fun _ => ?_)
    refine xv_b E [.aload_n 0] (pc' := 9) (lv' := [(0, .inr (.inr (some a0))), (1, .inr (.inr o1)), (2, .inl v2)]) (st' := [.inr (.inr (some a0))]) (by decide +kernel) rfl rfl ?_
    obtain ⟨o_1, h2, h⟩ := bd h
    refine xg_r E 1 5 h2 mw109 (show decode prog_3_method_11_code 9 = .ok (.getfield 21, 3) by decide +kernel) ?_
    refine xv_b E [.iload_n 2] (pc' := 13) (lv' := [(0, .inr (.inr (some a0))), (1, .inr (.inr o1)), (2, .inl v2)]) (st' := [.inl v2, .inr (.inr o_1)]) (by decide +kernel) rfl rfl ?_
    obtain ⟨o_3, h4, h⟩ := bd h
    refine xa_r E 37 h4 (show decode prog_3_method_11_code 13 = .ok (.aaload, 1) by decide +kernel) ?_
    refine xv_b E [.astore_n 3, .aload_n 3, .aload_n 1] (pc' := 17) (lv' := [(3, .inr (.inr o_3)), (0, .inr (.inr (some a0))), (1, .inr (.inr o1)), (2, .inl v2)]) (st' := [.inr (.inr o1), .inr (.inr o_3)]) (by decide +kernel) rfl rfl ?_
    obtain ⟨b_7, h8, h⟩ := bd h
    obtain ⟨eh8, th8⟩ := g_o_some h8
    obtain ⟨q_5, h6, h⟩ := bd h
    refine xv_cvo E eh8 7 (as := [.inr (.inr o1)]) (t68 G l (c_I_some h6)) cd68 mw391 mw392 mw393 (show decode prog_3_method_11_code 17 = .ok (.invokevirtual 135, 3) by decide +kernel) th8 rfl rfl (Nat.le_of_ble_eq_true rfl) ⟨Nat.le_of_ble_eq_true rfl, Nat.le_of_ble_eq_true rfl⟩ ?_
    by_cases q50 : q_5.1 = 0
    · rw [if_pos q50] at h
      refine xv_if_eq E 86 (show decode prog_3_method_11_code 20 = .ok (.ifCond .eq (66), 3) by decide +kernel) rfl (fun _ => ?_) (fun z => absurd q50 z)
      exact xv_w (sb75_86 E B a0 o1 v2 q_5.2 h hN) rfl
    · rw [if_neg q50] at h
      refine xv_if_eq E 86 (show decode prog_3_method_11_code 20 = .ok (.ifCond .eq (66), 3) by decide +kernel) rfl (fun z => absurd z q50) (fun _ => ?_)
      refine xv_b E [.aload_n 3] (pc' := 24) (lv' := [(3, .inr (.inr o_3)), (0, .inr (.inr (some a0))), (1, .inr (.inr o1)), (2, .inl v2)]) (st' := [.inr (.inr o_3)]) (by decide +kernel) rfl rfl ?_
      obtain ⟨v_9, h10, h⟩ := bd h
      refine xg_i E 7 3 h10 mw405 (show decode prog_3_method_11_code 24 = .ok (.getfield 139, 3) by decide +kernel) ?_
      refine xv_b E [.aload_n 1] (pc' := 28) (lv' := [(3, .inr (.inr o_3)), (0, .inr (.inr (some a0))), (1, .inr (.inr o1)), (2, .inl v2)]) (st' := [.inr (.inr o1), .inl v_9]) (by decide +kernel) rfl rfl ?_
      obtain ⟨b_13, h14, h⟩ := bd h
      obtain ⟨eh14, th14⟩ := g_o_some h14
      obtain ⟨q_11, h12, h⟩ := bd h
      refine xv_cvo E eh14 2 (as := []) (t70 G l (c_I_some h12)) cd70 mw406 mw407 mw408 (show decode prog_3_method_11_code 28 = .ok (.invokevirtual 142, 3) by decide +kernel) th14 rfl rfl (Nat.le_of_ble_eq_true rfl) ⟨Nat.le_of_ble_eq_true rfl, Nat.le_of_ble_eq_true rfl⟩ ?_
      by_cases q49 : v_9 = q_11.1
      · rw [if_pos q49] at h
        refine xv_icmp_ne E 86 (show decode prog_3_method_11_code 31 = .ok (.if_icmp .ne (55), 3) by decide +kernel) rfl (fun z => absurd q49 z) (fun _ => ?_)
        refine xv_b E [.aload_n 1] (pc' := 35) (lv' := [(3, .inr (.inr o_3)), (0, .inr (.inr (some a0))), (1, .inr (.inr o1)), (2, .inl v2)]) (st' := [.inr (.inr o1)]) (by decide +kernel) rfl rfl ?_
        obtain ⟨b_17, h18, h⟩ := bd h
        obtain ⟨eh18, th18⟩ := g_o_some h18
        obtain ⟨q_15, h16, h⟩ := bd h
        refine xv_cvo E eh18 2 (as := []) (t71 G l (c_I_some h16)) cd71 mw409 mw410 mw411 (show decode prog_3_method_11_code 35 = .ok (.invokevirtual 144, 3) by decide +kernel) th18 rfl rfl (Nat.le_of_ble_eq_true rfl) ⟨Nat.le_of_ble_eq_true rfl, Nat.le_of_ble_eq_true rfl⟩ ?_
        refine xv_b E [.aload_n 3] (pc' := 39) (lv' := [(3, .inr (.inr o_3)), (0, .inr (.inr (some a0))), (1, .inr (.inr o1)), (2, .inl v2)]) (st' := [.inr (.inr o_3), .inl q_15.1]) (by decide +kernel) rfl rfl ?_
        obtain ⟨v_19, h20, h⟩ := bd h
        refine xg_i E 7 5 h20 mw401 (show decode prog_3_method_11_code 39 = .ok (.getfield 147, 3) by decide +kernel) ?_
        by_cases q48 : v_19 ≤ q_15.1
        · rw [if_pos q48] at h
          refine xv_icmp_ge E 86 (show decode prog_3_method_11_code 42 = .ok (.if_icmp .ge (44), 3) by decide +kernel) rfl (fun _ => ?_) (fun z => absurd q48 z)
          exact xv_w (sb75_86 E B a0 o1 v2 q_15.2 h hN) rfl
        · rw [if_neg q48] at h
          refine xv_icmp_ge E 86 (show decode prog_3_method_11_code 42 = .ok (.if_icmp .ge (44), 3) by decide +kernel) rfl (fun z => absurd z q48) (fun _ => ?_)
          refine xv_b E [.aload_n 3, .aload_n 1] (pc' := 47) (lv' := [(3, .inr (.inr o_3)), (0, .inr (.inr (some a0))), (1, .inr (.inr o1)), (2, .inl v2)]) (st' := [.inr (.inr o1), .inr (.inr o_3)]) (by decide +kernel) rfl rfl ?_
          obtain ⟨b_23, h24, h⟩ := bd h
          obtain ⟨eh24, th24⟩ := g_o_some h24
          obtain ⟨q_21, h22, h⟩ := bd h
          refine xv_cvo E eh24 2 (as := []) (t71 G l (c_I_some h22)) cd71 mw409 mw410 mw411 (show decode prog_3_method_11_code 47 = .ok (.invokevirtual 144, 3) by decide +kernel) th24 rfl rfl (Nat.le_of_ble_eq_true rfl) ⟨Nat.le_of_ble_eq_true rfl, Nat.le_of_ble_eq_true rfl⟩ ?_
          refine xv_b E [.aload_n 1, .bipush 13, .bipush 8] (pc' := 55) (lv' := [(3, .inr (.inr o_3)), (0, .inr (.inr (some a0))), (1, .inr (.inr o1)), (2, .inl v2)]) (st' := [.inl (8 : Int32), .inl (13 : Int32), .inr (.inr o1), .inl q_21.1, .inr (.inr o_3)]) (by decide +kernel) rfl rfl ?_
          obtain ⟨b_27, h28, h⟩ := bd h
          obtain ⟨eh28, th28⟩ := g_o_some h28
          obtain ⟨q_25, h26, h⟩ := bd h
          refine xv_cvo E eh28 2 (as := [.inl (13 : Int32), .inl (8 : Int32)]) (t56 G l (c_L_some h26)) cd56 mw412 mw347 mw348 (show decode prog_3_method_11_code 55 = .ok (.invokevirtual 150, 3) by decide +kernel) th28 rfl rfl (Nat.le_of_ble_eq_true rfl) ⟨Nat.le_of_ble_eq_true rfl, Nat.le_of_ble_eq_true rfl⟩ ?_
          obtain ⟨b_31, h32, h⟩ := bd h
          obtain ⟨eh32, th32⟩ := g_o_some h32
          obtain ⟨q_29, h30, h⟩ := bd h
          refine xv_cvo E eh32 7 (as := [.inl q_21.1, .inr (.inl q_25.1)]) (t72 G l (c_V_some h30)) cd72 mw413 mw414 mw415 (show decode prog_3_method_11_code 58 = .ok (.invokevirtual 154, 3) by decide +kernel) th32 rfl rfl (Nat.le_of_ble_eq_true rfl) ⟨Nat.le_of_ble_eq_true rfl, Nat.le_of_ble_eq_true rfl⟩ ?_
          refine xv_b E [.aload_n 3] (pc' := 62) (lv' := [(3, .inr (.inr o_3)), (0, .inr (.inr (some a0))), (1, .inr (.inr o1)), (2, .inl v2)]) (st' := [.inr (.inr o_3)]) (by decide +kernel) rfl rfl ?_
          obtain ⟨b_35, h36, h⟩ := bd h
          obtain ⟨eh36, th36⟩ := g_o_some h36
          obtain ⟨q_33, h34, h⟩ := bd h
          refine xv_cvo E eh36 7 (as := []) (t73 G l (c_I_some h34)) cd73 mw416 mw417 mw418 (show decode prog_3_method_11_code 62 = .ok (.invokevirtual 157, 3) by decide +kernel) th36 rfl rfl (Nat.le_of_ble_eq_true rfl) ⟨Nat.le_of_ble_eq_true rfl, Nat.le_of_ble_eq_true rfl⟩ ?_
          by_cases q47 : q_33.1 = 0
          · rw [if_pos q47] at h
            refine xv_if_eq E 86 (show decode prog_3_method_11_code 65 = .ok (.ifCond .eq (21), 3) by decide +kernel) rfl (fun _ => ?_) (fun z => absurd q47 z)
            exact xv_w (sb75_86 E B a0 o1 v2 q_33.2 h hN) rfl
          · rw [if_neg q47] at h
            refine xv_if_eq E 86 (show decode prog_3_method_11_code 65 = .ok (.ifCond .eq (21), 3) by decide +kernel) rfl (fun z => absurd z q47) (fun _ => ?_)
            refine xv_b E [.aload_n 0, .aload_n 3] (pc' := 70) (lv' := [(3, .inr (.inr o_3)), (0, .inr (.inr (some a0))), (1, .inr (.inr o1)), (2, .inl v2)]) (st' := [.inr (.inr o_3), .inr (.inr (some a0))]) (by decide +kernel) rfl rfl ?_
            obtain ⟨b_39, h40, h⟩ := bd h
            obtain ⟨eh40, th40⟩ := g_o_some h40
            obtain ⟨q_37, h38, h⟩ := bd h
            refine xv_cvo E eh40 1 (as := [.inr (.inr o_3)]) (t74 G l (c_V_some h38)) cd74 mw419 mw420 mw421 (show decode prog_3_method_11_code 70 = .ok (.invokevirtual 161, 3) by decide +kernel) th40 rfl rfl (Nat.le_of_ble_eq_true rfl) ⟨Nat.le_of_ble_eq_true rfl, Nat.le_of_ble_eq_true rfl⟩ ?_
            refine xv_b E [.aload_n 0, .bipush 12, .aload_n 1, .aload_n 3] (pc' := 78) (lv' := [(3, .inr (.inr o_3)), (0, .inr (.inr (some a0))), (1, .inr (.inr o1)), (2, .inl v2)]) (st' := [.inr (.inr o_3), .inr (.inr o1), .inl (12 : Int32), .inr (.inr (some a0))]) (by decide +kernel) rfl rfl ?_
            obtain ⟨v_41, h42, h⟩ := bd h
            refine xg_i E 7 3 h42 mw405 (show decode prog_3_method_11_code 78 = .ok (.getfield 139, 3) by decide +kernel) ?_
            refine xv_b E [.iconst 1, .lconst 0] (pc' := 83) (lv' := [(3, .inr (.inr o_3)), (0, .inr (.inr (some a0))), (1, .inr (.inr o1)), (2, .inl v2)]) (st' := [.inr (.inl (0 : Int64)), .inl (1 : Int32), .inl v_41, .inr (.inr o1), .inl (12 : Int32), .inr (.inr (some a0))]) (by decide +kernel) rfl rfl ?_
            obtain ⟨b_45, h46, h⟩ := bd h
            obtain ⟨eh46, th46⟩ := g_o_some h46
            obtain ⟨q_43, h44, h⟩ := bd h
            refine xv_cvo E eh46 1 (as := [.inl (12 : Int32), .inr (.inr o1), .inl v_41, .inl (1 : Int32), .inr (.inl (0 : Int64))]) (t67 G l (c_V_some h44)) cd67 mw388 mw389 mw390 (show decode prog_3_method_11_code 83 = .ok (.invokevirtual 63, 3) by decide +kernel) th46 rfl rfl (Nat.le_of_ble_eq_true rfl) ⟨Nat.le_of_ble_eq_true rfl, Nat.le_of_ble_eq_true rfl⟩ ?_
            exact xv_w (sb75_86 E B a0 o1 v2 q_43 h hN) rfl
      · rw [if_neg q49] at h
        refine xv_icmp_ne E 86 (show decode prog_3_method_11_code 31 = .ok (.if_icmp .ne (55), 3) by decide +kernel) rfl (fun _ => ?_) (fun z => absurd z q49)
        exact xv_w (sb75_86 E B a0 o1 v2 q_11.2 h hN) rfl
end
theorem t75 (G : gX) (l : Launch) {as : List aV} {M : hM} {r : Option aV} {M' : hM} (h : f75 as M = some (r, M')) : xM G l ym75 prog_3_method_11_code 4 none 4 as M r M' := by
  unfold f75 at h
  split at h
  · have hle : ∀ h as M res, k75 h as M = some res → h_sz M ≤ r_sz res ∧ h_sl M ≤ r_sl res := by
      intro h as M res hb
      unfold k75 at hb
      by_cases e0 : h = 2
      · rw [if_pos e0] at hb
        split at hb
        · exact lb75_2 G l _ _ _ M hb
        · cases hb
      · rw [if_neg e0] at hb
        cases hb
    obtain ⟨res, hx, hres⟩ := x_go_ok h
    refine xM_of (by decide) (Nat.le_of_ble_eq_true rfl) ?_ ?_
    · have e1 := lb75_0 G l _ _ M hx
      have e2 := x_go_le hle hres
      omega
    · intro p e s m args below meth c E B
      refine sb75_0 E B _ _ M hx (hres _ ?_)
      intro h as M res hb hN
      unfold k75 at hb
      unfold pg75
      by_cases e0 : h = 2
      · rw [if_pos e0] at hb ⊢
        split at hb
        · exact sb75_2 E B _ _ _ M hb hN
        · cases hb
      · rw [if_neg e0] at hb ⊢
        cases hb
  · cases h
/-! ZF.Disc.freeWrite()LZF$OpenWrite; -/
def ym76 : MethodName := ⟨"ZonedFabric$Disc", "freeWrite", "()LZonedFabric$OpenWrite;"⟩
theorem cd76 : xCd ym76 prog_3_method_8_code 2 (some (FieldType.object "ZonedFabric$OpenWrite")) 0 := ⟨mw422, mw105, by decide, by decide, by decide +kernel⟩
def b76_0 (a0 : Nat) (M : hM) : Option xRes :=
  some (.inr (2, [.inr (.inr (some a0)), .inl (0 : Int32)], M))
def b76_2 (a0 : Nat) (v1 : Int32) (M : hM) : Option xRes :=
  if (6 : Int32) ≤ v1 then
    (some (.inl (some (.inr (.inr none)), M)))
  else
    (Option.bind (g_r M 1 5 (some a0)) fun o_1 =>
    Option.bind (al_r M 37 o_1 v1) fun o_3 =>
    Option.bind (g_i M 7 0 o_3) fun v_5 =>
    if v_5 = 0 then
      (Option.bind (g_r M 1 5 (some a0)) fun o_7 =>
      Option.bind (al_r M 37 o_7 v1) fun o_9 =>
      some (.inl (some (.inr (.inr o_9)), M)))
    else
      (some (.inr (2, [.inr (.inr (some a0)), .inl (v1 + (1 : Int32))], M))))
def k76 (h : Nat) (as : List aV) (M : hM) : Option xRes :=
  if h = 2 then (match as with | [.inr (.inr (some a0)), .inl v1] => b76_2 a0 v1 M | _ => none) else
  none
def f76 (as : List aV) (M : hM) : xO := match as with
  | [.inr (.inr (some a0))] => x_go k76 (b76_0 a0 M)
  | _ => none
theorem lb76_0 (G : gX) (l : Launch) (a0 : Nat) (M : hM) {res : xRes} (h : b76_0 a0 M = some res) : h_sz M ≤ r_sz res ∧ h_sl M ≤ r_sl res := by
  unfold b76_0 at h
  obtain rfl := Option.some.inj h
  show h_sz M ≤ h_sz M ∧ h_sl M ≤ h_sl M
  omega
theorem lb76_2 (G : gX) (l : Launch) (a0 : Nat) (v1 : Int32) (M : hM) {res : xRes} (h : b76_2 a0 v1 M = some res) : h_sz M ≤ r_sz res ∧ h_sl M ≤ r_sl res := by
  unfold b76_2 at h
  by_cases q12 : (6 : Int32) ≤ v1
  · rw [if_pos q12] at h
    obtain rfl := Option.some.inj h
    show h_sz M ≤ h_sz M ∧ h_sl M ≤ h_sl M
    omega
  · rw [if_neg q12] at h
    obtain ⟨o_1, h2, h⟩ := bd h
    obtain ⟨o_3, h4, h⟩ := bd h
    obtain ⟨v_5, h6, h⟩ := bd h
    by_cases q11 : v_5 = 0
    · rw [if_pos q11] at h
      obtain ⟨o_7, h8, h⟩ := bd h
      obtain ⟨o_9, h10, h⟩ := bd h
      obtain rfl := Option.some.inj h
      show h_sz M ≤ h_sz M ∧ h_sl M ≤ h_sl M
      omega
    · rw [if_neg q11] at h
      obtain rfl := Option.some.inj h
      show h_sz M ≤ h_sz M ∧ h_sl M ≤ h_sl M
      omega
section
variable {p : Program} {l : Launch} {e : Env} {s : State} {m : MethodId} {args : Array Value} {below : List Frame} {meth : Method} {c : Code} {G : gX} {z0 y0 : Nat} {r : Option aV} {M' : hM}
def pg76 (p : Program) (l : Launch) (e : Env) (s : State) (m : MethodId) (args : Array Value) (below : List Frame) (meth : Method) (c : Code) (G : gX) (z0 y0 : Nat) (r : Option aV) (M' : hM) (h : Nat) (as : List aV) (M : hM) : Prop :=
  if h = 2 then (match as with | [.inr (.inr (some a0)), .inl v1] => xV G p l e (xRm 0 (h_sz M' - z0) (h_sl M' - y0)) s m args below meth c z0 y0 (h_sz M') (h_sl M') 2 (MQ below (xQc G r M') args s (h_sz M' - z0) (h_sl M' - y0) (xFr G)) 2 [(0, .inr (.inr (some a0))), (1, .inl v1)] [] M | _ => False) else
  False
theorem sb76_0 (E : xE G p (xRm 0 (h_sz M' - z0) (h_sl M' - y0)) s m args c prog_3_method_8_code "ZonedFabric$Disc" z0 y0 (h_sz M') (h_sl M') 2) (B : xB ym76 (some (FieldType.object "ZonedFabric$OpenWrite")) meth) (a0 : Nat) (M : hM) {res : xRes} (h : b76_0 a0 M = some res) (hN : xN (pg76 p l e s m args below meth c G z0 y0 r M') r M' res) : xV G p l e (xRm 0 (h_sz M' - z0) (h_sl M' - y0)) s m args below meth c z0 y0 (h_sz M') (h_sl M') 2 (MQ below (xQc G r M') args s (h_sz M' - z0) (h_sl M' - y0) (xFr G)) 0 [(0, .inr (.inr (some a0)))] [] M := by
  unfold b76_0 at h
  refine xv_b E [.iconst 0, .istore_n 1] (pc' := 2) (lv' := [(1, .inl (0 : Int32)), (0, .inr (.inr (some a0)))]) (st' := []) (by decide +kernel) rfl rfl ?_
  obtain rfl := Option.some.inj h
  exact xv_w hN rfl
theorem sb76_2 (E : xE G p (xRm 0 (h_sz M' - z0) (h_sl M' - y0)) s m args c prog_3_method_8_code "ZonedFabric$Disc" z0 y0 (h_sz M') (h_sl M') 2) (B : xB ym76 (some (FieldType.object "ZonedFabric$OpenWrite")) meth) (a0 : Nat) (v1 : Int32) (M : hM) {res : xRes} (h : b76_2 a0 v1 M = some res) (hN : xN (pg76 p l e s m args below meth c G z0 y0 r M') r M' res) : xV G p l e (xRm 0 (h_sz M' - z0) (h_sl M' - y0)) s m args below meth c z0 y0 (h_sz M') (h_sl M') 2 (MQ below (xQc G r M') args s (h_sz M' - z0) (h_sl M' - y0) (xFr G)) 2 [(0, .inr (.inr (some a0))), (1, .inl v1)] [] M := by
  unfold b76_2 at h
  refine xv_b E [.iload_n 1, .bipush 6] (pc' := 5) (lv' := [(0, .inr (.inr (some a0))), (1, .inl v1)]) (st' := [.inl (6 : Int32), .inl v1]) (by decide +kernel) rfl rfl ?_
  by_cases q12 : (6 : Int32) ≤ v1
  · rw [if_pos q12] at h
    refine xv_icmp_ge E 33 (show decode prog_3_method_8_code 5 = .ok (.if_icmp .ge (28), 3) by decide +kernel) rfl (fun _ => ?_) (fun z => absurd q12 z)
    refine xv_b E [.aconst_null] (pc' := 34) (lv' := [(0, .inr (.inr (some a0))), (1, .inl v1)]) (st' := [.inr (.inr none)]) (by decide +kernel) rfl rfl ?_
    obtain rfl := Option.some.inj h
    obtain ⟨rfl, rfl⟩ := Prod.mk.inj (show ((some (.inr (.inr none)) : Option aV), M) = (r, M') from hN)
    exact xv_rr E B.1 (Or.inl ⟨_, rfl⟩) B.2.1 (show decode prog_3_method_8_code 34 = .ok (.areturn, 1) by decide +kernel) rfl rfl
  · rw [if_neg q12] at h
    refine xv_icmp_ge E 33 (show decode prog_3_method_8_code 5 = .ok (.if_icmp .ge (28), 3) by decide +kernel) rfl (fun z => absurd z q12) (fun _ => ?_)
    refine xv_b E [.aload_n 0] (pc' := 9) (lv' := [(0, .inr (.inr (some a0))), (1, .inl v1)]) (st' := [.inr (.inr (some a0))]) (by decide +kernel) rfl rfl ?_
    obtain ⟨o_1, h2, h⟩ := bd h
    refine xg_r E 1 5 h2 mw109 (show decode prog_3_method_8_code 9 = .ok (.getfield 21, 3) by decide +kernel) ?_
    refine xv_b E [.iload_n 1] (pc' := 13) (lv' := [(0, .inr (.inr (some a0))), (1, .inl v1)]) (st' := [.inl v1, .inr (.inr o_1)]) (by decide +kernel) rfl rfl ?_
    obtain ⟨o_3, h4, h⟩ := bd h
    refine xa_r E 37 h4 (show decode prog_3_method_8_code 13 = .ok (.aaload, 1) by decide +kernel) ?_
    obtain ⟨v_5, h6, h⟩ := bd h
    refine xg_i E 7 0 h6 mw169 (show decode prog_3_method_8_code 14 = .ok (.getfield 38, 3) by decide +kernel) ?_
    by_cases q11 : v_5 = 0
    · rw [if_pos q11] at h
      refine xv_if_ne E 27 (show decode prog_3_method_8_code 17 = .ok (.ifCond .ne (10), 3) by decide +kernel) rfl (fun z => absurd q11 z) (fun _ => ?_)
      refine xv_b E [.aload_n 0] (pc' := 21) (lv' := [(0, .inr (.inr (some a0))), (1, .inl v1)]) (st' := [.inr (.inr (some a0))]) (by decide +kernel) rfl rfl ?_
      obtain ⟨o_7, h8, h⟩ := bd h
      refine xg_r E 1 5 h8 mw109 (show decode prog_3_method_8_code 21 = .ok (.getfield 21, 3) by decide +kernel) ?_
      refine xv_b E [.iload_n 1] (pc' := 25) (lv' := [(0, .inr (.inr (some a0))), (1, .inl v1)]) (st' := [.inl v1, .inr (.inr o_7)]) (by decide +kernel) rfl rfl ?_
      obtain ⟨o_9, h10, h⟩ := bd h
      refine xa_r E 37 h10 (show decode prog_3_method_8_code 25 = .ok (.aaload, 1) by decide +kernel) ?_
      obtain rfl := Option.some.inj h
      obtain ⟨rfl, rfl⟩ := Prod.mk.inj (show ((some (.inr (.inr o_9)) : Option aV), M) = (r, M') from hN)
      exact xv_rr E B.1 (Or.inl ⟨_, rfl⟩) B.2.1 (show decode prog_3_method_8_code 26 = .ok (.areturn, 1) by decide +kernel) rfl rfl
    · rw [if_neg q11] at h
      refine xv_if_ne E 27 (show decode prog_3_method_8_code 17 = .ok (.ifCond .ne (10), 3) by decide +kernel) rfl (fun _ => ?_) (fun z => absurd z q11)
      refine xv_b E [.iinc 1 1] (pc' := 30) (lv' := [(1, .inl (v1 + (1 : Int32))), (0, .inr (.inr (some a0)))]) (st' := []) (by decide +kernel) rfl rfl ?_
      refine xv_goto E 2 (show decode prog_3_method_8_code 30 = .ok (.goto (-28), 3) by decide +kernel) rfl ?_
      obtain rfl := Option.some.inj h
      exact xv_w hN rfl
end
theorem t76 (G : gX) (l : Launch) {as : List aV} {M : hM} {r : Option aV} {M' : hM} (h : f76 as M = some (r, M')) : xM G l ym76 prog_3_method_8_code 2 (some (FieldType.object "ZonedFabric$OpenWrite")) 0 as M r M' := by
  unfold f76 at h
  split at h
  · have hle : ∀ h as M res, k76 h as M = some res → h_sz M ≤ r_sz res ∧ h_sl M ≤ r_sl res := by
      intro h as M res hb
      unfold k76 at hb
      by_cases e0 : h = 2
      · rw [if_pos e0] at hb
        split at hb
        · exact lb76_2 G l _ _ M hb
        · cases hb
      · rw [if_neg e0] at hb
        cases hb
    obtain ⟨res, hx, hres⟩ := x_go_ok h
    refine xM_of (by decide) (Nat.le_of_ble_eq_true rfl) ?_ ?_
    · have e1 := lb76_0 G l _ M hx
      have e2 := x_go_le hle hres
      omega
    · intro p e s m args below meth c E B
      refine sb76_0 E B _ M hx (hres _ ?_)
      intro h as M res hb hN
      unfold k76 at hb
      unfold pg76
      by_cases e0 : h = 2
      · rw [if_pos e0] at hb ⊢
        split at hb
        · exact sb76_2 E B _ _ M hb hN
        · cases hb
      · rw [if_neg e0] at hb ⊢
        cases hb
  · cases h
/-! ZF.Disc.isLoggedIn(I)Z -/
def ym77 : MethodName := ⟨"ZonedFabric$Disc", "isLoggedIn", "(I)Z"⟩
theorem cd77 : xCd ym77 prog_3_method_6_code 3 (some FieldType.boolean) 1 := ⟨mw423, mw105, by decide, by decide, by decide +kernel⟩
def b77_0 (a0 : Nat) (v1 : Int32) (M : hM) : Option xRes :=
  some (.inr (2, [.inr (.inr (some a0)), .inl v1, .inl (0 : Int32)], M))
def b77_2 (a0 : Nat) (v1 : Int32) (v2 : Int32) (M : hM) : Option xRes :=
  Option.bind (g_i M 1 4 (some a0)) fun v_1 =>
  if v_1 ≤ v2 then
    (some (.inl (some (.inl (0 : Int32)), M)))
  else
    (Option.bind (g_r M 1 3 (some a0)) fun o_3 =>
    Option.bind (al_i M 20 o_3 v2) fun v_5 =>
    if v_5 = v1 then
      (some (.inl (some (.inl (1 : Int32)), M)))
    else
      (some (.inr (2, [.inr (.inr (some a0)), .inl v1, .inl (v2 + (1 : Int32))], M))))
def k77 (h : Nat) (as : List aV) (M : hM) : Option xRes :=
  if h = 2 then (match as with | [.inr (.inr (some a0)), .inl v1, .inl v2] => b77_2 a0 v1 v2 M | _ => none) else
  none
def f77 (as : List aV) (M : hM) : xO := match as with
  | [.inr (.inr (some a0)), .inl v1] => x_go k77 (b77_0 a0 v1 M)
  | _ => none
theorem lb77_0 (G : gX) (l : Launch) (a0 : Nat) (v1 : Int32) (M : hM) {res : xRes} (h : b77_0 a0 v1 M = some res) : h_sz M ≤ r_sz res ∧ h_sl M ≤ r_sl res := by
  unfold b77_0 at h
  obtain rfl := Option.some.inj h
  show h_sz M ≤ h_sz M ∧ h_sl M ≤ h_sl M
  omega
theorem lb77_2 (G : gX) (l : Launch) (a0 : Nat) (v1 : Int32) (v2 : Int32) (M : hM) {res : xRes} (h : b77_2 a0 v1 v2 M = some res) : h_sz M ≤ r_sz res ∧ h_sl M ≤ r_sl res := by
  unfold b77_2 at h
  obtain ⟨v_1, h2, h⟩ := bd h
  by_cases q8 : v_1 ≤ v2
  · rw [if_pos q8] at h
    obtain rfl := Option.some.inj h
    show h_sz M ≤ h_sz M ∧ h_sl M ≤ h_sl M
    omega
  · rw [if_neg q8] at h
    obtain ⟨o_3, h4, h⟩ := bd h
    obtain ⟨v_5, h6, h⟩ := bd h
    by_cases q7 : v_5 = v1
    · rw [if_pos q7] at h
      obtain rfl := Option.some.inj h
      show h_sz M ≤ h_sz M ∧ h_sl M ≤ h_sl M
      omega
    · rw [if_neg q7] at h
      obtain rfl := Option.some.inj h
      show h_sz M ≤ h_sz M ∧ h_sl M ≤ h_sl M
      omega
section
variable {p : Program} {l : Launch} {e : Env} {s : State} {m : MethodId} {args : Array Value} {below : List Frame} {meth : Method} {c : Code} {G : gX} {z0 y0 : Nat} {r : Option aV} {M' : hM}
def pg77 (p : Program) (l : Launch) (e : Env) (s : State) (m : MethodId) (args : Array Value) (below : List Frame) (meth : Method) (c : Code) (G : gX) (z0 y0 : Nat) (r : Option aV) (M' : hM) (h : Nat) (as : List aV) (M : hM) : Prop :=
  if h = 2 then (match as with | [.inr (.inr (some a0)), .inl v1, .inl v2] => xV G p l e (xRm 0 (h_sz M' - z0) (h_sl M' - y0)) s m args below meth c z0 y0 (h_sz M') (h_sl M') 3 (MQ below (xQc G r M') args s (h_sz M' - z0) (h_sl M' - y0) (xFr G)) 2 [(0, .inr (.inr (some a0))), (1, .inl v1), (2, .inl v2)] [] M | _ => False) else
  False
theorem sb77_0 (E : xE G p (xRm 0 (h_sz M' - z0) (h_sl M' - y0)) s m args c prog_3_method_6_code "ZonedFabric$Disc" z0 y0 (h_sz M') (h_sl M') 3) (B : xB ym77 (some FieldType.boolean) meth) (a0 : Nat) (v1 : Int32) (M : hM) {res : xRes} (h : b77_0 a0 v1 M = some res) (hN : xN (pg77 p l e s m args below meth c G z0 y0 r M') r M' res) : xV G p l e (xRm 0 (h_sz M' - z0) (h_sl M' - y0)) s m args below meth c z0 y0 (h_sz M') (h_sl M') 3 (MQ below (xQc G r M') args s (h_sz M' - z0) (h_sl M' - y0) (xFr G)) 0 [(0, .inr (.inr (some a0))), (1, .inl v1)] [] M := by
  unfold b77_0 at h
  refine xv_b E [.iconst 0, .istore_n 2] (pc' := 2) (lv' := [(2, .inl (0 : Int32)), (0, .inr (.inr (some a0))), (1, .inl v1)]) (st' := []) (by decide +kernel) rfl rfl ?_
  obtain rfl := Option.some.inj h
  exact xv_w hN rfl
theorem sb77_2 (E : xE G p (xRm 0 (h_sz M' - z0) (h_sl M' - y0)) s m args c prog_3_method_6_code "ZonedFabric$Disc" z0 y0 (h_sz M') (h_sl M') 3) (B : xB ym77 (some FieldType.boolean) meth) (a0 : Nat) (v1 : Int32) (v2 : Int32) (M : hM) {res : xRes} (h : b77_2 a0 v1 v2 M = some res) (hN : xN (pg77 p l e s m args below meth c G z0 y0 r M') r M' res) : xV G p l e (xRm 0 (h_sz M' - z0) (h_sl M' - y0)) s m args below meth c z0 y0 (h_sz M') (h_sl M') 3 (MQ below (xQc G r M') args s (h_sz M' - z0) (h_sl M' - y0) (xFr G)) 2 [(0, .inr (.inr (some a0))), (1, .inl v1), (2, .inl v2)] [] M := by
  unfold b77_2 at h
  refine xv_b E [.iload_n 2, .aload_n 0] (pc' := 4) (lv' := [(0, .inr (.inr (some a0))), (1, .inl v1), (2, .inl v2)]) (st' := [.inr (.inr (some a0)), .inl v2]) (by decide +kernel) rfl rfl ?_
  obtain ⟨v_1, h2, h⟩ := bd h
  refine xg_i E 1 4 h2 mw168 (show decode prog_3_method_6_code 4 = .ok (.getfield 34, 3) by decide +kernel) ?_
  by_cases q8 : v_1 ≤ v2
  · rw [if_pos q8] at h
    refine xv_icmp_ge E 28 (show decode prog_3_method_6_code 7 = .ok (.if_icmp .ge (21), 3) by decide +kernel) rfl (fun _ => ?_) (fun z => absurd q8 z)
    refine xv_b E [.iconst 0] (pc' := 29) (lv' := [(0, .inr (.inr (some a0))), (1, .inl v1), (2, .inl v2)]) (st' := [.inl (0 : Int32)]) (by decide +kernel) rfl rfl ?_
    obtain rfl := Option.some.inj h
    obtain ⟨rfl, rfl⟩ := Prod.mk.inj (show ((some (.inl (0 : Int32)) : Option aV), M) = (r, M') from hN)
    exact xv_ri E B.1 rfl B.2.1 (show decode prog_3_method_6_code 29 = .ok (.ireturn, 1) by decide +kernel) rfl rfl
  · rw [if_neg q8] at h
    refine xv_icmp_ge E 28 (show decode prog_3_method_6_code 7 = .ok (.if_icmp .ge (21), 3) by decide +kernel) rfl (fun z => absurd z q8) (fun _ => ?_)
    refine xv_b E [.aload_n 0] (pc' := 11) (lv' := [(0, .inr (.inr (some a0))), (1, .inl v1), (2, .inl v2)]) (st' := [.inr (.inr (some a0))]) (by decide +kernel) rfl rfl ?_
    obtain ⟨o_3, h4, h⟩ := bd h
    refine xg_r E 1 3 h4 mw107 (show decode prog_3_method_6_code 11 = .ok (.getfield 15, 3) by decide +kernel) ?_
    refine xv_b E [.iload_n 2] (pc' := 15) (lv' := [(0, .inr (.inr (some a0))), (1, .inl v1), (2, .inl v2)]) (st' := [.inl v2, .inr (.inr o_3)]) (by decide +kernel) rfl rfl ?_
    obtain ⟨v_5, h6, h⟩ := bd h
    refine xa_i E h6 (show decode prog_3_method_6_code 15 = .ok (.iaload, 1) by decide +kernel) ?_
    refine xv_b E [.iload_n 1] (pc' := 17) (lv' := [(0, .inr (.inr (some a0))), (1, .inl v1), (2, .inl v2)]) (st' := [.inl v1, .inl v_5]) (by decide +kernel) rfl rfl ?_
    by_cases q7 : v_5 = v1
    · rw [if_pos q7] at h
      refine xv_icmp_ne E 22 (show decode prog_3_method_6_code 17 = .ok (.if_icmp .ne (5), 3) by decide +kernel) rfl (fun z => absurd q7 z) (fun _ => ?_)
      refine xv_b E [.iconst 1] (pc' := 21) (lv' := [(0, .inr (.inr (some a0))), (1, .inl v1), (2, .inl v2)]) (st' := [.inl (1 : Int32)]) (by decide +kernel) rfl rfl ?_
      obtain rfl := Option.some.inj h
      obtain ⟨rfl, rfl⟩ := Prod.mk.inj (show ((some (.inl (1 : Int32)) : Option aV), M) = (r, M') from hN)
      exact xv_ri E B.1 rfl B.2.1 (show decode prog_3_method_6_code 21 = .ok (.ireturn, 1) by decide +kernel) rfl rfl
    · rw [if_neg q7] at h
      refine xv_icmp_ne E 22 (show decode prog_3_method_6_code 17 = .ok (.if_icmp .ne (5), 3) by decide +kernel) rfl (fun _ => ?_) (fun z => absurd z q7)
      refine xv_b E [.iinc 2 1] (pc' := 25) (lv' := [(2, .inl (v2 + (1 : Int32))), (0, .inr (.inr (some a0))), (1, .inl v1)]) (st' := []) (by decide +kernel) rfl rfl ?_
      refine xv_goto E 2 (show decode prog_3_method_6_code 25 = .ok (.goto (-23), 3) by decide +kernel) rfl ?_
      obtain rfl := Option.some.inj h
      exact xv_w hN rfl
end
theorem t77 (G : gX) (l : Launch) {as : List aV} {M : hM} {r : Option aV} {M' : hM} (h : f77 as M = some (r, M')) : xM G l ym77 prog_3_method_6_code 3 (some FieldType.boolean) 0 as M r M' := by
  unfold f77 at h
  split at h
  · have hle : ∀ h as M res, k77 h as M = some res → h_sz M ≤ r_sz res ∧ h_sl M ≤ r_sl res := by
      intro h as M res hb
      unfold k77 at hb
      by_cases e0 : h = 2
      · rw [if_pos e0] at hb
        split at hb
        · exact lb77_2 G l _ _ _ M hb
        · cases hb
      · rw [if_neg e0] at hb
        cases hb
    obtain ⟨res, hx, hres⟩ := x_go_ok h
    refine xM_of (by decide) (Nat.le_of_ble_eq_true rfl) ?_ ?_
    · have e1 := lb77_0 G l _ _ M hx
      have e2 := x_go_le hle hres
      omega
    · intro p e s m args below meth c E B
      refine sb77_0 E B _ _ M hx (hres _ ?_)
      intro h as M res hb hN
      unfold k77 at hb
      unfold pg77
      by_cases e0 : h = 2
      · rw [if_pos e0] at hb ⊢
        split at hb
        · exact sb77_2 E B _ _ _ M hb hN
        · cases hb
      · rw [if_neg e0] at hb ⊢
        cases hb
  · cases h
/-! ZF.Disc.sendBlocks(LZF$Frame;II)V -/
def ym78 : MethodName := ⟨"ZonedFabric$Disc", "sendBlocks", "(LZonedFabric$Frame;II)V"⟩
theorem cd78 : xCd ym78 prog_3_method_10_code 6 none 3 := ⟨mw424, mw105, by decide, by decide, by decide +kernel⟩
def b78_0 (a0 : Nat) (o1 : Option Nat) (v2 : Int32) (v3 : Int32) (M : hM) : Option xRes :=
  some (.inr (3, [.inr (.inr (some a0)), .inr (.inr o1), .inl v2, .inl v3, .inl (0 : Int32)], M))
def b78_92  (M : hM) : Option xRes :=
  some (.inl (none, M))
def b78_3 (a0 : Nat) (o1 : Option Nat) (v2 : Int32) (v3 : Int32) (v4 : Int32) (M : hM) : Option xRes :=
  if v3 ≤ v4 then
    (b78_92  M)
  else
    (Option.bind (g_r M 1 2 (some a0)) fun o_1 =>
    Option.bind (a_ln M 23 o_1) fun v_3 =>
    if v_3 ≤ (v2 + v4) then
      (b78_92  M)
    else
      (Option.bind (g_r M 1 0 (some a0)) fun o_5 =>
      Option.bind (g_o M 2 o1) fun b_9 =>
      Option.bind (c_I (f65 [.inr (.inr (some b_9))] M)) fun q_7 =>
      Option.bind (g_r q_7.2 1 1 (some a0)) fun o_11 =>
      Option.bind (g_i q_7.2 5 3 o_11) fun v_13 =>
      Option.bind (g_o q_7.2 2 o1) fun b_17 =>
      Option.bind (c_I (f66 [.inr (.inr (some b_17))] q_7.2)) fun q_15 =>
      Option.bind (g_o q_15.2 9 o_5) fun b_21 =>
      Option.bind (c_R (f34 [.inr (.inr (some b_21)), .inl (11 : Int32), .inl q_7.1, .inl v_13, .inl q_15.1] q_15.2)) fun q_19 =>
      Option.bind (g_o q_19.2 2 q_19.1) fun b_25 =>
      Option.bind (c_V (f35 [.inr (.inr (some b_25)), .inl (11 : Int32), .inl (1 : Int32), .inr (.inl (Int32.toInt64 v4))] q_19.2)) fun q_23 =>
      Option.bind (g_r q_23 1 2 (some a0)) fun o_27 =>
      Option.bind (al_l q_23 23 o_27 (v2 + v4)) fun w_29 =>
      Option.bind (g_o q_23 2 q_19.1) fun b_33 =>
      Option.bind (c_V (f36 [.inr (.inr (some b_33)), .inl (8 : Int32), .inr (.inl w_29)] q_23)) fun q_31 =>
      Option.bind (g_r q_31 1 1 (some a0)) fun o_35 =>
      Option.bind (g_r q_31 5 2 o_35) fun o_37 =>
      Option.bind (g_o q_31 8 o_37) fun b_41 =>
      Option.bind (c_V (f39 [.inr (.inr (some b_41)), .inr (.inr q_19.1)] q_31)) fun q_39 =>
      some (.inr (3, [.inr (.inr (some a0)), .inr (.inr o1), .inl v2, .inl v3, .inl (v4 + (1 : Int32))], q_39))))
def k78 (h : Nat) (as : List aV) (M : hM) : Option xRes :=
  if h = 3 then (match as with | [.inr (.inr (some a0)), .inr (.inr o1), .inl v2, .inl v3, .inl v4] => b78_3 a0 o1 v2 v3 v4 M | _ => none) else
  none
def f78 (as : List aV) (M : hM) : xO := match as with
  | [.inr (.inr (some a0)), .inr (.inr o1), .inl v2, .inl v3] => x_go k78 (b78_0 a0 o1 v2 v3 M)
  | _ => none
theorem lb78_0 (G : gX) (l : Launch) (a0 : Nat) (o1 : Option Nat) (v2 : Int32) (v3 : Int32) (M : hM) {res : xRes} (h : b78_0 a0 o1 v2 v3 M = some res) : h_sz M ≤ r_sz res ∧ h_sl M ≤ r_sl res := by
  unfold b78_0 at h
  obtain rfl := Option.some.inj h
  show h_sz M ≤ h_sz M ∧ h_sl M ≤ h_sl M
  omega
theorem lb78_92 (G : gX) (l : Launch)  (M : hM) {res : xRes} (h : b78_92  M = some res) : h_sz M ≤ r_sz res ∧ h_sl M ≤ r_sl res := by
  unfold b78_92 at h
  obtain rfl := Option.some.inj h
  show h_sz M ≤ h_sz M ∧ h_sl M ≤ h_sl M
  omega
theorem lb78_3 (G : gX) (l : Launch) (a0 : Nat) (o1 : Option Nat) (v2 : Int32) (v3 : Int32) (v4 : Int32) (M : hM) {res : xRes} (h : b78_3 a0 o1 v2 v3 v4 M = some res) : h_sz M ≤ r_sz res ∧ h_sl M ≤ r_sl res := by
  unfold b78_3 at h
  by_cases q44 : v3 ≤ v4
  · rw [if_pos q44] at h
    have e := lb78_92 G l  M h
    omega
  · rw [if_neg q44] at h
    obtain ⟨o_1, h2, h⟩ := bd h
    obtain ⟨v_3, h4, h⟩ := bd h
    by_cases q43 : v_3 ≤ (v2 + v4)
    · rw [if_pos q43] at h
      have e := lb78_92 G l  M h
      omega
    · rw [if_neg q43] at h
      obtain ⟨o_5, h6, h⟩ := bd h
      obtain ⟨b_9, h10, h⟩ := bd h
      obtain ⟨q_7, h8, h⟩ := bd h
      have eh8 := (t65 G l (c_I_some h8)).1
      obtain ⟨o_11, h12, h⟩ := bd h
      obtain ⟨v_13, h14, h⟩ := bd h
      obtain ⟨b_17, h18, h⟩ := bd h
      obtain ⟨q_15, h16, h⟩ := bd h
      have eh16 := (t66 G l (c_I_some h16)).1
      obtain ⟨b_21, h22, h⟩ := bd h
      obtain ⟨q_19, h20, h⟩ := bd h
      have eh20 := (t34 G l (c_R_some h20)).1
      obtain ⟨b_25, h26, h⟩ := bd h
      obtain ⟨q_23, h24, h⟩ := bd h
      have eh24 := (t35 G l (c_V_some h24)).1
      obtain ⟨o_27, h28, h⟩ := bd h
      obtain ⟨w_29, h30, h⟩ := bd h
      obtain ⟨b_33, h34, h⟩ := bd h
      obtain ⟨q_31, h32, h⟩ := bd h
      have eh32 := (t36 G l (c_V_some h32)).1
      obtain ⟨o_35, h36, h⟩ := bd h
      obtain ⟨o_37, h38, h⟩ := bd h
      obtain ⟨b_41, h42, h⟩ := bd h
      obtain ⟨q_39, h40, h⟩ := bd h
      have eh40 := (t39 G l (c_V_some h40)).1
      obtain rfl := Option.some.inj h
      show h_sz M ≤ h_sz q_39 ∧ h_sl M ≤ h_sl q_39
      omega
section
variable {p : Program} {l : Launch} {e : Env} {s : State} {m : MethodId} {args : Array Value} {below : List Frame} {meth : Method} {c : Code} {G : gX} {z0 y0 : Nat} {r : Option aV} {M' : hM}
def pg78 (p : Program) (l : Launch) (e : Env) (s : State) (m : MethodId) (args : Array Value) (below : List Frame) (meth : Method) (c : Code) (G : gX) (z0 y0 : Nat) (r : Option aV) (M' : hM) (h : Nat) (as : List aV) (M : hM) : Prop :=
  if h = 3 then (match as with | [.inr (.inr (some a0)), .inr (.inr o1), .inl v2, .inl v3, .inl v4] => xV G p l e (xRm 3 (h_sz M' - z0) (h_sl M' - y0)) s m args below meth c z0 y0 (h_sz M') (h_sl M') 6 (MQ below (xQc G r M') args s (h_sz M' - z0) (h_sl M' - y0) (xFr G)) 3 [(0, .inr (.inr (some a0))), (1, .inr (.inr o1)), (2, .inl v2), (3, .inl v3), (4, .inl v4)] [] M | _ => False) else
  False
theorem sb78_0 (E : xE G p (xRm 3 (h_sz M' - z0) (h_sl M' - y0)) s m args c prog_3_method_10_code "ZonedFabric$Disc" z0 y0 (h_sz M') (h_sl M') 6) (B : xB ym78 none meth) (a0 : Nat) (o1 : Option Nat) (v2 : Int32) (v3 : Int32) (M : hM) {res : xRes} (h : b78_0 a0 o1 v2 v3 M = some res) (hN : xN (pg78 p l e s m args below meth c G z0 y0 r M') r M' res) : xV G p l e (xRm 3 (h_sz M' - z0) (h_sl M' - y0)) s m args below meth c z0 y0 (h_sz M') (h_sl M') 6 (MQ below (xQc G r M') args s (h_sz M' - z0) (h_sl M' - y0) (xFr G)) 0 [(0, .inr (.inr (some a0))), (1, .inr (.inr o1)), (2, .inl v2), (3, .inl v3)] [] M := by
  unfold b78_0 at h
  refine xv_b E [.iconst 0, .istore 4] (pc' := 3) (lv' := [(4, .inl (0 : Int32)), (0, .inr (.inr (some a0))), (1, .inr (.inr o1)), (2, .inl v2), (3, .inl v3)]) (st' := []) (by decide +kernel) rfl rfl ?_
  obtain rfl := Option.some.inj h
  exact xv_w hN rfl
theorem sb78_92 (E : xE G p (xRm 3 (h_sz M' - z0) (h_sl M' - y0)) s m args c prog_3_method_10_code "ZonedFabric$Disc" z0 y0 (h_sz M') (h_sl M') 6) (B : xB ym78 none meth)  (M : hM) {res : xRes} (h : b78_92  M = some res) (hN : xN (pg78 p l e s m args below meth c G z0 y0 r M') r M' res) : xV G p l e (xRm 3 (h_sz M' - z0) (h_sl M' - y0)) s m args below meth c z0 y0 (h_sz M') (h_sl M') 6 (MQ below (xQc G r M') args s (h_sz M' - z0) (h_sl M' - y0) (xFr G)) 92 [] [] M := by
  unfold b78_92 at h
  obtain rfl := Option.some.inj h
  obtain ⟨rfl, rfl⟩ := Prod.mk.inj (show ((none : Option aV), M) = (r, M') from hN)
  exact xv_rv E B.1 B.2.1 (show decode prog_3_method_10_code 92 = .ok (.return_, 1) by decide +kernel) rfl rfl
theorem sb78_3 (E : xE G p (xRm 3 (h_sz M' - z0) (h_sl M' - y0)) s m args c prog_3_method_10_code "ZonedFabric$Disc" z0 y0 (h_sz M') (h_sl M') 6) (B : xB ym78 none meth) (a0 : Nat) (o1 : Option Nat) (v2 : Int32) (v3 : Int32) (v4 : Int32) (M : hM) {res : xRes} (h : b78_3 a0 o1 v2 v3 v4 M = some res) (hN : xN (pg78 p l e s m args below meth c G z0 y0 r M') r M' res) : xV G p l e (xRm 3 (h_sz M' - z0) (h_sl M' - y0)) s m args below meth c z0 y0 (h_sz M') (h_sl M') 6 (MQ below (xQc G r M') args s (h_sz M' - z0) (h_sl M' - y0) (xFr G)) 3 [(0, .inr (.inr (some a0))), (1, .inr (.inr o1)), (2, .inl v2), (3, .inl v3), (4, .inl v4)] [] M := by
  unfold b78_3 at h
  refine xv_b E [.iload 4, .iload_n 3] (pc' := 6) (lv' := [(0, .inr (.inr (some a0))), (1, .inr (.inr o1)), (2, .inl v2), (3, .inl v3), (4, .inl v4)]) (st' := [.inl v3, .inl v4]) (by decide +kernel) rfl rfl ?_
  by_cases q44 : v3 ≤ v4
  · rw [if_pos q44] at h
    refine xv_icmp_ge E 92 (show decode prog_3_method_10_code 6 = .ok (.if_icmp .ge (86), 3) by decide +kernel) rfl (fun _ => ?_) (fun z => absurd q44 z)
    exact xv_w (sb78_92 E B  M h hN) rfl
  · rw [if_neg q44] at h
    refine xv_icmp_ge E 92 (show decode prog_3_method_10_code 6 = .ok (.if_icmp .ge (86), 3) by decide +kernel) rfl (fun z => absurd z q44) (fun _ => ?_)
    refine xv_b E [.iload_n 2, .iload 4, .iadd, .aload_n 0] (pc' := 14) (lv' := [(0, .inr (.inr (some a0))), (1, .inr (.inr o1)), (2, .inl v2), (3, .inl v3), (4, .inl v4)]) (st' := [.inr (.inr (some a0)), .inl (v2 + v4)]) (by decide +kernel) rfl rfl ?_
    obtain ⟨o_1, h2, h⟩ := bd h
    refine xg_r E 1 2 h2 mw106 (show decode prog_3_method_10_code 14 = .ok (.getfield 9, 3) by decide +kernel) ?_
    obtain ⟨v_3, h4, h⟩ := bd h
    refine xa_n E 23 h4 (show decode prog_3_method_10_code 17 = .ok (.arraylength, 1) by decide +kernel) ?_
    by_cases q43 : v_3 ≤ (v2 + v4)
    · rw [if_pos q43] at h
      refine xv_icmp_ge E 92 (show decode prog_3_method_10_code 18 = .ok (.if_icmp .ge (74), 3) by decide +kernel) rfl (fun _ => ?_) (fun z => absurd q43 z)
      exact xv_w (sb78_92 E B  M h hN) rfl
    · rw [if_neg q43] at h
      refine xv_icmp_ge E 92 (show decode prog_3_method_10_code 18 = .ok (.if_icmp .ge (74), 3) by decide +kernel) rfl (fun z => absurd z q43) (fun _ => ?_)
      refine xv_b E [.aload_n 0] (pc' := 22) (lv' := [(0, .inr (.inr (some a0))), (1, .inr (.inr o1)), (2, .inl v2), (3, .inl v3), (4, .inl v4)]) (st' := [.inr (.inr (some a0))]) (by decide +kernel) rfl rfl ?_
      obtain ⟨o_5, h6, h⟩ := bd h
      refine xg_r E 1 0 h6 mw110 (show decode prog_3_method_10_code 22 = .ok (.getfield 25, 3) by decide +kernel) ?_
      refine xv_b E [.bipush 11, .aload_n 1] (pc' := 28) (lv' := [(0, .inr (.inr (some a0))), (1, .inr (.inr o1)), (2, .inl v2), (3, .inl v3), (4, .inl v4)]) (st' := [.inr (.inr o1), .inl (11 : Int32), .inr (.inr o_5)]) (by decide +kernel) rfl rfl ?_
      obtain ⟨b_9, h10, h⟩ := bd h
      obtain ⟨eh10, th10⟩ := g_o_some h10
      obtain ⟨q_7, h8, h⟩ := bd h
      refine xv_cvo E eh10 2 (as := []) (t65 G l (c_I_some h8)) cd65 mw369 mw370 mw371 (show decode prog_3_method_10_code 28 = .ok (.invokevirtual 56, 3) by decide +kernel) th10 rfl rfl (Nat.le_of_ble_eq_true rfl) ⟨Nat.le_of_ble_eq_true rfl, Nat.le_of_ble_eq_true rfl⟩ ?_
      refine xv_b E [.aload_n 0] (pc' := 32) (lv' := [(0, .inr (.inr (some a0))), (1, .inr (.inr o1)), (2, .inl v2), (3, .inl v3), (4, .inl v4)]) (st' := [.inr (.inr (some a0)), .inl q_7.1, .inl (11 : Int32), .inr (.inr o_5)]) (by decide +kernel) rfl rfl ?_
      obtain ⟨o_11, h12, h⟩ := bd h
      refine xg_r E 1 1 h12 mw111 (show decode prog_3_method_10_code 32 = .ok (.getfield 29, 3) by decide +kernel) ?_
      obtain ⟨v_13, h14, h⟩ := bd h
      refine xg_i E 5 3 h14 mw372 (show decode prog_3_method_10_code 35 = .ok (.getfield 77, 3) by decide +kernel) ?_
      refine xv_b E [.aload_n 1] (pc' := 39) (lv' := [(0, .inr (.inr (some a0))), (1, .inr (.inr o1)), (2, .inl v2), (3, .inl v3), (4, .inl v4)]) (st' := [.inr (.inr o1), .inl v_13, .inl q_7.1, .inl (11 : Int32), .inr (.inr o_5)]) (by decide +kernel) rfl rfl ?_
      obtain ⟨b_17, h18, h⟩ := bd h
      obtain ⟨eh18, th18⟩ := g_o_some h18
      obtain ⟨q_15, h16, h⟩ := bd h
      refine xv_cvo E eh18 2 (as := []) (t66 G l (c_I_some h16)) cd66 mw373 mw374 mw375 (show decode prog_3_method_10_code 39 = .ok (.invokevirtual 82, 3) by decide +kernel) th18 rfl rfl (Nat.le_of_ble_eq_true rfl) ⟨Nat.le_of_ble_eq_true rfl, Nat.le_of_ble_eq_true rfl⟩ ?_
      obtain ⟨b_21, h22, h⟩ := bd h
      obtain ⟨eh22, th22⟩ := g_o_some h22
      obtain ⟨q_19, h20, h⟩ := bd h
      refine xv_cvo E eh22 9 (as := [.inl (11 : Int32), .inl q_7.1, .inl v_13, .inl q_15.1]) (t34 G l (c_R_some h20)) cd34 mw376 mw251 mw252 (show decode prog_3_method_10_code 42 = .ok (.invokevirtual 85, 3) by decide +kernel) th22 rfl rfl (Nat.le_of_ble_eq_true rfl) ⟨Nat.le_of_ble_eq_true rfl, Nat.le_of_ble_eq_true rfl⟩ ?_
      refine xv_b E [.astore 5, .aload 5, .bipush 11, .iconst 1, .iload 4, .i2l] (pc' := 55) (lv' := [(5, .inr (.inr q_19.1)), (0, .inr (.inr (some a0))), (1, .inr (.inr o1)), (2, .inl v2), (3, .inl v3), (4, .inl v4)]) (st' := [.inr (.inl (Int32.toInt64 v4)), .inl (1 : Int32), .inl (11 : Int32), .inr (.inr q_19.1)]) (by decide +kernel) rfl rfl ?_
      obtain ⟨b_25, h26, h⟩ := bd h
      obtain ⟨eh26, th26⟩ := g_o_some h26
      obtain ⟨q_23, h24, h⟩ := bd h
      refine xv_cvo E eh26 2 (as := [.inl (11 : Int32), .inl (1 : Int32), .inr (.inl (Int32.toInt64 v4))]) (t35 G l (c_V_some h24)) cd35 mw377 mw232 mw233 (show decode prog_3_method_10_code 55 = .ok (.invokevirtual 89, 3) by decide +kernel) th26 rfl rfl (Nat.le_of_ble_eq_true rfl) ⟨Nat.le_of_ble_eq_true rfl, Nat.le_of_ble_eq_true rfl⟩ ?_
      refine xv_b E [.aload 5, .bipush 8, .aload_n 0] (pc' := 63) (lv' := [(5, .inr (.inr q_19.1)), (0, .inr (.inr (some a0))), (1, .inr (.inr o1)), (2, .inl v2), (3, .inl v3), (4, .inl v4)]) (st' := [.inr (.inr (some a0)), .inl (8 : Int32), .inr (.inr q_19.1)]) (by decide +kernel) rfl rfl ?_
      obtain ⟨o_27, h28, h⟩ := bd h
      refine xg_r E 1 2 h28 mw106 (show decode prog_3_method_10_code 63 = .ok (.getfield 9, 3) by decide +kernel) ?_
      refine xv_b E [.iload_n 2, .iload 4, .iadd] (pc' := 70) (lv' := [(5, .inr (.inr q_19.1)), (0, .inr (.inr (some a0))), (1, .inr (.inr o1)), (2, .inl v2), (3, .inl v3), (4, .inl v4)]) (st' := [.inl (v2 + v4), .inr (.inr o_27), .inl (8 : Int32), .inr (.inr q_19.1)]) (by decide +kernel) rfl rfl ?_
      obtain ⟨w_29, h30, h⟩ := bd h
      refine xa_l E h30 (show decode prog_3_method_10_code 70 = .ok (.laload, 1) by decide +kernel) ?_
      obtain ⟨b_33, h34, h⟩ := bd h
      obtain ⟨eh34, th34⟩ := g_o_some h34
      obtain ⟨q_31, h32, h⟩ := bd h
      refine xv_cvo E eh34 2 (as := [.inl (8 : Int32), .inr (.inl w_29)]) (t36 G l (c_V_some h32)) cd36 mw378 mw254 mw255 (show decode prog_3_method_10_code 71 = .ok (.invokevirtual 93, 3) by decide +kernel) th34 rfl rfl (Nat.le_of_ble_eq_true rfl) ⟨Nat.le_of_ble_eq_true rfl, Nat.le_of_ble_eq_true rfl⟩ ?_
      refine xv_b E [.aload_n 0] (pc' := 75) (lv' := [(5, .inr (.inr q_19.1)), (0, .inr (.inr (some a0))), (1, .inr (.inr o1)), (2, .inl v2), (3, .inl v3), (4, .inl v4)]) (st' := [.inr (.inr (some a0))]) (by decide +kernel) rfl rfl ?_
      obtain ⟨o_35, h36, h⟩ := bd h
      refine xg_r E 1 1 h36 mw111 (show decode prog_3_method_10_code 75 = .ok (.getfield 29, 3) by decide +kernel) ?_
      obtain ⟨o_37, h38, h⟩ := bd h
      refine xg_r E 5 2 h38 mw379 (show decode prog_3_method_10_code 78 = .ok (.getfield 97, 3) by decide +kernel) ?_
      refine xv_b E [.aload 5] (pc' := 83) (lv' := [(5, .inr (.inr q_19.1)), (0, .inr (.inr (some a0))), (1, .inr (.inr o1)), (2, .inl v2), (3, .inl v3), (4, .inl v4)]) (st' := [.inr (.inr q_19.1), .inr (.inr o_37)]) (by decide +kernel) rfl rfl ?_
      obtain ⟨b_41, h42, h⟩ := bd h
      obtain ⟨eh42, th42⟩ := g_o_some h42
      obtain ⟨q_39, h40, h⟩ := bd h
      refine xv_cvo E eh42 8 (as := [.inr (.inr q_19.1)]) (t39 G l (c_V_some h40)) cd39 mw380 mw257 mw258 (show decode prog_3_method_10_code 83 = .ok (.invokevirtual 101, 3) by decide +kernel) th42 rfl rfl (Nat.le_of_ble_eq_true rfl) ⟨Nat.le_of_ble_eq_true rfl, Nat.le_of_ble_eq_true rfl⟩ ?_
      refine xv_b E [.iinc 4 1] (pc' := 89) (lv' := [(4, .inl (v4 + (1 : Int32))), (5, .inr (.inr q_19.1)), (0, .inr (.inr (some a0))), (1, .inr (.inr o1)), (2, .inl v2), (3, .inl v3)]) (st' := []) (by decide +kernel) rfl rfl ?_
      refine xv_goto E 3 (show decode prog_3_method_10_code 89 = .ok (.goto (-86), 3) by decide +kernel) rfl ?_
      obtain rfl := Option.some.inj h
      exact xv_w hN rfl
end
theorem t78 (G : gX) (l : Launch) {as : List aV} {M : hM} {r : Option aV} {M' : hM} (h : f78 as M = some (r, M')) : xM G l ym78 prog_3_method_10_code 6 none 3 as M r M' := by
  unfold f78 at h
  split at h
  · have hle : ∀ h as M res, k78 h as M = some res → h_sz M ≤ r_sz res ∧ h_sl M ≤ r_sl res := by
      intro h as M res hb
      unfold k78 at hb
      by_cases e0 : h = 3
      · rw [if_pos e0] at hb
        split at hb
        · exact lb78_3 G l _ _ _ _ _ M hb
        · cases hb
      · rw [if_neg e0] at hb
        cases hb
    obtain ⟨res, hx, hres⟩ := x_go_ok h
    refine xM_of (by decide) (Nat.le_of_ble_eq_true rfl) ?_ ?_
    · have e1 := lb78_0 G l _ _ _ _ M hx
      have e2 := x_go_le hle hres
      omega
    · intro p e s m args below meth c E B
      refine sb78_0 E B _ _ _ _ M hx (hres _ ?_)
      intro h as M res hb hN
      unfold k78 at hb
      unfold pg78
      by_cases e0 : h = 3
      · rw [if_pos e0] at hb ⊢
        split at hb
        · exact sb78_3 E B _ _ _ _ _ M hb hN
        · cases hb
      · rw [if_neg e0] at hb ⊢
        cases hb
  · cases h
/-! ZF.OpenWrite.begin(LZF$Frame;II)V -/
def ym79 : MethodName := ⟨"ZonedFabric$OpenWrite", "begin", "(LZonedFabric$Frame;II)V"⟩
theorem cd79 : xCd ym79 prog_9_method_2_code 4 none 3 := ⟨mw425, mw100, by decide, by decide, by decide +kernel⟩
def b79_0 (a0 : Nat) (o1 : Option Nat) (v2 : Int32) (v3 : Int32) (M : hM) : Option xRes :=
  Option.bind (p_z M 7 0 (some a0) (1 : Int32)) fun M1 =>
  Option.bind (g_o M1 2 o1) fun b_5 =>
  Option.bind (c_I (f66 [.inr (.inr (some b_5))] M1)) fun q_3 =>
  Option.bind (p_i q_3.2 7 1 (some a0) q_3.1) fun M7 =>
  Option.bind (g_o M7 2 o1) fun b_11 =>
  Option.bind (c_I (f65 [.inr (.inr (some b_11))] M7)) fun q_9 =>
  Option.bind (p_i q_9.2 7 2 (some a0) q_9.1) fun M13 =>
  Option.bind (p_i M13 7 3 (some a0) v2) fun M15 =>
  Option.bind (g_o M15 2 o1) fun b_19 =>
  Option.bind (c_I (f58 [.inr (.inr (some b_19)), .inl (0 : Int32)] M15)) fun q_17 =>
  Option.bind (g_o q_17.2 2 o1) fun b_23 =>
  Option.bind (c_I (f58 [.inr (.inr (some b_23)), .inl (2 : Int32)] q_17.2)) fun q_21 =>
  Option.bind (p_i q_21.2 7 4 (some a0) ((q_17.1 * (16 : Int32)) + q_21.1)) fun M25 =>
  Option.bind (g_o M25 2 o1) fun b_29 =>
  Option.bind (c_I (f58 [.inr (.inr (some b_29)), .inl (3 : Int32)] M25)) fun q_27 =>
  Option.bind (p_i q_27.2 7 5 (some a0) q_27.1) fun M31 =>
  Option.bind (p_i M31 7 6 (some a0) v3) fun M33 =>
  Option.bind (p_i M33 7 7 (some a0) (0 : Int32)) fun M35 =>
  some (.inl (none, M35))
def f79 (as : List aV) (M : hM) : xO := match as with
  | [.inr (.inr (some a0)), .inr (.inr o1), .inl v2, .inl v3] => x_out (b79_0 a0 o1 v2 v3 M)
  | _ => none
theorem lb79_0 (G : gX) (l : Launch) (a0 : Nat) (o1 : Option Nat) (v2 : Int32) (v3 : Int32) (M : hM) {res : xRes} (h : b79_0 a0 o1 v2 v3 M = some res) : h_sz M ≤ r_sz res ∧ h_sl M ≤ r_sl res := by
  unfold b79_0 at h
  obtain ⟨M1, h2, h⟩ := bd h
  have eh2 := p_z_sz h2
  obtain ⟨b_5, h6, h⟩ := bd h
  obtain ⟨q_3, h4, h⟩ := bd h
  have eh4 := (t66 G l (c_I_some h4)).1
  obtain ⟨M7, h8, h⟩ := bd h
  have eh8 := p_i_sz h8
  obtain ⟨b_11, h12, h⟩ := bd h
  obtain ⟨q_9, h10, h⟩ := bd h
  have eh10 := (t65 G l (c_I_some h10)).1
  obtain ⟨M13, h14, h⟩ := bd h
  have eh14 := p_i_sz h14
  obtain ⟨M15, h16, h⟩ := bd h
  have eh16 := p_i_sz h16
  obtain ⟨b_19, h20, h⟩ := bd h
  obtain ⟨q_17, h18, h⟩ := bd h
  have eh18 := (t58 G l (c_I_some h18)).1
  obtain ⟨b_23, h24, h⟩ := bd h
  obtain ⟨q_21, h22, h⟩ := bd h
  have eh22 := (t58 G l (c_I_some h22)).1
  obtain ⟨M25, h26, h⟩ := bd h
  have eh26 := p_i_sz h26
  obtain ⟨b_29, h30, h⟩ := bd h
  obtain ⟨q_27, h28, h⟩ := bd h
  have eh28 := (t58 G l (c_I_some h28)).1
  obtain ⟨M31, h32, h⟩ := bd h
  have eh32 := p_i_sz h32
  obtain ⟨M33, h34, h⟩ := bd h
  have eh34 := p_i_sz h34
  obtain ⟨M35, h36, h⟩ := bd h
  have eh36 := p_i_sz h36
  obtain rfl := Option.some.inj h
  show h_sz M ≤ h_sz M35 ∧ h_sl M ≤ h_sl M35
  omega
section
variable {p : Program} {l : Launch} {e : Env} {s : State} {m : MethodId} {args : Array Value} {below : List Frame} {meth : Method} {c : Code} {G : gX} {z0 y0 : Nat} {r : Option aV} {M' : hM}
theorem sb79_0 (E : xE G p (xRm 3 (h_sz M' - z0) (h_sl M' - y0)) s m args c prog_9_method_2_code "ZonedFabric$OpenWrite" z0 y0 (h_sz M') (h_sl M') 4) (B : xB ym79 none meth) (a0 : Nat) (o1 : Option Nat) (v2 : Int32) (v3 : Int32) (M : hM) {res : xRes} (h : b79_0 a0 o1 v2 v3 M = some res) (hN : xN (fun _ _ _ => False) r M' res) : xV G p l e (xRm 3 (h_sz M' - z0) (h_sl M' - y0)) s m args below meth c z0 y0 (h_sz M') (h_sl M') 4 (MQ below (xQc G r M') args s (h_sz M' - z0) (h_sl M' - y0) (xFr G)) 0 [(0, .inr (.inr (some a0))), (1, .inr (.inr o1)), (2, .inl v2), (3, .inl v3)] [] M := by
  unfold b79_0 at h
  refine xv_b E [.aload_n 0, .iconst 1] (pc' := 2) (lv' := [(0, .inr (.inr (some a0))), (1, .inr (.inr o1)), (2, .inl v2), (3, .inl v3)]) (st' := [.inl (1 : Int32), .inr (.inr (some a0))]) (by decide +kernel) rfl rfl ?_
  obtain ⟨M1, h2, h⟩ := bd h
  refine xp_z E 7 0 h2 mw382 (show decode prog_9_method_2_code 2 = .ok (.putfield 15, 3) by decide +kernel) (Or.inl rfl) ?_
  refine xv_b E [.aload_n 0, .aload_n 1] (pc' := 7) (lv' := [(0, .inr (.inr (some a0))), (1, .inr (.inr o1)), (2, .inl v2), (3, .inl v3)]) (st' := [.inr (.inr o1), .inr (.inr (some a0))]) (by decide +kernel) rfl rfl ?_
  obtain ⟨b_5, h6, h⟩ := bd h
  obtain ⟨eh6, th6⟩ := g_o_some h6
  obtain ⟨q_3, h4, h⟩ := bd h
  refine xv_cvo E eh6 2 (as := []) (t66 G l (c_I_some h4)) cd66 mw384 mw374 mw375 (show decode prog_9_method_2_code 7 = .ok (.invokevirtual 19, 3) by decide +kernel) th6 rfl rfl (Nat.le_of_ble_eq_true rfl) ⟨Nat.le_of_ble_eq_true rfl, Nat.le_of_ble_eq_true rfl⟩ ?_
  obtain ⟨M7, h8, h⟩ := bd h
  refine xp_i E 7 1 h8 mw383 (show decode prog_9_method_2_code 10 = .ok (.putfield 25, 3) by decide +kernel) (Or.inl rfl) ?_
  refine xv_b E [.aload_n 0, .aload_n 1] (pc' := 15) (lv' := [(0, .inr (.inr (some a0))), (1, .inr (.inr o1)), (2, .inl v2), (3, .inl v3)]) (st' := [.inr (.inr o1), .inr (.inr (some a0))]) (by decide +kernel) rfl rfl ?_
  obtain ⟨b_11, h12, h⟩ := bd h
  obtain ⟨eh12, th12⟩ := g_o_some h12
  obtain ⟨q_9, h10, h⟩ := bd h
  refine xv_cvo E eh12 2 (as := []) (t65 G l (c_I_some h10)) cd65 mw386 mw370 mw371 (show decode prog_9_method_2_code 15 = .ok (.invokevirtual 28, 3) by decide +kernel) th12 rfl rfl (Nat.le_of_ble_eq_true rfl) ⟨Nat.le_of_ble_eq_true rfl, Nat.le_of_ble_eq_true rfl⟩ ?_
  obtain ⟨M13, h14, h⟩ := bd h
  refine xp_i E 7 2 h14 mw385 (show decode prog_9_method_2_code 18 = .ok (.putfield 31, 3) by decide +kernel) (Or.inl rfl) ?_
  refine xv_b E [.aload_n 0, .iload_n 2] (pc' := 23) (lv' := [(0, .inr (.inr (some a0))), (1, .inr (.inr o1)), (2, .inl v2), (3, .inl v3)]) (st' := [.inl v2, .inr (.inr (some a0))]) (by decide +kernel) rfl rfl ?_
  obtain ⟨M15, h16, h⟩ := bd h
  refine xp_i E 7 3 h16 mw426 (show decode prog_9_method_2_code 23 = .ok (.putfield 33, 3) by decide +kernel) (Or.inl rfl) ?_
  refine xv_b E [.aload_n 0, .aload_n 1, .iconst 0] (pc' := 29) (lv' := [(0, .inr (.inr (some a0))), (1, .inr (.inr o1)), (2, .inl v2), (3, .inl v3)]) (st' := [.inl (0 : Int32), .inr (.inr o1), .inr (.inr (some a0))]) (by decide +kernel) rfl rfl ?_
  obtain ⟨b_19, h20, h⟩ := bd h
  obtain ⟨eh20, th20⟩ := g_o_some h20
  obtain ⟨q_17, h18, h⟩ := bd h
  refine xv_cvo E eh20 2 (as := [.inl (0 : Int32)]) (t58 G l (c_I_some h18)) cd58 mw427 mw342 mw343 (show decode prog_9_method_2_code 29 = .ok (.invokevirtual 36, 3) by decide +kernel) th20 rfl rfl (Nat.le_of_ble_eq_true rfl) ⟨Nat.le_of_ble_eq_true rfl, Nat.le_of_ble_eq_true rfl⟩ ?_
  refine xv_b E [.bipush 16, .imul, .aload_n 1, .iconst 2] (pc' := 37) (lv' := [(0, .inr (.inr (some a0))), (1, .inr (.inr o1)), (2, .inl v2), (3, .inl v3)]) (st' := [.inl (2 : Int32), .inr (.inr o1), .inl (q_17.1 * (16 : Int32)), .inr (.inr (some a0))]) (by decide +kernel) rfl rfl ?_
  obtain ⟨b_23, h24, h⟩ := bd h
  obtain ⟨eh24, th24⟩ := g_o_some h24
  obtain ⟨q_21, h22, h⟩ := bd h
  refine xv_cvo E eh24 2 (as := [.inl (2 : Int32)]) (t58 G l (c_I_some h22)) cd58 mw427 mw342 mw343 (show decode prog_9_method_2_code 37 = .ok (.invokevirtual 36, 3) by decide +kernel) th24 rfl rfl (Nat.le_of_ble_eq_true rfl) ⟨Nat.le_of_ble_eq_true rfl, Nat.le_of_ble_eq_true rfl⟩ ?_
  refine xv_b E [.iadd] (pc' := 41) (lv' := [(0, .inr (.inr (some a0))), (1, .inr (.inr o1)), (2, .inl v2), (3, .inl v3)]) (st' := [.inl ((q_17.1 * (16 : Int32)) + q_21.1), .inr (.inr (some a0))]) (by decide +kernel) rfl rfl ?_
  obtain ⟨M25, h26, h⟩ := bd h
  refine xp_i E 7 4 h26 mw428 (show decode prog_9_method_2_code 41 = .ok (.putfield 40, 3) by decide +kernel) (Or.inl rfl) ?_
  refine xv_b E [.aload_n 0, .aload_n 1, .iconst 3] (pc' := 47) (lv' := [(0, .inr (.inr (some a0))), (1, .inr (.inr o1)), (2, .inl v2), (3, .inl v3)]) (st' := [.inl (3 : Int32), .inr (.inr o1), .inr (.inr (some a0))]) (by decide +kernel) rfl rfl ?_
  obtain ⟨b_29, h30, h⟩ := bd h
  obtain ⟨eh30, th30⟩ := g_o_some h30
  obtain ⟨q_27, h28, h⟩ := bd h
  refine xv_cvo E eh30 2 (as := [.inl (3 : Int32)]) (t58 G l (c_I_some h28)) cd58 mw427 mw342 mw343 (show decode prog_9_method_2_code 47 = .ok (.invokevirtual 36, 3) by decide +kernel) th30 rfl rfl (Nat.le_of_ble_eq_true rfl) ⟨Nat.le_of_ble_eq_true rfl, Nat.le_of_ble_eq_true rfl⟩ ?_
  obtain ⟨M31, h32, h⟩ := bd h
  refine xp_i E 7 5 h32 mw399 (show decode prog_9_method_2_code 50 = .ok (.putfield 43, 3) by decide +kernel) (Or.inl rfl) ?_
  refine xv_b E [.aload_n 0, .iload_n 3] (pc' := 55) (lv' := [(0, .inr (.inr (some a0))), (1, .inr (.inr o1)), (2, .inl v2), (3, .inl v3)]) (st' := [.inl v3, .inr (.inr (some a0))]) (by decide +kernel) rfl rfl ?_
  obtain ⟨M33, h34, h⟩ := bd h
  refine xp_i E 7 6 h34 mw429 (show decode prog_9_method_2_code 55 = .ok (.putfield 46, 3) by decide +kernel) (Or.inl rfl) ?_
  refine xv_b E [.aload_n 0, .iconst 0] (pc' := 60) (lv' := [(0, .inr (.inr (some a0))), (1, .inr (.inr o1)), (2, .inl v2), (3, .inl v3)]) (st' := [.inl (0 : Int32), .inr (.inr (some a0))]) (by decide +kernel) rfl rfl ?_
  obtain ⟨M35, h36, h⟩ := bd h
  refine xp_i E 7 7 h36 mw397 (show decode prog_9_method_2_code 60 = .ok (.putfield 49, 3) by decide +kernel) (Or.inl rfl) ?_
  obtain rfl := Option.some.inj h
  obtain ⟨rfl, rfl⟩ := Prod.mk.inj (show ((none : Option aV), M35) = (r, M') from hN)
  exact xv_rv E B.1 B.2.1 (show decode prog_9_method_2_code 63 = .ok (.return_, 1) by decide +kernel) rfl rfl
end
theorem t79 (G : gX) (l : Launch) {as : List aV} {M : hM} {r : Option aV} {M' : hM} (h : f79 as M = some (r, M')) : xM G l ym79 prog_9_method_2_code 4 none 3 as M r M' := by
  unfold f79 at h
  split at h
  · have h := x_out_ok h
    refine xM_of (by decide) (Nat.le_of_ble_eq_true rfl) (lb79_0 G l _ _ _ _ M h) ?_
    intro p e s m args below meth c E B
    exact sb79_0 E B _ _ _ _ M h rfl
  · cases h
/-! ZF.Disc.takeCommand(LZF$Frame;)V -/
def ym80 : MethodName := ⟨"ZonedFabric$Disc", "takeCommand", "(LZonedFabric$Frame;)V"⟩
theorem cd80 : xCd ym80 prog_3_method_9_code 7 none 1 := ⟨mw430, mw105, by decide, by decide, by decide +kernel⟩
def b80_177  (M : hM) : Option xRes :=
  some (.inl (none, M))
def b80_88 (a0 : Nat) (o1 : Option Nat) (M : hM) : Option xRes :=
  Option.bind (g_o M 1 (some a0)) fun b_39 =>
  Option.bind (c_V (f67 [.inr (.inr (some b_39)), .inl (12 : Int32), .inr (.inr o1), .inl (0 : Int32), .inl (1 : Int32), .inr (.inl (1 : Int64))] M)) fun q_37 =>
  b80_177  q_37
def b80_101 (a0 : Nat) (o1 : Option Nat) (v2 : Int32) (v3 : Int32) (v4 : Int32) (v5 : Int32) (o6 : Option Nat) (M : hM) : Option xRes :=
  if v3 = 0 then
    (Option.bind (g_o M 1 (some a0)) fun b_43 =>
    Option.bind (c_V (f78 [.inr (.inr (some b_43)), .inr (.inr o1), .inl ((v2 * (16 : Int32)) + v4), .inl v5] M)) fun q_41 =>
    Option.bind (g_o q_41 1 (some a0)) fun b_47 =>
    Option.bind (c_V (f67 [.inr (.inr (some b_47)), .inl (12 : Int32), .inr (.inr o1), .inl (0 : Int32), .inl (1 : Int32), .inr (.inl (0 : Int64))] q_41)) fun q_45 =>
    b80_177  q_45)
  else
    (Option.bind (g_i M 1 6 (some a0)) fun v_49 =>
    Option.bind (p_i M 1 6 (some a0) ((v_49 + (1 : Int32)) &&& (65535 : Int32))) fun M51 =>
    Option.bind (g_i M51 1 6 (some a0)) fun v_53 =>
    Option.bind (g_r M51 1 0 (some a0)) fun o_55 =>
    Option.bind (g_i M51 9 3 o_55) fun v_57 =>
    Option.bind (g_o M51 7 o6) fun b_61 =>
    Option.bind (c_V (f79 [.inr (.inr (some b_61)), .inr (.inr o1), .inl v_53, .inl v_57] M51)) fun q_59 =>
    Option.bind (g_i q_59 1 6 (some a0)) fun v_63 =>
    Option.bind (g_o q_59 1 (some a0)) fun b_67 =>
    Option.bind (c_V (f67 [.inr (.inr (some b_67)), .inl (10 : Int32), .inr (.inr o1), .inl v_63, .inl (1 : Int32), .inr (.inl (Int32.toInt64 v5))] q_59)) fun q_65 =>
    b80_177  q_65)
def b80_20 (a0 : Nat) (o1 : Option Nat) (v2 : Int32) (si0 : Int32) (M : hM) : Option xRes :=
  Option.bind (g_o M 2 o1) fun b_12 =>
  Option.bind (c_I (f58 [.inr (.inr (some b_12)), .inl (2 : Int32)] M)) fun q_10 =>
  Option.bind (g_o q_10.2 2 o1) fun b_16 =>
  Option.bind (c_I (f58 [.inr (.inr (some b_16)), .inl (3 : Int32)] q_10.2)) fun q_14 =>
  Option.bind (g_o q_14.2 1 (some a0)) fun b_20 =>
  Option.bind (c_R (f76 [.inr (.inr (some b_20))] q_14.2)) fun q_18 =>
  Option.bind (g_o q_18.2 2 o1) fun b_24 =>
  Option.bind (c_I (f65 [.inr (.inr (some b_24))] q_18.2)) fun q_22 =>
  Option.bind (g_o q_22.2 1 (some a0)) fun b_28 =>
  Option.bind (c_I (f77 [.inr (.inr (some b_28)), .inl q_22.1] q_22.2)) fun q_26 =>
  if q_26.1 = 0 then
    (b80_88 a0 o1 q_26.2)
  else
    (if (2 : Int32) ≤ v2 then
      (b80_88 a0 o1 q_26.2)
    else
      (if q_14.1 < (1 : Int32) then
        (b80_88 a0 o1 q_26.2)
      else
        (if (4 : Int32) < q_14.1 then
          (b80_88 a0 o1 q_26.2)
        else
          (if (16 : Int32) < (q_10.1 + q_14.1) then
            (b80_88 a0 o1 q_26.2)
          else
            (if si0 = 0 then
              (b80_101 a0 o1 v2 si0 q_10.1 q_14.1 q_18.1 q_26.2)
            else
              (if q_18.1 = none then
                (b80_88 a0 o1 q_26.2)
              else
                (b80_101 a0 o1 v2 si0 q_10.1 q_14.1 q_18.1 q_26.2)))))))
def b80_0 (a0 : Nat) (o1 : Option Nat) (M : hM) : Option xRes :=
  Option.bind (g_o M 2 o1) fun b_3 =>
  Option.bind (c_I (f58 [.inr (.inr (some b_3)), .inl (0 : Int32)] M)) fun q_1 =>
  Option.bind (g_o q_1.2 2 o1) fun b_7 =>
  Option.bind (c_I (f58 [.inr (.inr (some b_7)), .inl (1 : Int32)] q_1.2)) fun q_5 =>
  if q_5.1 = (1 : Int32) then
    (b80_20 a0 o1 q_1.1 (1 : Int32) q_5.2)
  else
    (b80_20 a0 o1 q_1.1 (0 : Int32) q_5.2)
def f80 (as : List aV) (M : hM) : xO := match as with
  | [.inr (.inr (some a0)), .inr (.inr o1)] => x_out (b80_0 a0 o1 M)
  | _ => none
theorem lb80_177 (G : gX) (l : Launch)  (M : hM) {res : xRes} (h : b80_177  M = some res) : h_sz M ≤ r_sz res ∧ h_sl M ≤ r_sl res := by
  unfold b80_177 at h
  obtain rfl := Option.some.inj h
  show h_sz M ≤ h_sz M ∧ h_sl M ≤ h_sl M
  omega
theorem lb80_88 (G : gX) (l : Launch) (a0 : Nat) (o1 : Option Nat) (M : hM) {res : xRes} (h : b80_88 a0 o1 M = some res) : h_sz M ≤ r_sz res ∧ h_sl M ≤ r_sl res := by
  unfold b80_88 at h
  obtain ⟨b_39, h40, h⟩ := bd h
  obtain ⟨q_37, h38, h⟩ := bd h
  have eh38 := (t67 G l (c_V_some h38)).1
  have e := lb80_177 G l  q_37 h
  omega
theorem lb80_101 (G : gX) (l : Launch) (a0 : Nat) (o1 : Option Nat) (v2 : Int32) (v3 : Int32) (v4 : Int32) (v5 : Int32) (o6 : Option Nat) (M : hM) {res : xRes} (h : b80_101 a0 o1 v2 v3 v4 v5 o6 M = some res) : h_sz M ≤ r_sz res ∧ h_sl M ≤ r_sl res := by
  unfold b80_101 at h
  by_cases q69 : v3 = 0
  · rw [if_pos q69] at h
    obtain ⟨b_43, h44, h⟩ := bd h
    obtain ⟨q_41, h42, h⟩ := bd h
    have eh42 := (t78 G l (c_V_some h42)).1
    obtain ⟨b_47, h48, h⟩ := bd h
    obtain ⟨q_45, h46, h⟩ := bd h
    have eh46 := (t67 G l (c_V_some h46)).1
    have e := lb80_177 G l  q_45 h
    omega
  · rw [if_neg q69] at h
    obtain ⟨v_49, h50, h⟩ := bd h
    obtain ⟨M51, h52, h⟩ := bd h
    have eh52 := p_i_sz h52
    obtain ⟨v_53, h54, h⟩ := bd h
    obtain ⟨o_55, h56, h⟩ := bd h
    obtain ⟨v_57, h58, h⟩ := bd h
    obtain ⟨b_61, h62, h⟩ := bd h
    obtain ⟨q_59, h60, h⟩ := bd h
    have eh60 := (t79 G l (c_V_some h60)).1
    obtain ⟨v_63, h64, h⟩ := bd h
    obtain ⟨b_67, h68, h⟩ := bd h
    obtain ⟨q_65, h66, h⟩ := bd h
    have eh66 := (t67 G l (c_V_some h66)).1
    have e := lb80_177 G l  q_65 h
    omega
theorem lb80_20 (G : gX) (l : Launch) (a0 : Nat) (o1 : Option Nat) (v2 : Int32) (si0 : Int32) (M : hM) {res : xRes} (h : b80_20 a0 o1 v2 si0 M = some res) : h_sz M ≤ r_sz res ∧ h_sl M ≤ r_sl res := by
  unfold b80_20 at h
  obtain ⟨b_12, h13, h⟩ := bd h
  obtain ⟨q_10, h11, h⟩ := bd h
  have eh11 := (t58 G l (c_I_some h11)).1
  obtain ⟨b_16, h17, h⟩ := bd h
  obtain ⟨q_14, h15, h⟩ := bd h
  have eh15 := (t58 G l (c_I_some h15)).1
  obtain ⟨b_20, h21, h⟩ := bd h
  obtain ⟨q_18, h19, h⟩ := bd h
  have eh19 := (t76 G l (c_R_some h19)).1
  obtain ⟨b_24, h25, h⟩ := bd h
  obtain ⟨q_22, h23, h⟩ := bd h
  have eh23 := (t65 G l (c_I_some h23)).1
  obtain ⟨b_28, h29, h⟩ := bd h
  obtain ⟨q_26, h27, h⟩ := bd h
  have eh27 := (t77 G l (c_I_some h27)).1
  by_cases q36 : q_26.1 = 0
  · rw [if_pos q36] at h
    have e := lb80_88 G l a0 o1 q_26.2 h
    omega
  · rw [if_neg q36] at h
    by_cases q35 : (2 : Int32) ≤ v2
    · rw [if_pos q35] at h
      have e := lb80_88 G l a0 o1 q_26.2 h
      omega
    · rw [if_neg q35] at h
      by_cases q34 : q_14.1 < (1 : Int32)
      · rw [if_pos q34] at h
        have e := lb80_88 G l a0 o1 q_26.2 h
        omega
      · rw [if_neg q34] at h
        by_cases q33 : (4 : Int32) < q_14.1
        · rw [if_pos q33] at h
          have e := lb80_88 G l a0 o1 q_26.2 h
          omega
        · rw [if_neg q33] at h
          by_cases q32 : (16 : Int32) < (q_10.1 + q_14.1)
          · rw [if_pos q32] at h
            have e := lb80_88 G l a0 o1 q_26.2 h
            omega
          · rw [if_neg q32] at h
            by_cases q31 : si0 = 0
            · rw [if_pos q31] at h
              have e := lb80_101 G l a0 o1 v2 si0 q_10.1 q_14.1 q_18.1 q_26.2 h
              omega
            · rw [if_neg q31] at h
              by_cases q30 : q_18.1 = none
              · rw [if_pos q30] at h
                have e := lb80_88 G l a0 o1 q_26.2 h
                omega
              · rw [if_neg q30] at h
                have e := lb80_101 G l a0 o1 v2 si0 q_10.1 q_14.1 q_18.1 q_26.2 h
                omega
theorem lb80_0 (G : gX) (l : Launch) (a0 : Nat) (o1 : Option Nat) (M : hM) {res : xRes} (h : b80_0 a0 o1 M = some res) : h_sz M ≤ r_sz res ∧ h_sl M ≤ r_sl res := by
  unfold b80_0 at h
  obtain ⟨b_3, h4, h⟩ := bd h
  obtain ⟨q_1, h2, h⟩ := bd h
  have eh2 := (t58 G l (c_I_some h2)).1
  obtain ⟨b_7, h8, h⟩ := bd h
  obtain ⟨q_5, h6, h⟩ := bd h
  have eh6 := (t58 G l (c_I_some h6)).1
  by_cases q9 : q_5.1 = (1 : Int32)
  · rw [if_pos q9] at h
    have e := lb80_20 G l a0 o1 q_1.1 (1 : Int32) q_5.2 h
    omega
  · rw [if_neg q9] at h
    have e := lb80_20 G l a0 o1 q_1.1 (0 : Int32) q_5.2 h
    omega
section
variable {p : Program} {l : Launch} {e : Env} {s : State} {m : MethodId} {args : Array Value} {below : List Frame} {meth : Method} {c : Code} {G : gX} {z0 y0 : Nat} {r : Option aV} {M' : hM}
theorem sb80_177 (E : xE G p (xRm 4 (h_sz M' - z0) (h_sl M' - y0)) s m args c prog_3_method_9_code "ZonedFabric$Disc" z0 y0 (h_sz M') (h_sl M') 7) (B : xB ym80 none meth)  (M : hM) {res : xRes} (h : b80_177  M = some res) (hN : xN (fun _ _ _ => False) r M' res) : xV G p l e (xRm 4 (h_sz M' - z0) (h_sl M' - y0)) s m args below meth c z0 y0 (h_sz M') (h_sl M') 7 (MQ below (xQc G r M') args s (h_sz M' - z0) (h_sl M' - y0) (xFr G)) 177 [] [] M := by
  unfold b80_177 at h
  obtain rfl := Option.some.inj h
  obtain ⟨rfl, rfl⟩ := Prod.mk.inj (show ((none : Option aV), M) = (r, M') from hN)
  exact xv_rv E B.1 B.2.1 (show decode prog_3_method_9_code 177 = .ok (.return_, 1) by decide +kernel) rfl rfl
theorem sb80_88 (E : xE G p (xRm 4 (h_sz M' - z0) (h_sl M' - y0)) s m args c prog_3_method_9_code "ZonedFabric$Disc" z0 y0 (h_sz M') (h_sl M') 7) (B : xB ym80 none meth) (a0 : Nat) (o1 : Option Nat) (M : hM) {res : xRes} (h : b80_88 a0 o1 M = some res) (hN : xN (fun _ _ _ => False) r M' res) : xV G p l e (xRm 4 (h_sz M' - z0) (h_sl M' - y0)) s m args below meth c z0 y0 (h_sz M') (h_sl M') 7 (MQ below (xQc G r M') args s (h_sz M' - z0) (h_sl M' - y0) (xFr G)) 88 [(0, .inr (.inr (some a0))), (1, .inr (.inr o1))] [] M := by
  unfold b80_88 at h
  refine xv_b E [.aload_n 0, .bipush 12, .aload_n 1, .iconst 0, .iconst 1, .lconst 1] (pc' := 95) (lv' := [(0, .inr (.inr (some a0))), (1, .inr (.inr o1))]) (st' := [.inr (.inl (1 : Int64)), .inl (1 : Int32), .inl (0 : Int32), .inr (.inr o1), .inl (12 : Int32), .inr (.inr (some a0))]) (by decide +kernel) rfl rfl ?_
  obtain ⟨b_39, h40, h⟩ := bd h
  obtain ⟨eh40, th40⟩ := g_o_some h40
  obtain ⟨q_37, h38, h⟩ := bd h
  refine xv_cvo E eh40 1 (as := [.inl (12 : Int32), .inr (.inr o1), .inl (0 : Int32), .inl (1 : Int32), .inr (.inl (1 : Int64))]) (t67 G l (c_V_some h38)) cd67 mw388 mw389 mw390 (show decode prog_3_method_9_code 95 = .ok (.invokevirtual 63, 3) by decide +kernel) th40 rfl rfl (Nat.le_of_ble_eq_true rfl) ⟨Nat.le_of_ble_eq_true rfl, Nat.le_of_ble_eq_true rfl⟩ ?_
  refine xv_goto E 177 (show decode prog_3_method_9_code 98 = .ok (.goto (79), 3) by decide +kernel) rfl ?_
  exact xv_w (sb80_177 E B  q_37 h hN) rfl
theorem sb80_101 (E : xE G p (xRm 4 (h_sz M' - z0) (h_sl M' - y0)) s m args c prog_3_method_9_code "ZonedFabric$Disc" z0 y0 (h_sz M') (h_sl M') 7) (B : xB ym80 none meth) (a0 : Nat) (o1 : Option Nat) (v2 : Int32) (v3 : Int32) (v4 : Int32) (v5 : Int32) (o6 : Option Nat) (M : hM) {res : xRes} (h : b80_101 a0 o1 v2 v3 v4 v5 o6 M = some res) (hN : xN (fun _ _ _ => False) r M' res) : xV G p l e (xRm 4 (h_sz M' - z0) (h_sl M' - y0)) s m args below meth c z0 y0 (h_sz M') (h_sl M') 7 (MQ below (xQc G r M') args s (h_sz M' - z0) (h_sl M' - y0) (xFr G)) 101 [(0, .inr (.inr (some a0))), (1, .inr (.inr o1)), (2, .inl v2), (3, .inl v3), (4, .inl v4), (5, .inl v5), (6, .inr (.inr o6))] [] M := by
  unfold b80_101 at h
  refine xv_b E [.iload_n 3] (pc' := 102) (lv' := [(0, .inr (.inr (some a0))), (1, .inr (.inr o1)), (2, .inl v2), (3, .inl v3), (4, .inl v4), (5, .inl v5), (6, .inr (.inr o6))]) (st' := [.inl v3]) (by decide +kernel) rfl rfl ?_
  by_cases q69 : v3 = 0
  · rw [if_pos q69] at h
    refine xv_if_eq E 153 (show decode prog_3_method_9_code 102 = .ok (.ifCond .eq (51), 3) by decide +kernel) rfl (fun _ => ?_) (fun z => absurd q69 z)
    refine xv_b E [.aload_n 0, .aload_n 1, .iload_n 2, .bipush 16, .imul, .iload 4, .iadd, .iload 5] (pc' := 164) (lv' := [(0, .inr (.inr (some a0))), (1, .inr (.inr o1)), (2, .inl v2), (3, .inl v3), (4, .inl v4), (5, .inl v5), (6, .inr (.inr o6))]) (st' := [.inl v5, .inl ((v2 * (16 : Int32)) + v4), .inr (.inr o1), .inr (.inr (some a0))]) (by decide +kernel) rfl rfl ?_
    obtain ⟨b_43, h44, h⟩ := bd h
    obtain ⟨eh44, th44⟩ := g_o_some h44
    obtain ⟨q_41, h42, h⟩ := bd h
    refine xv_cvo E eh44 1 (as := [.inr (.inr o1), .inl ((v2 * (16 : Int32)) + v4), .inl v5]) (t78 G l (c_V_some h42)) cd78 mw438 mw439 mw440 (show decode prog_3_method_9_code 164 = .ok (.invokevirtual 132, 3) by decide +kernel) th44 rfl rfl (Nat.le_of_ble_eq_true rfl) ⟨Nat.le_of_ble_eq_true rfl, Nat.le_of_ble_eq_true rfl⟩ ?_
    refine xv_b E [.aload_n 0, .bipush 12, .aload_n 1, .iconst 0, .iconst 1, .lconst 0] (pc' := 174) (lv' := [(0, .inr (.inr (some a0))), (1, .inr (.inr o1)), (2, .inl v2), (3, .inl v3), (4, .inl v4), (5, .inl v5), (6, .inr (.inr o6))]) (st' := [.inr (.inl (0 : Int64)), .inl (1 : Int32), .inl (0 : Int32), .inr (.inr o1), .inl (12 : Int32), .inr (.inr (some a0))]) (by decide +kernel) rfl rfl ?_
    obtain ⟨b_47, h48, h⟩ := bd h
    obtain ⟨eh48, th48⟩ := g_o_some h48
    obtain ⟨q_45, h46, h⟩ := bd h
    refine xv_cvo E eh48 1 (as := [.inl (12 : Int32), .inr (.inr o1), .inl (0 : Int32), .inl (1 : Int32), .inr (.inl (0 : Int64))]) (t67 G l (c_V_some h46)) cd67 mw388 mw389 mw390 (show decode prog_3_method_9_code 174 = .ok (.invokevirtual 63, 3) by decide +kernel) th48 rfl rfl (Nat.le_of_ble_eq_true rfl) ⟨Nat.le_of_ble_eq_true rfl, Nat.le_of_ble_eq_true rfl⟩ ?_
    exact xv_w (sb80_177 E B  q_45 h hN) rfl
  · rw [if_neg q69] at h
    refine xv_if_eq E 153 (show decode prog_3_method_9_code 102 = .ok (.ifCond .eq (51), 3) by decide +kernel) rfl (fun z => absurd z q69) (fun _ => ?_)
    refine xv_b E [.aload_n 0, .aload_n 0] (pc' := 107) (lv' := [(0, .inr (.inr (some a0))), (1, .inr (.inr o1)), (2, .inl v2), (3, .inl v3), (4, .inl v4), (5, .inl v5), (6, .inr (.inr o6))]) (st' := [.inr (.inr (some a0)), .inr (.inr (some a0))]) (by decide +kernel) rfl rfl ?_
    obtain ⟨v_49, h50, h⟩ := bd h
    refine xg_i E 1 6 h50 mw441 (show decode prog_3_method_9_code 107 = .ok (.getfield 124, 3) by decide +kernel) ?_
    refine xv_b E [.iconst 1, .iadd] (pc' := 112) (lv' := [(0, .inr (.inr (some a0))), (1, .inr (.inr o1)), (2, .inl v2), (3, .inl v3), (4, .inl v4), (5, .inl v5), (6, .inr (.inr o6))]) (st' := [.inl (v_49 + (1 : Int32)), .inr (.inr (some a0))]) (by decide +kernel) rfl rfl ?_
    refine xv_ldc E (65535 : Int32) mw445 (show decode prog_3_method_9_code 112 = .ok (.ldc 127, 2) by decide +kernel) ?_
    refine xv_b E [.iand] (pc' := 115) (lv' := [(0, .inr (.inr (some a0))), (1, .inr (.inr o1)), (2, .inl v2), (3, .inl v3), (4, .inl v4), (5, .inl v5), (6, .inr (.inr o6))]) (st' := [.inl ((v_49 + (1 : Int32)) &&& (65535 : Int32)), .inr (.inr (some a0))]) (by decide +kernel) rfl rfl ?_
    obtain ⟨M51, h52, h⟩ := bd h
    refine xp_i E 1 6 h52 mw441 (show decode prog_3_method_9_code 115 = .ok (.putfield 124, 3) by decide +kernel) (Or.inl rfl) ?_
    refine xv_b E [.aload 6, .aload_n 1, .aload_n 0] (pc' := 122) (lv' := [(0, .inr (.inr (some a0))), (1, .inr (.inr o1)), (2, .inl v2), (3, .inl v3), (4, .inl v4), (5, .inl v5), (6, .inr (.inr o6))]) (st' := [.inr (.inr (some a0)), .inr (.inr o1), .inr (.inr o6)]) (by decide +kernel) rfl rfl ?_
    obtain ⟨v_53, h54, h⟩ := bd h
    refine xg_i E 1 6 h54 mw441 (show decode prog_3_method_9_code 122 = .ok (.getfield 124, 3) by decide +kernel) ?_
    refine xv_b E [.aload_n 0] (pc' := 126) (lv' := [(0, .inr (.inr (some a0))), (1, .inr (.inr o1)), (2, .inl v2), (3, .inl v3), (4, .inl v4), (5, .inl v5), (6, .inr (.inr o6))]) (st' := [.inr (.inr (some a0)), .inl v_53, .inr (.inr o1), .inr (.inr o6)]) (by decide +kernel) rfl rfl ?_
    obtain ⟨o_55, h56, h⟩ := bd h
    refine xg_r E 1 0 h56 mw110 (show decode prog_3_method_9_code 126 = .ok (.getfield 25, 3) by decide +kernel) ?_
    obtain ⟨v_57, h58, h⟩ := bd h
    refine xg_i E 9 3 h58 mw279 (show decode prog_3_method_9_code 129 = .ok (.getfield 42, 3) by decide +kernel) ?_
    obtain ⟨b_61, h62, h⟩ := bd h
    obtain ⟨eh62, th62⟩ := g_o_some h62
    obtain ⟨q_59, h60, h⟩ := bd h
    refine xv_cvo E eh62 7 (as := [.inr (.inr o1), .inl v_53, .inl v_57]) (t79 G l (c_V_some h60)) cd79 mw442 mw443 mw444 (show decode prog_3_method_9_code 132 = .ok (.invokevirtual 128, 3) by decide +kernel) th62 rfl rfl (Nat.le_of_ble_eq_true rfl) ⟨Nat.le_of_ble_eq_true rfl, Nat.le_of_ble_eq_true rfl⟩ ?_
    refine xv_b E [.aload_n 0, .bipush 10, .aload_n 1, .aload_n 0] (pc' := 140) (lv' := [(0, .inr (.inr (some a0))), (1, .inr (.inr o1)), (2, .inl v2), (3, .inl v3), (4, .inl v4), (5, .inl v5), (6, .inr (.inr o6))]) (st' := [.inr (.inr (some a0)), .inr (.inr o1), .inl (10 : Int32), .inr (.inr (some a0))]) (by decide +kernel) rfl rfl ?_
    obtain ⟨v_63, h64, h⟩ := bd h
    refine xg_i E 1 6 h64 mw441 (show decode prog_3_method_9_code 140 = .ok (.getfield 124, 3) by decide +kernel) ?_
    refine xv_b E [.iconst 1, .iload 5, .i2l] (pc' := 147) (lv' := [(0, .inr (.inr (some a0))), (1, .inr (.inr o1)), (2, .inl v2), (3, .inl v3), (4, .inl v4), (5, .inl v5), (6, .inr (.inr o6))]) (st' := [.inr (.inl (Int32.toInt64 v5)), .inl (1 : Int32), .inl v_63, .inr (.inr o1), .inl (10 : Int32), .inr (.inr (some a0))]) (by decide +kernel) rfl rfl ?_
    obtain ⟨b_67, h68, h⟩ := bd h
    obtain ⟨eh68, th68⟩ := g_o_some h68
    obtain ⟨q_65, h66, h⟩ := bd h
    refine xv_cvo E eh68 1 (as := [.inl (10 : Int32), .inr (.inr o1), .inl v_63, .inl (1 : Int32), .inr (.inl (Int32.toInt64 v5))]) (t67 G l (c_V_some h66)) cd67 mw388 mw389 mw390 (show decode prog_3_method_9_code 147 = .ok (.invokevirtual 63, 3) by decide +kernel) th68 rfl rfl (Nat.le_of_ble_eq_true rfl) ⟨Nat.le_of_ble_eq_true rfl, Nat.le_of_ble_eq_true rfl⟩ ?_
    refine xv_goto E 177 (show decode prog_3_method_9_code 150 = .ok (.goto (27), 3) by decide +kernel) rfl ?_
    exact xv_w (sb80_177 E B  q_65 h hN) rfl
theorem sb80_20 (E : xE G p (xRm 4 (h_sz M' - z0) (h_sl M' - y0)) s m args c prog_3_method_9_code "ZonedFabric$Disc" z0 y0 (h_sz M') (h_sl M') 7) (B : xB ym80 none meth) (a0 : Nat) (o1 : Option Nat) (v2 : Int32) (si0 : Int32) (M : hM) {res : xRes} (h : b80_20 a0 o1 v2 si0 M = some res) (hN : xN (fun _ _ _ => False) r M' res) : xV G p l e (xRm 4 (h_sz M' - z0) (h_sl M' - y0)) s m args below meth c z0 y0 (h_sz M') (h_sl M') 7 (MQ below (xQc G r M') args s (h_sz M' - z0) (h_sl M' - y0) (xFr G)) 20 [(0, .inr (.inr (some a0))), (1, .inr (.inr o1)), (2, .inl v2)] [.inl si0] M := by
  unfold b80_20 at h
  refine xv_b E [.istore_n 3, .aload_n 1, .iconst 2] (pc' := 23) (lv' := [(3, .inl si0), (0, .inr (.inr (some a0))), (1, .inr (.inr o1)), (2, .inl v2)]) (st' := [.inl (2 : Int32), .inr (.inr o1)]) (by decide +kernel) rfl rfl ?_
  obtain ⟨b_12, h13, h⟩ := bd h
  obtain ⟨eh13, th13⟩ := g_o_some h13
  obtain ⟨q_10, h11, h⟩ := bd h
  refine xv_cvo E eh13 2 (as := [.inl (2 : Int32)]) (t58 G l (c_I_some h11)) cd58 mw431 mw342 mw343 (show decode prog_3_method_9_code 23 = .ok (.invokevirtual 116, 3) by decide +kernel) th13 rfl rfl (Nat.le_of_ble_eq_true rfl) ⟨Nat.le_of_ble_eq_true rfl, Nat.le_of_ble_eq_true rfl⟩ ?_
  refine xv_b E [.istore 4, .aload_n 1, .iconst 3] (pc' := 30) (lv' := [(4, .inl q_10.1), (3, .inl si0), (0, .inr (.inr (some a0))), (1, .inr (.inr o1)), (2, .inl v2)]) (st' := [.inl (3 : Int32), .inr (.inr o1)]) (by decide +kernel) rfl rfl ?_
  obtain ⟨b_16, h17, h⟩ := bd h
  obtain ⟨eh17, th17⟩ := g_o_some h17
  obtain ⟨q_14, h15, h⟩ := bd h
  refine xv_cvo E eh17 2 (as := [.inl (3 : Int32)]) (t58 G l (c_I_some h15)) cd58 mw431 mw342 mw343 (show decode prog_3_method_9_code 30 = .ok (.invokevirtual 116, 3) by decide +kernel) th17 rfl rfl (Nat.le_of_ble_eq_true rfl) ⟨Nat.le_of_ble_eq_true rfl, Nat.le_of_ble_eq_true rfl⟩ ?_
  refine xv_b E [.istore 5, .aload_n 0] (pc' := 36) (lv' := [(5, .inl q_14.1), (4, .inl q_10.1), (3, .inl si0), (0, .inr (.inr (some a0))), (1, .inr (.inr o1)), (2, .inl v2)]) (st' := [.inr (.inr (some a0))]) (by decide +kernel) rfl rfl ?_
  obtain ⟨b_20, h21, h⟩ := bd h
  obtain ⟨eh21, th21⟩ := g_o_some h21
  obtain ⟨q_18, h19, h⟩ := bd h
  refine xv_cvo E eh21 1 (as := []) (t76 G l (c_R_some h19)) cd76 mw432 mw433 mw434 (show decode prog_3_method_9_code 36 = .ok (.invokevirtual 120, 3) by decide +kernel) th21 rfl rfl (Nat.le_of_ble_eq_true rfl) ⟨Nat.le_of_ble_eq_true rfl, Nat.le_of_ble_eq_true rfl⟩ ?_
  refine xv_b E [.astore 6, .aload_n 0, .aload_n 1] (pc' := 43) (lv' := [(6, .inr (.inr q_18.1)), (5, .inl q_14.1), (4, .inl q_10.1), (3, .inl si0), (0, .inr (.inr (some a0))), (1, .inr (.inr o1)), (2, .inl v2)]) (st' := [.inr (.inr o1), .inr (.inr (some a0))]) (by decide +kernel) rfl rfl ?_
  obtain ⟨b_24, h25, h⟩ := bd h
  obtain ⟨eh25, th25⟩ := g_o_some h25
  obtain ⟨q_22, h23, h⟩ := bd h
  refine xv_cvo E eh25 2 (as := []) (t65 G l (c_I_some h23)) cd65 mw369 mw370 mw371 (show decode prog_3_method_9_code 43 = .ok (.invokevirtual 56, 3) by decide +kernel) th25 rfl rfl (Nat.le_of_ble_eq_true rfl) ⟨Nat.le_of_ble_eq_true rfl, Nat.le_of_ble_eq_true rfl⟩ ?_
  obtain ⟨b_28, h29, h⟩ := bd h
  obtain ⟨eh29, th29⟩ := g_o_some h29
  obtain ⟨q_26, h27, h⟩ := bd h
  refine xv_cvo E eh29 1 (as := [.inl q_22.1]) (t77 G l (c_I_some h27)) cd77 mw435 mw436 mw437 (show decode prog_3_method_9_code 46 = .ok (.invokevirtual 106, 3) by decide +kernel) th29 rfl rfl (Nat.le_of_ble_eq_true rfl) ⟨Nat.le_of_ble_eq_true rfl, Nat.le_of_ble_eq_true rfl⟩ ?_
  by_cases q36 : q_26.1 = 0
  · rw [if_pos q36] at h
    refine xv_if_eq E 88 (show decode prog_3_method_9_code 49 = .ok (.ifCond .eq (39), 3) by decide +kernel) rfl (fun _ => ?_) (fun z => absurd q36 z)
    exact xv_w (sb80_88 E B a0 o1 q_26.2 h hN) rfl
  · rw [if_neg q36] at h
    refine xv_if_eq E 88 (show decode prog_3_method_9_code 49 = .ok (.ifCond .eq (39), 3) by decide +kernel) rfl (fun z => absurd z q36) (fun _ => ?_)
    refine xv_b E [.iload_n 2, .iconst 2] (pc' := 54) (lv' := [(6, .inr (.inr q_18.1)), (5, .inl q_14.1), (4, .inl q_10.1), (3, .inl si0), (0, .inr (.inr (some a0))), (1, .inr (.inr o1)), (2, .inl v2)]) (st' := [.inl (2 : Int32), .inl v2]) (by decide +kernel) rfl rfl ?_
    by_cases q35 : (2 : Int32) ≤ v2
    · rw [if_pos q35] at h
      refine xv_icmp_ge E 88 (show decode prog_3_method_9_code 54 = .ok (.if_icmp .ge (34), 3) by decide +kernel) rfl (fun _ => ?_) (fun z => absurd q35 z)
      exact xv_w (sb80_88 E B a0 o1 q_26.2 h hN) rfl
    · rw [if_neg q35] at h
      refine xv_icmp_ge E 88 (show decode prog_3_method_9_code 54 = .ok (.if_icmp .ge (34), 3) by decide +kernel) rfl (fun z => absurd z q35) (fun _ => ?_)
      refine xv_b E [.iload 5, .iconst 1] (pc' := 60) (lv' := [(6, .inr (.inr q_18.1)), (5, .inl q_14.1), (4, .inl q_10.1), (3, .inl si0), (0, .inr (.inr (some a0))), (1, .inr (.inr o1)), (2, .inl v2)]) (st' := [.inl (1 : Int32), .inl q_14.1]) (by decide +kernel) rfl rfl ?_
      by_cases q34 : q_14.1 < (1 : Int32)
      · rw [if_pos q34] at h
        refine xv_icmp_lt E 88 (show decode prog_3_method_9_code 60 = .ok (.if_icmp .lt (28), 3) by decide +kernel) rfl (fun _ => ?_) (fun z => absurd q34 z)
        exact xv_w (sb80_88 E B a0 o1 q_26.2 h hN) rfl
      · rw [if_neg q34] at h
        refine xv_icmp_lt E 88 (show decode prog_3_method_9_code 60 = .ok (.if_icmp .lt (28), 3) by decide +kernel) rfl (fun z => absurd z q34) (fun _ => ?_)
        refine xv_b E [.iload 5, .iconst 4] (pc' := 66) (lv' := [(6, .inr (.inr q_18.1)), (5, .inl q_14.1), (4, .inl q_10.1), (3, .inl si0), (0, .inr (.inr (some a0))), (1, .inr (.inr o1)), (2, .inl v2)]) (st' := [.inl (4 : Int32), .inl q_14.1]) (by decide +kernel) rfl rfl ?_
        by_cases q33 : (4 : Int32) < q_14.1
        · rw [if_pos q33] at h
          refine xv_icmp_gt E 88 (show decode prog_3_method_9_code 66 = .ok (.if_icmp .gt (22), 3) by decide +kernel) rfl (fun _ => ?_) (fun z => absurd q33 z)
          exact xv_w (sb80_88 E B a0 o1 q_26.2 h hN) rfl
        · rw [if_neg q33] at h
          refine xv_icmp_gt E 88 (show decode prog_3_method_9_code 66 = .ok (.if_icmp .gt (22), 3) by decide +kernel) rfl (fun z => absurd z q33) (fun _ => ?_)
          refine xv_b E [.iload 4, .iload 5, .iadd, .bipush 16] (pc' := 76) (lv' := [(6, .inr (.inr q_18.1)), (5, .inl q_14.1), (4, .inl q_10.1), (3, .inl si0), (0, .inr (.inr (some a0))), (1, .inr (.inr o1)), (2, .inl v2)]) (st' := [.inl (16 : Int32), .inl (q_10.1 + q_14.1)]) (by decide +kernel) rfl rfl ?_
          by_cases q32 : (16 : Int32) < (q_10.1 + q_14.1)
          · rw [if_pos q32] at h
            refine xv_icmp_gt E 88 (show decode prog_3_method_9_code 76 = .ok (.if_icmp .gt (12), 3) by decide +kernel) rfl (fun _ => ?_) (fun z => absurd q32 z)
            exact xv_w (sb80_88 E B a0 o1 q_26.2 h hN) rfl
          · rw [if_neg q32] at h
            refine xv_icmp_gt E 88 (show decode prog_3_method_9_code 76 = .ok (.if_icmp .gt (12), 3) by decide +kernel) rfl (fun z => absurd z q32) (fun _ => ?_)
            refine xv_b E [.iload_n 3] (pc' := 80) (lv' := [(6, .inr (.inr q_18.1)), (5, .inl q_14.1), (4, .inl q_10.1), (3, .inl si0), (0, .inr (.inr (some a0))), (1, .inr (.inr o1)), (2, .inl v2)]) (st' := [.inl si0]) (by decide +kernel) rfl rfl ?_
            by_cases q31 : si0 = 0
            · rw [if_pos q31] at h
              refine xv_if_eq E 101 (show decode prog_3_method_9_code 80 = .ok (.ifCond .eq (21), 3) by decide +kernel) rfl (fun _ => ?_) (fun z => absurd q31 z)
              exact xv_w (sb80_101 E B a0 o1 v2 si0 q_10.1 q_14.1 q_18.1 q_26.2 h hN) rfl
            · rw [if_neg q31] at h
              refine xv_if_eq E 101 (show decode prog_3_method_9_code 80 = .ok (.ifCond .eq (21), 3) by decide +kernel) rfl (fun z => absurd z q31) (fun _ => ?_)
              refine xv_b E [.aload 6] (pc' := 85) (lv' := [(6, .inr (.inr q_18.1)), (5, .inl q_14.1), (4, .inl q_10.1), (3, .inl si0), (0, .inr (.inr (some a0))), (1, .inr (.inr o1)), (2, .inl v2)]) (st' := [.inr (.inr q_18.1)]) (by decide +kernel) rfl rfl ?_
              by_cases q30 : q_18.1 = none
              · rw [if_pos q30] at h
                refine xi_nonnull E 101 (show decode prog_3_method_9_code 85 = .ok (.ifnonnull (16), 3) by decide +kernel) rfl (fun z => absurd q30 z) (fun _ => ?_)
                exact xv_w (sb80_88 E B a0 o1 q_26.2 h hN) rfl
              · rw [if_neg q30] at h
                refine xi_nonnull E 101 (show decode prog_3_method_9_code 85 = .ok (.ifnonnull (16), 3) by decide +kernel) rfl (fun _ => ?_) (fun z => absurd z q30)
                exact xv_w (sb80_101 E B a0 o1 v2 si0 q_10.1 q_14.1 q_18.1 q_26.2 h hN) rfl
theorem sb80_0 (E : xE G p (xRm 4 (h_sz M' - z0) (h_sl M' - y0)) s m args c prog_3_method_9_code "ZonedFabric$Disc" z0 y0 (h_sz M') (h_sl M') 7) (B : xB ym80 none meth) (a0 : Nat) (o1 : Option Nat) (M : hM) {res : xRes} (h : b80_0 a0 o1 M = some res) (hN : xN (fun _ _ _ => False) r M' res) : xV G p l e (xRm 4 (h_sz M' - z0) (h_sl M' - y0)) s m args below meth c z0 y0 (h_sz M') (h_sl M') 7 (MQ below (xQc G r M') args s (h_sz M' - z0) (h_sl M' - y0) (xFr G)) 0 [(0, .inr (.inr (some a0))), (1, .inr (.inr o1))] [] M := by
  unfold b80_0 at h
  refine xv_b E [.aload_n 1, .iconst 0] (pc' := 2) (lv' := [(0, .inr (.inr (some a0))), (1, .inr (.inr o1))]) (st' := [.inl (0 : Int32), .inr (.inr o1)]) (by decide +kernel) rfl rfl ?_
  obtain ⟨b_3, h4, h⟩ := bd h
  obtain ⟨eh4, th4⟩ := g_o_some h4
  obtain ⟨q_1, h2, h⟩ := bd h
  refine xv_cvo E eh4 2 (as := [.inl (0 : Int32)]) (t58 G l (c_I_some h2)) cd58 mw431 mw342 mw343 (show decode prog_3_method_9_code 2 = .ok (.invokevirtual 116, 3) by decide +kernel) th4 rfl rfl (Nat.le_of_ble_eq_true rfl) ⟨Nat.le_of_ble_eq_true rfl, Nat.le_of_ble_eq_true rfl⟩ ?_
  refine xv_b E [.istore_n 2, .aload_n 1, .iconst 1] (pc' := 8) (lv' := [(2, .inl q_1.1), (0, .inr (.inr (some a0))), (1, .inr (.inr o1))]) (st' := [.inl (1 : Int32), .inr (.inr o1)]) (by decide +kernel) rfl rfl ?_
  obtain ⟨b_7, h8, h⟩ := bd h
  obtain ⟨eh8, th8⟩ := g_o_some h8
  obtain ⟨q_5, h6, h⟩ := bd h
  refine xv_cvo E eh8 2 (as := [.inl (1 : Int32)]) (t58 G l (c_I_some h6)) cd58 mw431 mw342 mw343 (show decode prog_3_method_9_code 8 = .ok (.invokevirtual 116, 3) by decide +kernel) th8 rfl rfl (Nat.le_of_ble_eq_true rfl) ⟨Nat.le_of_ble_eq_true rfl, Nat.le_of_ble_eq_true rfl⟩ ?_
  refine xv_b E [.iconst 1] (pc' := 12) (lv' := [(2, .inl q_1.1), (0, .inr (.inr (some a0))), (1, .inr (.inr o1))]) (st' := [.inl (1 : Int32), .inl q_5.1]) (by decide +kernel) rfl rfl ?_
  by_cases q9 : q_5.1 = (1 : Int32)
  · rw [if_pos q9] at h
    refine xv_icmp_ne E 19 (show decode prog_3_method_9_code 12 = .ok (.if_icmp .ne (7), 3) by decide +kernel) rfl (fun z => absurd q9 z) (fun _ => ?_)
    refine xv_b E [.iconst 1] (pc' := 16) (lv' := [(2, .inl q_1.1), (0, .inr (.inr (some a0))), (1, .inr (.inr o1))]) (st' := [.inl (1 : Int32)]) (by decide +kernel) rfl rfl ?_
    refine xv_goto E 20 (show decode prog_3_method_9_code 16 = .ok (.goto (4), 3) by decide +kernel) rfl ?_
    exact xv_w (sb80_20 E B a0 o1 q_1.1 (1 : Int32) q_5.2 h hN) rfl
  · rw [if_neg q9] at h
    refine xv_icmp_ne E 19 (show decode prog_3_method_9_code 12 = .ok (.if_icmp .ne (7), 3) by decide +kernel) rfl (fun _ => ?_) (fun z => absurd z q9)
    refine xv_b E [.iconst 0] (pc' := 20) (lv' := [(2, .inl q_1.1), (0, .inr (.inr (some a0))), (1, .inr (.inr o1))]) (st' := [.inl (0 : Int32)]) (by decide +kernel) rfl rfl ?_
    exact xv_w (sb80_20 E B a0 o1 q_1.1 (0 : Int32) q_5.2 h hN) rfl
end
theorem t80 (G : gX) (l : Launch) {as : List aV} {M : hM} {r : Option aV} {M' : hM} (h : f80 as M = some (r, M')) : xM G l ym80 prog_3_method_9_code 7 none 4 as M r M' := by
  unfold f80 at h
  split at h
  · have h := x_out_ok h
    refine xM_of (by decide) (Nat.le_of_ble_eq_true rfl) (lb80_0 G l _ _ M h) ?_
    intro p e s m args below meth c E B
    exact sb80_0 E B _ _ M h rfl
  · cases h
/-! ZF.Disc.logIn(I)V -/
def ym81 : MethodName := ⟨"ZonedFabric$Disc", "logIn", "(I)V"⟩
theorem cd81 : xCd ym81 prog_3_method_7_code 2 none 1 := ⟨mw446, mw105, by decide, by decide, by decide +kernel⟩
def b81_43 (a0 : Nat) (v1 : Int32) (M : hM) : Option xRes :=
  Option.bind (g_r M 1 3 (some a0)) fun o_19 =>
  Option.bind (g_i M 1 4 (some a0)) fun v_21 =>
  Option.bind (as_i M 20 o_19 v_21 v1) fun M23 =>
  Option.bind (g_i M23 1 4 (some a0)) fun v_25 =>
  Option.bind (p_i M23 1 4 (some a0) (v_25 + (1 : Int32))) fun M27 =>
  some (.inl (none, M27))
def b81_0 (a0 : Nat) (v1 : Int32) (M : hM) : Option xRes :=
  Option.bind (g_o M 1 (some a0)) fun b_3 =>
  Option.bind (c_I (f77 [.inr (.inr (some b_3)), .inl v1] M)) fun q_1 =>
  if q_1.1 = 0 then
    (Option.bind (g_i q_1.2 1 4 (some a0)) fun v_5 =>
    if v_5 = (8 : Int32) then
      (Option.bind (g_r q_1.2 1 3 (some a0)) fun o_7 =>
      Option.bind (g_r q_1.2 1 3 (some a0)) fun o_9 =>
      Option.bind (n_c q_1.2 o_7 (1 : Int32) o_9 (0 : Int32) (7 : Int32)) fun M11 =>
      Option.bind (g_i M11 1 4 (some a0)) fun v_13 =>
      Option.bind (p_i M11 1 4 (some a0) (v_13 - (1 : Int32))) fun M15 =>
      b81_43 a0 v1 M15)
    else
      (b81_43 a0 v1 q_1.2))
  else
    (some (.inl (none, q_1.2)))
def f81 (as : List aV) (M : hM) : xO := match as with
  | [.inr (.inr (some a0)), .inl v1] => x_out (b81_0 a0 v1 M)
  | _ => none
theorem lb81_43 (G : gX) (l : Launch) (a0 : Nat) (v1 : Int32) (M : hM) {res : xRes} (h : b81_43 a0 v1 M = some res) : h_sz M ≤ r_sz res ∧ h_sl M ≤ r_sl res := by
  unfold b81_43 at h
  obtain ⟨o_19, h20, h⟩ := bd h
  obtain ⟨v_21, h22, h⟩ := bd h
  obtain ⟨M23, h24, h⟩ := bd h
  have eh24 := as_i_sz h24
  obtain ⟨v_25, h26, h⟩ := bd h
  obtain ⟨M27, h28, h⟩ := bd h
  have eh28 := p_i_sz h28
  obtain rfl := Option.some.inj h
  show h_sz M ≤ h_sz M27 ∧ h_sl M ≤ h_sl M27
  omega
theorem lb81_0 (G : gX) (l : Launch) (a0 : Nat) (v1 : Int32) (M : hM) {res : xRes} (h : b81_0 a0 v1 M = some res) : h_sz M ≤ r_sz res ∧ h_sl M ≤ r_sl res := by
  unfold b81_0 at h
  obtain ⟨b_3, h4, h⟩ := bd h
  obtain ⟨q_1, h2, h⟩ := bd h
  have eh2 := (t77 G l (c_I_some h2)).1
  by_cases q18 : q_1.1 = 0
  · rw [if_pos q18] at h
    obtain ⟨v_5, h6, h⟩ := bd h
    by_cases q17 : v_5 = (8 : Int32)
    · rw [if_pos q17] at h
      obtain ⟨o_7, h8, h⟩ := bd h
      obtain ⟨o_9, h10, h⟩ := bd h
      obtain ⟨M11, h12, h⟩ := bd h
      have eh12 := n_c_sz h12
      obtain ⟨v_13, h14, h⟩ := bd h
      obtain ⟨M15, h16, h⟩ := bd h
      have eh16 := p_i_sz h16
      have e := lb81_43 G l a0 v1 M15 h
      omega
    · rw [if_neg q17] at h
      have e := lb81_43 G l a0 v1 q_1.2 h
      omega
  · rw [if_neg q18] at h
    obtain rfl := Option.some.inj h
    show h_sz M ≤ h_sz q_1.2 ∧ h_sl M ≤ h_sl q_1.2
    omega
section
variable {p : Program} {l : Launch} {e : Env} {s : State} {m : MethodId} {args : Array Value} {below : List Frame} {meth : Method} {c : Code} {G : gX} {z0 y0 : Nat} {r : Option aV} {M' : hM}
theorem sb81_43 (E : xE G p (xRm 1 (h_sz M' - z0) (h_sl M' - y0)) s m args c prog_3_method_7_code "ZonedFabric$Disc" z0 y0 (h_sz M') (h_sl M') 2) (B : xB ym81 none meth) (a0 : Nat) (v1 : Int32) (M : hM) {res : xRes} (h : b81_43 a0 v1 M = some res) (hN : xN (fun _ _ _ => False) r M' res) : xV G p l e (xRm 1 (h_sz M' - z0) (h_sl M' - y0)) s m args below meth c z0 y0 (h_sz M') (h_sl M') 2 (MQ below (xQc G r M') args s (h_sz M' - z0) (h_sl M' - y0) (xFr G)) 43 [(0, .inr (.inr (some a0))), (1, .inl v1)] [] M := by
  unfold b81_43 at h
  refine xv_b E [.aload_n 0] (pc' := 44) (lv' := [(0, .inr (.inr (some a0))), (1, .inl v1)]) (st' := [.inr (.inr (some a0))]) (by decide +kernel) rfl rfl ?_
  obtain ⟨o_19, h20, h⟩ := bd h
  refine xg_r E 1 3 h20 mw107 (show decode prog_3_method_7_code 44 = .ok (.getfield 15, 3) by decide +kernel) ?_
  refine xv_b E [.aload_n 0] (pc' := 48) (lv' := [(0, .inr (.inr (some a0))), (1, .inl v1)]) (st' := [.inr (.inr (some a0)), .inr (.inr o_19)]) (by decide +kernel) rfl rfl ?_
  obtain ⟨v_21, h22, h⟩ := bd h
  refine xg_i E 1 4 h22 mw168 (show decode prog_3_method_7_code 48 = .ok (.getfield 34, 3) by decide +kernel) ?_
  refine xv_b E [.iload_n 1] (pc' := 52) (lv' := [(0, .inr (.inr (some a0))), (1, .inl v1)]) (st' := [.inl v1, .inl v_21, .inr (.inr o_19)]) (by decide +kernel) rfl rfl ?_
  obtain ⟨M23, h24, h⟩ := bd h
  refine xs_i E h24 (show decode prog_3_method_7_code 52 = .ok (.iastore, 1) by decide +kernel) ?_
  refine xv_b E [.aload_n 0, .dup] (pc' := 55) (lv' := [(0, .inr (.inr (some a0))), (1, .inl v1)]) (st' := [.inr (.inr (some a0)), .inr (.inr (some a0))]) (by decide +kernel) rfl rfl ?_
  obtain ⟨v_25, h26, h⟩ := bd h
  refine xg_i E 1 4 h26 mw168 (show decode prog_3_method_7_code 55 = .ok (.getfield 34, 3) by decide +kernel) ?_
  refine xv_b E [.iconst 1, .iadd] (pc' := 60) (lv' := [(0, .inr (.inr (some a0))), (1, .inl v1)]) (st' := [.inl (v_25 + (1 : Int32)), .inr (.inr (some a0))]) (by decide +kernel) rfl rfl ?_
  obtain ⟨M27, h28, h⟩ := bd h
  refine xp_i E 1 4 h28 mw168 (show decode prog_3_method_7_code 60 = .ok (.putfield 34, 3) by decide +kernel) (Or.inl rfl) ?_
  obtain rfl := Option.some.inj h
  obtain ⟨rfl, rfl⟩ := Prod.mk.inj (show ((none : Option aV), M27) = (r, M') from hN)
  exact xv_rv E B.1 B.2.1 (show decode prog_3_method_7_code 63 = .ok (.return_, 1) by decide +kernel) rfl rfl
theorem sb81_0 (E : xE G p (xRm 1 (h_sz M' - z0) (h_sl M' - y0)) s m args c prog_3_method_7_code "ZonedFabric$Disc" z0 y0 (h_sz M') (h_sl M') 2) (B : xB ym81 none meth) (a0 : Nat) (v1 : Int32) (M : hM) {res : xRes} (h : b81_0 a0 v1 M = some res) (hN : xN (fun _ _ _ => False) r M' res) : xV G p l e (xRm 1 (h_sz M' - z0) (h_sl M' - y0)) s m args below meth c z0 y0 (h_sz M') (h_sl M') 2 (MQ below (xQc G r M') args s (h_sz M' - z0) (h_sl M' - y0) (xFr G)) 0 [(0, .inr (.inr (some a0))), (1, .inl v1)] [] M := by
  unfold b81_0 at h
  refine xv_b E [.aload_n 0, .iload_n 1] (pc' := 2) (lv' := [(0, .inr (.inr (some a0))), (1, .inl v1)]) (st' := [.inl v1, .inr (.inr (some a0))]) (by decide +kernel) rfl rfl ?_
  obtain ⟨b_3, h4, h⟩ := bd h
  obtain ⟨eh4, th4⟩ := g_o_some h4
  obtain ⟨q_1, h2, h⟩ := bd h
  refine xv_cvo E eh4 1 (as := [.inl v1]) (t77 G l (c_I_some h2)) cd77 mw435 mw436 mw437 (show decode prog_3_method_7_code 2 = .ok (.invokevirtual 106, 3) by decide +kernel) th4 rfl rfl (Nat.le_of_ble_eq_true rfl) ⟨Nat.le_of_ble_eq_true rfl, Nat.le_of_ble_eq_true rfl⟩ ?_
  by_cases q18 : q_1.1 = 0
  · rw [if_pos q18] at h
    refine xv_if_eq E 9 (show decode prog_3_method_7_code 5 = .ok (.ifCond .eq (4), 3) by decide +kernel) rfl (fun _ => ?_) (fun z => absurd q18 z)
    refine xv_b E [.aload_n 0] (pc' := 10) (lv' := [(0, .inr (.inr (some a0))), (1, .inl v1)]) (st' := [.inr (.inr (some a0))]) (by decide +kernel) rfl rfl ?_
    obtain ⟨v_5, h6, h⟩ := bd h
    refine xg_i E 1 4 h6 mw168 (show decode prog_3_method_7_code 10 = .ok (.getfield 34, 3) by decide +kernel) ?_
    refine xv_b E [.bipush 8] (pc' := 15) (lv' := [(0, .inr (.inr (some a0))), (1, .inl v1)]) (st' := [.inl (8 : Int32), .inl v_5]) (by decide +kernel) rfl rfl ?_
    by_cases q17 : v_5 = (8 : Int32)
    · rw [if_pos q17] at h
      refine xv_icmp_ne E 43 (show decode prog_3_method_7_code 15 = .ok (.if_icmp .ne (28), 3) by decide +kernel) rfl (fun z => absurd q17 z) (fun _ => ?_)
      refine xv_b E [.aload_n 0] (pc' := 19) (lv' := [(0, .inr (.inr (some a0))), (1, .inl v1)]) (st' := [.inr (.inr (some a0))]) (by decide +kernel) rfl rfl ?_
      obtain ⟨o_7, h8, h⟩ := bd h
      refine xg_r E 1 3 h8 mw107 (show decode prog_3_method_7_code 19 = .ok (.getfield 15, 3) by decide +kernel) ?_
      refine xv_b E [.iconst 1, .aload_n 0] (pc' := 24) (lv' := [(0, .inr (.inr (some a0))), (1, .inl v1)]) (st' := [.inr (.inr (some a0)), .inl (1 : Int32), .inr (.inr o_7)]) (by decide +kernel) rfl rfl ?_
      obtain ⟨o_9, h10, h⟩ := bd h
      refine xg_r E 1 3 h10 mw107 (show decode prog_3_method_7_code 24 = .ok (.getfield 15, 3) by decide +kernel) ?_
      refine xv_b E [.iconst 0, .bipush 7] (pc' := 30) (lv' := [(0, .inr (.inr (some a0))), (1, .inl v1)]) (st' := [.inl (7 : Int32), .inl (0 : Int32), .inr (.inr o_9), .inl (1 : Int32), .inr (.inr o_7)]) (by decide +kernel) rfl rfl ?_
      obtain ⟨M11, h12, h⟩ := bd h
      refine xn_c E h12 mw447 mw448 mw449 mw450 (Nat.le_of_ble_eq_true rfl) ⟨Nat.le_of_ble_eq_true rfl, Nat.le_of_ble_eq_true rfl⟩ (show decode prog_3_method_7_code 30 = .ok (.invokestatic 110, 3) by decide +kernel) ?_
      refine xv_b E [.aload_n 0, .dup] (pc' := 35) (lv' := [(0, .inr (.inr (some a0))), (1, .inl v1)]) (st' := [.inr (.inr (some a0)), .inr (.inr (some a0))]) (by decide +kernel) rfl rfl ?_
      obtain ⟨v_13, h14, h⟩ := bd h
      refine xg_i E 1 4 h14 mw168 (show decode prog_3_method_7_code 35 = .ok (.getfield 34, 3) by decide +kernel) ?_
      refine xv_b E [.iconst 1, .isub] (pc' := 40) (lv' := [(0, .inr (.inr (some a0))), (1, .inl v1)]) (st' := [.inl (v_13 - (1 : Int32)), .inr (.inr (some a0))]) (by decide +kernel) rfl rfl ?_
      obtain ⟨M15, h16, h⟩ := bd h
      refine xp_i E 1 4 h16 mw168 (show decode prog_3_method_7_code 40 = .ok (.putfield 34, 3) by decide +kernel) (Or.inl rfl) ?_
      exact xv_w (sb81_43 E B a0 v1 M15 h hN) rfl
    · rw [if_neg q17] at h
      refine xv_icmp_ne E 43 (show decode prog_3_method_7_code 15 = .ok (.if_icmp .ne (28), 3) by decide +kernel) rfl (fun _ => ?_) (fun z => absurd z q17)
      exact xv_w (sb81_43 E B a0 v1 q_1.2 h hN) rfl
  · rw [if_neg q18] at h
    refine xv_if_eq E 9 (show decode prog_3_method_7_code 5 = .ok (.ifCond .eq (4), 3) by decide +kernel) rfl (fun z => absurd z q18) (fun _ => ?_)
    obtain rfl := Option.some.inj h
    obtain ⟨rfl, rfl⟩ := Prod.mk.inj (show ((none : Option aV), q_1.2) = (r, M') from hN)
    exact xv_rv E B.1 B.2.1 (show decode prog_3_method_7_code 8 = .ok (.return_, 1) by decide +kernel) rfl rfl
end
theorem t81 (G : gX) (l : Launch) {as : List aV} {M : hM} {r : Option aV} {M' : hM} (h : f81 as M = some (r, M')) : xM G l ym81 prog_3_method_7_code 2 none 1 as M r M' := by
  unfold f81 at h
  split at h
  · have h := x_out_ok h
    refine xM_of (by decide) (Nat.le_of_ble_eq_true rfl) (lb81_0 G l _ _ M h) ?_
    intro p e s m args below meth c E B
    exact sb81_0 E B _ _ M h rfl
  · cases h
/-! ZF.Disc.take(LZF$Frame;)V -/
def ym82 : MethodName := ⟨"ZonedFabric$Disc", "take", "(LZonedFabric$Frame;)V"⟩
theorem cd82 : xCd ym82 prog_3_method_4_code 2 none 1 := ⟨mw451, mw105, by decide, by decide, by decide +kernel⟩
def b82_93  (M : hM) : Option xRes :=
  some (.inl (none, M))
def b82_0 (a0 : Nat) (o1 : Option Nat) (M : hM) : Option xRes :=
  Option.bind (g_o M 2 o1) fun b_3 =>
  Option.bind (c_I (f57 [.inr (.inr (some b_3))] M)) fun q_1 =>
  if q_1.1 = 7 then
    (Option.bind (g_o q_1.2 2 o1) fun b_8 =>
    Option.bind (c_I (f65 [.inr (.inr (some b_8))] q_1.2)) fun q_6 =>
    Option.bind (g_o q_6.2 1 (some a0)) fun b_12 =>
    Option.bind (c_V (f81 [.inr (.inr (some b_12)), .inl q_6.1] q_6.2)) fun q_10 =>
    Option.bind (g_o q_10 1 (some a0)) fun b_16 =>
    Option.bind (c_V (f67 [.inr (.inr (some b_16)), .inl (8 : Int32), .inr (.inr o1), .inl (0 : Int32), .inl (0 : Int32), .inr (.inl (0 : Int64))] q_10)) fun q_14 =>
    b82_93  q_14)
  else
    (if q_1.1 = 8 then
      (b82_93  q_1.2)
    else
      (if q_1.1 = 9 then
        (Option.bind (g_o q_1.2 1 (some a0)) fun b_22 =>
        Option.bind (c_V (f80 [.inr (.inr (some b_22)), .inr (.inr o1)] q_1.2)) fun q_20 =>
        b82_93  q_20)
      else
        (if q_1.1 = 10 then
          (b82_93  q_1.2)
        else
          (if q_1.1 = 11 then
            (Option.bind (g_o q_1.2 1 (some a0)) fun b_28 =>
            Option.bind (c_V (f75 [.inr (.inr (some b_28)), .inr (.inr o1)] q_1.2)) fun q_26 =>
            b82_93  q_26)
          else
            (if q_1.1 = 12 then
              (b82_93  q_1.2)
            else
              (if q_1.1 = 13 then
                (Option.bind (g_o q_1.2 1 (some a0)) fun b_34 =>
                Option.bind (c_V (f69 [.inr (.inr (some b_34)), .inr (.inr o1)] q_1.2)) fun q_32 =>
                b82_93  q_32)
              else
                (b82_93  q_1.2)))))))
def f82 (as : List aV) (M : hM) : xO := match as with
  | [.inr (.inr (some a0)), .inr (.inr o1)] => x_out (b82_0 a0 o1 M)
  | _ => none
theorem lb82_93 (G : gX) (l : Launch)  (M : hM) {res : xRes} (h : b82_93  M = some res) : h_sz M ≤ r_sz res ∧ h_sl M ≤ r_sl res := by
  unfold b82_93 at h
  obtain rfl := Option.some.inj h
  show h_sz M ≤ h_sz M ∧ h_sl M ≤ h_sl M
  omega
theorem lb82_0 (G : gX) (l : Launch) (a0 : Nat) (o1 : Option Nat) (M : hM) {res : xRes} (h : b82_0 a0 o1 M = some res) : h_sz M ≤ r_sz res ∧ h_sl M ≤ r_sl res := by
  unfold b82_0 at h
  obtain ⟨b_3, h4, h⟩ := bd h
  obtain ⟨q_1, h2, h⟩ := bd h
  have eh2 := (t57 G l (c_I_some h2)).1
  by_cases q5 : q_1.1 = 7
  · rw [if_pos q5] at h
    obtain ⟨b_8, h9, h⟩ := bd h
    obtain ⟨q_6, h7, h⟩ := bd h
    have eh7 := (t65 G l (c_I_some h7)).1
    obtain ⟨b_12, h13, h⟩ := bd h
    obtain ⟨q_10, h11, h⟩ := bd h
    have eh11 := (t81 G l (c_V_some h11)).1
    obtain ⟨b_16, h17, h⟩ := bd h
    obtain ⟨q_14, h15, h⟩ := bd h
    have eh15 := (t67 G l (c_V_some h15)).1
    have e := lb82_93 G l  q_14 h
    omega
  · rw [if_neg q5] at h
    by_cases q18 : q_1.1 = 8
    · rw [if_pos q18] at h
      have e := lb82_93 G l  q_1.2 h
      omega
    · rw [if_neg q18] at h
      by_cases q19 : q_1.1 = 9
      · rw [if_pos q19] at h
        obtain ⟨b_22, h23, h⟩ := bd h
        obtain ⟨q_20, h21, h⟩ := bd h
        have eh21 := (t80 G l (c_V_some h21)).1
        have e := lb82_93 G l  q_20 h
        omega
      · rw [if_neg q19] at h
        by_cases q24 : q_1.1 = 10
        · rw [if_pos q24] at h
          have e := lb82_93 G l  q_1.2 h
          omega
        · rw [if_neg q24] at h
          by_cases q25 : q_1.1 = 11
          · rw [if_pos q25] at h
            obtain ⟨b_28, h29, h⟩ := bd h
            obtain ⟨q_26, h27, h⟩ := bd h
            have eh27 := (t75 G l (c_V_some h27)).1
            have e := lb82_93 G l  q_26 h
            omega
          · rw [if_neg q25] at h
            by_cases q30 : q_1.1 = 12
            · rw [if_pos q30] at h
              have e := lb82_93 G l  q_1.2 h
              omega
            · rw [if_neg q30] at h
              by_cases q31 : q_1.1 = 13
              · rw [if_pos q31] at h
                obtain ⟨b_34, h35, h⟩ := bd h
                obtain ⟨q_32, h33, h⟩ := bd h
                have eh33 := (t69 G l (c_V_some h33)).1
                have e := lb82_93 G l  q_32 h
                omega
              · rw [if_neg q31] at h
                have e := lb82_93 G l  q_1.2 h
                omega
section
variable {p : Program} {l : Launch} {e : Env} {s : State} {m : MethodId} {args : Array Value} {below : List Frame} {meth : Method} {c : Code} {G : gX} {z0 y0 : Nat} {r : Option aV} {M' : hM}
theorem sb82_93 (E : xE G p (xRm 5 (h_sz M' - z0) (h_sl M' - y0)) s m args c prog_3_method_4_code "ZonedFabric$Disc" z0 y0 (h_sz M') (h_sl M') 2) (B : xB ym82 none meth)  (M : hM) {res : xRes} (h : b82_93  M = some res) (hN : xN (fun _ _ _ => False) r M' res) : xV G p l e (xRm 5 (h_sz M' - z0) (h_sl M' - y0)) s m args below meth c z0 y0 (h_sz M') (h_sl M') 2 (MQ below (xQc G r M') args s (h_sz M' - z0) (h_sl M' - y0) (xFr G)) 93 [] [] M := by
  unfold b82_93 at h
  obtain rfl := Option.some.inj h
  obtain ⟨rfl, rfl⟩ := Prod.mk.inj (show ((none : Option aV), M) = (r, M') from hN)
  exact xv_rv E B.1 B.2.1 (show decode prog_3_method_4_code 93 = .ok (.return_, 1) by decide +kernel) rfl rfl
theorem sb82_0 (E : xE G p (xRm 5 (h_sz M' - z0) (h_sl M' - y0)) s m args c prog_3_method_4_code "ZonedFabric$Disc" z0 y0 (h_sz M') (h_sl M') 2) (B : xB ym82 none meth) (a0 : Nat) (o1 : Option Nat) (M : hM) {res : xRes} (h : b82_0 a0 o1 M = some res) (hN : xN (fun _ _ _ => False) r M' res) : xV G p l e (xRm 5 (h_sz M' - z0) (h_sl M' - y0)) s m args below meth c z0 y0 (h_sz M') (h_sl M') 2 (MQ below (xQc G r M') args s (h_sz M' - z0) (h_sl M' - y0) (xFr G)) 0 [(0, .inr (.inr (some a0))), (1, .inr (.inr o1))] [] M := by
  unfold b82_0 at h
  refine xv_b E [.aload_n 1] (pc' := 1) (lv' := [(0, .inr (.inr (some a0))), (1, .inr (.inr o1))]) (st' := [.inr (.inr o1)]) (by decide +kernel) rfl rfl ?_
  obtain ⟨b_3, h4, h⟩ := bd h
  obtain ⟨eh4, th4⟩ := g_o_some h4
  obtain ⟨q_1, h2, h⟩ := bd h
  refine xv_cvo E eh4 2 (as := []) (t57 G l (c_I_some h2)) cd57 mw452 mw339 mw340 (show decode prog_3_method_4_code 1 = .ok (.invokevirtual 50, 3) by decide +kernel) th4 rfl rfl (Nat.le_of_ble_eq_true rfl) ⟨Nat.le_of_ble_eq_true rfl, Nat.le_of_ble_eq_true rfl⟩ ?_
  by_cases q5 : q_1.1 = 7
  · rw [if_pos q5] at h
    refine xv_tabIn E (off := 44) 48 (show decode prog_3_method_4_code 4 = .ok (.tableswitch (89) 7 13 #[44, 89, 65, 89, 73, 89, 81], 44) by decide +kernel) (by rw [q5]; decide) (by rw [q5]; decide) (by rw [q5]; rfl) rfl ?_
    refine xv_b E [.aload_n 0, .aload_n 1] (pc' := 50) (lv' := [(0, .inr (.inr (some a0))), (1, .inr (.inr o1))]) (st' := [.inr (.inr o1), .inr (.inr (some a0))]) (by decide +kernel) rfl rfl ?_
    obtain ⟨b_8, h9, h⟩ := bd h
    obtain ⟨eh9, th9⟩ := g_o_some h9
    obtain ⟨q_6, h7, h⟩ := bd h
    refine xv_cvo E eh9 2 (as := []) (t65 G l (c_I_some h7)) cd65 mw369 mw370 mw371 (show decode prog_3_method_4_code 50 = .ok (.invokevirtual 56, 3) by decide +kernel) th9 rfl rfl (Nat.le_of_ble_eq_true rfl) ⟨Nat.le_of_ble_eq_true rfl, Nat.le_of_ble_eq_true rfl⟩ ?_
    obtain ⟨b_12, h13, h⟩ := bd h
    obtain ⟨eh13, th13⟩ := g_o_some h13
    obtain ⟨q_10, h11, h⟩ := bd h
    refine xv_cvo E eh13 1 (as := [.inl q_6.1]) (t81 G l (c_V_some h11)) cd81 mw453 mw454 mw455 (show decode prog_3_method_4_code 53 = .ok (.invokevirtual 59, 3) by decide +kernel) th13 rfl rfl (Nat.le_of_ble_eq_true rfl) ⟨Nat.le_of_ble_eq_true rfl, Nat.le_of_ble_eq_true rfl⟩ ?_
    refine xv_b E [.aload_n 0, .bipush 8, .aload_n 1, .iconst 0, .iconst 0, .lconst 0] (pc' := 63) (lv' := [(0, .inr (.inr (some a0))), (1, .inr (.inr o1))]) (st' := [.inr (.inl (0 : Int64)), .inl (0 : Int32), .inl (0 : Int32), .inr (.inr o1), .inl (8 : Int32), .inr (.inr (some a0))]) (by decide +kernel) rfl rfl ?_
    obtain ⟨b_16, h17, h⟩ := bd h
    obtain ⟨eh17, th17⟩ := g_o_some h17
    obtain ⟨q_14, h15, h⟩ := bd h
    refine xv_cvo E eh17 1 (as := [.inl (8 : Int32), .inr (.inr o1), .inl (0 : Int32), .inl (0 : Int32), .inr (.inl (0 : Int64))]) (t67 G l (c_V_some h15)) cd67 mw388 mw389 mw390 (show decode prog_3_method_4_code 63 = .ok (.invokevirtual 63, 3) by decide +kernel) th17 rfl rfl (Nat.le_of_ble_eq_true rfl) ⟨Nat.le_of_ble_eq_true rfl, Nat.le_of_ble_eq_true rfl⟩ ?_
    refine xv_goto E 93 (show decode prog_3_method_4_code 66 = .ok (.goto (27), 3) by decide +kernel) rfl ?_
    exact xv_w (sb82_93 E B  q_14 h hN) rfl
  · rw [if_neg q5] at h
    by_cases q18 : q_1.1 = 8
    · rw [if_pos q18] at h
      refine xv_tabIn E (off := 89) 93 (show decode prog_3_method_4_code 4 = .ok (.tableswitch (89) 7 13 #[44, 89, 65, 89, 73, 89, 81], 44) by decide +kernel) (by rw [q18]; decide) (by rw [q18]; decide) (by rw [q18]; rfl) rfl ?_
      exact xv_w (sb82_93 E B  q_1.2 h hN) rfl
    · rw [if_neg q18] at h
      by_cases q19 : q_1.1 = 9
      · rw [if_pos q19] at h
        refine xv_tabIn E (off := 65) 69 (show decode prog_3_method_4_code 4 = .ok (.tableswitch (89) 7 13 #[44, 89, 65, 89, 73, 89, 81], 44) by decide +kernel) (by rw [q19]; decide) (by rw [q19]; decide) (by rw [q19]; rfl) rfl ?_
        refine xv_b E [.aload_n 0, .aload_n 1] (pc' := 71) (lv' := [(0, .inr (.inr (some a0))), (1, .inr (.inr o1))]) (st' := [.inr (.inr o1), .inr (.inr (some a0))]) (by decide +kernel) rfl rfl ?_
        obtain ⟨b_22, h23, h⟩ := bd h
        obtain ⟨eh23, th23⟩ := g_o_some h23
        obtain ⟨q_20, h21, h⟩ := bd h
        refine xv_cvo E eh23 1 (as := [.inr (.inr o1)]) (t80 G l (c_V_some h21)) cd80 mw456 mw457 mw458 (show decode prog_3_method_4_code 71 = .ok (.invokevirtual 67, 3) by decide +kernel) th23 rfl rfl (Nat.le_of_ble_eq_true rfl) ⟨Nat.le_of_ble_eq_true rfl, Nat.le_of_ble_eq_true rfl⟩ ?_
        refine xv_goto E 93 (show decode prog_3_method_4_code 74 = .ok (.goto (19), 3) by decide +kernel) rfl ?_
        exact xv_w (sb82_93 E B  q_20 h hN) rfl
      · rw [if_neg q19] at h
        by_cases q24 : q_1.1 = 10
        · rw [if_pos q24] at h
          refine xv_tabIn E (off := 89) 93 (show decode prog_3_method_4_code 4 = .ok (.tableswitch (89) 7 13 #[44, 89, 65, 89, 73, 89, 81], 44) by decide +kernel) (by rw [q24]; decide) (by rw [q24]; decide) (by rw [q24]; rfl) rfl ?_
          exact xv_w (sb82_93 E B  q_1.2 h hN) rfl
        · rw [if_neg q24] at h
          by_cases q25 : q_1.1 = 11
          · rw [if_pos q25] at h
            refine xv_tabIn E (off := 73) 77 (show decode prog_3_method_4_code 4 = .ok (.tableswitch (89) 7 13 #[44, 89, 65, 89, 73, 89, 81], 44) by decide +kernel) (by rw [q25]; decide) (by rw [q25]; decide) (by rw [q25]; rfl) rfl ?_
            refine xv_b E [.aload_n 0, .aload_n 1] (pc' := 79) (lv' := [(0, .inr (.inr (some a0))), (1, .inr (.inr o1))]) (st' := [.inr (.inr o1), .inr (.inr (some a0))]) (by decide +kernel) rfl rfl ?_
            obtain ⟨b_28, h29, h⟩ := bd h
            obtain ⟨eh29, th29⟩ := g_o_some h29
            obtain ⟨q_26, h27, h⟩ := bd h
            refine xv_cvo E eh29 1 (as := [.inr (.inr o1)]) (t75 G l (c_V_some h27)) cd75 mw459 mw460 mw461 (show decode prog_3_method_4_code 79 = .ok (.invokevirtual 71, 3) by decide +kernel) th29 rfl rfl (Nat.le_of_ble_eq_true rfl) ⟨Nat.le_of_ble_eq_true rfl, Nat.le_of_ble_eq_true rfl⟩ ?_
            refine xv_goto E 93 (show decode prog_3_method_4_code 82 = .ok (.goto (11), 3) by decide +kernel) rfl ?_
            exact xv_w (sb82_93 E B  q_26 h hN) rfl
          · rw [if_neg q25] at h
            by_cases q30 : q_1.1 = 12
            · rw [if_pos q30] at h
              refine xv_tabIn E (off := 89) 93 (show decode prog_3_method_4_code 4 = .ok (.tableswitch (89) 7 13 #[44, 89, 65, 89, 73, 89, 81], 44) by decide +kernel) (by rw [q30]; decide) (by rw [q30]; decide) (by rw [q30]; rfl) rfl ?_
              exact xv_w (sb82_93 E B  q_1.2 h hN) rfl
            · rw [if_neg q30] at h
              by_cases q31 : q_1.1 = 13
              · rw [if_pos q31] at h
                refine xv_tabIn E (off := 81) 85 (show decode prog_3_method_4_code 4 = .ok (.tableswitch (89) 7 13 #[44, 89, 65, 89, 73, 89, 81], 44) by decide +kernel) (by rw [q31]; decide) (by rw [q31]; decide) (by rw [q31]; rfl) rfl ?_
                refine xv_b E [.aload_n 0, .aload_n 1] (pc' := 87) (lv' := [(0, .inr (.inr (some a0))), (1, .inr (.inr o1))]) (st' := [.inr (.inr o1), .inr (.inr (some a0))]) (by decide +kernel) rfl rfl ?_
                obtain ⟨b_34, h35, h⟩ := bd h
                obtain ⟨eh35, th35⟩ := g_o_some h35
                obtain ⟨q_32, h33, h⟩ := bd h
                refine xv_cvo E eh35 1 (as := [.inr (.inr o1)]) (t69 G l (c_V_some h33)) cd69 mw462 mw463 mw464 (show decode prog_3_method_4_code 87 = .ok (.invokevirtual 74, 3) by decide +kernel) th35 rfl rfl (Nat.le_of_ble_eq_true rfl) ⟨Nat.le_of_ble_eq_true rfl, Nat.le_of_ble_eq_true rfl⟩ ?_
                refine xv_goto E 93 (show decode prog_3_method_4_code 90 = .ok (.goto (3), 3) by decide +kernel) rfl ?_
                exact xv_w (sb82_93 E B  q_32 h hN) rfl
              · rw [if_neg q31] at h
                refine xv_tabOut E 93 (show decode prog_3_method_4_code 4 = .ok (.tableswitch (89) 7 13 #[44, 89, 65, 89, 73, 89, 81], 44) by decide +kernel) (sw_out (lo := 7) (hi := 13) (by decide) (by decide) (fun k h1 h2 => ?_)) rfl ?_
                · rcases (show k = 7 ∨ k = 8 ∨ k = 9 ∨ k = 10 ∨ k = 11 ∨ k = 12 ∨ k = 13 by omega) with rfl | rfl | rfl | rfl | rfl | rfl | rfl
                  · exact q5
                  · exact q18
                  · exact q19
                  · exact q24
                  · exact q25
                  · exact q30
                  · exact q31
                · exact xv_w (sb82_93 E B  q_1.2 h hN) rfl
end
theorem t82 (G : gX) (l : Launch) {as : List aV} {M : hM} {r : Option aV} {M' : hM} (h : f82 as M = some (r, M')) : xM G l ym82 prog_3_method_4_code 2 none 5 as M r M' := by
  unfold f82 at h
  split at h
  · have h := x_out_ok h
    refine xM_of (by decide) (Nat.le_of_ble_eq_true rfl) (lb82_0 G l _ _ M h) ?_
    intro p e s m args below meth c E B
    exact sb82_0 E B _ _ M h rfl
  · cases h
/-! ZF.Host.commandOf(LZF$Frame;I)LZF$Command; -/
def ym83 : MethodName := ⟨"ZonedFabric$Host", "commandOf", "(LZonedFabric$Frame;I)LZonedFabric$Command;"⟩
theorem cd83 : xCd ym83 prog_6_method_12_code 5 (some (FieldType.object "ZonedFabric$Command")) 2 := ⟨mw465, mw37, by decide, by decide, by decide +kernel⟩
def b83_0 (a0 : Nat) (o1 : Option Nat) (v2 : Int32) (M : hM) : Option xRes :=
  some (.inr (2, [.inr (.inr (some a0)), .inr (.inr o1), .inl v2, .inl (0 : Int32)], M))
def b83_54 (a0 : Nat) (o1 : Option Nat) (v2 : Int32) (v3 : Int32) (M : hM) : Option xRes :=
  some (.inr (2, [.inr (.inr (some a0)), .inr (.inr o1), .inl v2, .inl (v3 + (1 : Int32))], M))
def b83_2 (a0 : Nat) (o1 : Option Nat) (v2 : Int32) (v3 : Int32) (M : hM) : Option xRes :=
  Option.bind (g_i M 4 5 (some a0)) fun v_1 =>
  if v_1 ≤ v3 then
    (some (.inl (some (.inr (.inr none)), M)))
  else
    (Option.bind (g_r M 4 4 (some a0)) fun o_3 =>
    Option.bind (al_r M 30 o_3 v3) fun o_5 =>
    Option.bind (g_i M 0 10 o_5) fun v_7 =>
    if v_7 = v2 then
      (Option.bind (g_i M 0 7 o_5) fun v_9 =>
      Option.bind (g_o M 2 o1) fun b_13 =>
      Option.bind (c_I (f66 [.inr (.inr (some b_13))] M)) fun q_11 =>
      if v_9 = q_11.1 then
        (Option.bind (g_i q_11.2 0 9 o_5) fun v_15 =>
        Option.bind (g_o q_11.2 2 o1) fun b_19 =>
        Option.bind (c_I (f65 [.inr (.inr (some b_19))] q_11.2)) fun q_17 =>
        if v_15 = q_17.1 then
          (some (.inl (some (.inr (.inr o_5)), q_17.2)))
        else
          (b83_54 a0 o1 v2 v3 q_17.2))
      else
        (b83_54 a0 o1 v2 v3 q_11.2))
    else
      (b83_54 a0 o1 v2 v3 M))
def k83 (h : Nat) (as : List aV) (M : hM) : Option xRes :=
  if h = 2 then (match as with | [.inr (.inr (some a0)), .inr (.inr o1), .inl v2, .inl v3] => b83_2 a0 o1 v2 v3 M | _ => none) else
  none
def f83 (as : List aV) (M : hM) : xO := match as with
  | [.inr (.inr (some a0)), .inr (.inr o1), .inl v2] => x_go k83 (b83_0 a0 o1 v2 M)
  | _ => none
theorem lb83_0 (G : gX) (l : Launch) (a0 : Nat) (o1 : Option Nat) (v2 : Int32) (M : hM) {res : xRes} (h : b83_0 a0 o1 v2 M = some res) : h_sz M ≤ r_sz res ∧ h_sl M ≤ r_sl res := by
  unfold b83_0 at h
  obtain rfl := Option.some.inj h
  show h_sz M ≤ h_sz M ∧ h_sl M ≤ h_sl M
  omega
theorem lb83_54 (G : gX) (l : Launch) (a0 : Nat) (o1 : Option Nat) (v2 : Int32) (v3 : Int32) (M : hM) {res : xRes} (h : b83_54 a0 o1 v2 v3 M = some res) : h_sz M ≤ r_sz res ∧ h_sl M ≤ r_sl res := by
  unfold b83_54 at h
  obtain rfl := Option.some.inj h
  show h_sz M ≤ h_sz M ∧ h_sl M ≤ h_sl M
  omega
theorem lb83_2 (G : gX) (l : Launch) (a0 : Nat) (o1 : Option Nat) (v2 : Int32) (v3 : Int32) (M : hM) {res : xRes} (h : b83_2 a0 o1 v2 v3 M = some res) : h_sz M ≤ r_sz res ∧ h_sl M ≤ r_sl res := by
  unfold b83_2 at h
  obtain ⟨v_1, h2, h⟩ := bd h
  by_cases q24 : v_1 ≤ v3
  · rw [if_pos q24] at h
    obtain rfl := Option.some.inj h
    show h_sz M ≤ h_sz M ∧ h_sl M ≤ h_sl M
    omega
  · rw [if_neg q24] at h
    obtain ⟨o_3, h4, h⟩ := bd h
    obtain ⟨o_5, h6, h⟩ := bd h
    obtain ⟨v_7, h8, h⟩ := bd h
    by_cases q23 : v_7 = v2
    · rw [if_pos q23] at h
      obtain ⟨v_9, h10, h⟩ := bd h
      obtain ⟨b_13, h14, h⟩ := bd h
      obtain ⟨q_11, h12, h⟩ := bd h
      have eh12 := (t66 G l (c_I_some h12)).1
      by_cases q22 : v_9 = q_11.1
      · rw [if_pos q22] at h
        obtain ⟨v_15, h16, h⟩ := bd h
        obtain ⟨b_19, h20, h⟩ := bd h
        obtain ⟨q_17, h18, h⟩ := bd h
        have eh18 := (t65 G l (c_I_some h18)).1
        by_cases q21 : v_15 = q_17.1
        · rw [if_pos q21] at h
          obtain rfl := Option.some.inj h
          show h_sz M ≤ h_sz q_17.2 ∧ h_sl M ≤ h_sl q_17.2
          omega
        · rw [if_neg q21] at h
          have e := lb83_54 G l a0 o1 v2 v3 q_17.2 h
          omega
      · rw [if_neg q22] at h
        have e := lb83_54 G l a0 o1 v2 v3 q_11.2 h
        omega
    · rw [if_neg q23] at h
      have e := lb83_54 G l a0 o1 v2 v3 M h
      omega
section
variable {p : Program} {l : Launch} {e : Env} {s : State} {m : MethodId} {args : Array Value} {below : List Frame} {meth : Method} {c : Code} {G : gX} {z0 y0 : Nat} {r : Option aV} {M' : hM}
def pg83 (p : Program) (l : Launch) (e : Env) (s : State) (m : MethodId) (args : Array Value) (below : List Frame) (meth : Method) (c : Code) (G : gX) (z0 y0 : Nat) (r : Option aV) (M' : hM) (h : Nat) (as : List aV) (M : hM) : Prop :=
  if h = 2 then (match as with | [.inr (.inr (some a0)), .inr (.inr o1), .inl v2, .inl v3] => xV G p l e (xRm 3 (h_sz M' - z0) (h_sl M' - y0)) s m args below meth c z0 y0 (h_sz M') (h_sl M') 5 (MQ below (xQc G r M') args s (h_sz M' - z0) (h_sl M' - y0) (xFr G)) 2 [(0, .inr (.inr (some a0))), (1, .inr (.inr o1)), (2, .inl v2), (3, .inl v3)] [] M | _ => False) else
  False
theorem sb83_0 (E : xE G p (xRm 3 (h_sz M' - z0) (h_sl M' - y0)) s m args c prog_6_method_12_code "ZonedFabric$Host" z0 y0 (h_sz M') (h_sl M') 5) (B : xB ym83 (some (FieldType.object "ZonedFabric$Command")) meth) (a0 : Nat) (o1 : Option Nat) (v2 : Int32) (M : hM) {res : xRes} (h : b83_0 a0 o1 v2 M = some res) (hN : xN (pg83 p l e s m args below meth c G z0 y0 r M') r M' res) : xV G p l e (xRm 3 (h_sz M' - z0) (h_sl M' - y0)) s m args below meth c z0 y0 (h_sz M') (h_sl M') 5 (MQ below (xQc G r M') args s (h_sz M' - z0) (h_sl M' - y0) (xFr G)) 0 [(0, .inr (.inr (some a0))), (1, .inr (.inr o1)), (2, .inl v2)] [] M := by
  unfold b83_0 at h
  refine xv_b E [.iconst 0, .istore_n 3] (pc' := 2) (lv' := [(3, .inl (0 : Int32)), (0, .inr (.inr (some a0))), (1, .inr (.inr o1)), (2, .inl v2)]) (st' := []) (by decide +kernel) rfl rfl ?_
  obtain rfl := Option.some.inj h
  exact xv_w hN rfl
theorem sb83_54 (E : xE G p (xRm 3 (h_sz M' - z0) (h_sl M' - y0)) s m args c prog_6_method_12_code "ZonedFabric$Host" z0 y0 (h_sz M') (h_sl M') 5) (B : xB ym83 (some (FieldType.object "ZonedFabric$Command")) meth) (a0 : Nat) (o1 : Option Nat) (v2 : Int32) (v3 : Int32) (M : hM) {res : xRes} (h : b83_54 a0 o1 v2 v3 M = some res) (hN : xN (pg83 p l e s m args below meth c G z0 y0 r M') r M' res) : xV G p l e (xRm 3 (h_sz M' - z0) (h_sl M' - y0)) s m args below meth c z0 y0 (h_sz M') (h_sl M') 5 (MQ below (xQc G r M') args s (h_sz M' - z0) (h_sl M' - y0) (xFr G)) 54 [(0, .inr (.inr (some a0))), (1, .inr (.inr o1)), (2, .inl v2), (3, .inl v3)] [] M := by
  unfold b83_54 at h
  refine xv_b E [.iinc 3 1] (pc' := 57) (lv' := [(3, .inl (v3 + (1 : Int32))), (0, .inr (.inr (some a0))), (1, .inr (.inr o1)), (2, .inl v2)]) (st' := []) (by decide +kernel) rfl rfl ?_
  refine xv_goto E 2 (show decode prog_6_method_12_code 57 = .ok (.goto (-55), 3) by decide +kernel) rfl ?_
  obtain rfl := Option.some.inj h
  exact xv_w hN rfl
theorem sb83_2 (E : xE G p (xRm 3 (h_sz M' - z0) (h_sl M' - y0)) s m args c prog_6_method_12_code "ZonedFabric$Host" z0 y0 (h_sz M') (h_sl M') 5) (B : xB ym83 (some (FieldType.object "ZonedFabric$Command")) meth) (a0 : Nat) (o1 : Option Nat) (v2 : Int32) (v3 : Int32) (M : hM) {res : xRes} (h : b83_2 a0 o1 v2 v3 M = some res) (hN : xN (pg83 p l e s m args below meth c G z0 y0 r M') r M' res) : xV G p l e (xRm 3 (h_sz M' - z0) (h_sl M' - y0)) s m args below meth c z0 y0 (h_sz M') (h_sl M') 5 (MQ below (xQc G r M') args s (h_sz M' - z0) (h_sl M' - y0) (xFr G)) 2 [(0, .inr (.inr (some a0))), (1, .inr (.inr o1)), (2, .inl v2), (3, .inl v3)] [] M := by
  unfold b83_2 at h
  refine xv_b E [.iload_n 3, .aload_n 0] (pc' := 4) (lv' := [(0, .inr (.inr (some a0))), (1, .inr (.inr o1)), (2, .inl v2), (3, .inl v3)]) (st' := [.inr (.inr (some a0)), .inl v3]) (by decide +kernel) rfl rfl ?_
  obtain ⟨v_1, h2, h⟩ := bd h
  refine xg_i E 4 5 h2 mw324 (show decode prog_6_method_12_code 4 = .ok (.getfield 35, 3) by decide +kernel) ?_
  by_cases q24 : v_1 ≤ v3
  · rw [if_pos q24] at h
    refine xv_icmp_ge E 60 (show decode prog_6_method_12_code 7 = .ok (.if_icmp .ge (53), 3) by decide +kernel) rfl (fun _ => ?_) (fun z => absurd q24 z)
    refine xv_b E [.aconst_null] (pc' := 61) (lv' := [(0, .inr (.inr (some a0))), (1, .inr (.inr o1)), (2, .inl v2), (3, .inl v3)]) (st' := [.inr (.inr none)]) (by decide +kernel) rfl rfl ?_
    obtain rfl := Option.some.inj h
    obtain ⟨rfl, rfl⟩ := Prod.mk.inj (show ((some (.inr (.inr none)) : Option aV), M) = (r, M') from hN)
    exact xv_rr E B.1 (Or.inl ⟨_, rfl⟩) B.2.1 (show decode prog_6_method_12_code 61 = .ok (.areturn, 1) by decide +kernel) rfl rfl
  · rw [if_neg q24] at h
    refine xv_icmp_ge E 60 (show decode prog_6_method_12_code 7 = .ok (.if_icmp .ge (53), 3) by decide +kernel) rfl (fun z => absurd z q24) (fun _ => ?_)
    refine xv_b E [.aload_n 0] (pc' := 11) (lv' := [(0, .inr (.inr (some a0))), (1, .inr (.inr o1)), (2, .inl v2), (3, .inl v3)]) (st' := [.inr (.inr (some a0))]) (by decide +kernel) rfl rfl ?_
    obtain ⟨o_3, h4, h⟩ := bd h
    refine xg_r E 4 4 h4 mw39 (show decode prog_6_method_12_code 11 = .ok (.getfield 11, 3) by decide +kernel) ?_
    refine xv_b E [.iload_n 3] (pc' := 15) (lv' := [(0, .inr (.inr (some a0))), (1, .inr (.inr o1)), (2, .inl v2), (3, .inl v3)]) (st' := [.inl v3, .inr (.inr o_3)]) (by decide +kernel) rfl rfl ?_
    obtain ⟨o_5, h6, h⟩ := bd h
    refine xa_r E 30 h6 (show decode prog_6_method_12_code 15 = .ok (.aaload, 1) by decide +kernel) ?_
    refine xv_b E [.astore 4, .aload 4] (pc' := 20) (lv' := [(4, .inr (.inr o_5)), (0, .inr (.inr (some a0))), (1, .inr (.inr o1)), (2, .inl v2), (3, .inl v3)]) (st' := [.inr (.inr o_5)]) (by decide +kernel) rfl rfl ?_
    obtain ⟨v_7, h8, h⟩ := bd h
    refine xg_i E 0 10 h8 mw294 (show decode prog_6_method_12_code 20 = .ok (.getfield 63, 3) by decide +kernel) ?_
    refine xv_b E [.iload_n 2] (pc' := 24) (lv' := [(4, .inr (.inr o_5)), (0, .inr (.inr (some a0))), (1, .inr (.inr o1)), (2, .inl v2), (3, .inl v3)]) (st' := [.inl v2, .inl v_7]) (by decide +kernel) rfl rfl ?_
    by_cases q23 : v_7 = v2
    · rw [if_pos q23] at h
      refine xv_icmp_ne E 54 (show decode prog_6_method_12_code 24 = .ok (.if_icmp .ne (30), 3) by decide +kernel) rfl (fun z => absurd q23 z) (fun _ => ?_)
      refine xv_b E [.aload 4] (pc' := 29) (lv' := [(4, .inr (.inr o_5)), (0, .inr (.inr (some a0))), (1, .inr (.inr o1)), (2, .inl v2), (3, .inl v3)]) (st' := [.inr (.inr o_5)]) (by decide +kernel) rfl rfl ?_
      obtain ⟨v_9, h10, h⟩ := bd h
      refine xg_i E 0 7 h10 mw297 (show decode prog_6_method_12_code 29 = .ok (.getfield 83, 3) by decide +kernel) ?_
      refine xv_b E [.aload_n 1] (pc' := 33) (lv' := [(4, .inr (.inr o_5)), (0, .inr (.inr (some a0))), (1, .inr (.inr o1)), (2, .inl v2), (3, .inl v3)]) (st' := [.inr (.inr o1), .inl v_9]) (by decide +kernel) rfl rfl ?_
      obtain ⟨b_13, h14, h⟩ := bd h
      obtain ⟨eh14, th14⟩ := g_o_some h14
      obtain ⟨q_11, h12, h⟩ := bd h
      refine xv_cvo E eh14 2 (as := []) (t66 G l (c_I_some h12)) cd66 mw466 mw374 mw375 (show decode prog_6_method_12_code 33 = .ok (.invokevirtual 147, 3) by decide +kernel) th14 rfl rfl (Nat.le_of_ble_eq_true rfl) ⟨Nat.le_of_ble_eq_true rfl, Nat.le_of_ble_eq_true rfl⟩ ?_
      by_cases q22 : v_9 = q_11.1
      · rw [if_pos q22] at h
        refine xv_icmp_ne E 54 (show decode prog_6_method_12_code 36 = .ok (.if_icmp .ne (18), 3) by decide +kernel) rfl (fun z => absurd q22 z) (fun _ => ?_)
        refine xv_b E [.aload 4] (pc' := 41) (lv' := [(4, .inr (.inr o_5)), (0, .inr (.inr (some a0))), (1, .inr (.inr o1)), (2, .inl v2), (3, .inl v3)]) (st' := [.inr (.inr o_5)]) (by decide +kernel) rfl rfl ?_
        obtain ⟨v_15, h16, h⟩ := bd h
        refine xg_i E 0 9 h16 mw295 (show decode prog_6_method_12_code 41 = .ok (.getfield 79, 3) by decide +kernel) ?_
        refine xv_b E [.aload_n 1] (pc' := 45) (lv' := [(4, .inr (.inr o_5)), (0, .inr (.inr (some a0))), (1, .inr (.inr o1)), (2, .inl v2), (3, .inl v3)]) (st' := [.inr (.inr o1), .inl v_15]) (by decide +kernel) rfl rfl ?_
        obtain ⟨b_19, h20, h⟩ := bd h
        obtain ⟨eh20, th20⟩ := g_o_some h20
        obtain ⟨q_17, h18, h⟩ := bd h
        refine xv_cvo E eh20 2 (as := []) (t65 G l (c_I_some h18)) cd65 mw467 mw370 mw371 (show decode prog_6_method_12_code 45 = .ok (.invokevirtual 121, 3) by decide +kernel) th20 rfl rfl (Nat.le_of_ble_eq_true rfl) ⟨Nat.le_of_ble_eq_true rfl, Nat.le_of_ble_eq_true rfl⟩ ?_
        by_cases q21 : v_15 = q_17.1
        · rw [if_pos q21] at h
          refine xv_icmp_ne E 54 (show decode prog_6_method_12_code 48 = .ok (.if_icmp .ne (6), 3) by decide +kernel) rfl (fun z => absurd q21 z) (fun _ => ?_)
          refine xv_b E [.aload 4] (pc' := 53) (lv' := [(4, .inr (.inr o_5)), (0, .inr (.inr (some a0))), (1, .inr (.inr o1)), (2, .inl v2), (3, .inl v3)]) (st' := [.inr (.inr o_5)]) (by decide +kernel) rfl rfl ?_
          obtain rfl := Option.some.inj h
          obtain ⟨rfl, rfl⟩ := Prod.mk.inj (show ((some (.inr (.inr o_5)) : Option aV), q_17.2) = (r, M') from hN)
          exact xv_rr E B.1 (Or.inl ⟨_, rfl⟩) B.2.1 (show decode prog_6_method_12_code 53 = .ok (.areturn, 1) by decide +kernel) rfl rfl
        · rw [if_neg q21] at h
          refine xv_icmp_ne E 54 (show decode prog_6_method_12_code 48 = .ok (.if_icmp .ne (6), 3) by decide +kernel) rfl (fun _ => ?_) (fun z => absurd z q21)
          exact xv_w (sb83_54 E B a0 o1 v2 v3 q_17.2 h hN) rfl
      · rw [if_neg q22] at h
        refine xv_icmp_ne E 54 (show decode prog_6_method_12_code 36 = .ok (.if_icmp .ne (18), 3) by decide +kernel) rfl (fun _ => ?_) (fun z => absurd z q22)
        exact xv_w (sb83_54 E B a0 o1 v2 v3 q_11.2 h hN) rfl
    · rw [if_neg q23] at h
      refine xv_icmp_ne E 54 (show decode prog_6_method_12_code 24 = .ok (.if_icmp .ne (30), 3) by decide +kernel) rfl (fun _ => ?_) (fun z => absurd z q23)
      exact xv_w (sb83_54 E B a0 o1 v2 v3 M h hN) rfl
end
theorem t83 (G : gX) (l : Launch) {as : List aV} {M : hM} {r : Option aV} {M' : hM} (h : f83 as M = some (r, M')) : xM G l ym83 prog_6_method_12_code 5 (some (FieldType.object "ZonedFabric$Command")) 3 as M r M' := by
  unfold f83 at h
  split at h
  · have hle : ∀ h as M res, k83 h as M = some res → h_sz M ≤ r_sz res ∧ h_sl M ≤ r_sl res := by
      intro h as M res hb
      unfold k83 at hb
      by_cases e0 : h = 2
      · rw [if_pos e0] at hb
        split at hb
        · exact lb83_2 G l _ _ _ _ M hb
        · cases hb
      · rw [if_neg e0] at hb
        cases hb
    obtain ⟨res, hx, hres⟩ := x_go_ok h
    refine xM_of (by decide) (Nat.le_of_ble_eq_true rfl) ?_ ?_
    · have e1 := lb83_0 G l _ _ _ M hx
      have e2 := x_go_le hle hres
      omega
    · intro p e s m args below meth c E B
      refine sb83_0 E B _ _ _ M hx (hres _ ?_)
      intro h as M res hb hN
      unfold k83 at hb
      unfold pg83
      by_cases e0 : h = 2
      · rw [if_pos e0] at hb ⊢
        split at hb
        · exact sb83_2 E B _ _ _ _ M hb hN
        · cases hb
      · rw [if_neg e0] at hb ⊢
        cases hb
  · cases h
/-! ZF.Host.takeAborted(LZF$Frame;)V -/
def ym84 : MethodName := ⟨"ZonedFabric$Host", "takeAborted", "(LZonedFabric$Frame;)V"⟩
theorem cd84 : xCd ym84 prog_6_method_16_code 3 none 1 := ⟨mw468, mw37, by decide, by decide, by decide +kernel⟩
def b84_24  (M : hM) : Option xRes :=
  some (.inl (none, M))
def b84_0 (a0 : Nat) (o1 : Option Nat) (M : hM) : Option xRes :=
  Option.bind (g_o M 4 (some a0)) fun b_3 =>
  Option.bind (c_R (f83 [.inr (.inr (some b_3)), .inr (.inr o1), .inl (3 : Int32)] M)) fun q_1 =>
  if q_1.1 = none then
    (b84_24  q_1.2)
  else
    (Option.bind (g_r q_1.2 4 0 (some a0)) fun o_5 =>
    Option.bind (g_i q_1.2 9 3 o_5) fun v_7 =>
    Option.bind (g_o q_1.2 0 q_1.1) fun b_11 =>
    Option.bind (c_V (f50 [.inr (.inr (some b_11)), .inl (12 : Int32), .inl v_7] q_1.2)) fun q_9 =>
    b84_24  q_9)
def f84 (as : List aV) (M : hM) : xO := match as with
  | [.inr (.inr (some a0)), .inr (.inr o1)] => x_out (b84_0 a0 o1 M)
  | _ => none
theorem lb84_24 (G : gX) (l : Launch)  (M : hM) {res : xRes} (h : b84_24  M = some res) : h_sz M ≤ r_sz res ∧ h_sl M ≤ r_sl res := by
  unfold b84_24 at h
  obtain rfl := Option.some.inj h
  show h_sz M ≤ h_sz M ∧ h_sl M ≤ h_sl M
  omega
theorem lb84_0 (G : gX) (l : Launch) (a0 : Nat) (o1 : Option Nat) (M : hM) {res : xRes} (h : b84_0 a0 o1 M = some res) : h_sz M ≤ r_sz res ∧ h_sl M ≤ r_sl res := by
  unfold b84_0 at h
  obtain ⟨b_3, h4, h⟩ := bd h
  obtain ⟨q_1, h2, h⟩ := bd h
  have eh2 := (t83 G l (c_R_some h2)).1
  by_cases q13 : q_1.1 = none
  · rw [if_pos q13] at h
    have e := lb84_24 G l  q_1.2 h
    omega
  · rw [if_neg q13] at h
    obtain ⟨o_5, h6, h⟩ := bd h
    obtain ⟨v_7, h8, h⟩ := bd h
    obtain ⟨b_11, h12, h⟩ := bd h
    obtain ⟨q_9, h10, h⟩ := bd h
    have eh10 := (t50 G l (c_V_some h10)).1
    have e := lb84_24 G l  q_9 h
    omega
section
variable {p : Program} {l : Launch} {e : Env} {s : State} {m : MethodId} {args : Array Value} {below : List Frame} {meth : Method} {c : Code} {G : gX} {z0 y0 : Nat} {r : Option aV} {M' : hM}
theorem sb84_24 (E : xE G p (xRm 4 (h_sz M' - z0) (h_sl M' - y0)) s m args c prog_6_method_16_code "ZonedFabric$Host" z0 y0 (h_sz M') (h_sl M') 3) (B : xB ym84 none meth)  (M : hM) {res : xRes} (h : b84_24  M = some res) (hN : xN (fun _ _ _ => False) r M' res) : xV G p l e (xRm 4 (h_sz M' - z0) (h_sl M' - y0)) s m args below meth c z0 y0 (h_sz M') (h_sl M') 3 (MQ below (xQc G r M') args s (h_sz M' - z0) (h_sl M' - y0) (xFr G)) 24 [] [] M := by
  unfold b84_24 at h
  obtain rfl := Option.some.inj h
  obtain ⟨rfl, rfl⟩ := Prod.mk.inj (show ((none : Option aV), M) = (r, M') from hN)
  exact xv_rv E B.1 B.2.1 (show decode prog_6_method_16_code 24 = .ok (.return_, 1) by decide +kernel) rfl rfl
theorem sb84_0 (E : xE G p (xRm 4 (h_sz M' - z0) (h_sl M' - y0)) s m args c prog_6_method_16_code "ZonedFabric$Host" z0 y0 (h_sz M') (h_sl M') 3) (B : xB ym84 none meth) (a0 : Nat) (o1 : Option Nat) (M : hM) {res : xRes} (h : b84_0 a0 o1 M = some res) (hN : xN (fun _ _ _ => False) r M' res) : xV G p l e (xRm 4 (h_sz M' - z0) (h_sl M' - y0)) s m args below meth c z0 y0 (h_sz M') (h_sl M') 3 (MQ below (xQc G r M') args s (h_sz M' - z0) (h_sl M' - y0) (xFr G)) 0 [(0, .inr (.inr (some a0))), (1, .inr (.inr o1))] [] M := by
  unfold b84_0 at h
  refine xv_b E [.aload_n 0, .aload_n 1, .iconst 3] (pc' := 3) (lv' := [(0, .inr (.inr (some a0))), (1, .inr (.inr o1))]) (st' := [.inl (3 : Int32), .inr (.inr o1), .inr (.inr (some a0))]) (by decide +kernel) rfl rfl ?_
  obtain ⟨b_3, h4, h⟩ := bd h
  obtain ⟨eh4, th4⟩ := g_o_some h4
  obtain ⟨q_1, h2, h⟩ := bd h
  refine xv_cvo E eh4 4 (as := [.inr (.inr o1), .inl (3 : Int32)]) (t83 G l (c_R_some h2)) cd83 mw469 mw470 mw471 (show decode prog_6_method_16_code 3 = .ok (.invokevirtual 150, 3) by decide +kernel) th4 rfl rfl (Nat.le_of_ble_eq_true rfl) ⟨Nat.le_of_ble_eq_true rfl, Nat.le_of_ble_eq_true rfl⟩ ?_
  refine xv_b E [.astore_n 2, .aload_n 2] (pc' := 8) (lv' := [(2, .inr (.inr q_1.1)), (0, .inr (.inr (some a0))), (1, .inr (.inr o1))]) (st' := [.inr (.inr q_1.1)]) (by decide +kernel) rfl rfl ?_
  by_cases q13 : q_1.1 = none
  · rw [if_pos q13] at h
    refine xi_null E 24 (show decode prog_6_method_16_code 8 = .ok (.ifnull (16), 3) by decide +kernel) rfl (fun _ => ?_) (fun z => absurd q13 z)
    exact xv_w (sb84_24 E B  q_1.2 h hN) rfl
  · rw [if_neg q13] at h
    refine xi_null E 24 (show decode prog_6_method_16_code 8 = .ok (.ifnull (16), 3) by decide +kernel) rfl (fun z => absurd z q13) (fun _ => ?_)
    refine xv_b E [.aload_n 2, .bipush 12, .aload_n 0] (pc' := 15) (lv' := [(2, .inr (.inr q_1.1)), (0, .inr (.inr (some a0))), (1, .inr (.inr o1))]) (st' := [.inr (.inr (some a0)), .inl (12 : Int32), .inr (.inr q_1.1)]) (by decide +kernel) rfl rfl ?_
    obtain ⟨o_5, h6, h⟩ := bd h
    refine xg_r E 4 0 h6 mw40 (show decode prog_6_method_16_code 15 = .ok (.getfield 17, 3) by decide +kernel) ?_
    obtain ⟨v_7, h8, h⟩ := bd h
    refine xg_i E 9 3 h8 mw310 (show decode prog_6_method_16_code 18 = .ok (.getfield 46, 3) by decide +kernel) ?_
    obtain ⟨b_11, h12, h⟩ := bd h
    obtain ⟨eh12, th12⟩ := g_o_some h12
    obtain ⟨q_9, h10, h⟩ := bd h
    refine xv_cvo E eh12 0 (as := [.inl (12 : Int32), .inl v_7]) (t50 G l (c_V_some h10)) cd50 mw317 mw318 mw319 (show decode prog_6_method_16_code 21 = .ok (.invokevirtual 66, 3) by decide +kernel) th12 rfl rfl (Nat.le_of_ble_eq_true rfl) ⟨Nat.le_of_ble_eq_true rfl, Nat.le_of_ble_eq_true rfl⟩ ?_
    exact xv_w (sb84_24 E B  q_9 h hN) rfl
end
theorem t84 (G : gX) (l : Launch) {as : List aV} {M : hM} {r : Option aV} {M' : hM} (h : f84 as M = some (r, M')) : xM G l ym84 prog_6_method_16_code 3 none 4 as M r M' := by
  unfold f84 at h
  split at h
  · have h := x_out_ok h
    refine xM_of (by decide) (Nat.le_of_ble_eq_true rfl) (lb84_0 G l _ _ M h) ?_
    intro p e s m args below meth c E B
    exact sb84_0 E B _ _ M h rfl
  · cases h
/-! ZF.Command.hasAll()Z -/
def ym85 : MethodName := ⟨"ZonedFabric$Command", "hasAll", "()Z"⟩
theorem cd85 : xCd ym85 prog_2_method_6_code 1 (some FieldType.boolean) 0 := ⟨mw472, mw282, by decide, by decide, by decide +kernel⟩
def b85_20 (si0 : Int32) (M : hM) : Option xRes :=
  if si0 = 0 ∨ si0 = 1 then
    (some (.inl (some (.inl si0), M)))
  else
    none
def b85_0 (a0 : Nat) (M : hM) : Option xRes :=
  Option.bind (g_i M 0 6 (some a0)) fun v_1 =>
  Option.bind (g_i M 0 3 (some a0)) fun v_3 =>
  if v_1 = (((1 : Int32) <<< (v_3 &&& 31)) - (1 : Int32)) then
    (b85_20 (1 : Int32) M)
  else
    (b85_20 (0 : Int32) M)
def f85 (as : List aV) (M : hM) : xO := match as with
  | [.inr (.inr (some a0))] => x_out (b85_0 a0 M)
  | _ => none
theorem lb85_20 (G : gX) (l : Launch) (si0 : Int32) (M : hM) {res : xRes} (h : b85_20 si0 M = some res) : h_sz M ≤ r_sz res ∧ h_sl M ≤ r_sl res := by
  unfold b85_20 at h
  by_cases q6 : si0 = 0 ∨ si0 = 1
  · rw [if_pos q6] at h
    obtain rfl := Option.some.inj h
    show h_sz M ≤ h_sz M ∧ h_sl M ≤ h_sl M
    omega
  · rw [if_neg q6] at h
    cases h
theorem lb85_0 (G : gX) (l : Launch) (a0 : Nat) (M : hM) {res : xRes} (h : b85_0 a0 M = some res) : h_sz M ≤ r_sz res ∧ h_sl M ≤ r_sl res := by
  unfold b85_0 at h
  obtain ⟨v_1, h2, h⟩ := bd h
  obtain ⟨v_3, h4, h⟩ := bd h
  by_cases q5 : v_1 = (((1 : Int32) <<< (v_3 &&& 31)) - (1 : Int32))
  · rw [if_pos q5] at h
    have e := lb85_20 G l (1 : Int32) M h
    omega
  · rw [if_neg q5] at h
    have e := lb85_20 G l (0 : Int32) M h
    omega
section
variable {p : Program} {l : Launch} {e : Env} {s : State} {m : MethodId} {args : Array Value} {below : List Frame} {meth : Method} {c : Code} {G : gX} {z0 y0 : Nat} {r : Option aV} {M' : hM}
theorem sb85_20 (E : xE G p (xRm 0 (h_sz M' - z0) (h_sl M' - y0)) s m args c prog_2_method_6_code "ZonedFabric$Command" z0 y0 (h_sz M') (h_sl M') 1) (B : xB ym85 (some FieldType.boolean) meth) (si0 : Int32) (M : hM) {res : xRes} (h : b85_20 si0 M = some res) (hN : xN (fun _ _ _ => False) r M' res) : xV G p l e (xRm 0 (h_sz M' - z0) (h_sl M' - y0)) s m args below meth c z0 y0 (h_sz M') (h_sl M') 1 (MQ below (xQc G r M') args s (h_sz M' - z0) (h_sl M' - y0) (xFr G)) 20 [] [.inl si0] M := by
  unfold b85_20 at h
  by_cases q6 : si0 = 0 ∨ si0 = 1
  · rw [if_pos q6] at h
    obtain rfl := Option.some.inj h
    obtain ⟨rfl, rfl⟩ := Prod.mk.inj (show ((some (.inl si0) : Option aV), M) = (r, M') from hN)
    exact xv_ri E B.1 (by rcases q6 with z | z <;> rw [z] <;> rfl) B.2.1 (show decode prog_2_method_6_code 20 = .ok (.ireturn, 1) by decide +kernel) rfl rfl
  · rw [if_neg q6] at h
    cases h
theorem sb85_0 (E : xE G p (xRm 0 (h_sz M' - z0) (h_sl M' - y0)) s m args c prog_2_method_6_code "ZonedFabric$Command" z0 y0 (h_sz M') (h_sl M') 1) (B : xB ym85 (some FieldType.boolean) meth) (a0 : Nat) (M : hM) {res : xRes} (h : b85_0 a0 M = some res) (hN : xN (fun _ _ _ => False) r M' res) : xV G p l e (xRm 0 (h_sz M' - z0) (h_sl M' - y0)) s m args below meth c z0 y0 (h_sz M') (h_sl M') 1 (MQ below (xQc G r M') args s (h_sz M' - z0) (h_sl M' - y0) (xFr G)) 0 [(0, .inr (.inr (some a0)))] [] M := by
  unfold b85_0 at h
  refine xv_b E [.aload_n 0] (pc' := 1) (lv' := [(0, .inr (.inr (some a0)))]) (st' := [.inr (.inr (some a0))]) (by decide +kernel) rfl rfl ?_
  obtain ⟨v_1, h2, h⟩ := bd h
  refine xg_i E 0 6 h2 mw473 (show decode prog_2_method_6_code 1 = .ok (.getfield 39, 3) by decide +kernel) ?_
  refine xv_b E [.iconst 1, .aload_n 0] (pc' := 6) (lv' := [(0, .inr (.inr (some a0)))]) (st' := [.inr (.inr (some a0)), .inl (1 : Int32), .inl v_1]) (by decide +kernel) rfl rfl ?_
  obtain ⟨v_3, h4, h⟩ := bd h
  refine xg_i E 0 3 h4 mw288 (show decode prog_2_method_6_code 6 = .ok (.getfield 29, 3) by decide +kernel) ?_
  refine xv_b E [.ishl, .iconst 1, .isub] (pc' := 12) (lv' := [(0, .inr (.inr (some a0)))]) (st' := [.inl (((1 : Int32) <<< (v_3 &&& 31)) - (1 : Int32)), .inl v_1]) (by decide +kernel) rfl rfl ?_
  by_cases q5 : v_1 = (((1 : Int32) <<< (v_3 &&& 31)) - (1 : Int32))
  · rw [if_pos q5] at h
    refine xv_icmp_ne E 19 (show decode prog_2_method_6_code 12 = .ok (.if_icmp .ne (7), 3) by decide +kernel) rfl (fun z => absurd q5 z) (fun _ => ?_)
    refine xv_b E [.iconst 1] (pc' := 16) (lv' := [(0, .inr (.inr (some a0)))]) (st' := [.inl (1 : Int32)]) (by decide +kernel) rfl rfl ?_
    refine xv_goto E 20 (show decode prog_2_method_6_code 16 = .ok (.goto (4), 3) by decide +kernel) rfl ?_
    exact xv_w (sb85_20 E B (1 : Int32) M h hN) rfl
  · rw [if_neg q5] at h
    refine xv_icmp_ne E 19 (show decode prog_2_method_6_code 12 = .ok (.if_icmp .ne (7), 3) by decide +kernel) rfl (fun _ => ?_) (fun z => absurd z q5)
    refine xv_b E [.iconst 0] (pc' := 20) (lv' := [(0, .inr (.inr (some a0)))]) (st' := [.inl (0 : Int32)]) (by decide +kernel) rfl rfl ?_
    exact xv_w (sb85_20 E B (0 : Int32) M h hN) rfl
end
theorem t85 (G : gX) (l : Launch) {as : List aV} {M : hM} {r : Option aV} {M' : hM} (h : f85 as M = some (r, M')) : xM G l ym85 prog_2_method_6_code 1 (some FieldType.boolean) 0 as M r M' := by
  unfold f85 at h
  split at h
  · have h := x_out_ok h
    refine xM_of (by decide) (Nat.le_of_ble_eq_true rfl) (lb85_0 G l _ M h) ?_
    intro p e s m args below meth c E B
    exact sb85_0 E B _ M h rfl
  · cases h
