theorem mw474 : Cond.code ⟨"ZonedFabric$Host", "takeDone", "(LZonedFabric$Frame;)V"⟩ prog_6_method_15_code 3 none ∈ xTs := xTs_in (tk4 (List.mem_of_getElem? (i := 168) (by decide +kernel))) rfl
theorem mw475 : Cond.methodLink "ZonedFabric$Host" 140 ⟨"ZonedFabric$Frame", "load", "(I)I"⟩ ∈ xTs := xTs_in (tk4 (List.mem_of_getElem? (i := 107) (by decide +kernel))) rfl
theorem mw476 : Cond.fieldLink "ZonedFabric$Host" 154 "ZonedFabric$Command" "writes" "Z" ∈ xTs := xTs_in (tk5 (List.mem_of_getElem? (i := 62) (by decide +kernel))) rfl
theorem mw477 : Cond.methodLink "ZonedFabric$Host" 177 ⟨"ZonedFabric$Command", "hasAll", "()Z"⟩ ∈ xTs := xTs_in (tk4 (List.mem_of_getElem? (i := 173) (by decide +kernel))) rfl
theorem mw478 : Cond.instanceMethod ⟨"ZonedFabric$Command", "hasAll", "()Z"⟩ ∈ xTs := xTs_in (tk4 (List.mem_of_getElem? (i := 174) (by decide +kernel))) rfl
theorem mw479 : Cond.selects "ZonedFabric$Command" ⟨"ZonedFabric$Command", "hasAll", "()Z"⟩ ⟨"ZonedFabric$Command", "hasAll", "()Z"⟩ ∈ xTs := xTs_in (tk4 (List.mem_of_getElem? (i := 175) (by decide +kernel))) rfl
theorem mw480 : Cond.code ⟨"ZonedFabric$Command", "keep", "(IJ)V"⟩ prog_2_method_5_code 4 none ∈ xTs := xTs_in (tk4 (List.mem_of_getElem? (i := 164) (by decide +kernel))) rfl
theorem mw481 : Cond.fieldLink "ZonedFabric$Command" 9 "ZonedFabric$Command" "came" "[J" ∈ xTs := xTs_in (tk5 (List.mem_of_getElem? (i := 70) (by decide +kernel))) rfl
theorem mw482 : Cond.code ⟨"ZonedFabric$Host", "takeData", "(LZonedFabric$Frame;)V"⟩ prog_6_method_14_code 3 none ∈ xTs := xTs_in (tk4 (List.mem_of_getElem? (i := 156) (by decide +kernel))) rfl
theorem mw483 : Cond.methodLink "ZonedFabric$Host" 171 ⟨"ZonedFabric$Frame", "part", "()I"⟩ ∈ xTs := xTs_in (tk4 (List.mem_of_getElem? (i := 157) (by decide +kernel))) rfl
theorem mw484 : Cond.fieldLink "ZonedFabric$Host" 157 "ZonedFabric$Command" "count" "I" ∈ xTs := xTs_in (tk5 (List.mem_of_getElem? (i := 67) (by decide +kernel))) rfl
theorem mw485 : Cond.methodLink "ZonedFabric$Host" 144 ⟨"ZonedFabric$Frame", "number", "(II)J"⟩ ∈ xTs := xTs_in (tk4 (List.mem_of_getElem? (i := 108) (by decide +kernel))) rfl
theorem mw486 : Cond.methodLink "ZonedFabric$Host" 174 ⟨"ZonedFabric$Command", "keep", "(IJ)V"⟩ ∈ xTs := xTs_in (tk4 (List.mem_of_getElem? (i := 161) (by decide +kernel))) rfl
theorem mw487 : Cond.instanceMethod ⟨"ZonedFabric$Command", "keep", "(IJ)V"⟩ ∈ xTs := xTs_in (tk4 (List.mem_of_getElem? (i := 162) (by decide +kernel))) rfl
theorem mw488 : Cond.selects "ZonedFabric$Command" ⟨"ZonedFabric$Command", "keep", "(IJ)V"⟩ ⟨"ZonedFabric$Command", "keep", "(IJ)V"⟩ ∈ xTs := xTs_in (tk4 (List.mem_of_getElem? (i := 163) (by decide +kernel))) rfl
theorem mw489 : Cond.code ⟨"ZonedFabric$Host", "takeReady", "(LZonedFabric$Frame;)V"⟩ prog_6_method_13_code 5 none ∈ xTs := xTs_in (tk4 (List.mem_of_getElem? (i := 139) (by decide +kernel))) rfl
theorem mw490 : Cond.methodLink "ZonedFabric$Host" 160 ⟨"ZonedFabric$Frame", "rx", "()I"⟩ ∈ xTs := xTs_in (tk4 (List.mem_of_getElem? (i := 148) (by decide +kernel))) rfl
theorem mw491 : Cond.methodLink "ZonedFabric$Host" 163 ⟨"ZonedFabric$Frame", "put", "(IIJ)V"⟩ ∈ xTs := xTs_in (tk4 (List.mem_of_getElem? (i := 152) (by decide +kernel))) rfl
theorem mw492 : Cond.fieldLink "ZonedFabric$Host" 167 "ZonedFabric$Command" "first" "J" ∈ xTs := xTs_in (tk5 (List.mem_of_getElem? (i := 69) (by decide +kernel))) rfl
theorem mw493 : Cond.code ⟨"ZonedFabric$Host", "takeLogged", "(I)V"⟩ prog_6_method_11_code 4 none ∈ xTs := xTs_in (tk4 (List.mem_of_getElem? (i := 135) (by decide +kernel))) rfl
theorem mw494 : Cond.code ⟨"ZonedFabric$Host", "takeTold", "(LZonedFabric$Frame;)V"⟩ prog_6_method_10_code 5 none ∈ xTs := xTs_in (tk4 (List.mem_of_getElem? (i := 106) (by decide +kernel))) rfl
theorem mw495 : Cond.code ⟨"ZonedFabric$Host", "take", "(LZonedFabric$Frame;)V"⟩ prog_6_method_9_code 2 none ∈ xTs := xTs_in (tk4 (List.mem_of_getElem? (i := 101) (by decide +kernel))) rfl
theorem mw496 : Cond.methodLink "ZonedFabric$Host" 114 ⟨"ZonedFabric$Frame", "kind", "()I"⟩ ∈ xTs := xTs_in (tk4 (List.mem_of_getElem? (i := 102) (by decide +kernel))) rfl
theorem mw497 : Cond.methodLink "ZonedFabric$Host" 118 ⟨"ZonedFabric$Host", "takeTold", "(LZonedFabric$Frame;)V"⟩ ∈ xTs := xTs_in (tk4 (List.mem_of_getElem? (i := 103) (by decide +kernel))) rfl
theorem mw498 : Cond.instanceMethod ⟨"ZonedFabric$Host", "takeTold", "(LZonedFabric$Frame;)V"⟩ ∈ xTs := xTs_in (tk4 (List.mem_of_getElem? (i := 105) (by decide +kernel))) rfl
theorem mw499 : Cond.selects "ZonedFabric$Host" ⟨"ZonedFabric$Host", "takeTold", "(LZonedFabric$Frame;)V"⟩ ⟨"ZonedFabric$Host", "takeTold", "(LZonedFabric$Frame;)V"⟩ ∈ xTs := xTs_in (List.mem_append_left _ (List.mem_of_getElem? (i := 33) (by decide +kernel))) rfl
theorem mw500 : Cond.methodLink "ZonedFabric$Host" 124 ⟨"ZonedFabric$Host", "takeLogged", "(I)V"⟩ ∈ xTs := xTs_in (tk4 (List.mem_of_getElem? (i := 132) (by decide +kernel))) rfl
theorem mw501 : Cond.instanceMethod ⟨"ZonedFabric$Host", "takeLogged", "(I)V"⟩ ∈ xTs := xTs_in (tk4 (List.mem_of_getElem? (i := 134) (by decide +kernel))) rfl
theorem mw502 : Cond.selects "ZonedFabric$Host" ⟨"ZonedFabric$Host", "takeLogged", "(I)V"⟩ ⟨"ZonedFabric$Host", "takeLogged", "(I)V"⟩ ∈ xTs := xTs_in (List.mem_append_left _ (List.mem_of_getElem? (i := 36) (by decide +kernel))) rfl
theorem mw503 : Cond.methodLink "ZonedFabric$Host" 128 ⟨"ZonedFabric$Host", "takeReady", "(LZonedFabric$Frame;)V"⟩ ∈ xTs := xTs_in (tk4 (List.mem_of_getElem? (i := 136) (by decide +kernel))) rfl
theorem mw504 : Cond.instanceMethod ⟨"ZonedFabric$Host", "takeReady", "(LZonedFabric$Frame;)V"⟩ ∈ xTs := xTs_in (tk4 (List.mem_of_getElem? (i := 138) (by decide +kernel))) rfl
theorem mw505 : Cond.selects "ZonedFabric$Host" ⟨"ZonedFabric$Host", "takeReady", "(LZonedFabric$Frame;)V"⟩ ⟨"ZonedFabric$Host", "takeReady", "(LZonedFabric$Frame;)V"⟩ ∈ xTs := xTs_in (List.mem_append_left _ (List.mem_of_getElem? (i := 37) (by decide +kernel))) rfl
theorem mw506 : Cond.methodLink "ZonedFabric$Host" 131 ⟨"ZonedFabric$Host", "takeData", "(LZonedFabric$Frame;)V"⟩ ∈ xTs := xTs_in (tk4 (List.mem_of_getElem? (i := 153) (by decide +kernel))) rfl
theorem mw507 : Cond.instanceMethod ⟨"ZonedFabric$Host", "takeData", "(LZonedFabric$Frame;)V"⟩ ∈ xTs := xTs_in (tk4 (List.mem_of_getElem? (i := 155) (by decide +kernel))) rfl
theorem mw508 : Cond.selects "ZonedFabric$Host" ⟨"ZonedFabric$Host", "takeData", "(LZonedFabric$Frame;)V"⟩ ⟨"ZonedFabric$Host", "takeData", "(LZonedFabric$Frame;)V"⟩ ∈ xTs := xTs_in (List.mem_append_left _ (List.mem_of_getElem? (i := 39) (by decide +kernel))) rfl
theorem mw509 : Cond.methodLink "ZonedFabric$Host" 134 ⟨"ZonedFabric$Host", "takeDone", "(LZonedFabric$Frame;)V"⟩ ∈ xTs := xTs_in (tk4 (List.mem_of_getElem? (i := 165) (by decide +kernel))) rfl
theorem mw510 : Cond.instanceMethod ⟨"ZonedFabric$Host", "takeDone", "(LZonedFabric$Frame;)V"⟩ ∈ xTs := xTs_in (tk4 (List.mem_of_getElem? (i := 167) (by decide +kernel))) rfl
theorem mw511 : Cond.selects "ZonedFabric$Host" ⟨"ZonedFabric$Host", "takeDone", "(LZonedFabric$Frame;)V"⟩ ⟨"ZonedFabric$Host", "takeDone", "(LZonedFabric$Frame;)V"⟩ ∈ xTs := xTs_in (List.mem_append_left _ (List.mem_of_getElem? (i := 40) (by decide +kernel))) rfl
theorem mw512 : Cond.methodLink "ZonedFabric$Host" 137 ⟨"ZonedFabric$Host", "takeAborted", "(LZonedFabric$Frame;)V"⟩ ∈ xTs := xTs_in (tk4 (List.mem_of_getElem? (i := 177) (by decide +kernel))) rfl
theorem mw513 : Cond.instanceMethod ⟨"ZonedFabric$Host", "takeAborted", "(LZonedFabric$Frame;)V"⟩ ∈ xTs := xTs_in (tk4 (List.mem_of_getElem? (i := 179) (by decide +kernel))) rfl
theorem mw514 : Cond.selects "ZonedFabric$Host" ⟨"ZonedFabric$Host", "takeAborted", "(LZonedFabric$Frame;)V"⟩ ⟨"ZonedFabric$Host", "takeAborted", "(LZonedFabric$Frame;)V"⟩ ∈ xTs := xTs_in (List.mem_append_left _ (List.mem_of_getElem? (i := 41) (by decide +kernel))) rfl
theorem mw515 : Cond.code ⟨"ZonedFabric$Node", "takeAddress", "(I)V"⟩ prog_7_method_3_code 2 none ∈ xTs := xTs_in (tk4 (List.mem_of_getElem? (i := 97) (by decide +kernel))) rfl
theorem mw516 : Cond.code ⟨"ZonedFabric$Node", "turn", "()V"⟩ prog_7_method_2_code 3 none ∈ xTs := xTs_in (tk4 (List.mem_of_getElem? (i := 86) (by decide +kernel))) rfl
theorem mw517 : Cond.fieldLink "ZonedFabric$Node" 28 "ZonedFabric$Port" "buffers" "LZonedFabric$FrameLine;" ∈ xTs := xTs_in (tk1 (List.mem_of_getElem? (i := 150) (by decide +kernel))) rfl
theorem mw518 : Cond.fieldLink "ZonedFabric$Node" 32 "ZonedFabric$FrameLine" "size" "I" ∈ xTs := xTs_in (tk1 (List.mem_of_getElem? (i := 116) (by decide +kernel))) rfl
theorem mw519 : Cond.methodLink "ZonedFabric$Node" 37 ⟨"ZonedFabric$Port", "leave", "()LZonedFabric$Frame;"⟩ ∈ xTs := xTs_in (tk4 (List.mem_of_getElem? (i := 87) (by decide +kernel))) rfl
theorem mw520 : Cond.instanceMethod ⟨"ZonedFabric$Port", "leave", "()LZonedFabric$Frame;"⟩ ∈ xTs := xTs_in (tk4 (List.mem_of_getElem? (i := 17) (by decide +kernel))) rfl
theorem mw521 : Cond.selects "ZonedFabric$Port" ⟨"ZonedFabric$Port", "leave", "()LZonedFabric$Frame;"⟩ ⟨"ZonedFabric$Port", "leave", "()LZonedFabric$Frame;"⟩ ∈ xTs := xTs_in (tk4 (List.mem_of_getElem? (i := 18) (by decide +kernel))) rfl
theorem mw522 : Cond.methodLink "ZonedFabric$Node" 41 ⟨"ZonedFabric$Frame", "isTrue", "(LZonedFabric$Shared;)Z"⟩ ∈ xTs := xTs_in (tk4 (List.mem_of_getElem? (i := 88) (by decide +kernel))) rfl
theorem mw523 : Cond.instanceMethod ⟨"ZonedFabric$Frame", "isTrue", "(LZonedFabric$Shared;)Z"⟩ ∈ xTs := xTs_in (tk3 (List.mem_of_getElem? (i := 216) (by decide +kernel))) rfl
theorem mw524 : Cond.selects "ZonedFabric$Frame" ⟨"ZonedFabric$Frame", "isTrue", "(LZonedFabric$Shared;)Z"⟩ ⟨"ZonedFabric$Frame", "isTrue", "(LZonedFabric$Shared;)Z"⟩ ∈ xTs := xTs_in (tk3 (List.mem_of_getElem? (i := 217) (by decide +kernel))) rfl
theorem mw525 : Cond.methodLink "ZonedFabric$Node" 53 ⟨"ZonedFabric$Frame", "kind", "()I"⟩ ∈ xTs := xTs_in (tk4 (List.mem_of_getElem? (i := 90) (by decide +kernel))) rfl
theorem mw526 : Cond.methodLink "ZonedFabric$Node" 57 ⟨"ZonedFabric$Frame", "from", "()I"⟩ ∈ xTs := xTs_in (tk4 (List.mem_of_getElem? (i := 91) (by decide +kernel))) rfl
theorem mw527 : Cond.methodLink "ZonedFabric$Node" 61 ⟨"ZonedFabric$Frame", "to", "()I"⟩ ∈ xTs := xTs_in (tk4 (List.mem_of_getElem? (i := 93) (by decide +kernel))) rfl
theorem mw528 : Cond.instanceMethod ⟨"ZonedFabric$Frame", "to", "()I"⟩ ∈ xTs := xTs_in (tk4 (List.mem_of_getElem? (i := 21) (by decide +kernel))) rfl
theorem mw529 : Cond.selects "ZonedFabric$Frame" ⟨"ZonedFabric$Frame", "to", "()I"⟩ ⟨"ZonedFabric$Frame", "to", "()I"⟩ ∈ xTs := xTs_in (tk4 (List.mem_of_getElem? (i := 22) (by decide +kernel))) rfl
theorem mw530 : Cond.methodLink "ZonedFabric$Node" 64 ⟨"ZonedFabric$Node", "takeAddress", "(I)V"⟩ ∈ xTs := xTs_in (tk4 (List.mem_of_getElem? (i := 94) (by decide +kernel))) rfl
theorem mw531 : Cond.instanceMethod ⟨"ZonedFabric$Node", "takeAddress", "(I)V"⟩ ∈ xTs := xTs_in (tk4 (List.mem_of_getElem? (i := 96) (by decide +kernel))) rfl
theorem mw532 : Cond.selects "ZonedFabric$Node" ⟨"ZonedFabric$Node", "takeAddress", "(I)V"⟩ ⟨"ZonedFabric$Node", "takeAddress", "(I)V"⟩ ∈ xTs := xTs_in (List.mem_append_left _ (List.mem_of_getElem? (i := 32) (by decide +kernel))) rfl
theorem mw533 : Cond.methodLink "ZonedFabric$Node" 47 ⟨"ZonedFabric$Shared", "tally", "(I)V"⟩ ∈ xTs := xTs_in (tk4 (List.mem_of_getElem? (i := 89) (by decide +kernel))) rfl
theorem mw534 : Cond.methodLink "ZonedFabric$Node" 84 ⟨"ZonedFabric$Disc", "take", "(LZonedFabric$Frame;)V"⟩ ∈ xTs := xTs_in (tk4 (List.mem_of_getElem? (i := 181) (by decide +kernel))) rfl
theorem mw535 : Cond.instanceMethod ⟨"ZonedFabric$Disc", "take", "(LZonedFabric$Frame;)V"⟩ ∈ xTs := xTs_in (tk4 (List.mem_of_getElem? (i := 182) (by decide +kernel))) rfl
theorem mw536 : Cond.selects "ZonedFabric$Disc" ⟨"ZonedFabric$Disc", "take", "(LZonedFabric$Frame;)V"⟩ ⟨"ZonedFabric$Disc", "take", "(LZonedFabric$Frame;)V"⟩ ∈ xTs := xTs_in (tk4 (List.mem_of_getElem? (i := 183) (by decide +kernel))) rfl
theorem mw537 : Cond.methodLink "ZonedFabric$Node" 74 ⟨"ZonedFabric$Host", "take", "(LZonedFabric$Frame;)V"⟩ ∈ xTs := xTs_in (tk4 (List.mem_of_getElem? (i := 98) (by decide +kernel))) rfl
theorem mw538 : Cond.instanceMethod ⟨"ZonedFabric$Host", "take", "(LZonedFabric$Frame;)V"⟩ ∈ xTs := xTs_in (tk4 (List.mem_of_getElem? (i := 99) (by decide +kernel))) rfl
theorem mw539 : Cond.selects "ZonedFabric$Host" ⟨"ZonedFabric$Host", "take", "(LZonedFabric$Frame;)V"⟩ ⟨"ZonedFabric$Host", "take", "(LZonedFabric$Frame;)V"⟩ ∈ xTs := xTs_in (tk4 (List.mem_of_getElem? (i := 100) (by decide +kernel))) rfl
theorem mw540 : Cond.methodLink "ZonedFabric$Node" 87 ⟨"ZonedFabric$Shared", "release", "(LZonedFabric$Frame;)V"⟩ ∈ xTs := xTs_in (tk5 (List.mem_of_getElem? (i := 15) (by decide +kernel))) rfl
theorem mw541 : Cond.methodLink "ZonedFabric$Node" 90 ⟨"ZonedFabric$Node", "callSwitch", "()V"⟩ ∈ xTs := xTs_in (tk5 (List.mem_of_getElem? (i := 16) (by decide +kernel))) rfl
theorem mw542 : Cond.instanceMethod ⟨"ZonedFabric$Node", "callSwitch", "()V"⟩ ∈ xTs := xTs_in (tk5 (List.mem_of_getElem? (i := 18) (by decide +kernel))) rfl
theorem mw543 : Cond.selects "ZonedFabric$Node" ⟨"ZonedFabric$Node", "callSwitch", "()V"⟩ ⟨"ZonedFabric$Node", "callSwitch", "()V"⟩ ∈ xTs := xTs_in (List.mem_append_left _ (List.mem_of_getElem? (i := 51) (by decide +kernel))) rfl
theorem mw544 : Cond.methodLink "ZonedFabric$Node" 93 ⟨"ZonedFabric$Host", "runTimers", "()V"⟩ ∈ xTs := xTs_in (tk5 (List.mem_of_getElem? (i := 23) (by decide +kernel))) rfl
theorem mw545 : Cond.instanceMethod ⟨"ZonedFabric$Host", "runTimers", "()V"⟩ ∈ xTs := xTs_in (tk5 (List.mem_of_getElem? (i := 24) (by decide +kernel))) rfl
theorem mw546 : Cond.selects "ZonedFabric$Host" ⟨"ZonedFabric$Host", "runTimers", "()V"⟩ ⟨"ZonedFabric$Host", "runTimers", "()V"⟩ ∈ xTs := xTs_in (tk5 (List.mem_of_getElem? (i := 25) (by decide +kernel))) rfl
theorem mw547 : Cond.methodLink "ZonedFabric$Node" 96 ⟨"ZonedFabric$Disc", "runTimers", "()V"⟩ ∈ xTs := xTs_in (tk5 (List.mem_of_getElem? (i := 31) (by decide +kernel))) rfl
theorem mw548 : Cond.instanceMethod ⟨"ZonedFabric$Disc", "runTimers", "()V"⟩ ∈ xTs := xTs_in (tk5 (List.mem_of_getElem? (i := 32) (by decide +kernel))) rfl
theorem mw549 : Cond.selects "ZonedFabric$Disc" ⟨"ZonedFabric$Disc", "runTimers", "()V"⟩ ⟨"ZonedFabric$Disc", "runTimers", "()V"⟩ ∈ xTs := xTs_in (tk5 (List.mem_of_getElem? (i := 33) (by decide +kernel))) rfl
theorem mw550 : Cond.methodLink "ZonedFabric$Node" 97 ⟨"ZonedFabric$Port", "sendFirst", "()V"⟩ ∈ xTs := xTs_in (tk5 (List.mem_of_getElem? (i := 35) (by decide +kernel))) rfl
theorem mw551 : Cond.instanceMethod ⟨"ZonedFabric$Port", "sendFirst", "()V"⟩ ∈ xTs := xTs_in (tk3 (List.mem_of_getElem? (i := 190) (by decide +kernel))) rfl
theorem mw552 : Cond.selects "ZonedFabric$Port" ⟨"ZonedFabric$Port", "sendFirst", "()V"⟩ ⟨"ZonedFabric$Port", "sendFirst", "()V"⟩ ∈ xTs := xTs_in (tk3 (List.mem_of_getElem? (i := 191) (by decide +kernel))) rfl
theorem mw553 : Cond.code ⟨"ZonedFabric$Switch", "takeBackAddresses", "()V"⟩ prog_12_method_3_code 3 none ∈ xTs := xTs_in (tk3 (List.mem_of_getElem? (i := 17) (by decide +kernel))) rfl
theorem mw554 : Cond.fieldLink "ZonedFabric$Switch" 84 "ZonedFabric$Port" "given" "I" ∈ xTs := xTs_in (tk1 (List.mem_of_getElem? (i := 155) (by decide +kernel))) rfl
theorem mw555 : Cond.fieldLink "ZonedFabric$Switch" 87 "ZonedFabric$Switch" "off" "Z" ∈ xTs := xTs_in (tk1 (List.mem_of_getElem? (i := 205) (by decide +kernel))) rfl
theorem mw556 : Cond.methodLink "ZonedFabric$Switch" 92 ⟨"ZonedFabric$Shared", "draft", "(IIII)LZonedFabric$Frame;"⟩ ∈ xTs := xTs_in (tk3 (List.mem_of_getElem? (i := 19) (by decide +kernel))) rfl
theorem mw557 : Cond.methodLink "ZonedFabric$Switch" 95 ⟨"ZonedFabric$Port", "post", "(LZonedFabric$Frame;)V"⟩ ∈ xTs := xTs_in (tk3 (List.mem_of_getElem? (i := 49) (by decide +kernel))) rfl
theorem mw558 : Cond.constant "ZonedFabric$Switch" 91 (16777214) ∈ xTs := xTs_in (tk3 (List.mem_of_getElem? (i := 18) (by decide +kernel))) rfl
theorem mw559 : Cond.code ⟨"ZonedFabric$Notice", "byteAt", "(I)I"⟩ prog_8_method_5_code 2 (some FieldType.int) ∈ xTs := xTs_in (tk3 (List.mem_of_getElem? (i := 85) (by decide +kernel))) rfl
theorem mw560 : Cond.fieldLink "ZonedFabric$Notice" 15 "ZonedFabric$Notice" "size" "I" ∈ xTs := xTs_in (tk1 (List.mem_of_getElem? (i := 86) (by decide +kernel))) rfl
theorem mw561 : Cond.code ⟨"ZonedFabric$Notice", "neighbours", "()I"⟩ prog_8_method_9_code 1 (some FieldType.int) ∈ xTs := xTs_in (tk3 (List.mem_of_getElem? (i := 81) (by decide +kernel))) rfl
theorem mw562 : Cond.methodLink "ZonedFabric$Notice" 19 ⟨"ZonedFabric$Notice", "byteAt", "(I)I"⟩ ∈ xTs := xTs_in (tk3 (List.mem_of_getElem? (i := 82) (by decide +kernel))) rfl
theorem mw563 : Cond.instanceMethod ⟨"ZonedFabric$Notice", "byteAt", "(I)I"⟩ ∈ xTs := xTs_in (tk3 (List.mem_of_getElem? (i := 83) (by decide +kernel))) rfl
theorem mw564 : Cond.selects "ZonedFabric$Notice" ⟨"ZonedFabric$Notice", "byteAt", "(I)I"⟩ ⟨"ZonedFabric$Notice", "byteAt", "(I)I"⟩ ∈ xTs := xTs_in (tk3 (List.mem_of_getElem? (i := 84) (by decide +kernel))) rfl
theorem mw565 : Cond.code ⟨"ZonedFabric$Notice", "neighbourSwitch", "(I)I"⟩ prog_8_method_11_code 2 (some FieldType.int) ∈ xTs := xTs_in (tk3 (List.mem_of_getElem? (i := 89) (by decide +kernel))) rfl
theorem mw566 : Cond.code ⟨"ZonedFabric$Notice", "neighbourCost", "(I)I"⟩ prog_8_method_12_code 2 (some FieldType.int) ∈ xTs := xTs_in (tk3 (List.mem_of_getElem? (i := 93) (by decide +kernel))) rfl
theorem mw567 : Cond.code ⟨"ZonedFabric$Switch", "noteCosts", "()V"⟩ prog_12_method_22_code 4 none ∈ xTs := xTs_in (tk3 (List.mem_of_getElem? (i := 76) (by decide +kernel))) rfl
theorem mw568 : Cond.constant "ZonedFabric$Switch" 286 (1000000) ∈ xTs := xTs_in (tk3 (List.mem_of_getElem? (i := 77) (by decide +kernel))) rfl
theorem mw569 : Cond.methodLink "ZonedFabric$Switch" 287 ⟨"ZonedFabric$Notice", "neighbours", "()I"⟩ ∈ xTs := xTs_in (tk3 (List.mem_of_getElem? (i := 78) (by decide +kernel))) rfl
theorem mw570 : Cond.instanceMethod ⟨"ZonedFabric$Notice", "neighbours", "()I"⟩ ∈ xTs := xTs_in (tk3 (List.mem_of_getElem? (i := 79) (by decide +kernel))) rfl
theorem mw571 : Cond.selects "ZonedFabric$Notice" ⟨"ZonedFabric$Notice", "neighbours", "()I"⟩ ⟨"ZonedFabric$Notice", "neighbours", "()I"⟩ ∈ xTs := xTs_in (tk3 (List.mem_of_getElem? (i := 80) (by decide +kernel))) rfl
theorem mw572 : Cond.methodLink "ZonedFabric$Switch" 290 ⟨"ZonedFabric$Notice", "neighbourSwitch", "(I)I"⟩ ∈ xTs := xTs_in (tk3 (List.mem_of_getElem? (i := 86) (by decide +kernel))) rfl
theorem mw573 : Cond.instanceMethod ⟨"ZonedFabric$Notice", "neighbourSwitch", "(I)I"⟩ ∈ xTs := xTs_in (tk3 (List.mem_of_getElem? (i := 87) (by decide +kernel))) rfl
theorem mw574 : Cond.selects "ZonedFabric$Notice" ⟨"ZonedFabric$Notice", "neighbourSwitch", "(I)I"⟩ ⟨"ZonedFabric$Notice", "neighbourSwitch", "(I)I"⟩ ∈ xTs := xTs_in (tk3 (List.mem_of_getElem? (i := 88) (by decide +kernel))) rfl
theorem mw575 : Cond.methodLink "ZonedFabric$Switch" 293 ⟨"ZonedFabric$Notice", "neighbourCost", "(I)I"⟩ ∈ xTs := xTs_in (tk3 (List.mem_of_getElem? (i := 90) (by decide +kernel))) rfl
theorem mw576 : Cond.instanceMethod ⟨"ZonedFabric$Notice", "neighbourCost", "(I)I"⟩ ∈ xTs := xTs_in (tk3 (List.mem_of_getElem? (i := 91) (by decide +kernel))) rfl
theorem mw577 : Cond.selects "ZonedFabric$Notice" ⟨"ZonedFabric$Notice", "neighbourCost", "(I)I"⟩ ⟨"ZonedFabric$Notice", "neighbourCost", "(I)I"⟩ ∈ xTs := xTs_in (tk3 (List.mem_of_getElem? (i := 92) (by decide +kernel))) rfl
theorem mw578 : Cond.methodLink "ZonedFabric$Switch" 296 ⟨"java/lang/Math", "min", "(II)I"⟩ ∈ xTs := xTs_in (tk3 (List.mem_of_getElem? (i := 94) (by decide +kernel))) rfl
theorem mw579 : Cond.code ⟨"ZonedFabric$Switch", "areJoined", "(II)Z"⟩ prog_12_method_23_code 3 (some FieldType.boolean) ∈ xTs := xTs_in (tk3 (List.mem_of_getElem? (i := 104) (by decide +kernel))) rfl
theorem mw580 : Cond.code ⟨"ZonedFabric$Switch", "addUpCosts", "()V"⟩ prog_12_method_24_code 4 none ∈ xTs := xTs_in (tk3 (List.mem_of_getElem? (i := 100) (by decide +kernel))) rfl
theorem mw581 : Cond.methodLink "ZonedFabric$Switch" 302 ⟨"ZonedFabric$Switch", "areJoined", "(II)Z"⟩ ∈ xTs := xTs_in (tk3 (List.mem_of_getElem? (i := 101) (by decide +kernel))) rfl
theorem mw582 : Cond.instanceMethod ⟨"ZonedFabric$Switch", "areJoined", "(II)Z"⟩ ∈ xTs := xTs_in (tk3 (List.mem_of_getElem? (i := 103) (by decide +kernel))) rfl
theorem mw583 : Cond.selects "ZonedFabric$Switch" ⟨"ZonedFabric$Switch", "areJoined", "(II)Z"⟩ ⟨"ZonedFabric$Switch", "areJoined", "(II)Z"⟩ ∈ xTs := xTs_in (List.mem_append_left _ (List.mem_of_getElem? (i := 10) (by decide +kernel))) rfl
/-! ZF.Host.takeDone(LZF$Frame;)V -/
def ym86 : MethodName := ⟨"ZonedFabric$Host", "takeDone", "(LZonedFabric$Frame;)V"⟩
theorem cd86 : xCd ym86 prog_6_method_15_code 3 none 1 := ⟨mw474, mw37, by decide, by decide, by decide +kernel⟩
def b86_94  (M : hM) : Option xRes :=
  some (.inl (none, M))
def b86_72 (a0 : Nat) (o2 : Option Nat) (M : hM) : Option xRes :=
  Option.bind (g_r M 4 0 (some a0)) fun o_44 =>
  Option.bind (g_i M 9 3 o_44) fun v_46 =>
  Option.bind (g_o M 0 o2) fun b_50 =>
  Option.bind (c_V (f50 [.inr (.inr (some b_50)), .inl (10 : Int32), .inl v_46] M)) fun q_48 =>
  b86_94  q_48
def b86_0 (a0 : Nat) (o1 : Option Nat) (M : hM) : Option xRes :=
  Option.bind (g_o M 4 (some a0)) fun b_3 =>
  Option.bind (c_R (f83 [.inr (.inr (some b_3)), .inr (.inr o1), .inl (2 : Int32)] M)) fun q_1 =>
  if q_1.1 = none then
    (some (.inl (none, q_1.2)))
  else
    (Option.bind (g_o q_1.2 2 o1) fun b_7 =>
    Option.bind (c_I (f58 [.inr (.inr (some b_7)), .inl (0 : Int32)] q_1.2)) fun q_5 =>
    if q_5.1 = 0 then
      (Option.bind (g_i q_5.2 0 0 q_1.1) fun v_9 =>
      if v_9 = 0 then
        (Option.bind (g_o q_5.2 0 q_1.1) fun b_13 =>
        Option.bind (c_I (f85 [.inr (.inr (some b_13))] q_5.2)) fun q_11 =>
        if q_11.1 = 0 then
          (Option.bind (g_o q_11.2 4 (some a0)) fun b_17 =>
          Option.bind (c_V (f51 [.inr (.inr (some b_17)), .inr (.inr q_1.1), .inl (3 : Int32)] q_11.2)) fun q_15 =>
          b86_94  q_15)
        else
          (b86_72 a0 q_1.1 q_11.2))
      else
        (b86_72 a0 q_1.1 q_5.2))
    else
      (Option.bind (g_r q_5.2 4 0 (some a0)) fun o_21 =>
      Option.bind (g_i q_5.2 9 3 o_21) fun v_23 =>
      Option.bind (g_o q_5.2 0 q_1.1) fun b_27 =>
      Option.bind (c_V (f50 [.inr (.inr (some b_27)), .inl (11 : Int32), .inl v_23] q_5.2)) fun q_25 =>
      Option.bind (g_i q_25 0 8 q_1.1) fun v_29 =>
      Option.bind (g_r q_25 4 3 (some a0)) fun o_31 =>
      Option.bind (a_ln q_25 20 o_31) fun v_33 =>
      if v_33 ≤ v_29 then
        (b86_94  q_25)
      else
        (Option.bind (g_r q_25 4 3 (some a0)) fun o_35 =>
        Option.bind (g_i q_25 0 8 q_1.1) fun v_37 =>
        Option.bind (as_i q_25 20 o_35 v_37 (0 : Int32)) fun M39 =>
        b86_94  M39)))
def f86 (as : List aV) (M : hM) : xO := match as with
  | [.inr (.inr (some a0)), .inr (.inr o1)] => x_out (b86_0 a0 o1 M)
  | _ => none
theorem lb86_94 (G : gX) (l : Launch)  (M : hM) {res : xRes} (h : b86_94  M = some res) : h_sz M ≤ r_sz res ∧ h_sl M ≤ r_sl res := by
  unfold b86_94 at h
  obtain rfl := Option.some.inj h
  show h_sz M ≤ h_sz M ∧ h_sl M ≤ h_sl M
  omega
theorem lb86_72 (G : gX) (l : Launch) (a0 : Nat) (o2 : Option Nat) (M : hM) {res : xRes} (h : b86_72 a0 o2 M = some res) : h_sz M ≤ r_sz res ∧ h_sl M ≤ r_sl res := by
  unfold b86_72 at h
  obtain ⟨o_44, h45, h⟩ := bd h
  obtain ⟨v_46, h47, h⟩ := bd h
  obtain ⟨b_50, h51, h⟩ := bd h
  obtain ⟨q_48, h49, h⟩ := bd h
  have eh49 := (t50 G l (c_V_some h49)).1
  have e := lb86_94 G l  q_48 h
  omega
theorem lb86_0 (G : gX) (l : Launch) (a0 : Nat) (o1 : Option Nat) (M : hM) {res : xRes} (h : b86_0 a0 o1 M = some res) : h_sz M ≤ r_sz res ∧ h_sl M ≤ r_sl res := by
  unfold b86_0 at h
  obtain ⟨b_3, h4, h⟩ := bd h
  obtain ⟨q_1, h2, h⟩ := bd h
  have eh2 := (t83 G l (c_R_some h2)).1
  by_cases q43 : q_1.1 = none
  · rw [if_pos q43] at h
    obtain rfl := Option.some.inj h
    show h_sz M ≤ h_sz q_1.2 ∧ h_sl M ≤ h_sl q_1.2
    omega
  · rw [if_neg q43] at h
    obtain ⟨b_7, h8, h⟩ := bd h
    obtain ⟨q_5, h6, h⟩ := bd h
    have eh6 := (t58 G l (c_I_some h6)).1
    by_cases q42 : q_5.1 = 0
    · rw [if_pos q42] at h
      obtain ⟨v_9, h10, h⟩ := bd h
      by_cases q20 : v_9 = 0
      · rw [if_pos q20] at h
        obtain ⟨b_13, h14, h⟩ := bd h
        obtain ⟨q_11, h12, h⟩ := bd h
        have eh12 := (t85 G l (c_I_some h12)).1
        by_cases q19 : q_11.1 = 0
        · rw [if_pos q19] at h
          obtain ⟨b_17, h18, h⟩ := bd h
          obtain ⟨q_15, h16, h⟩ := bd h
          have eh16 := (t51 G l (c_V_some h16)).1
          have e := lb86_94 G l  q_15 h
          omega
        · rw [if_neg q19] at h
          have e := lb86_72 G l a0 q_1.1 q_11.2 h
          omega
      · rw [if_neg q20] at h
        have e := lb86_72 G l a0 q_1.1 q_5.2 h
        omega
    · rw [if_neg q42] at h
      obtain ⟨o_21, h22, h⟩ := bd h
      obtain ⟨v_23, h24, h⟩ := bd h
      obtain ⟨b_27, h28, h⟩ := bd h
      obtain ⟨q_25, h26, h⟩ := bd h
      have eh26 := (t50 G l (c_V_some h26)).1
      obtain ⟨v_29, h30, h⟩ := bd h
      obtain ⟨o_31, h32, h⟩ := bd h
      obtain ⟨v_33, h34, h⟩ := bd h
      by_cases q41 : v_33 ≤ v_29
      · rw [if_pos q41] at h
        have e := lb86_94 G l  q_25 h
        omega
      · rw [if_neg q41] at h
        obtain ⟨o_35, h36, h⟩ := bd h
        obtain ⟨v_37, h38, h⟩ := bd h
        obtain ⟨M39, h40, h⟩ := bd h
        have eh40 := as_i_sz h40
        have e := lb86_94 G l  M39 h
        omega
section
variable {p : Program} {l : Launch} {e : Env} {s : State} {m : MethodId} {args : Array Value} {below : List Frame} {meth : Method} {c : Code} {G : gX} {z0 y0 : Nat} {r : Option aV} {M' : hM}
theorem sb86_94 (E : xE G p (xRm 5 (h_sz M' - z0) (h_sl M' - y0)) s m args c prog_6_method_15_code "ZonedFabric$Host" z0 y0 (h_sz M') (h_sl M') 3) (B : xB ym86 none meth)  (M : hM) {res : xRes} (h : b86_94  M = some res) (hN : xN (fun _ _ _ => False) r M' res) : xV G p l e (xRm 5 (h_sz M' - z0) (h_sl M' - y0)) s m args below meth c z0 y0 (h_sz M') (h_sl M') 3 (MQ below (xQc G r M') args s (h_sz M' - z0) (h_sl M' - y0) (xFr G)) 94 [] [] M := by
  unfold b86_94 at h
  obtain rfl := Option.some.inj h
  obtain ⟨rfl, rfl⟩ := Prod.mk.inj (show ((none : Option aV), M) = (r, M') from hN)
  exact xv_rv E B.1 B.2.1 (show decode prog_6_method_15_code 94 = .ok (.return_, 1) by decide +kernel) rfl rfl
theorem sb86_72 (E : xE G p (xRm 5 (h_sz M' - z0) (h_sl M' - y0)) s m args c prog_6_method_15_code "ZonedFabric$Host" z0 y0 (h_sz M') (h_sl M') 3) (B : xB ym86 none meth) (a0 : Nat) (o2 : Option Nat) (M : hM) {res : xRes} (h : b86_72 a0 o2 M = some res) (hN : xN (fun _ _ _ => False) r M' res) : xV G p l e (xRm 5 (h_sz M' - z0) (h_sl M' - y0)) s m args below meth c z0 y0 (h_sz M') (h_sl M') 3 (MQ below (xQc G r M') args s (h_sz M' - z0) (h_sl M' - y0) (xFr G)) 72 [(0, .inr (.inr (some a0))), (2, .inr (.inr o2))] [] M := by
  unfold b86_72 at h
  refine xv_b E [.aload_n 2, .bipush 10, .aload_n 0] (pc' := 76) (lv' := [(0, .inr (.inr (some a0))), (2, .inr (.inr o2))]) (st' := [.inr (.inr (some a0)), .inl (10 : Int32), .inr (.inr o2)]) (by decide +kernel) rfl rfl ?_
  obtain ⟨o_44, h45, h⟩ := bd h
  refine xg_r E 4 0 h45 mw40 (show decode prog_6_method_15_code 76 = .ok (.getfield 17, 3) by decide +kernel) ?_
  obtain ⟨v_46, h47, h⟩ := bd h
  refine xg_i E 9 3 h47 mw310 (show decode prog_6_method_15_code 79 = .ok (.getfield 46, 3) by decide +kernel) ?_
  obtain ⟨b_50, h51, h⟩ := bd h
  obtain ⟨eh51, th51⟩ := g_o_some h51
  obtain ⟨q_48, h49, h⟩ := bd h
  refine xv_cvo E eh51 0 (as := [.inl (10 : Int32), .inl v_46]) (t50 G l (c_V_some h49)) cd50 mw317 mw318 mw319 (show decode prog_6_method_15_code 82 = .ok (.invokevirtual 66, 3) by decide +kernel) th51 rfl rfl (Nat.le_of_ble_eq_true rfl) ⟨Nat.le_of_ble_eq_true rfl, Nat.le_of_ble_eq_true rfl⟩ ?_
  refine xv_goto E 94 (show decode prog_6_method_15_code 85 = .ok (.goto (9), 3) by decide +kernel) rfl ?_
  exact xv_w (sb86_94 E B  q_48 h hN) rfl
theorem sb86_0 (E : xE G p (xRm 5 (h_sz M' - z0) (h_sl M' - y0)) s m args c prog_6_method_15_code "ZonedFabric$Host" z0 y0 (h_sz M') (h_sl M') 3) (B : xB ym86 none meth) (a0 : Nat) (o1 : Option Nat) (M : hM) {res : xRes} (h : b86_0 a0 o1 M = some res) (hN : xN (fun _ _ _ => False) r M' res) : xV G p l e (xRm 5 (h_sz M' - z0) (h_sl M' - y0)) s m args below meth c z0 y0 (h_sz M') (h_sl M') 3 (MQ below (xQc G r M') args s (h_sz M' - z0) (h_sl M' - y0) (xFr G)) 0 [(0, .inr (.inr (some a0))), (1, .inr (.inr o1))] [] M := by
  unfold b86_0 at h
  refine xv_b E [.aload_n 0, .aload_n 1, .iconst 2] (pc' := 3) (lv' := [(0, .inr (.inr (some a0))), (1, .inr (.inr o1))]) (st' := [.inl (2 : Int32), .inr (.inr o1), .inr (.inr (some a0))]) (by decide +kernel) rfl rfl ?_
  obtain ⟨b_3, h4, h⟩ := bd h
  obtain ⟨eh4, th4⟩ := g_o_some h4
  obtain ⟨q_1, h2, h⟩ := bd h
  refine xv_cvo E eh4 4 (as := [.inr (.inr o1), .inl (2 : Int32)]) (t83 G l (c_R_some h2)) cd83 mw469 mw470 mw471 (show decode prog_6_method_15_code 3 = .ok (.invokevirtual 150, 3) by decide +kernel) th4 rfl rfl (Nat.le_of_ble_eq_true rfl) ⟨Nat.le_of_ble_eq_true rfl, Nat.le_of_ble_eq_true rfl⟩ ?_
  refine xv_b E [.astore_n 2, .aload_n 2] (pc' := 8) (lv' := [(2, .inr (.inr q_1.1)), (0, .inr (.inr (some a0))), (1, .inr (.inr o1))]) (st' := [.inr (.inr q_1.1)]) (by decide +kernel) rfl rfl ?_
  by_cases q43 : q_1.1 = none
  · rw [if_pos q43] at h
    refine xi_nonnull E 12 (show decode prog_6_method_15_code 8 = .ok (.ifnonnull (4), 3) by decide +kernel) rfl (fun z => absurd q43 z) (fun _ => ?_)
    obtain rfl := Option.some.inj h
    obtain ⟨rfl, rfl⟩ := Prod.mk.inj (show ((none : Option aV), q_1.2) = (r, M') from hN)
    exact xv_rv E B.1 B.2.1 (show decode prog_6_method_15_code 11 = .ok (.return_, 1) by decide +kernel) rfl rfl
  · rw [if_neg q43] at h
    refine xi_nonnull E 12 (show decode prog_6_method_15_code 8 = .ok (.ifnonnull (4), 3) by decide +kernel) rfl (fun _ => ?_) (fun z => absurd z q43)
    refine xv_b E [.aload_n 1, .iconst 0] (pc' := 14) (lv' := [(2, .inr (.inr q_1.1)), (0, .inr (.inr (some a0))), (1, .inr (.inr o1))]) (st' := [.inl (0 : Int32), .inr (.inr o1)]) (by decide +kernel) rfl rfl ?_
    obtain ⟨b_7, h8, h⟩ := bd h
    obtain ⟨eh8, th8⟩ := g_o_some h8
    obtain ⟨q_5, h6, h⟩ := bd h
    refine xv_cvo E eh8 2 (as := [.inl (0 : Int32)]) (t58 G l (c_I_some h6)) cd58 mw475 mw342 mw343 (show decode prog_6_method_15_code 14 = .ok (.invokevirtual 140, 3) by decide +kernel) th8 rfl rfl (Nat.le_of_ble_eq_true rfl) ⟨Nat.le_of_ble_eq_true rfl, Nat.le_of_ble_eq_true rfl⟩ ?_
    by_cases q42 : q_5.1 = 0
    · rw [if_pos q42] at h
      refine xv_if_eq E 58 (show decode prog_6_method_15_code 17 = .ok (.ifCond .eq (41), 3) by decide +kernel) rfl (fun _ => ?_) (fun z => absurd q42 z)
      refine xv_b E [.aload_n 2] (pc' := 59) (lv' := [(2, .inr (.inr q_1.1)), (0, .inr (.inr (some a0))), (1, .inr (.inr o1))]) (st' := [.inr (.inr q_1.1)]) (by decide +kernel) rfl rfl ?_
      obtain ⟨v_9, h10, h⟩ := bd h
      refine xg_i E 0 0 h10 mw476 (show decode prog_6_method_15_code 59 = .ok (.getfield 154, 3) by decide +kernel) ?_
      by_cases q20 : v_9 = 0
      · rw [if_pos q20] at h
        refine xv_if_ne E 72 (show decode prog_6_method_15_code 62 = .ok (.ifCond .ne (10), 3) by decide +kernel) rfl (fun z => absurd q20 z) (fun _ => ?_)
        refine xv_b E [.aload_n 2] (pc' := 66) (lv' := [(2, .inr (.inr q_1.1)), (0, .inr (.inr (some a0))), (1, .inr (.inr o1))]) (st' := [.inr (.inr q_1.1)]) (by decide +kernel) rfl rfl ?_
        obtain ⟨b_13, h14, h⟩ := bd h
        obtain ⟨eh14, th14⟩ := g_o_some h14
        obtain ⟨q_11, h12, h⟩ := bd h
        refine xv_cvo E eh14 0 (as := []) (t85 G l (c_I_some h12)) cd85 mw477 mw478 mw479 (show decode prog_6_method_15_code 66 = .ok (.invokevirtual 177, 3) by decide +kernel) th14 rfl rfl (Nat.le_of_ble_eq_true rfl) ⟨Nat.le_of_ble_eq_true rfl, Nat.le_of_ble_eq_true rfl⟩ ?_
        by_cases q19 : q_11.1 = 0
        · rw [if_pos q19] at h
          refine xv_if_eq E 88 (show decode prog_6_method_15_code 69 = .ok (.ifCond .eq (19), 3) by decide +kernel) rfl (fun _ => ?_) (fun z => absurd q19 z)
          refine xv_b E [.aload_n 0, .aload_n 2, .iconst 3] (pc' := 91) (lv' := [(2, .inr (.inr q_1.1)), (0, .inr (.inr (some a0))), (1, .inr (.inr o1))]) (st' := [.inl (3 : Int32), .inr (.inr q_1.1), .inr (.inr (some a0))]) (by decide +kernel) rfl rfl ?_
          obtain ⟨b_17, h18, h⟩ := bd h
          obtain ⟨eh18, th18⟩ := g_o_some h18
          obtain ⟨q_15, h16, h⟩ := bd h
          refine xv_cvo E eh18 4 (as := [.inr (.inr q_1.1), .inl (3 : Int32)]) (t51 G l (c_V_some h16)) cd51 mw320 mw321 mw322 (show decode prog_6_method_15_code 91 = .ok (.invokevirtual 52, 3) by decide +kernel) th18 rfl rfl (Nat.le_of_ble_eq_true rfl) ⟨Nat.le_of_ble_eq_true rfl, Nat.le_of_ble_eq_true rfl⟩ ?_
          exact xv_w (sb86_94 E B  q_15 h hN) rfl
        · rw [if_neg q19] at h
          refine xv_if_eq E 88 (show decode prog_6_method_15_code 69 = .ok (.ifCond .eq (19), 3) by decide +kernel) rfl (fun z => absurd z q19) (fun _ => ?_)
          exact xv_w (sb86_72 E B a0 q_1.1 q_11.2 h hN) rfl
      · rw [if_neg q20] at h
        refine xv_if_ne E 72 (show decode prog_6_method_15_code 62 = .ok (.ifCond .ne (10), 3) by decide +kernel) rfl (fun _ => ?_) (fun z => absurd z q20)
        exact xv_w (sb86_72 E B a0 q_1.1 q_5.2 h hN) rfl
    · rw [if_neg q42] at h
      refine xv_if_eq E 58 (show decode prog_6_method_15_code 17 = .ok (.ifCond .eq (41), 3) by decide +kernel) rfl (fun z => absurd z q42) (fun _ => ?_)
      refine xv_b E [.aload_n 2, .bipush 11, .aload_n 0] (pc' := 24) (lv' := [(2, .inr (.inr q_1.1)), (0, .inr (.inr (some a0))), (1, .inr (.inr o1))]) (st' := [.inr (.inr (some a0)), .inl (11 : Int32), .inr (.inr q_1.1)]) (by decide +kernel) rfl rfl ?_
      obtain ⟨o_21, h22, h⟩ := bd h
      refine xg_r E 4 0 h22 mw40 (show decode prog_6_method_15_code 24 = .ok (.getfield 17, 3) by decide +kernel) ?_
      obtain ⟨v_23, h24, h⟩ := bd h
      refine xg_i E 9 3 h24 mw310 (show decode prog_6_method_15_code 27 = .ok (.getfield 46, 3) by decide +kernel) ?_
      obtain ⟨b_27, h28, h⟩ := bd h
      obtain ⟨eh28, th28⟩ := g_o_some h28
      obtain ⟨q_25, h26, h⟩ := bd h
      refine xv_cvo E eh28 0 (as := [.inl (11 : Int32), .inl v_23]) (t50 G l (c_V_some h26)) cd50 mw317 mw318 mw319 (show decode prog_6_method_15_code 30 = .ok (.invokevirtual 66, 3) by decide +kernel) th28 rfl rfl (Nat.le_of_ble_eq_true rfl) ⟨Nat.le_of_ble_eq_true rfl, Nat.le_of_ble_eq_true rfl⟩ ?_
      refine xv_b E [.aload_n 2] (pc' := 34) (lv' := [(2, .inr (.inr q_1.1)), (0, .inr (.inr (some a0))), (1, .inr (.inr o1))]) (st' := [.inr (.inr q_1.1)]) (by decide +kernel) rfl rfl ?_
      obtain ⟨v_29, h30, h⟩ := bd h
      refine xg_i E 0 8 h30 mw304 (show decode prog_6_method_15_code 34 = .ok (.getfield 90, 3) by decide +kernel) ?_
      refine xv_b E [.aload_n 0] (pc' := 38) (lv' := [(2, .inr (.inr q_1.1)), (0, .inr (.inr (some a0))), (1, .inr (.inr o1))]) (st' := [.inr (.inr (some a0)), .inl v_29]) (by decide +kernel) rfl rfl ?_
      obtain ⟨o_31, h32, h⟩ := bd h
      refine xg_r E 4 3 h32 mw43 (show decode prog_6_method_15_code 38 = .ok (.getfield 31, 3) by decide +kernel) ?_
      obtain ⟨v_33, h34, h⟩ := bd h
      refine xa_n E 20 h34 (show decode prog_6_method_15_code 41 = .ok (.arraylength, 1) by decide +kernel) ?_
      by_cases q41 : v_33 ≤ v_29
      · rw [if_pos q41] at h
        refine xv_icmp_ge E 94 (show decode prog_6_method_15_code 42 = .ok (.if_icmp .ge (52), 3) by decide +kernel) rfl (fun _ => ?_) (fun z => absurd q41 z)
        exact xv_w (sb86_94 E B  q_25 h hN) rfl
      · rw [if_neg q41] at h
        refine xv_icmp_ge E 94 (show decode prog_6_method_15_code 42 = .ok (.if_icmp .ge (52), 3) by decide +kernel) rfl (fun z => absurd z q41) (fun _ => ?_)
        refine xv_b E [.aload_n 0] (pc' := 46) (lv' := [(2, .inr (.inr q_1.1)), (0, .inr (.inr (some a0))), (1, .inr (.inr o1))]) (st' := [.inr (.inr (some a0))]) (by decide +kernel) rfl rfl ?_
        obtain ⟨o_35, h36, h⟩ := bd h
        refine xg_r E 4 3 h36 mw43 (show decode prog_6_method_15_code 46 = .ok (.getfield 31, 3) by decide +kernel) ?_
        refine xv_b E [.aload_n 2] (pc' := 50) (lv' := [(2, .inr (.inr q_1.1)), (0, .inr (.inr (some a0))), (1, .inr (.inr o1))]) (st' := [.inr (.inr q_1.1), .inr (.inr o_35)]) (by decide +kernel) rfl rfl ?_
        obtain ⟨v_37, h38, h⟩ := bd h
        refine xg_i E 0 8 h38 mw304 (show decode prog_6_method_15_code 50 = .ok (.getfield 90, 3) by decide +kernel) ?_
        refine xv_b E [.iconst 0] (pc' := 54) (lv' := [(2, .inr (.inr q_1.1)), (0, .inr (.inr (some a0))), (1, .inr (.inr o1))]) (st' := [.inl (0 : Int32), .inl v_37, .inr (.inr o_35)]) (by decide +kernel) rfl rfl ?_
        obtain ⟨M39, h40, h⟩ := bd h
        refine xs_i E h40 (show decode prog_6_method_15_code 54 = .ok (.iastore, 1) by decide +kernel) ?_
        refine xv_goto E 94 (show decode prog_6_method_15_code 55 = .ok (.goto (39), 3) by decide +kernel) rfl ?_
        exact xv_w (sb86_94 E B  M39 h hN) rfl
end
theorem t86 (G : gX) (l : Launch) {as : List aV} {M : hM} {r : Option aV} {M' : hM} (h : f86 as M = some (r, M')) : xM G l ym86 prog_6_method_15_code 3 none 5 as M r M' := by
  unfold f86 at h
  split at h
  · have h := x_out_ok h
    refine xM_of (by decide) (Nat.le_of_ble_eq_true rfl) (lb86_0 G l _ _ M h) ?_
    intro p e s m args below meth c E B
    exact sb86_0 E B _ _ M h rfl
  · cases h
/-! ZF.Command.keep(IJ)V -/
def ym87 : MethodName := ⟨"ZonedFabric$Command", "keep", "(IJ)V"⟩
theorem cd87 : xCd ym87 prog_2_method_5_code 4 none 2 := ⟨mw480, mw282, by decide, by decide, by decide +kernel⟩
def b87_28  (M : hM) : Option xRes :=
  some (.inl (none, M))
def b87_0 (a0 : Nat) (v1 : Int32) (w2 : Int64) (M : hM) : Option xRes :=
  if v1 < 0 then
    (b87_28  M)
  else
    (if (4 : Int32) ≤ v1 then
      (b87_28  M)
    else
      (Option.bind (g_r M 0 5 (some a0)) fun o_1 =>
      Option.bind (as_l M 23 o_1 v1 w2) fun M3 =>
      Option.bind (g_i M3 0 6 (some a0)) fun v_5 =>
      Option.bind (p_i M3 0 6 (some a0) (v_5 ||| ((1 : Int32) <<< (v1 &&& 31)))) fun M7 =>
      b87_28  M7))
def f87 (as : List aV) (M : hM) : xO := match as with
  | [.inr (.inr (some a0)), .inl v1, .inr (.inl w2)] => x_out (b87_0 a0 v1 w2 M)
  | _ => none
theorem lb87_28 (G : gX) (l : Launch)  (M : hM) {res : xRes} (h : b87_28  M = some res) : h_sz M ≤ r_sz res ∧ h_sl M ≤ r_sl res := by
  unfold b87_28 at h
  obtain rfl := Option.some.inj h
  show h_sz M ≤ h_sz M ∧ h_sl M ≤ h_sl M
  omega
theorem lb87_0 (G : gX) (l : Launch) (a0 : Nat) (v1 : Int32) (w2 : Int64) (M : hM) {res : xRes} (h : b87_0 a0 v1 w2 M = some res) : h_sz M ≤ r_sz res ∧ h_sl M ≤ r_sl res := by
  unfold b87_0 at h
  by_cases q10 : v1 < 0
  · rw [if_pos q10] at h
    have e := lb87_28 G l  M h
    omega
  · rw [if_neg q10] at h
    by_cases q9 : (4 : Int32) ≤ v1
    · rw [if_pos q9] at h
      have e := lb87_28 G l  M h
      omega
    · rw [if_neg q9] at h
      obtain ⟨o_1, h2, h⟩ := bd h
      obtain ⟨M3, h4, h⟩ := bd h
      have eh4 := as_l_sz h4
      obtain ⟨v_5, h6, h⟩ := bd h
      obtain ⟨M7, h8, h⟩ := bd h
      have eh8 := p_i_sz h8
      have e := lb87_28 G l  M7 h
      omega
section
variable {p : Program} {l : Launch} {e : Env} {s : State} {m : MethodId} {args : Array Value} {below : List Frame} {meth : Method} {c : Code} {G : gX} {z0 y0 : Nat} {r : Option aV} {M' : hM}
theorem sb87_28 (E : xE G p (xRm 0 (h_sz M' - z0) (h_sl M' - y0)) s m args c prog_2_method_5_code "ZonedFabric$Command" z0 y0 (h_sz M') (h_sl M') 4) (B : xB ym87 none meth)  (M : hM) {res : xRes} (h : b87_28  M = some res) (hN : xN (fun _ _ _ => False) r M' res) : xV G p l e (xRm 0 (h_sz M' - z0) (h_sl M' - y0)) s m args below meth c z0 y0 (h_sz M') (h_sl M') 4 (MQ below (xQc G r M') args s (h_sz M' - z0) (h_sl M' - y0) (xFr G)) 28 [] [] M := by
  unfold b87_28 at h
  obtain rfl := Option.some.inj h
  obtain ⟨rfl, rfl⟩ := Prod.mk.inj (show ((none : Option aV), M) = (r, M') from hN)
  exact xv_rv E B.1 B.2.1 (show decode prog_2_method_5_code 28 = .ok (.return_, 1) by decide +kernel) rfl rfl
theorem sb87_0 (E : xE G p (xRm 0 (h_sz M' - z0) (h_sl M' - y0)) s m args c prog_2_method_5_code "ZonedFabric$Command" z0 y0 (h_sz M') (h_sl M') 4) (B : xB ym87 none meth) (a0 : Nat) (v1 : Int32) (w2 : Int64) (M : hM) {res : xRes} (h : b87_0 a0 v1 w2 M = some res) (hN : xN (fun _ _ _ => False) r M' res) : xV G p l e (xRm 0 (h_sz M' - z0) (h_sl M' - y0)) s m args below meth c z0 y0 (h_sz M') (h_sl M') 4 (MQ below (xQc G r M') args s (h_sz M' - z0) (h_sl M' - y0) (xFr G)) 0 [(0, .inr (.inr (some a0))), (1, .inl v1), (2, .inr (.inl w2))] [] M := by
  unfold b87_0 at h
  refine xv_b E [.iload_n 1] (pc' := 1) (lv' := [(0, .inr (.inr (some a0))), (1, .inl v1), (2, .inr (.inl w2))]) (st' := [.inl v1]) (by decide +kernel) rfl rfl ?_
  by_cases q10 : v1 < 0
  · rw [if_pos q10] at h
    refine xv_if_lt E 28 (show decode prog_2_method_5_code 1 = .ok (.ifCond .lt (27), 3) by decide +kernel) rfl (fun _ => ?_) (fun z => absurd q10 z)
    exact xv_w (sb87_28 E B  M h hN) rfl
  · rw [if_neg q10] at h
    refine xv_if_lt E 28 (show decode prog_2_method_5_code 1 = .ok (.ifCond .lt (27), 3) by decide +kernel) rfl (fun z => absurd z q10) (fun _ => ?_)
    refine xv_b E [.iload_n 1, .iconst 4] (pc' := 6) (lv' := [(0, .inr (.inr (some a0))), (1, .inl v1), (2, .inr (.inl w2))]) (st' := [.inl (4 : Int32), .inl v1]) (by decide +kernel) rfl rfl ?_
    by_cases q9 : (4 : Int32) ≤ v1
    · rw [if_pos q9] at h
      refine xv_icmp_ge E 28 (show decode prog_2_method_5_code 6 = .ok (.if_icmp .ge (22), 3) by decide +kernel) rfl (fun _ => ?_) (fun z => absurd q9 z)
      exact xv_w (sb87_28 E B  M h hN) rfl
    · rw [if_neg q9] at h
      refine xv_icmp_ge E 28 (show decode prog_2_method_5_code 6 = .ok (.if_icmp .ge (22), 3) by decide +kernel) rfl (fun z => absurd z q9) (fun _ => ?_)
      refine xv_b E [.aload_n 0] (pc' := 10) (lv' := [(0, .inr (.inr (some a0))), (1, .inl v1), (2, .inr (.inl w2))]) (st' := [.inr (.inr (some a0))]) (by decide +kernel) rfl rfl ?_
      obtain ⟨o_1, h2, h⟩ := bd h
      refine xg_r E 0 5 h2 mw481 (show decode prog_2_method_5_code 10 = .ok (.getfield 9, 3) by decide +kernel) ?_
      refine xv_b E [.iload_n 1, .lload_n 2] (pc' := 15) (lv' := [(0, .inr (.inr (some a0))), (1, .inl v1), (2, .inr (.inl w2))]) (st' := [.inr (.inl w2), .inl v1, .inr (.inr o_1)]) (by decide +kernel) rfl rfl ?_
      obtain ⟨M3, h4, h⟩ := bd h
      refine xs_l E h4 (show decode prog_2_method_5_code 15 = .ok (.lastore, 1) by decide +kernel) ?_
      refine xv_b E [.aload_n 0, .dup] (pc' := 18) (lv' := [(0, .inr (.inr (some a0))), (1, .inl v1), (2, .inr (.inl w2))]) (st' := [.inr (.inr (some a0)), .inr (.inr (some a0))]) (by decide +kernel) rfl rfl ?_
      obtain ⟨v_5, h6, h⟩ := bd h
      refine xg_i E 0 6 h6 mw473 (show decode prog_2_method_5_code 18 = .ok (.getfield 39, 3) by decide +kernel) ?_
      refine xv_b E [.iconst 1, .iload_n 1, .ishl, .ior] (pc' := 25) (lv' := [(0, .inr (.inr (some a0))), (1, .inl v1), (2, .inr (.inl w2))]) (st' := [.inl (v_5 ||| ((1 : Int32) <<< (v1 &&& 31))), .inr (.inr (some a0))]) (by decide +kernel) rfl rfl ?_
      obtain ⟨M7, h8, h⟩ := bd h
      refine xp_i E 0 6 h8 mw473 (show decode prog_2_method_5_code 25 = .ok (.putfield 39, 3) by decide +kernel) (Or.inl rfl) ?_
      exact xv_w (sb87_28 E B  M7 h hN) rfl
end
theorem t87 (G : gX) (l : Launch) {as : List aV} {M : hM} {r : Option aV} {M' : hM} (h : f87 as M = some (r, M')) : xM G l ym87 prog_2_method_5_code 4 none 0 as M r M' := by
  unfold f87 at h
  split at h
  · have h := x_out_ok h
    refine xM_of (by decide) (Nat.le_of_ble_eq_true rfl) (lb87_0 G l _ _ _ M h) ?_
    intro p e s m args below meth c E B
    exact sb87_0 E B _ _ _ M h rfl
  · cases h
/-! ZF.Host.takeData(LZF$Frame;)V -/
def ym88 : MethodName := ⟨"ZonedFabric$Host", "takeData", "(LZonedFabric$Frame;)V"⟩
theorem cd88 : xCd ym88 prog_6_method_14_code 3 none 1 := ⟨mw482, mw37, by decide, by decide, by decide +kernel⟩
def b88_45  (M : hM) : Option xRes :=
  some (.inl (none, M))
def b88_0 (a0 : Nat) (o1 : Option Nat) (M : hM) : Option xRes :=
  Option.bind (g_o M 4 (some a0)) fun b_3 =>
  Option.bind (c_R (f83 [.inr (.inr (some b_3)), .inr (.inr o1), .inl (2 : Int32)] M)) fun q_1 =>
  if q_1.1 = none then
    (b88_45  q_1.2)
  else
    (Option.bind (g_i q_1.2 0 0 q_1.1) fun v_5 =>
    if v_5 = 0 then
      (Option.bind (g_o q_1.2 2 o1) fun b_9 =>
      Option.bind (c_I (f71 [.inr (.inr (some b_9))] q_1.2)) fun q_7 =>
      Option.bind (g_i q_7.2 0 3 q_1.1) fun v_11 =>
      if v_11 ≤ q_7.1 then
        (b88_45  q_7.2)
      else
        (Option.bind (g_o q_7.2 2 o1) fun b_15 =>
        Option.bind (c_I (f71 [.inr (.inr (some b_15))] q_7.2)) fun q_13 =>
        Option.bind (g_o q_13.2 2 o1) fun b_19 =>
        Option.bind (c_L (f56 [.inr (.inr (some b_19)), .inl (13 : Int32), .inl (8 : Int32)] q_13.2)) fun q_17 =>
        Option.bind (g_o q_17.2 0 q_1.1) fun b_23 =>
        Option.bind (c_V (f87 [.inr (.inr (some b_23)), .inl q_13.1, .inr (.inl q_17.1)] q_17.2)) fun q_21 =>
        b88_45  q_21))
    else
      (b88_45  q_1.2))
def f88 (as : List aV) (M : hM) : xO := match as with
  | [.inr (.inr (some a0)), .inr (.inr o1)] => x_out (b88_0 a0 o1 M)
  | _ => none
theorem lb88_45 (G : gX) (l : Launch)  (M : hM) {res : xRes} (h : b88_45  M = some res) : h_sz M ≤ r_sz res ∧ h_sl M ≤ r_sl res := by
  unfold b88_45 at h
  obtain rfl := Option.some.inj h
  show h_sz M ≤ h_sz M ∧ h_sl M ≤ h_sl M
  omega
theorem lb88_0 (G : gX) (l : Launch) (a0 : Nat) (o1 : Option Nat) (M : hM) {res : xRes} (h : b88_0 a0 o1 M = some res) : h_sz M ≤ r_sz res ∧ h_sl M ≤ r_sl res := by
  unfold b88_0 at h
  obtain ⟨b_3, h4, h⟩ := bd h
  obtain ⟨q_1, h2, h⟩ := bd h
  have eh2 := (t83 G l (c_R_some h2)).1
  by_cases q27 : q_1.1 = none
  · rw [if_pos q27] at h
    have e := lb88_45 G l  q_1.2 h
    omega
  · rw [if_neg q27] at h
    obtain ⟨v_5, h6, h⟩ := bd h
    by_cases q26 : v_5 = 0
    · rw [if_pos q26] at h
      obtain ⟨b_9, h10, h⟩ := bd h
      obtain ⟨q_7, h8, h⟩ := bd h
      have eh8 := (t71 G l (c_I_some h8)).1
      obtain ⟨v_11, h12, h⟩ := bd h
      by_cases q25 : v_11 ≤ q_7.1
      · rw [if_pos q25] at h
        have e := lb88_45 G l  q_7.2 h
        omega
      · rw [if_neg q25] at h
        obtain ⟨b_15, h16, h⟩ := bd h
        obtain ⟨q_13, h14, h⟩ := bd h
        have eh14 := (t71 G l (c_I_some h14)).1
        obtain ⟨b_19, h20, h⟩ := bd h
        obtain ⟨q_17, h18, h⟩ := bd h
        have eh18 := (t56 G l (c_L_some h18)).1
        obtain ⟨b_23, h24, h⟩ := bd h
        obtain ⟨q_21, h22, h⟩ := bd h
        have eh22 := (t87 G l (c_V_some h22)).1
        have e := lb88_45 G l  q_21 h
        omega
    · rw [if_neg q26] at h
      have e := lb88_45 G l  q_1.2 h
      omega
section
variable {p : Program} {l : Launch} {e : Env} {s : State} {m : MethodId} {args : Array Value} {below : List Frame} {meth : Method} {c : Code} {G : gX} {z0 y0 : Nat} {r : Option aV} {M' : hM}
theorem sb88_45 (E : xE G p (xRm 4 (h_sz M' - z0) (h_sl M' - y0)) s m args c prog_6_method_14_code "ZonedFabric$Host" z0 y0 (h_sz M') (h_sl M') 3) (B : xB ym88 none meth)  (M : hM) {res : xRes} (h : b88_45  M = some res) (hN : xN (fun _ _ _ => False) r M' res) : xV G p l e (xRm 4 (h_sz M' - z0) (h_sl M' - y0)) s m args below meth c z0 y0 (h_sz M') (h_sl M') 3 (MQ below (xQc G r M') args s (h_sz M' - z0) (h_sl M' - y0) (xFr G)) 45 [] [] M := by
  unfold b88_45 at h
  obtain rfl := Option.some.inj h
  obtain ⟨rfl, rfl⟩ := Prod.mk.inj (show ((none : Option aV), M) = (r, M') from hN)
  exact xv_rv E B.1 B.2.1 (show decode prog_6_method_14_code 45 = .ok (.return_, 1) by decide +kernel) rfl rfl
theorem sb88_0 (E : xE G p (xRm 4 (h_sz M' - z0) (h_sl M' - y0)) s m args c prog_6_method_14_code "ZonedFabric$Host" z0 y0 (h_sz M') (h_sl M') 3) (B : xB ym88 none meth) (a0 : Nat) (o1 : Option Nat) (M : hM) {res : xRes} (h : b88_0 a0 o1 M = some res) (hN : xN (fun _ _ _ => False) r M' res) : xV G p l e (xRm 4 (h_sz M' - z0) (h_sl M' - y0)) s m args below meth c z0 y0 (h_sz M') (h_sl M') 3 (MQ below (xQc G r M') args s (h_sz M' - z0) (h_sl M' - y0) (xFr G)) 0 [(0, .inr (.inr (some a0))), (1, .inr (.inr o1))] [] M := by
  unfold b88_0 at h
  refine xv_b E [.aload_n 0, .aload_n 1, .iconst 2] (pc' := 3) (lv' := [(0, .inr (.inr (some a0))), (1, .inr (.inr o1))]) (st' := [.inl (2 : Int32), .inr (.inr o1), .inr (.inr (some a0))]) (by decide +kernel) rfl rfl ?_
  obtain ⟨b_3, h4, h⟩ := bd h
  obtain ⟨eh4, th4⟩ := g_o_some h4
  obtain ⟨q_1, h2, h⟩ := bd h
  refine xv_cvo E eh4 4 (as := [.inr (.inr o1), .inl (2 : Int32)]) (t83 G l (c_R_some h2)) cd83 mw469 mw470 mw471 (show decode prog_6_method_14_code 3 = .ok (.invokevirtual 150, 3) by decide +kernel) th4 rfl rfl (Nat.le_of_ble_eq_true rfl) ⟨Nat.le_of_ble_eq_true rfl, Nat.le_of_ble_eq_true rfl⟩ ?_
  refine xv_b E [.astore_n 2, .aload_n 2] (pc' := 8) (lv' := [(2, .inr (.inr q_1.1)), (0, .inr (.inr (some a0))), (1, .inr (.inr o1))]) (st' := [.inr (.inr q_1.1)]) (by decide +kernel) rfl rfl ?_
  by_cases q27 : q_1.1 = none
  · rw [if_pos q27] at h
    refine xi_null E 45 (show decode prog_6_method_14_code 8 = .ok (.ifnull (37), 3) by decide +kernel) rfl (fun _ => ?_) (fun z => absurd q27 z)
    exact xv_w (sb88_45 E B  q_1.2 h hN) rfl
  · rw [if_neg q27] at h
    refine xi_null E 45 (show decode prog_6_method_14_code 8 = .ok (.ifnull (37), 3) by decide +kernel) rfl (fun z => absurd z q27) (fun _ => ?_)
    refine xv_b E [.aload_n 2] (pc' := 12) (lv' := [(2, .inr (.inr q_1.1)), (0, .inr (.inr (some a0))), (1, .inr (.inr o1))]) (st' := [.inr (.inr q_1.1)]) (by decide +kernel) rfl rfl ?_
    obtain ⟨v_5, h6, h⟩ := bd h
    refine xg_i E 0 0 h6 mw476 (show decode prog_6_method_14_code 12 = .ok (.getfield 154, 3) by decide +kernel) ?_
    by_cases q26 : v_5 = 0
    · rw [if_pos q26] at h
      refine xv_if_ne E 45 (show decode prog_6_method_14_code 15 = .ok (.ifCond .ne (30), 3) by decide +kernel) rfl (fun z => absurd q26 z) (fun _ => ?_)
      refine xv_b E [.aload_n 1] (pc' := 19) (lv' := [(2, .inr (.inr q_1.1)), (0, .inr (.inr (some a0))), (1, .inr (.inr o1))]) (st' := [.inr (.inr o1)]) (by decide +kernel) rfl rfl ?_
      obtain ⟨b_9, h10, h⟩ := bd h
      obtain ⟨eh10, th10⟩ := g_o_some h10
      obtain ⟨q_7, h8, h⟩ := bd h
      refine xv_cvo E eh10 2 (as := []) (t71 G l (c_I_some h8)) cd71 mw483 mw410 mw411 (show decode prog_6_method_14_code 19 = .ok (.invokevirtual 171, 3) by decide +kernel) th10 rfl rfl (Nat.le_of_ble_eq_true rfl) ⟨Nat.le_of_ble_eq_true rfl, Nat.le_of_ble_eq_true rfl⟩ ?_
      refine xv_b E [.aload_n 2] (pc' := 23) (lv' := [(2, .inr (.inr q_1.1)), (0, .inr (.inr (some a0))), (1, .inr (.inr o1))]) (st' := [.inr (.inr q_1.1), .inl q_7.1]) (by decide +kernel) rfl rfl ?_
      obtain ⟨v_11, h12, h⟩ := bd h
      refine xg_i E 0 3 h12 mw484 (show decode prog_6_method_14_code 23 = .ok (.getfield 157, 3) by decide +kernel) ?_
      by_cases q25 : v_11 ≤ q_7.1
      · rw [if_pos q25] at h
        refine xv_icmp_ge E 45 (show decode prog_6_method_14_code 26 = .ok (.if_icmp .ge (19), 3) by decide +kernel) rfl (fun _ => ?_) (fun z => absurd q25 z)
        exact xv_w (sb88_45 E B  q_7.2 h hN) rfl
      · rw [if_neg q25] at h
        refine xv_icmp_ge E 45 (show decode prog_6_method_14_code 26 = .ok (.if_icmp .ge (19), 3) by decide +kernel) rfl (fun z => absurd z q25) (fun _ => ?_)
        refine xv_b E [.aload_n 2, .aload_n 1] (pc' := 31) (lv' := [(2, .inr (.inr q_1.1)), (0, .inr (.inr (some a0))), (1, .inr (.inr o1))]) (st' := [.inr (.inr o1), .inr (.inr q_1.1)]) (by decide +kernel) rfl rfl ?_
        obtain ⟨b_15, h16, h⟩ := bd h
        obtain ⟨eh16, th16⟩ := g_o_some h16
        obtain ⟨q_13, h14, h⟩ := bd h
        refine xv_cvo E eh16 2 (as := []) (t71 G l (c_I_some h14)) cd71 mw483 mw410 mw411 (show decode prog_6_method_14_code 31 = .ok (.invokevirtual 171, 3) by decide +kernel) th16 rfl rfl (Nat.le_of_ble_eq_true rfl) ⟨Nat.le_of_ble_eq_true rfl, Nat.le_of_ble_eq_true rfl⟩ ?_
        refine xv_b E [.aload_n 1, .bipush 13, .bipush 8] (pc' := 39) (lv' := [(2, .inr (.inr q_1.1)), (0, .inr (.inr (some a0))), (1, .inr (.inr o1))]) (st' := [.inl (8 : Int32), .inl (13 : Int32), .inr (.inr o1), .inl q_13.1, .inr (.inr q_1.1)]) (by decide +kernel) rfl rfl ?_
        obtain ⟨b_19, h20, h⟩ := bd h
        obtain ⟨eh20, th20⟩ := g_o_some h20
        obtain ⟨q_17, h18, h⟩ := bd h
        refine xv_cvo E eh20 2 (as := [.inl (13 : Int32), .inl (8 : Int32)]) (t56 G l (c_L_some h18)) cd56 mw485 mw347 mw348 (show decode prog_6_method_14_code 39 = .ok (.invokevirtual 144, 3) by decide +kernel) th20 rfl rfl (Nat.le_of_ble_eq_true rfl) ⟨Nat.le_of_ble_eq_true rfl, Nat.le_of_ble_eq_true rfl⟩ ?_
        obtain ⟨b_23, h24, h⟩ := bd h
        obtain ⟨eh24, th24⟩ := g_o_some h24
        obtain ⟨q_21, h22, h⟩ := bd h
        refine xv_cvo E eh24 0 (as := [.inl q_13.1, .inr (.inl q_17.1)]) (t87 G l (c_V_some h22)) cd87 mw486 mw487 mw488 (show decode prog_6_method_14_code 42 = .ok (.invokevirtual 174, 3) by decide +kernel) th24 rfl rfl (Nat.le_of_ble_eq_true rfl) ⟨Nat.le_of_ble_eq_true rfl, Nat.le_of_ble_eq_true rfl⟩ ?_
        exact xv_w (sb88_45 E B  q_21 h hN) rfl
    · rw [if_neg q26] at h
      refine xv_if_ne E 45 (show decode prog_6_method_14_code 15 = .ok (.ifCond .ne (30), 3) by decide +kernel) rfl (fun _ => ?_) (fun z => absurd z q26)
      exact xv_w (sb88_45 E B  q_1.2 h hN) rfl
end
theorem t88 (G : gX) (l : Launch) {as : List aV} {M : hM} {r : Option aV} {M' : hM} (h : f88 as M = some (r, M')) : xM G l ym88 prog_6_method_14_code 3 none 4 as M r M' := by
  unfold f88 at h
  split at h
  · have h := x_out_ok h
    refine xM_of (by decide) (Nat.le_of_ble_eq_true rfl) (lb88_0 G l _ _ M h) ?_
    intro p e s m args below meth c E B
    exact sb88_0 E B _ _ M h rfl
  · cases h
/-! ZF.Host.takeReady(LZF$Frame;)V -/
def ym89 : MethodName := ⟨"ZonedFabric$Host", "takeReady", "(LZonedFabric$Frame;)V"⟩
theorem cd89 : xCd ym89 prog_6_method_13_code 5 none 1 := ⟨mw489, mw37, by decide, by decide, by decide +kernel⟩
def b89_18  (M : hM) : Option xRes :=
  some (.inl (none, M))
def b89_0 (a0 : Nat) (o1 : Option Nat) (M : hM) : Option xRes :=
  Option.bind (g_o M 4 (some a0)) fun b_3 =>
  Option.bind (c_R (f83 [.inr (.inr (some b_3)), .inr (.inr o1), .inl (2 : Int32)] M)) fun q_1 =>
  if q_1.1 = none then
    (b89_18  q_1.2)
  else
    (Option.bind (g_i q_1.2 0 0 q_1.1) fun v_5 =>
    if v_5 = 0 then
      (b89_18  q_1.2)
    else
      (some (.inr (21, [.inr (.inr (some a0)), .inr (.inr o1), .inr (.inr q_1.1), .inl (0 : Int32)], q_1.2))))
def b89_21 (a0 : Nat) (o1 : Option Nat) (o2 : Option Nat) (v3 : Int32) (M : hM) : Option xRes :=
  Option.bind (g_i M 0 3 o2) fun v_9 =>
  if v_9 ≤ v3 then
    (some (.inl (none, M)))
  else
    (Option.bind (g_r M 4 0 (some a0)) fun o_11 =>
    Option.bind (g_i M 0 9 o2) fun v_13 =>
    Option.bind (g_r M 4 1 (some a0)) fun o_15 =>
    Option.bind (g_i M 5 3 o_15) fun v_17 =>
    Option.bind (g_i M 0 7 o2) fun v_19 =>
    Option.bind (g_o M 9 o_11) fun b_23 =>
    Option.bind (c_R (f34 [.inr (.inr (some b_23)), .inl (11 : Int32), .inl v_13, .inl v_17, .inl v_19] M)) fun q_21 =>
    Option.bind (g_o q_21.2 2 o1) fun b_27 =>
    Option.bind (c_I (f70 [.inr (.inr (some b_27))] q_21.2)) fun q_25 =>
    Option.bind (g_o q_25.2 2 q_21.1) fun b_31 =>
    Option.bind (c_V (f35 [.inr (.inr (some b_31)), .inl (9 : Int32), .inl (2 : Int32), .inr (.inl (Int32.toInt64 q_25.1))] q_25.2)) fun q_29 =>
    Option.bind (g_o q_29 2 q_21.1) fun b_35 =>
    Option.bind (c_V (f35 [.inr (.inr (some b_35)), .inl (11 : Int32), .inl (1 : Int32), .inr (.inl (Int32.toInt64 v3))] q_29)) fun q_33 =>
    Option.bind (g_l q_33 0 4 o2) fun w_37 =>
    Option.bind (g_o q_33 2 q_21.1) fun b_41 =>
    Option.bind (c_V (f36 [.inr (.inr (some b_41)), .inl (8 : Int32), .inr (.inl (w_37 + (Int32.toInt64 v3)))] q_33)) fun q_39 =>
    Option.bind (g_r q_39 4 1 (some a0)) fun o_43 =>
    Option.bind (g_r q_39 5 2 o_43) fun o_45 =>
    Option.bind (g_o q_39 8 o_45) fun b_49 =>
    Option.bind (c_V (f39 [.inr (.inr (some b_49)), .inr (.inr q_21.1)] q_39)) fun q_47 =>
    some (.inr (21, [.inr (.inr (some a0)), .inr (.inr o1), .inr (.inr o2), .inl (v3 + (1 : Int32))], q_47)))
def k89 (h : Nat) (as : List aV) (M : hM) : Option xRes :=
  if h = 21 then (match as with | [.inr (.inr (some a0)), .inr (.inr o1), .inr (.inr o2), .inl v3] => b89_21 a0 o1 o2 v3 M | _ => none) else
  none
def f89 (as : List aV) (M : hM) : xO := match as with
  | [.inr (.inr (some a0)), .inr (.inr o1)] => x_go k89 (b89_0 a0 o1 M)
  | _ => none
theorem lb89_18 (G : gX) (l : Launch)  (M : hM) {res : xRes} (h : b89_18  M = some res) : h_sz M ≤ r_sz res ∧ h_sl M ≤ r_sl res := by
  unfold b89_18 at h
  obtain rfl := Option.some.inj h
  show h_sz M ≤ h_sz M ∧ h_sl M ≤ h_sl M
  omega
theorem lb89_0 (G : gX) (l : Launch) (a0 : Nat) (o1 : Option Nat) (M : hM) {res : xRes} (h : b89_0 a0 o1 M = some res) : h_sz M ≤ r_sz res ∧ h_sl M ≤ r_sl res := by
  unfold b89_0 at h
  obtain ⟨b_3, h4, h⟩ := bd h
  obtain ⟨q_1, h2, h⟩ := bd h
  have eh2 := (t83 G l (c_R_some h2)).1
  by_cases q8 : q_1.1 = none
  · rw [if_pos q8] at h
    have e := lb89_18 G l  q_1.2 h
    omega
  · rw [if_neg q8] at h
    obtain ⟨v_5, h6, h⟩ := bd h
    by_cases q7 : v_5 = 0
    · rw [if_pos q7] at h
      have e := lb89_18 G l  q_1.2 h
      omega
    · rw [if_neg q7] at h
      obtain rfl := Option.some.inj h
      show h_sz M ≤ h_sz q_1.2 ∧ h_sl M ≤ h_sl q_1.2
      omega
theorem lb89_21 (G : gX) (l : Launch) (a0 : Nat) (o1 : Option Nat) (o2 : Option Nat) (v3 : Int32) (M : hM) {res : xRes} (h : b89_21 a0 o1 o2 v3 M = some res) : h_sz M ≤ r_sz res ∧ h_sl M ≤ r_sl res := by
  unfold b89_21 at h
  obtain ⟨v_9, h10, h⟩ := bd h
  by_cases q51 : v_9 ≤ v3
  · rw [if_pos q51] at h
    obtain rfl := Option.some.inj h
    show h_sz M ≤ h_sz M ∧ h_sl M ≤ h_sl M
    omega
  · rw [if_neg q51] at h
    obtain ⟨o_11, h12, h⟩ := bd h
    obtain ⟨v_13, h14, h⟩ := bd h
    obtain ⟨o_15, h16, h⟩ := bd h
    obtain ⟨v_17, h18, h⟩ := bd h
    obtain ⟨v_19, h20, h⟩ := bd h
    obtain ⟨b_23, h24, h⟩ := bd h
    obtain ⟨q_21, h22, h⟩ := bd h
    have eh22 := (t34 G l (c_R_some h22)).1
    obtain ⟨b_27, h28, h⟩ := bd h
    obtain ⟨q_25, h26, h⟩ := bd h
    have eh26 := (t70 G l (c_I_some h26)).1
    obtain ⟨b_31, h32, h⟩ := bd h
    obtain ⟨q_29, h30, h⟩ := bd h
    have eh30 := (t35 G l (c_V_some h30)).1
    obtain ⟨b_35, h36, h⟩ := bd h
    obtain ⟨q_33, h34, h⟩ := bd h
    have eh34 := (t35 G l (c_V_some h34)).1
    obtain ⟨w_37, h38, h⟩ := bd h
    obtain ⟨b_41, h42, h⟩ := bd h
    obtain ⟨q_39, h40, h⟩ := bd h
    have eh40 := (t36 G l (c_V_some h40)).1
    obtain ⟨o_43, h44, h⟩ := bd h
    obtain ⟨o_45, h46, h⟩ := bd h
    obtain ⟨b_49, h50, h⟩ := bd h
    obtain ⟨q_47, h48, h⟩ := bd h
    have eh48 := (t39 G l (c_V_some h48)).1
    obtain rfl := Option.some.inj h
    show h_sz M ≤ h_sz q_47 ∧ h_sl M ≤ h_sl q_47
    omega
section
variable {p : Program} {l : Launch} {e : Env} {s : State} {m : MethodId} {args : Array Value} {below : List Frame} {meth : Method} {c : Code} {G : gX} {z0 y0 : Nat} {r : Option aV} {M' : hM}
def pg89 (p : Program) (l : Launch) (e : Env) (s : State) (m : MethodId) (args : Array Value) (below : List Frame) (meth : Method) (c : Code) (G : gX) (z0 y0 : Nat) (r : Option aV) (M' : hM) (h : Nat) (as : List aV) (M : hM) : Prop :=
  if h = 21 then (match as with | [.inr (.inr (some a0)), .inr (.inr o1), .inr (.inr o2), .inl v3] => xV G p l e (xRm 4 (h_sz M' - z0) (h_sl M' - y0)) s m args below meth c z0 y0 (h_sz M') (h_sl M') 5 (MQ below (xQc G r M') args s (h_sz M' - z0) (h_sl M' - y0) (xFr G)) 21 [(0, .inr (.inr (some a0))), (1, .inr (.inr o1)), (2, .inr (.inr o2)), (3, .inl v3)] [] M | _ => False) else
  False
theorem sb89_18 (E : xE G p (xRm 4 (h_sz M' - z0) (h_sl M' - y0)) s m args c prog_6_method_13_code "ZonedFabric$Host" z0 y0 (h_sz M') (h_sl M') 5) (B : xB ym89 none meth)  (M : hM) {res : xRes} (h : b89_18  M = some res) (hN : xN (pg89 p l e s m args below meth c G z0 y0 r M') r M' res) : xV G p l e (xRm 4 (h_sz M' - z0) (h_sl M' - y0)) s m args below meth c z0 y0 (h_sz M') (h_sl M') 5 (MQ below (xQc G r M') args s (h_sz M' - z0) (h_sl M' - y0) (xFr G)) 18 [] [] M := by
  unfold b89_18 at h
  obtain rfl := Option.some.inj h
  obtain ⟨rfl, rfl⟩ := Prod.mk.inj (show ((none : Option aV), M) = (r, M') from hN)
  exact xv_rv E B.1 B.2.1 (show decode prog_6_method_13_code 18 = .ok (.return_, 1) by decide +kernel) rfl rfl
theorem sb89_0 (E : xE G p (xRm 4 (h_sz M' - z0) (h_sl M' - y0)) s m args c prog_6_method_13_code "ZonedFabric$Host" z0 y0 (h_sz M') (h_sl M') 5) (B : xB ym89 none meth) (a0 : Nat) (o1 : Option Nat) (M : hM) {res : xRes} (h : b89_0 a0 o1 M = some res) (hN : xN (pg89 p l e s m args below meth c G z0 y0 r M') r M' res) : xV G p l e (xRm 4 (h_sz M' - z0) (h_sl M' - y0)) s m args below meth c z0 y0 (h_sz M') (h_sl M') 5 (MQ below (xQc G r M') args s (h_sz M' - z0) (h_sl M' - y0) (xFr G)) 0 [(0, .inr (.inr (some a0))), (1, .inr (.inr o1))] [] M := by
  unfold b89_0 at h
  refine xv_b E [.aload_n 0, .aload_n 1, .iconst 2] (pc' := 3) (lv' := [(0, .inr (.inr (some a0))), (1, .inr (.inr o1))]) (st' := [.inl (2 : Int32), .inr (.inr o1), .inr (.inr (some a0))]) (by decide +kernel) rfl rfl ?_
  obtain ⟨b_3, h4, h⟩ := bd h
  obtain ⟨eh4, th4⟩ := g_o_some h4
  obtain ⟨q_1, h2, h⟩ := bd h
  refine xv_cvo E eh4 4 (as := [.inr (.inr o1), .inl (2 : Int32)]) (t83 G l (c_R_some h2)) cd83 mw469 mw470 mw471 (show decode prog_6_method_13_code 3 = .ok (.invokevirtual 150, 3) by decide +kernel) th4 rfl rfl (Nat.le_of_ble_eq_true rfl) ⟨Nat.le_of_ble_eq_true rfl, Nat.le_of_ble_eq_true rfl⟩ ?_
  refine xv_b E [.astore_n 2, .aload_n 2] (pc' := 8) (lv' := [(2, .inr (.inr q_1.1)), (0, .inr (.inr (some a0))), (1, .inr (.inr o1))]) (st' := [.inr (.inr q_1.1)]) (by decide +kernel) rfl rfl ?_
  by_cases q8 : q_1.1 = none
  · rw [if_pos q8] at h
    refine xi_null E 18 (show decode prog_6_method_13_code 8 = .ok (.ifnull (10), 3) by decide +kernel) rfl (fun _ => ?_) (fun z => absurd q8 z)
    exact xv_w (sb89_18 E B  q_1.2 h hN) rfl
  · rw [if_neg q8] at h
    refine xi_null E 18 (show decode prog_6_method_13_code 8 = .ok (.ifnull (10), 3) by decide +kernel) rfl (fun z => absurd z q8) (fun _ => ?_)
    refine xv_b E [.aload_n 2] (pc' := 12) (lv' := [(2, .inr (.inr q_1.1)), (0, .inr (.inr (some a0))), (1, .inr (.inr o1))]) (st' := [.inr (.inr q_1.1)]) (by decide +kernel) rfl rfl ?_
    obtain ⟨v_5, h6, h⟩ := bd h
    refine xg_i E 0 0 h6 mw476 (show decode prog_6_method_13_code 12 = .ok (.getfield 154, 3) by decide +kernel) ?_
    by_cases q7 : v_5 = 0
    · rw [if_pos q7] at h
      refine xv_if_ne E 19 (show decode prog_6_method_13_code 15 = .ok (.ifCond .ne (4), 3) by decide +kernel) rfl (fun z => absurd q7 z) (fun _ => ?_)
      exact xv_w (sb89_18 E B  q_1.2 h hN) rfl
    · rw [if_neg q7] at h
      refine xv_if_ne E 19 (show decode prog_6_method_13_code 15 = .ok (.ifCond .ne (4), 3) by decide +kernel) rfl (fun _ => ?_) (fun z => absurd z q7)
      refine xv_b E [.iconst 0, .istore_n 3] (pc' := 21) (lv' := [(3, .inl (0 : Int32)), (2, .inr (.inr q_1.1)), (0, .inr (.inr (some a0))), (1, .inr (.inr o1))]) (st' := []) (by decide +kernel) rfl rfl ?_
      obtain rfl := Option.some.inj h
      exact xv_w hN rfl
theorem sb89_21 (E : xE G p (xRm 4 (h_sz M' - z0) (h_sl M' - y0)) s m args c prog_6_method_13_code "ZonedFabric$Host" z0 y0 (h_sz M') (h_sl M') 5) (B : xB ym89 none meth) (a0 : Nat) (o1 : Option Nat) (o2 : Option Nat) (v3 : Int32) (M : hM) {res : xRes} (h : b89_21 a0 o1 o2 v3 M = some res) (hN : xN (pg89 p l e s m args below meth c G z0 y0 r M') r M' res) : xV G p l e (xRm 4 (h_sz M' - z0) (h_sl M' - y0)) s m args below meth c z0 y0 (h_sz M') (h_sl M') 5 (MQ below (xQc G r M') args s (h_sz M' - z0) (h_sl M' - y0) (xFr G)) 21 [(0, .inr (.inr (some a0))), (1, .inr (.inr o1)), (2, .inr (.inr o2)), (3, .inl v3)] [] M := by
  unfold b89_21 at h
  refine xv_b E [.iload_n 3, .aload_n 2] (pc' := 23) (lv' := [(0, .inr (.inr (some a0))), (1, .inr (.inr o1)), (2, .inr (.inr o2)), (3, .inl v3)]) (st' := [.inr (.inr o2), .inl v3]) (by decide +kernel) rfl rfl ?_
  obtain ⟨v_9, h10, h⟩ := bd h
  refine xg_i E 0 3 h10 mw484 (show decode prog_6_method_13_code 23 = .ok (.getfield 157, 3) by decide +kernel) ?_
  by_cases q51 : v_9 ≤ v3
  · rw [if_pos q51] at h
    refine xv_icmp_ge E 110 (show decode prog_6_method_13_code 26 = .ok (.if_icmp .ge (84), 3) by decide +kernel) rfl (fun _ => ?_) (fun z => absurd q51 z)
    obtain rfl := Option.some.inj h
    obtain ⟨rfl, rfl⟩ := Prod.mk.inj (show ((none : Option aV), M) = (r, M') from hN)
    exact xv_rv E B.1 B.2.1 (show decode prog_6_method_13_code 110 = .ok (.return_, 1) by decide +kernel) rfl rfl
  · rw [if_neg q51] at h
    refine xv_icmp_ge E 110 (show decode prog_6_method_13_code 26 = .ok (.if_icmp .ge (84), 3) by decide +kernel) rfl (fun z => absurd z q51) (fun _ => ?_)
    refine xv_b E [.aload_n 0] (pc' := 30) (lv' := [(0, .inr (.inr (some a0))), (1, .inr (.inr o1)), (2, .inr (.inr o2)), (3, .inl v3)]) (st' := [.inr (.inr (some a0))]) (by decide +kernel) rfl rfl ?_
    obtain ⟨o_11, h12, h⟩ := bd h
    refine xg_r E 4 0 h12 mw40 (show decode prog_6_method_13_code 30 = .ok (.getfield 17, 3) by decide +kernel) ?_
    refine xv_b E [.bipush 11, .aload_n 2] (pc' := 36) (lv' := [(0, .inr (.inr (some a0))), (1, .inr (.inr o1)), (2, .inr (.inr o2)), (3, .inl v3)]) (st' := [.inr (.inr o2), .inl (11 : Int32), .inr (.inr o_11)]) (by decide +kernel) rfl rfl ?_
    obtain ⟨v_13, h14, h⟩ := bd h
    refine xg_i E 0 9 h14 mw295 (show decode prog_6_method_13_code 36 = .ok (.getfield 79, 3) by decide +kernel) ?_
    refine xv_b E [.aload_n 0] (pc' := 40) (lv' := [(0, .inr (.inr (some a0))), (1, .inr (.inr o1)), (2, .inr (.inr o2)), (3, .inl v3)]) (st' := [.inr (.inr (some a0)), .inl v_13, .inl (11 : Int32), .inr (.inr o_11)]) (by decide +kernel) rfl rfl ?_
    obtain ⟨o_15, h16, h⟩ := bd h
    refine xg_r E 4 1 h16 mw41 (show decode prog_6_method_13_code 40 = .ok (.getfield 21, 3) by decide +kernel) ?_
    obtain ⟨v_17, h18, h⟩ := bd h
    refine xg_i E 5 3 h18 mw290 (show decode prog_6_method_13_code 43 = .ok (.getfield 73, 3) by decide +kernel) ?_
    refine xv_b E [.aload_n 2] (pc' := 47) (lv' := [(0, .inr (.inr (some a0))), (1, .inr (.inr o1)), (2, .inr (.inr o2)), (3, .inl v3)]) (st' := [.inr (.inr o2), .inl v_17, .inl v_13, .inl (11 : Int32), .inr (.inr o_11)]) (by decide +kernel) rfl rfl ?_
    obtain ⟨v_19, h20, h⟩ := bd h
    refine xg_i E 0 7 h20 mw297 (show decode prog_6_method_13_code 47 = .ok (.getfield 83, 3) by decide +kernel) ?_
    obtain ⟨b_23, h24, h⟩ := bd h
    obtain ⟨eh24, th24⟩ := g_o_some h24
    obtain ⟨q_21, h22, h⟩ := bd h
    refine xv_cvo E eh24 9 (as := [.inl (11 : Int32), .inl v_13, .inl v_17, .inl v_19]) (t34 G l (c_R_some h22)) cd34 mw298 mw251 mw252 (show decode prog_6_method_13_code 50 = .ok (.invokevirtual 86, 3) by decide +kernel) th24 rfl rfl (Nat.le_of_ble_eq_true rfl) ⟨Nat.le_of_ble_eq_true rfl, Nat.le_of_ble_eq_true rfl⟩ ?_
    refine xv_b E [.astore 4, .aload 4, .bipush 9, .iconst 2, .aload_n 1] (pc' := 61) (lv' := [(4, .inr (.inr q_21.1)), (0, .inr (.inr (some a0))), (1, .inr (.inr o1)), (2, .inr (.inr o2)), (3, .inl v3)]) (st' := [.inr (.inr o1), .inl (2 : Int32), .inl (9 : Int32), .inr (.inr q_21.1)]) (by decide +kernel) rfl rfl ?_
    obtain ⟨b_27, h28, h⟩ := bd h
    obtain ⟨eh28, th28⟩ := g_o_some h28
    obtain ⟨q_25, h26, h⟩ := bd h
    refine xv_cvo E eh28 2 (as := []) (t70 G l (c_I_some h26)) cd70 mw490 mw407 mw408 (show decode prog_6_method_13_code 61 = .ok (.invokevirtual 160, 3) by decide +kernel) th28 rfl rfl (Nat.le_of_ble_eq_true rfl) ⟨Nat.le_of_ble_eq_true rfl, Nat.le_of_ble_eq_true rfl⟩ ?_
    refine xv_b E [.i2l] (pc' := 65) (lv' := [(4, .inr (.inr q_21.1)), (0, .inr (.inr (some a0))), (1, .inr (.inr o1)), (2, .inr (.inr o2)), (3, .inl v3)]) (st' := [.inr (.inl (Int32.toInt64 q_25.1)), .inl (2 : Int32), .inl (9 : Int32), .inr (.inr q_21.1)]) (by decide +kernel) rfl rfl ?_
    obtain ⟨b_31, h32, h⟩ := bd h
    obtain ⟨eh32, th32⟩ := g_o_some h32
    obtain ⟨q_29, h30, h⟩ := bd h
    refine xv_cvo E eh32 2 (as := [.inl (9 : Int32), .inl (2 : Int32), .inr (.inl (Int32.toInt64 q_25.1))]) (t35 G l (c_V_some h30)) cd35 mw491 mw232 mw233 (show decode prog_6_method_13_code 65 = .ok (.invokevirtual 163, 3) by decide +kernel) th32 rfl rfl (Nat.le_of_ble_eq_true rfl) ⟨Nat.le_of_ble_eq_true rfl, Nat.le_of_ble_eq_true rfl⟩ ?_
    refine xv_b E [.aload 4, .bipush 11, .iconst 1, .iload_n 3, .i2l] (pc' := 75) (lv' := [(4, .inr (.inr q_21.1)), (0, .inr (.inr (some a0))), (1, .inr (.inr o1)), (2, .inr (.inr o2)), (3, .inl v3)]) (st' := [.inr (.inl (Int32.toInt64 v3)), .inl (1 : Int32), .inl (11 : Int32), .inr (.inr q_21.1)]) (by decide +kernel) rfl rfl ?_
    obtain ⟨b_35, h36, h⟩ := bd h
    obtain ⟨eh36, th36⟩ := g_o_some h36
    obtain ⟨q_33, h34, h⟩ := bd h
    refine xv_cvo E eh36 2 (as := [.inl (11 : Int32), .inl (1 : Int32), .inr (.inl (Int32.toInt64 v3))]) (t35 G l (c_V_some h34)) cd35 mw491 mw232 mw233 (show decode prog_6_method_13_code 75 = .ok (.invokevirtual 163, 3) by decide +kernel) th36 rfl rfl (Nat.le_of_ble_eq_true rfl) ⟨Nat.le_of_ble_eq_true rfl, Nat.le_of_ble_eq_true rfl⟩ ?_
    refine xv_b E [.aload 4, .bipush 8, .aload_n 2] (pc' := 83) (lv' := [(4, .inr (.inr q_21.1)), (0, .inr (.inr (some a0))), (1, .inr (.inr o1)), (2, .inr (.inr o2)), (3, .inl v3)]) (st' := [.inr (.inr o2), .inl (8 : Int32), .inr (.inr q_21.1)]) (by decide +kernel) rfl rfl ?_
    obtain ⟨w_37, h38, h⟩ := bd h
    refine xg_l E 0 4 h38 mw492 (show decode prog_6_method_13_code 83 = .ok (.getfield 167, 3) by decide +kernel) ?_
    refine xv_b E [.iload_n 3, .i2l, .ladd] (pc' := 89) (lv' := [(4, .inr (.inr q_21.1)), (0, .inr (.inr (some a0))), (1, .inr (.inr o1)), (2, .inr (.inr o2)), (3, .inl v3)]) (st' := [.inr (.inl (w_37 + (Int32.toInt64 v3))), .inl (8 : Int32), .inr (.inr q_21.1)]) (by decide +kernel) rfl rfl ?_
    obtain ⟨b_41, h42, h⟩ := bd h
    obtain ⟨eh42, th42⟩ := g_o_some h42
    obtain ⟨q_39, h40, h⟩ := bd h
    refine xv_cvo E eh42 2 (as := [.inl (8 : Int32), .inr (.inl (w_37 + (Int32.toInt64 v3)))]) (t36 G l (c_V_some h40)) cd36 mw302 mw254 mw255 (show decode prog_6_method_13_code 89 = .ok (.invokevirtual 93, 3) by decide +kernel) th42 rfl rfl (Nat.le_of_ble_eq_true rfl) ⟨Nat.le_of_ble_eq_true rfl, Nat.le_of_ble_eq_true rfl⟩ ?_
    refine xv_b E [.aload_n 0] (pc' := 93) (lv' := [(4, .inr (.inr q_21.1)), (0, .inr (.inr (some a0))), (1, .inr (.inr o1)), (2, .inr (.inr o2)), (3, .inl v3)]) (st' := [.inr (.inr (some a0))]) (by decide +kernel) rfl rfl ?_
    obtain ⟨o_43, h44, h⟩ := bd h
    refine xg_r E 4 1 h44 mw41 (show decode prog_6_method_13_code 93 = .ok (.getfield 21, 3) by decide +kernel) ?_
    obtain ⟨o_45, h46, h⟩ := bd h
    refine xg_r E 5 2 h46 mw305 (show decode prog_6_method_13_code 96 = .ok (.getfield 104, 3) by decide +kernel) ?_
    refine xv_b E [.aload 4] (pc' := 101) (lv' := [(4, .inr (.inr q_21.1)), (0, .inr (.inr (some a0))), (1, .inr (.inr o1)), (2, .inr (.inr o2)), (3, .inl v3)]) (st' := [.inr (.inr q_21.1), .inr (.inr o_45)]) (by decide +kernel) rfl rfl ?_
    obtain ⟨b_49, h50, h⟩ := bd h
    obtain ⟨eh50, th50⟩ := g_o_some h50
    obtain ⟨q_47, h48, h⟩ := bd h
    refine xv_cvo E eh50 8 (as := [.inr (.inr q_21.1)]) (t39 G l (c_V_some h48)) cd39 mw306 mw257 mw258 (show decode prog_6_method_13_code 101 = .ok (.invokevirtual 108, 3) by decide +kernel) th50 rfl rfl (Nat.le_of_ble_eq_true rfl) ⟨Nat.le_of_ble_eq_true rfl, Nat.le_of_ble_eq_true rfl⟩ ?_
    refine xv_b E [.iinc 3 1] (pc' := 107) (lv' := [(3, .inl (v3 + (1 : Int32))), (4, .inr (.inr q_21.1)), (0, .inr (.inr (some a0))), (1, .inr (.inr o1)), (2, .inr (.inr o2))]) (st' := []) (by decide +kernel) rfl rfl ?_
    refine xv_goto E 21 (show decode prog_6_method_13_code 107 = .ok (.goto (-86), 3) by decide +kernel) rfl ?_
    obtain rfl := Option.some.inj h
    exact xv_w hN rfl
end
theorem t89 (G : gX) (l : Launch) {as : List aV} {M : hM} {r : Option aV} {M' : hM} (h : f89 as M = some (r, M')) : xM G l ym89 prog_6_method_13_code 5 none 4 as M r M' := by
  unfold f89 at h
  split at h
  · have hle : ∀ h as M res, k89 h as M = some res → h_sz M ≤ r_sz res ∧ h_sl M ≤ r_sl res := by
      intro h as M res hb
      unfold k89 at hb
      by_cases e0 : h = 21
      · rw [if_pos e0] at hb
        split at hb
        · exact lb89_21 G l _ _ _ _ M hb
        · cases hb
      · rw [if_neg e0] at hb
        cases hb
    obtain ⟨res, hx, hres⟩ := x_go_ok h
    refine xM_of (by decide) (Nat.le_of_ble_eq_true rfl) ?_ ?_
    · have e1 := lb89_0 G l _ _ M hx
      have e2 := x_go_le hle hres
      omega
    · intro p e s m args below meth c E B
      refine sb89_0 E B _ _ M hx (hres _ ?_)
      intro h as M res hb hN
      unfold k89 at hb
      unfold pg89
      by_cases e0 : h = 21
      · rw [if_pos e0] at hb ⊢
        split at hb
        · exact sb89_21 E B _ _ _ _ M hb hN
        · cases hb
      · rw [if_neg e0] at hb ⊢
        cases hb
  · cases h
/-! ZF.Host.takeLogged(I)V -/
def ym90 : MethodName := ⟨"ZonedFabric$Host", "takeLogged", "(I)V"⟩
theorem cd90 : xCd ym90 prog_6_method_11_code 4 none 1 := ⟨mw493, mw37, by decide, by decide, by decide +kernel⟩
def b90_21  (M : hM) : Option xRes :=
  some (.inl (none, M))
def b90_0 (a0 : Nat) (v1 : Int32) (M : hM) : Option xRes :=
  if ((v1 &&& (255 : Int32)) - (1 : Int32)) < 0 then
    (b90_21  M)
  else
    (Option.bind (g_r M 4 3 (some a0)) fun o_1 =>
    Option.bind (a_ln M 20 o_1) fun v_3 =>
    if ((v1 &&& (255 : Int32)) - (1 : Int32)) < v_3 then
      (Option.bind (g_r M 4 3 (some a0)) fun o_5 =>
      Option.bind (as_i M 20 o_5 ((v1 &&& (255 : Int32)) - (1 : Int32)) v1) fun M7 =>
      some (.inr (31, [.inr (.inr (some a0)), .inl v1, .inl (0 : Int32)], M7)))
    else
      (b90_21  M))
def b90_76 (a0 : Nat) (v1 : Int32) (v3 : Int32) (M : hM) : Option xRes :=
  some (.inr (31, [.inr (.inr (some a0)), .inl v1, .inl (v3 + (1 : Int32))], M))
def b90_31 (a0 : Nat) (v1 : Int32) (v3 : Int32) (M : hM) : Option xRes :=
  Option.bind (g_i M 4 5 (some a0)) fun v_11 =>
  if v_11 ≤ v3 then
    (some (.inl (none, M)))
  else
    (Option.bind (g_r M 4 4 (some a0)) fun o_13 =>
    Option.bind (al_r M 30 o_13 v3) fun o_15 =>
    Option.bind (g_i M 0 10 o_15) fun v_17 =>
    if v_17 = (1 : Int32) then
      (Option.bind (g_r M 4 4 (some a0)) fun o_19 =>
      Option.bind (al_r M 30 o_19 v3) fun o_21 =>
      Option.bind (g_i M 0 9 o_21) fun v_23 =>
      if v_23 = v1 then
        (Option.bind (g_r M 4 4 (some a0)) fun o_25 =>
        Option.bind (al_r M 30 o_25 v3) fun o_27 =>
        Option.bind (g_o M 4 (some a0)) fun b_31 =>
        Option.bind (c_V (f51 [.inr (.inr (some b_31)), .inr (.inr o_27), .inl (2 : Int32)] M)) fun q_29 =>
        b90_76 a0 v1 v3 q_29)
      else
        (b90_76 a0 v1 v3 M))
    else
      (b90_76 a0 v1 v3 M))
def k90 (h : Nat) (as : List aV) (M : hM) : Option xRes :=
  if h = 31 then (match as with | [.inr (.inr (some a0)), .inl v1, .inl v3] => b90_31 a0 v1 v3 M | _ => none) else
  none
def f90 (as : List aV) (M : hM) : xO := match as with
  | [.inr (.inr (some a0)), .inl v1] => x_go k90 (b90_0 a0 v1 M)
  | _ => none
theorem lb90_21 (G : gX) (l : Launch)  (M : hM) {res : xRes} (h : b90_21  M = some res) : h_sz M ≤ r_sz res ∧ h_sl M ≤ r_sl res := by
  unfold b90_21 at h
  obtain rfl := Option.some.inj h
  show h_sz M ≤ h_sz M ∧ h_sl M ≤ h_sl M
  omega
theorem lb90_0 (G : gX) (l : Launch) (a0 : Nat) (v1 : Int32) (M : hM) {res : xRes} (h : b90_0 a0 v1 M = some res) : h_sz M ≤ r_sz res ∧ h_sl M ≤ r_sl res := by
  unfold b90_0 at h
  by_cases q10 : ((v1 &&& (255 : Int32)) - (1 : Int32)) < 0
  · rw [if_pos q10] at h
    have e := lb90_21 G l  M h
    omega
  · rw [if_neg q10] at h
    obtain ⟨o_1, h2, h⟩ := bd h
    obtain ⟨v_3, h4, h⟩ := bd h
    by_cases q9 : ((v1 &&& (255 : Int32)) - (1 : Int32)) < v_3
    · rw [if_pos q9] at h
      obtain ⟨o_5, h6, h⟩ := bd h
      obtain ⟨M7, h8, h⟩ := bd h
      have eh8 := as_i_sz h8
      obtain rfl := Option.some.inj h
      show h_sz M ≤ h_sz M7 ∧ h_sl M ≤ h_sl M7
      omega
    · rw [if_neg q9] at h
      have e := lb90_21 G l  M h
      omega
theorem lb90_76 (G : gX) (l : Launch) (a0 : Nat) (v1 : Int32) (v3 : Int32) (M : hM) {res : xRes} (h : b90_76 a0 v1 v3 M = some res) : h_sz M ≤ r_sz res ∧ h_sl M ≤ r_sl res := by
  unfold b90_76 at h
  obtain rfl := Option.some.inj h
  show h_sz M ≤ h_sz M ∧ h_sl M ≤ h_sl M
  omega
theorem lb90_31 (G : gX) (l : Launch) (a0 : Nat) (v1 : Int32) (v3 : Int32) (M : hM) {res : xRes} (h : b90_31 a0 v1 v3 M = some res) : h_sz M ≤ r_sz res ∧ h_sl M ≤ r_sl res := by
  unfold b90_31 at h
  obtain ⟨v_11, h12, h⟩ := bd h
  by_cases q35 : v_11 ≤ v3
  · rw [if_pos q35] at h
    obtain rfl := Option.some.inj h
    show h_sz M ≤ h_sz M ∧ h_sl M ≤ h_sl M
    omega
  · rw [if_neg q35] at h
    obtain ⟨o_13, h14, h⟩ := bd h
    obtain ⟨o_15, h16, h⟩ := bd h
    obtain ⟨v_17, h18, h⟩ := bd h
    by_cases q34 : v_17 = (1 : Int32)
    · rw [if_pos q34] at h
      obtain ⟨o_19, h20, h⟩ := bd h
      obtain ⟨o_21, h22, h⟩ := bd h
      obtain ⟨v_23, h24, h⟩ := bd h
      by_cases q33 : v_23 = v1
      · rw [if_pos q33] at h
        obtain ⟨o_25, h26, h⟩ := bd h
        obtain ⟨o_27, h28, h⟩ := bd h
        obtain ⟨b_31, h32, h⟩ := bd h
        obtain ⟨q_29, h30, h⟩ := bd h
        have eh30 := (t51 G l (c_V_some h30)).1
        have e := lb90_76 G l a0 v1 v3 q_29 h
        omega
      · rw [if_neg q33] at h
        have e := lb90_76 G l a0 v1 v3 M h
        omega
    · rw [if_neg q34] at h
      have e := lb90_76 G l a0 v1 v3 M h
      omega
section
variable {p : Program} {l : Launch} {e : Env} {s : State} {m : MethodId} {args : Array Value} {below : List Frame} {meth : Method} {c : Code} {G : gX} {z0 y0 : Nat} {r : Option aV} {M' : hM}
def pg90 (p : Program) (l : Launch) (e : Env) (s : State) (m : MethodId) (args : Array Value) (below : List Frame) (meth : Method) (c : Code) (G : gX) (z0 y0 : Nat) (r : Option aV) (M' : hM) (h : Nat) (as : List aV) (M : hM) : Prop :=
  if h = 31 then (match as with | [.inr (.inr (some a0)), .inl v1, .inl v3] => xV G p l e (xRm 5 (h_sz M' - z0) (h_sl M' - y0)) s m args below meth c z0 y0 (h_sz M') (h_sl M') 4 (MQ below (xQc G r M') args s (h_sz M' - z0) (h_sl M' - y0) (xFr G)) 31 [(0, .inr (.inr (some a0))), (1, .inl v1), (3, .inl v3)] [] M | _ => False) else
  False
theorem sb90_21 (E : xE G p (xRm 5 (h_sz M' - z0) (h_sl M' - y0)) s m args c prog_6_method_11_code "ZonedFabric$Host" z0 y0 (h_sz M') (h_sl M') 4) (B : xB ym90 none meth)  (M : hM) {res : xRes} (h : b90_21  M = some res) (hN : xN (pg90 p l e s m args below meth c G z0 y0 r M') r M' res) : xV G p l e (xRm 5 (h_sz M' - z0) (h_sl M' - y0)) s m args below meth c z0 y0 (h_sz M') (h_sl M') 4 (MQ below (xQc G r M') args s (h_sz M' - z0) (h_sl M' - y0) (xFr G)) 21 [] [] M := by
  unfold b90_21 at h
  obtain rfl := Option.some.inj h
  obtain ⟨rfl, rfl⟩ := Prod.mk.inj (show ((none : Option aV), M) = (r, M') from hN)
  exact xv_rv E B.1 B.2.1 (show decode prog_6_method_11_code 21 = .ok (.return_, 1) by decide +kernel) rfl rfl
theorem sb90_0 (E : xE G p (xRm 5 (h_sz M' - z0) (h_sl M' - y0)) s m args c prog_6_method_11_code "ZonedFabric$Host" z0 y0 (h_sz M') (h_sl M') 4) (B : xB ym90 none meth) (a0 : Nat) (v1 : Int32) (M : hM) {res : xRes} (h : b90_0 a0 v1 M = some res) (hN : xN (pg90 p l e s m args below meth c G z0 y0 r M') r M' res) : xV G p l e (xRm 5 (h_sz M' - z0) (h_sl M' - y0)) s m args below meth c z0 y0 (h_sz M') (h_sl M') 4 (MQ below (xQc G r M') args s (h_sz M' - z0) (h_sl M' - y0) (xFr G)) 0 [(0, .inr (.inr (some a0))), (1, .inl v1)] [] M := by
  unfold b90_0 at h
  refine xv_b E [.iload_n 1, .sipush 255, .iand, .iconst 1, .isub, .istore_n 2, .iload_n 2] (pc' := 9) (lv' := [(2, .inl ((v1 &&& (255 : Int32)) - (1 : Int32))), (0, .inr (.inr (some a0))), (1, .inl v1)]) (st' := [.inl ((v1 &&& (255 : Int32)) - (1 : Int32))]) (by decide +kernel) rfl rfl ?_
  by_cases q10 : ((v1 &&& (255 : Int32)) - (1 : Int32)) < 0
  · rw [if_pos q10] at h
    refine xv_if_lt E 21 (show decode prog_6_method_11_code 9 = .ok (.ifCond .lt (12), 3) by decide +kernel) rfl (fun _ => ?_) (fun z => absurd q10 z)
    exact xv_w (sb90_21 E B  M h hN) rfl
  · rw [if_neg q10] at h
    refine xv_if_lt E 21 (show decode prog_6_method_11_code 9 = .ok (.ifCond .lt (12), 3) by decide +kernel) rfl (fun z => absurd z q10) (fun _ => ?_)
    refine xv_b E [.iload_n 2, .aload_n 0] (pc' := 14) (lv' := [(2, .inl ((v1 &&& (255 : Int32)) - (1 : Int32))), (0, .inr (.inr (some a0))), (1, .inl v1)]) (st' := [.inr (.inr (some a0)), .inl ((v1 &&& (255 : Int32)) - (1 : Int32))]) (by decide +kernel) rfl rfl ?_
    obtain ⟨o_1, h2, h⟩ := bd h
    refine xg_r E 4 3 h2 mw43 (show decode prog_6_method_11_code 14 = .ok (.getfield 31, 3) by decide +kernel) ?_
    obtain ⟨v_3, h4, h⟩ := bd h
    refine xa_n E 20 h4 (show decode prog_6_method_11_code 17 = .ok (.arraylength, 1) by decide +kernel) ?_
    by_cases q9 : ((v1 &&& (255 : Int32)) - (1 : Int32)) < v_3
    · rw [if_pos q9] at h
      refine xv_icmp_lt E 22 (show decode prog_6_method_11_code 18 = .ok (.if_icmp .lt (4), 3) by decide +kernel) rfl (fun _ => ?_) (fun z => absurd q9 z)
      refine xv_b E [.aload_n 0] (pc' := 23) (lv' := [(2, .inl ((v1 &&& (255 : Int32)) - (1 : Int32))), (0, .inr (.inr (some a0))), (1, .inl v1)]) (st' := [.inr (.inr (some a0))]) (by decide +kernel) rfl rfl ?_
      obtain ⟨o_5, h6, h⟩ := bd h
      refine xg_r E 4 3 h6 mw43 (show decode prog_6_method_11_code 23 = .ok (.getfield 31, 3) by decide +kernel) ?_
      refine xv_b E [.iload_n 2, .iload_n 1] (pc' := 28) (lv' := [(2, .inl ((v1 &&& (255 : Int32)) - (1 : Int32))), (0, .inr (.inr (some a0))), (1, .inl v1)]) (st' := [.inl v1, .inl ((v1 &&& (255 : Int32)) - (1 : Int32)), .inr (.inr o_5)]) (by decide +kernel) rfl rfl ?_
      obtain ⟨M7, h8, h⟩ := bd h
      refine xs_i E h8 (show decode prog_6_method_11_code 28 = .ok (.iastore, 1) by decide +kernel) ?_
      refine xv_b E [.iconst 0, .istore_n 3] (pc' := 31) (lv' := [(3, .inl (0 : Int32)), (2, .inl ((v1 &&& (255 : Int32)) - (1 : Int32))), (0, .inr (.inr (some a0))), (1, .inl v1)]) (st' := []) (by decide +kernel) rfl rfl ?_
      obtain rfl := Option.some.inj h
      exact xv_w hN rfl
    · rw [if_neg q9] at h
      refine xv_icmp_lt E 22 (show decode prog_6_method_11_code 18 = .ok (.if_icmp .lt (4), 3) by decide +kernel) rfl (fun z => absurd z q9) (fun _ => ?_)
      exact xv_w (sb90_21 E B  M h hN) rfl
theorem sb90_76 (E : xE G p (xRm 5 (h_sz M' - z0) (h_sl M' - y0)) s m args c prog_6_method_11_code "ZonedFabric$Host" z0 y0 (h_sz M') (h_sl M') 4) (B : xB ym90 none meth) (a0 : Nat) (v1 : Int32) (v3 : Int32) (M : hM) {res : xRes} (h : b90_76 a0 v1 v3 M = some res) (hN : xN (pg90 p l e s m args below meth c G z0 y0 r M') r M' res) : xV G p l e (xRm 5 (h_sz M' - z0) (h_sl M' - y0)) s m args below meth c z0 y0 (h_sz M') (h_sl M') 4 (MQ below (xQc G r M') args s (h_sz M' - z0) (h_sl M' - y0) (xFr G)) 76 [(0, .inr (.inr (some a0))), (1, .inl v1), (3, .inl v3)] [] M := by
  unfold b90_76 at h
  refine xv_b E [.iinc 3 1] (pc' := 79) (lv' := [(3, .inl (v3 + (1 : Int32))), (0, .inr (.inr (some a0))), (1, .inl v1)]) (st' := []) (by decide +kernel) rfl rfl ?_
  refine xv_goto E 31 (show decode prog_6_method_11_code 79 = .ok (.goto (-48), 3) by decide +kernel) rfl ?_
  obtain rfl := Option.some.inj h
  exact xv_w hN rfl
theorem sb90_31 (E : xE G p (xRm 5 (h_sz M' - z0) (h_sl M' - y0)) s m args c prog_6_method_11_code "ZonedFabric$Host" z0 y0 (h_sz M') (h_sl M') 4) (B : xB ym90 none meth) (a0 : Nat) (v1 : Int32) (v3 : Int32) (M : hM) {res : xRes} (h : b90_31 a0 v1 v3 M = some res) (hN : xN (pg90 p l e s m args below meth c G z0 y0 r M') r M' res) : xV G p l e (xRm 5 (h_sz M' - z0) (h_sl M' - y0)) s m args below meth c z0 y0 (h_sz M') (h_sl M') 4 (MQ below (xQc G r M') args s (h_sz M' - z0) (h_sl M' - y0) (xFr G)) 31 [(0, .inr (.inr (some a0))), (1, .inl v1), (3, .inl v3)] [] M := by
  unfold b90_31 at h
  refine xv_b E [.iload_n 3, .aload_n 0] (pc' := 33) (lv' := [(0, .inr (.inr (some a0))), (1, .inl v1), (3, .inl v3)]) (st' := [.inr (.inr (some a0)), .inl v3]) (by decide +kernel) rfl rfl ?_
  obtain ⟨v_11, h12, h⟩ := bd h
  refine xg_i E 4 5 h12 mw324 (show decode prog_6_method_11_code 33 = .ok (.getfield 35, 3) by decide +kernel) ?_
  by_cases q35 : v_11 ≤ v3
  · rw [if_pos q35] at h
    refine xv_icmp_ge E 82 (show decode prog_6_method_11_code 36 = .ok (.if_icmp .ge (46), 3) by decide +kernel) rfl (fun _ => ?_) (fun z => absurd q35 z)
    obtain rfl := Option.some.inj h
    obtain ⟨rfl, rfl⟩ := Prod.mk.inj (show ((none : Option aV), M) = (r, M') from hN)
    exact xv_rv E B.1 B.2.1 (show decode prog_6_method_11_code 82 = .ok (.return_, 1) by decide +kernel) rfl rfl
  · rw [if_neg q35] at h
    refine xv_icmp_ge E 82 (show decode prog_6_method_11_code 36 = .ok (.if_icmp .ge (46), 3) by decide +kernel) rfl (fun z => absurd z q35) (fun _ => ?_)
    refine xv_b E [.aload_n 0] (pc' := 40) (lv' := [(0, .inr (.inr (some a0))), (1, .inl v1), (3, .inl v3)]) (st' := [.inr (.inr (some a0))]) (by decide +kernel) rfl rfl ?_
    obtain ⟨o_13, h14, h⟩ := bd h
    refine xg_r E 4 4 h14 mw39 (show decode prog_6_method_11_code 40 = .ok (.getfield 11, 3) by decide +kernel) ?_
    refine xv_b E [.iload_n 3] (pc' := 44) (lv' := [(0, .inr (.inr (some a0))), (1, .inl v1), (3, .inl v3)]) (st' := [.inl v3, .inr (.inr o_13)]) (by decide +kernel) rfl rfl ?_
    obtain ⟨o_15, h16, h⟩ := bd h
    refine xa_r E 30 h16 (show decode prog_6_method_11_code 44 = .ok (.aaload, 1) by decide +kernel) ?_
    obtain ⟨v_17, h18, h⟩ := bd h
    refine xg_i E 0 10 h18 mw294 (show decode prog_6_method_11_code 45 = .ok (.getfield 63, 3) by decide +kernel) ?_
    refine xv_b E [.iconst 1] (pc' := 49) (lv' := [(0, .inr (.inr (some a0))), (1, .inl v1), (3, .inl v3)]) (st' := [.inl (1 : Int32), .inl v_17]) (by decide +kernel) rfl rfl ?_
    by_cases q34 : v_17 = (1 : Int32)
    · rw [if_pos q34] at h
      refine xv_icmp_ne E 76 (show decode prog_6_method_11_code 49 = .ok (.if_icmp .ne (27), 3) by decide +kernel) rfl (fun z => absurd q34 z) (fun _ => ?_)
      refine xv_b E [.aload_n 0] (pc' := 53) (lv' := [(0, .inr (.inr (some a0))), (1, .inl v1), (3, .inl v3)]) (st' := [.inr (.inr (some a0))]) (by decide +kernel) rfl rfl ?_
      obtain ⟨o_19, h20, h⟩ := bd h
      refine xg_r E 4 4 h20 mw39 (show decode prog_6_method_11_code 53 = .ok (.getfield 11, 3) by decide +kernel) ?_
      refine xv_b E [.iload_n 3] (pc' := 57) (lv' := [(0, .inr (.inr (some a0))), (1, .inl v1), (3, .inl v3)]) (st' := [.inl v3, .inr (.inr o_19)]) (by decide +kernel) rfl rfl ?_
      obtain ⟨o_21, h22, h⟩ := bd h
      refine xa_r E 30 h22 (show decode prog_6_method_11_code 57 = .ok (.aaload, 1) by decide +kernel) ?_
      obtain ⟨v_23, h24, h⟩ := bd h
      refine xg_i E 0 9 h24 mw295 (show decode prog_6_method_11_code 58 = .ok (.getfield 79, 3) by decide +kernel) ?_
      refine xv_b E [.iload_n 1] (pc' := 62) (lv' := [(0, .inr (.inr (some a0))), (1, .inl v1), (3, .inl v3)]) (st' := [.inl v1, .inl v_23]) (by decide +kernel) rfl rfl ?_
      by_cases q33 : v_23 = v1
      · rw [if_pos q33] at h
        refine xv_icmp_ne E 76 (show decode prog_6_method_11_code 62 = .ok (.if_icmp .ne (14), 3) by decide +kernel) rfl (fun z => absurd q33 z) (fun _ => ?_)
        refine xv_b E [.aload_n 0, .aload_n 0] (pc' := 67) (lv' := [(0, .inr (.inr (some a0))), (1, .inl v1), (3, .inl v3)]) (st' := [.inr (.inr (some a0)), .inr (.inr (some a0))]) (by decide +kernel) rfl rfl ?_
        obtain ⟨o_25, h26, h⟩ := bd h
        refine xg_r E 4 4 h26 mw39 (show decode prog_6_method_11_code 67 = .ok (.getfield 11, 3) by decide +kernel) ?_
        refine xv_b E [.iload_n 3] (pc' := 71) (lv' := [(0, .inr (.inr (some a0))), (1, .inl v1), (3, .inl v3)]) (st' := [.inl v3, .inr (.inr o_25), .inr (.inr (some a0))]) (by decide +kernel) rfl rfl ?_
        obtain ⟨o_27, h28, h⟩ := bd h
        refine xa_r E 30 h28 (show decode prog_6_method_11_code 71 = .ok (.aaload, 1) by decide +kernel) ?_
        refine xv_b E [.iconst 2] (pc' := 73) (lv' := [(0, .inr (.inr (some a0))), (1, .inl v1), (3, .inl v3)]) (st' := [.inl (2 : Int32), .inr (.inr o_27), .inr (.inr (some a0))]) (by decide +kernel) rfl rfl ?_
        obtain ⟨b_31, h32, h⟩ := bd h
        obtain ⟨eh32, th32⟩ := g_o_some h32
        obtain ⟨q_29, h30, h⟩ := bd h
        refine xv_cvo E eh32 4 (as := [.inr (.inr o_27), .inl (2 : Int32)]) (t51 G l (c_V_some h30)) cd51 mw320 mw321 mw322 (show decode prog_6_method_11_code 73 = .ok (.invokevirtual 52, 3) by decide +kernel) th32 rfl rfl (Nat.le_of_ble_eq_true rfl) ⟨Nat.le_of_ble_eq_true rfl, Nat.le_of_ble_eq_true rfl⟩ ?_
        exact xv_w (sb90_76 E B a0 v1 v3 q_29 h hN) rfl
      · rw [if_neg q33] at h
        refine xv_icmp_ne E 76 (show decode prog_6_method_11_code 62 = .ok (.if_icmp .ne (14), 3) by decide +kernel) rfl (fun _ => ?_) (fun z => absurd z q33)
        exact xv_w (sb90_76 E B a0 v1 v3 M h hN) rfl
    · rw [if_neg q34] at h
      refine xv_icmp_ne E 76 (show decode prog_6_method_11_code 49 = .ok (.if_icmp .ne (27), 3) by decide +kernel) rfl (fun _ => ?_) (fun z => absurd z q34)
      exact xv_w (sb90_76 E B a0 v1 v3 M h hN) rfl
end
theorem t90 (G : gX) (l : Launch) {as : List aV} {M : hM} {r : Option aV} {M' : hM} (h : f90 as M = some (r, M')) : xM G l ym90 prog_6_method_11_code 4 none 5 as M r M' := by
  unfold f90 at h
  split at h
  · have hle : ∀ h as M res, k90 h as M = some res → h_sz M ≤ r_sz res ∧ h_sl M ≤ r_sl res := by
      intro h as M res hb
      unfold k90 at hb
      by_cases e0 : h = 31
      · rw [if_pos e0] at hb
        split at hb
        · exact lb90_31 G l _ _ _ M hb
        · cases hb
      · rw [if_neg e0] at hb
        cases hb
    obtain ⟨res, hx, hres⟩ := x_go_ok h
    refine xM_of (by decide) (Nat.le_of_ble_eq_true rfl) ?_ ?_
    · have e1 := lb90_0 G l _ _ M hx
      have e2 := x_go_le hle hres
      omega
    · intro p e s m args below meth c E B
      refine sb90_0 E B _ _ M hx (hres _ ?_)
      intro h as M res hb hN
      unfold k90 at hb
      unfold pg90
      by_cases e0 : h = 31
      · rw [if_pos e0] at hb ⊢
        split at hb
        · exact sb90_31 E B _ _ _ M hb hN
        · cases hb
      · rw [if_neg e0] at hb ⊢
        cases hb
  · cases h
/-! ZF.Host.takeTold(LZF$Frame;)V -/
def ym91 : MethodName := ⟨"ZonedFabric$Host", "takeTold", "(LZonedFabric$Frame;)V"⟩
theorem cd91 : xCd ym91 prog_6_method_10_code 5 none 1 := ⟨mw494, mw37, by decide, by decide, by decide +kernel⟩
def b91_37  (M : hM) : Option xRes :=
  some (.inl (none, M))
def b91_0 (a0 : Nat) (o1 : Option Nat) (M : hM) : Option xRes :=
  Option.bind (g_o M 2 o1) fun b_3 =>
  Option.bind (c_I (f58 [.inr (.inr (some b_3)), .inl (0 : Int32)] M)) fun q_1 =>
  Option.bind (g_o q_1.2 2 o1) fun b_7 =>
  Option.bind (c_L (f56 [.inr (.inr (some b_7)), .inl (14 : Int32), .inl (3 : Int32)] q_1.2)) fun q_5 =>
  Option.bind (g_o q_5.2 2 o1) fun b_11 =>
  Option.bind (c_I (f65 [.inr (.inr (some b_11))] q_5.2)) fun q_9 =>
  if q_9.1 = (16777212 : Int32) then
    (if (Int64.toInt32 q_5.1) = 0 then
      (b91_37  q_9.2)
    else
      (Option.bind (g_r q_9.2 4 3 (some a0)) fun o_13 =>
      Option.bind (a_ln q_9.2 20 o_13) fun v_15 =>
      if q_1.1 < v_15 then
        (some (.inr (41, [.inr (.inr (some a0)), .inl q_1.1, .inl (Int64.toInt32 q_5.1), .inl (0 : Int32)], q_9.2)))
      else
        (b91_37  q_9.2)))
  else
    (b91_37  q_9.2)
def b91_114 (a0 : Nat) (v2 : Int32) (v3 : Int32) (v4 : Int32) (M : hM) : Option xRes :=
  some (.inr (41, [.inr (.inr (some a0)), .inl v2, .inl v3, .inl (v4 + (1 : Int32))], M))
def b91_111 (a0 : Nat) (v2 : Int32) (v3 : Int32) (v4 : Int32) (si0 : Int32) (sr1 : Option Nat) (sr2 : Option Nat) (M : hM) : Option xRes :=
  Option.bind (g_o M 4 sr2) fun b_54 =>
  Option.bind (c_V (f51 [.inr (.inr (some b_54)), .inr (.inr sr1), .inl si0] M)) fun q_52 =>
  b91_114 a0 v2 v3 v4 q_52
def b91_41 (a0 : Nat) (v2 : Int32) (v3 : Int32) (v4 : Int32) (M : hM) : Option xRes :=
  Option.bind (g_i M 4 5 (some a0)) fun v_20 =>
  if v_20 ≤ v4 then
    (some (.inl (none, M)))
  else
    (Option.bind (g_r M 4 4 (some a0)) fun o_22 =>
    Option.bind (al_r M 30 o_22 v4) fun o_24 =>
    Option.bind (g_i M 0 10 o_24) fun v_26 =>
    if v_26 = 0 then
      (Option.bind (g_r M 4 4 (some a0)) fun o_28 =>
      Option.bind (al_r M 30 o_28 v4) fun o_30 =>
      Option.bind (g_i M 0 8 o_30) fun v_32 =>
      if v_32 = v2 then
        (Option.bind (g_r M 4 4 (some a0)) fun o_34 =>
        Option.bind (al_r M 30 o_34 v4) fun o_36 =>
        Option.bind (p_i M 0 9 o_36 v3) fun M38 =>
        Option.bind (g_r M38 4 4 (some a0)) fun o_40 =>
        Option.bind (al_r M38 30 o_40 v4) fun o_42 =>
        Option.bind (g_r M38 4 3 (some a0)) fun o_44 =>
        Option.bind (al_i M38 20 o_44 v2) fun v_46 =>
        if v_46 = v3 then
          (b91_111 a0 v2 v3 v4 (2 : Int32) o_42 (some a0) M38)
        else
          (b91_111 a0 v2 v3 v4 (1 : Int32) o_42 (some a0) M38))
      else
        (b91_114 a0 v2 v3 v4 M))
    else
      (b91_114 a0 v2 v3 v4 M))
def k91 (h : Nat) (as : List aV) (M : hM) : Option xRes :=
  if h = 41 then (match as with | [.inr (.inr (some a0)), .inl v2, .inl v3, .inl v4] => b91_41 a0 v2 v3 v4 M | _ => none) else
  none
def f91 (as : List aV) (M : hM) : xO := match as with
  | [.inr (.inr (some a0)), .inr (.inr o1)] => x_go k91 (b91_0 a0 o1 M)
  | _ => none
theorem lb91_37 (G : gX) (l : Launch)  (M : hM) {res : xRes} (h : b91_37  M = some res) : h_sz M ≤ r_sz res ∧ h_sl M ≤ r_sl res := by
  unfold b91_37 at h
  obtain rfl := Option.some.inj h
  show h_sz M ≤ h_sz M ∧ h_sl M ≤ h_sl M
  omega
theorem lb91_0 (G : gX) (l : Launch) (a0 : Nat) (o1 : Option Nat) (M : hM) {res : xRes} (h : b91_0 a0 o1 M = some res) : h_sz M ≤ r_sz res ∧ h_sl M ≤ r_sl res := by
  unfold b91_0 at h
  obtain ⟨b_3, h4, h⟩ := bd h
  obtain ⟨q_1, h2, h⟩ := bd h
  have eh2 := (t58 G l (c_I_some h2)).1
  obtain ⟨b_7, h8, h⟩ := bd h
  obtain ⟨q_5, h6, h⟩ := bd h
  have eh6 := (t56 G l (c_L_some h6)).1
  obtain ⟨b_11, h12, h⟩ := bd h
  obtain ⟨q_9, h10, h⟩ := bd h
  have eh10 := (t65 G l (c_I_some h10)).1
  by_cases q19 : q_9.1 = (16777212 : Int32)
  · rw [if_pos q19] at h
    by_cases q18 : (Int64.toInt32 q_5.1) = 0
    · rw [if_pos q18] at h
      have e := lb91_37 G l  q_9.2 h
      omega
    · rw [if_neg q18] at h
      obtain ⟨o_13, h14, h⟩ := bd h
      obtain ⟨v_15, h16, h⟩ := bd h
      by_cases q17 : q_1.1 < v_15
      · rw [if_pos q17] at h
        obtain rfl := Option.some.inj h
        show h_sz M ≤ h_sz q_9.2 ∧ h_sl M ≤ h_sl q_9.2
        omega
      · rw [if_neg q17] at h
        have e := lb91_37 G l  q_9.2 h
        omega
  · rw [if_neg q19] at h
    have e := lb91_37 G l  q_9.2 h
    omega
theorem lb91_114 (G : gX) (l : Launch) (a0 : Nat) (v2 : Int32) (v3 : Int32) (v4 : Int32) (M : hM) {res : xRes} (h : b91_114 a0 v2 v3 v4 M = some res) : h_sz M ≤ r_sz res ∧ h_sl M ≤ r_sl res := by
  unfold b91_114 at h
  obtain rfl := Option.some.inj h
  show h_sz M ≤ h_sz M ∧ h_sl M ≤ h_sl M
  omega
theorem lb91_111 (G : gX) (l : Launch) (a0 : Nat) (v2 : Int32) (v3 : Int32) (v4 : Int32) (si0 : Int32) (sr1 : Option Nat) (sr2 : Option Nat) (M : hM) {res : xRes} (h : b91_111 a0 v2 v3 v4 si0 sr1 sr2 M = some res) : h_sz M ≤ r_sz res ∧ h_sl M ≤ r_sl res := by
  unfold b91_111 at h
  obtain ⟨b_54, h55, h⟩ := bd h
  obtain ⟨q_52, h53, h⟩ := bd h
  have eh53 := (t51 G l (c_V_some h53)).1
  have e := lb91_114 G l a0 v2 v3 v4 q_52 h
  omega
theorem lb91_41 (G : gX) (l : Launch) (a0 : Nat) (v2 : Int32) (v3 : Int32) (v4 : Int32) (M : hM) {res : xRes} (h : b91_41 a0 v2 v3 v4 M = some res) : h_sz M ≤ r_sz res ∧ h_sl M ≤ r_sl res := by
  unfold b91_41 at h
  obtain ⟨v_20, h21, h⟩ := bd h
  by_cases q51 : v_20 ≤ v4
  · rw [if_pos q51] at h
    obtain rfl := Option.some.inj h
    show h_sz M ≤ h_sz M ∧ h_sl M ≤ h_sl M
    omega
  · rw [if_neg q51] at h
    obtain ⟨o_22, h23, h⟩ := bd h
    obtain ⟨o_24, h25, h⟩ := bd h
    obtain ⟨v_26, h27, h⟩ := bd h
    by_cases q50 : v_26 = 0
    · rw [if_pos q50] at h
      obtain ⟨o_28, h29, h⟩ := bd h
      obtain ⟨o_30, h31, h⟩ := bd h
      obtain ⟨v_32, h33, h⟩ := bd h
      by_cases q49 : v_32 = v2
      · rw [if_pos q49] at h
        obtain ⟨o_34, h35, h⟩ := bd h
        obtain ⟨o_36, h37, h⟩ := bd h
        obtain ⟨M38, h39, h⟩ := bd h
        have eh39 := p_i_sz h39
        obtain ⟨o_40, h41, h⟩ := bd h
        obtain ⟨o_42, h43, h⟩ := bd h
        obtain ⟨o_44, h45, h⟩ := bd h
        obtain ⟨v_46, h47, h⟩ := bd h
        by_cases q48 : v_46 = v3
        · rw [if_pos q48] at h
          have e := lb91_111 G l a0 v2 v3 v4 (2 : Int32) o_42 (some a0) M38 h
          omega
        · rw [if_neg q48] at h
          have e := lb91_111 G l a0 v2 v3 v4 (1 : Int32) o_42 (some a0) M38 h
          omega
      · rw [if_neg q49] at h
        have e := lb91_114 G l a0 v2 v3 v4 M h
        omega
    · rw [if_neg q50] at h
      have e := lb91_114 G l a0 v2 v3 v4 M h
      omega
section
variable {p : Program} {l : Launch} {e : Env} {s : State} {m : MethodId} {args : Array Value} {below : List Frame} {meth : Method} {c : Code} {G : gX} {z0 y0 : Nat} {r : Option aV} {M' : hM}
def pg91 (p : Program) (l : Launch) (e : Env) (s : State) (m : MethodId) (args : Array Value) (below : List Frame) (meth : Method) (c : Code) (G : gX) (z0 y0 : Nat) (r : Option aV) (M' : hM) (h : Nat) (as : List aV) (M : hM) : Prop :=
  if h = 41 then (match as with | [.inr (.inr (some a0)), .inl v2, .inl v3, .inl v4] => xV G p l e (xRm 5 (h_sz M' - z0) (h_sl M' - y0)) s m args below meth c z0 y0 (h_sz M') (h_sl M') 5 (MQ below (xQc G r M') args s (h_sz M' - z0) (h_sl M' - y0) (xFr G)) 41 [(0, .inr (.inr (some a0))), (2, .inl v2), (3, .inl v3), (4, .inl v4)] [] M | _ => False) else
  False
theorem sb91_37 (E : xE G p (xRm 5 (h_sz M' - z0) (h_sl M' - y0)) s m args c prog_6_method_10_code "ZonedFabric$Host" z0 y0 (h_sz M') (h_sl M') 5) (B : xB ym91 none meth)  (M : hM) {res : xRes} (h : b91_37  M = some res) (hN : xN (pg91 p l e s m args below meth c G z0 y0 r M') r M' res) : xV G p l e (xRm 5 (h_sz M' - z0) (h_sl M' - y0)) s m args below meth c z0 y0 (h_sz M') (h_sl M') 5 (MQ below (xQc G r M') args s (h_sz M' - z0) (h_sl M' - y0) (xFr G)) 37 [] [] M := by
  unfold b91_37 at h
  obtain rfl := Option.some.inj h
  obtain ⟨rfl, rfl⟩ := Prod.mk.inj (show ((none : Option aV), M) = (r, M') from hN)
  exact xv_rv E B.1 B.2.1 (show decode prog_6_method_10_code 37 = .ok (.return_, 1) by decide +kernel) rfl rfl
theorem sb91_0 (E : xE G p (xRm 5 (h_sz M' - z0) (h_sl M' - y0)) s m args c prog_6_method_10_code "ZonedFabric$Host" z0 y0 (h_sz M') (h_sl M') 5) (B : xB ym91 none meth) (a0 : Nat) (o1 : Option Nat) (M : hM) {res : xRes} (h : b91_0 a0 o1 M = some res) (hN : xN (pg91 p l e s m args below meth c G z0 y0 r M') r M' res) : xV G p l e (xRm 5 (h_sz M' - z0) (h_sl M' - y0)) s m args below meth c z0 y0 (h_sz M') (h_sl M') 5 (MQ below (xQc G r M') args s (h_sz M' - z0) (h_sl M' - y0) (xFr G)) 0 [(0, .inr (.inr (some a0))), (1, .inr (.inr o1))] [] M := by
  unfold b91_0 at h
  refine xv_b E [.aload_n 1, .iconst 0] (pc' := 2) (lv' := [(0, .inr (.inr (some a0))), (1, .inr (.inr o1))]) (st' := [.inl (0 : Int32), .inr (.inr o1)]) (by decide +kernel) rfl rfl ?_
  obtain ⟨b_3, h4, h⟩ := bd h
  obtain ⟨eh4, th4⟩ := g_o_some h4
  obtain ⟨q_1, h2, h⟩ := bd h
  refine xv_cvo E eh4 2 (as := [.inl (0 : Int32)]) (t58 G l (c_I_some h2)) cd58 mw475 mw342 mw343 (show decode prog_6_method_10_code 2 = .ok (.invokevirtual 140, 3) by decide +kernel) th4 rfl rfl (Nat.le_of_ble_eq_true rfl) ⟨Nat.le_of_ble_eq_true rfl, Nat.le_of_ble_eq_true rfl⟩ ?_
  refine xv_b E [.istore_n 2, .aload_n 1, .bipush 14, .iconst 3] (pc' := 10) (lv' := [(2, .inl q_1.1), (0, .inr (.inr (some a0))), (1, .inr (.inr o1))]) (st' := [.inl (3 : Int32), .inl (14 : Int32), .inr (.inr o1)]) (by decide +kernel) rfl rfl ?_
  obtain ⟨b_7, h8, h⟩ := bd h
  obtain ⟨eh8, th8⟩ := g_o_some h8
  obtain ⟨q_5, h6, h⟩ := bd h
  refine xv_cvo E eh8 2 (as := [.inl (14 : Int32), .inl (3 : Int32)]) (t56 G l (c_L_some h6)) cd56 mw485 mw347 mw348 (show decode prog_6_method_10_code 10 = .ok (.invokevirtual 144, 3) by decide +kernel) th8 rfl rfl (Nat.le_of_ble_eq_true rfl) ⟨Nat.le_of_ble_eq_true rfl, Nat.le_of_ble_eq_true rfl⟩ ?_
  refine xv_b E [.l2i, .istore_n 3, .aload_n 1] (pc' := 16) (lv' := [(3, .inl (Int64.toInt32 q_5.1)), (2, .inl q_1.1), (0, .inr (.inr (some a0))), (1, .inr (.inr o1))]) (st' := [.inr (.inr o1)]) (by decide +kernel) rfl rfl ?_
  obtain ⟨b_11, h12, h⟩ := bd h
  obtain ⟨eh12, th12⟩ := g_o_some h12
  obtain ⟨q_9, h10, h⟩ := bd h
  refine xv_cvo E eh12 2 (as := []) (t65 G l (c_I_some h10)) cd65 mw467 mw370 mw371 (show decode prog_6_method_10_code 16 = .ok (.invokevirtual 121, 3) by decide +kernel) th12 rfl rfl (Nat.le_of_ble_eq_true rfl) ⟨Nat.le_of_ble_eq_true rfl, Nat.le_of_ble_eq_true rfl⟩ ?_
  refine xv_ldc E (16777212 : Int32) mw296 (show decode prog_6_method_10_code 19 = .ok (.ldc 78, 2) by decide +kernel) ?_
  by_cases q19 : q_9.1 = (16777212 : Int32)
  · rw [if_pos q19] at h
    refine xv_icmp_ne E 37 (show decode prog_6_method_10_code 21 = .ok (.if_icmp .ne (16), 3) by decide +kernel) rfl (fun z => absurd q19 z) (fun _ => ?_)
    refine xv_b E [.iload_n 3] (pc' := 25) (lv' := [(3, .inl (Int64.toInt32 q_5.1)), (2, .inl q_1.1), (0, .inr (.inr (some a0))), (1, .inr (.inr o1))]) (st' := [.inl (Int64.toInt32 q_5.1)]) (by decide +kernel) rfl rfl ?_
    by_cases q18 : (Int64.toInt32 q_5.1) = 0
    · rw [if_pos q18] at h
      refine xv_if_eq E 37 (show decode prog_6_method_10_code 25 = .ok (.ifCond .eq (12), 3) by decide +kernel) rfl (fun _ => ?_) (fun z => absurd q18 z)
      exact xv_w (sb91_37 E B  q_9.2 h hN) rfl
    · rw [if_neg q18] at h
      refine xv_if_eq E 37 (show decode prog_6_method_10_code 25 = .ok (.ifCond .eq (12), 3) by decide +kernel) rfl (fun z => absurd z q18) (fun _ => ?_)
      refine xv_b E [.iload_n 2, .aload_n 0] (pc' := 30) (lv' := [(3, .inl (Int64.toInt32 q_5.1)), (2, .inl q_1.1), (0, .inr (.inr (some a0))), (1, .inr (.inr o1))]) (st' := [.inr (.inr (some a0)), .inl q_1.1]) (by decide +kernel) rfl rfl ?_
      obtain ⟨o_13, h14, h⟩ := bd h
      refine xg_r E 4 3 h14 mw43 (show decode prog_6_method_10_code 30 = .ok (.getfield 31, 3) by decide +kernel) ?_
      obtain ⟨v_15, h16, h⟩ := bd h
      refine xa_n E 20 h16 (show decode prog_6_method_10_code 33 = .ok (.arraylength, 1) by decide +kernel) ?_
      by_cases q17 : q_1.1 < v_15
      · rw [if_pos q17] at h
        refine xv_icmp_lt E 38 (show decode prog_6_method_10_code 34 = .ok (.if_icmp .lt (4), 3) by decide +kernel) rfl (fun _ => ?_) (fun z => absurd q17 z)
        refine xv_b E [.iconst 0, .istore 4] (pc' := 41) (lv' := [(4, .inl (0 : Int32)), (3, .inl (Int64.toInt32 q_5.1)), (2, .inl q_1.1), (0, .inr (.inr (some a0))), (1, .inr (.inr o1))]) (st' := []) (by decide +kernel) rfl rfl ?_
        obtain rfl := Option.some.inj h
        exact xv_w hN rfl
      · rw [if_neg q17] at h
        refine xv_icmp_lt E 38 (show decode prog_6_method_10_code 34 = .ok (.if_icmp .lt (4), 3) by decide +kernel) rfl (fun z => absurd z q17) (fun _ => ?_)
        exact xv_w (sb91_37 E B  q_9.2 h hN) rfl
  · rw [if_neg q19] at h
    refine xv_icmp_ne E 37 (show decode prog_6_method_10_code 21 = .ok (.if_icmp .ne (16), 3) by decide +kernel) rfl (fun _ => ?_) (fun z => absurd z q19)
    exact xv_w (sb91_37 E B  q_9.2 h hN) rfl
theorem sb91_114 (E : xE G p (xRm 5 (h_sz M' - z0) (h_sl M' - y0)) s m args c prog_6_method_10_code "ZonedFabric$Host" z0 y0 (h_sz M') (h_sl M') 5) (B : xB ym91 none meth) (a0 : Nat) (v2 : Int32) (v3 : Int32) (v4 : Int32) (M : hM) {res : xRes} (h : b91_114 a0 v2 v3 v4 M = some res) (hN : xN (pg91 p l e s m args below meth c G z0 y0 r M') r M' res) : xV G p l e (xRm 5 (h_sz M' - z0) (h_sl M' - y0)) s m args below meth c z0 y0 (h_sz M') (h_sl M') 5 (MQ below (xQc G r M') args s (h_sz M' - z0) (h_sl M' - y0) (xFr G)) 114 [(0, .inr (.inr (some a0))), (2, .inl v2), (3, .inl v3), (4, .inl v4)] [] M := by
  unfold b91_114 at h
  refine xv_b E [.iinc 4 1] (pc' := 117) (lv' := [(4, .inl (v4 + (1 : Int32))), (0, .inr (.inr (some a0))), (2, .inl v2), (3, .inl v3)]) (st' := []) (by decide +kernel) rfl rfl ?_
  refine xv_goto E 41 (show decode prog_6_method_10_code 117 = .ok (.goto (-76), 3) by decide +kernel) rfl ?_
  obtain rfl := Option.some.inj h
  exact xv_w hN rfl
theorem sb91_111 (E : xE G p (xRm 5 (h_sz M' - z0) (h_sl M' - y0)) s m args c prog_6_method_10_code "ZonedFabric$Host" z0 y0 (h_sz M') (h_sl M') 5) (B : xB ym91 none meth) (a0 : Nat) (v2 : Int32) (v3 : Int32) (v4 : Int32) (si0 : Int32) (sr1 : Option Nat) (sr2 : Option Nat) (M : hM) {res : xRes} (h : b91_111 a0 v2 v3 v4 si0 sr1 sr2 M = some res) (hN : xN (pg91 p l e s m args below meth c G z0 y0 r M') r M' res) : xV G p l e (xRm 5 (h_sz M' - z0) (h_sl M' - y0)) s m args below meth c z0 y0 (h_sz M') (h_sl M') 5 (MQ below (xQc G r M') args s (h_sz M' - z0) (h_sl M' - y0) (xFr G)) 111 [(0, .inr (.inr (some a0))), (2, .inl v2), (3, .inl v3), (4, .inl v4)] [.inl si0, .inr (.inr sr1), .inr (.inr sr2)] M := by
  unfold b91_111 at h
  obtain ⟨b_54, h55, h⟩ := bd h
  obtain ⟨eh55, th55⟩ := g_o_some h55
  obtain ⟨q_52, h53, h⟩ := bd h
  refine xv_cvo E eh55 4 (as := [.inr (.inr sr1), .inl si0]) (t51 G l (c_V_some h53)) cd51 mw320 mw321 mw322 (show decode prog_6_method_10_code 111 = .ok (.invokevirtual 52, 3) by decide +kernel) th55 rfl rfl (Nat.le_of_ble_eq_true rfl) ⟨Nat.le_of_ble_eq_true rfl, Nat.le_of_ble_eq_true rfl⟩ ?_
  exact xv_w (sb91_114 E B a0 v2 v3 v4 q_52 h hN) rfl
theorem sb91_41 (E : xE G p (xRm 5 (h_sz M' - z0) (h_sl M' - y0)) s m args c prog_6_method_10_code "ZonedFabric$Host" z0 y0 (h_sz M') (h_sl M') 5) (B : xB ym91 none meth) (a0 : Nat) (v2 : Int32) (v3 : Int32) (v4 : Int32) (M : hM) {res : xRes} (h : b91_41 a0 v2 v3 v4 M = some res) (hN : xN (pg91 p l e s m args below meth c G z0 y0 r M') r M' res) : xV G p l e (xRm 5 (h_sz M' - z0) (h_sl M' - y0)) s m args below meth c z0 y0 (h_sz M') (h_sl M') 5 (MQ below (xQc G r M') args s (h_sz M' - z0) (h_sl M' - y0) (xFr G)) 41 [(0, .inr (.inr (some a0))), (2, .inl v2), (3, .inl v3), (4, .inl v4)] [] M := by
  unfold b91_41 at h
  refine xv_b E [.iload 4, .aload_n 0] (pc' := 44) (lv' := [(0, .inr (.inr (some a0))), (2, .inl v2), (3, .inl v3), (4, .inl v4)]) (st' := [.inr (.inr (some a0)), .inl v4]) (by decide +kernel) rfl rfl ?_
  obtain ⟨v_20, h21, h⟩ := bd h
  refine xg_i E 4 5 h21 mw324 (show decode prog_6_method_10_code 44 = .ok (.getfield 35, 3) by decide +kernel) ?_
  by_cases q51 : v_20 ≤ v4
  · rw [if_pos q51] at h
    refine xv_icmp_ge E 120 (show decode prog_6_method_10_code 47 = .ok (.if_icmp .ge (73), 3) by decide +kernel) rfl (fun _ => ?_) (fun z => absurd q51 z)
    obtain rfl := Option.some.inj h
    obtain ⟨rfl, rfl⟩ := Prod.mk.inj (show ((none : Option aV), M) = (r, M') from hN)
    exact xv_rv E B.1 B.2.1 (show decode prog_6_method_10_code 120 = .ok (.return_, 1) by decide +kernel) rfl rfl
  · rw [if_neg q51] at h
    refine xv_icmp_ge E 120 (show decode prog_6_method_10_code 47 = .ok (.if_icmp .ge (73), 3) by decide +kernel) rfl (fun z => absurd z q51) (fun _ => ?_)
    refine xv_b E [.aload_n 0] (pc' := 51) (lv' := [(0, .inr (.inr (some a0))), (2, .inl v2), (3, .inl v3), (4, .inl v4)]) (st' := [.inr (.inr (some a0))]) (by decide +kernel) rfl rfl ?_
    obtain ⟨o_22, h23, h⟩ := bd h
    refine xg_r E 4 4 h23 mw39 (show decode prog_6_method_10_code 51 = .ok (.getfield 11, 3) by decide +kernel) ?_
    refine xv_b E [.iload 4] (pc' := 56) (lv' := [(0, .inr (.inr (some a0))), (2, .inl v2), (3, .inl v3), (4, .inl v4)]) (st' := [.inl v4, .inr (.inr o_22)]) (by decide +kernel) rfl rfl ?_
    obtain ⟨o_24, h25, h⟩ := bd h
    refine xa_r E 30 h25 (show decode prog_6_method_10_code 56 = .ok (.aaload, 1) by decide +kernel) ?_
    obtain ⟨v_26, h27, h⟩ := bd h
    refine xg_i E 0 10 h27 mw294 (show decode prog_6_method_10_code 57 = .ok (.getfield 63, 3) by decide +kernel) ?_
    by_cases q50 : v_26 = 0
    · rw [if_pos q50] at h
      refine xv_if_ne E 114 (show decode prog_6_method_10_code 60 = .ok (.ifCond .ne (54), 3) by decide +kernel) rfl (fun z => absurd q50 z) (fun _ => ?_)
      refine xv_b E [.aload_n 0] (pc' := 64) (lv' := [(0, .inr (.inr (some a0))), (2, .inl v2), (3, .inl v3), (4, .inl v4)]) (st' := [.inr (.inr (some a0))]) (by decide +kernel) rfl rfl ?_
      obtain ⟨o_28, h29, h⟩ := bd h
      refine xg_r E 4 4 h29 mw39 (show decode prog_6_method_10_code 64 = .ok (.getfield 11, 3) by decide +kernel) ?_
      refine xv_b E [.iload 4] (pc' := 69) (lv' := [(0, .inr (.inr (some a0))), (2, .inl v2), (3, .inl v3), (4, .inl v4)]) (st' := [.inl v4, .inr (.inr o_28)]) (by decide +kernel) rfl rfl ?_
      obtain ⟨o_30, h31, h⟩ := bd h
      refine xa_r E 30 h31 (show decode prog_6_method_10_code 69 = .ok (.aaload, 1) by decide +kernel) ?_
      obtain ⟨v_32, h33, h⟩ := bd h
      refine xg_i E 0 8 h33 mw304 (show decode prog_6_method_10_code 70 = .ok (.getfield 90, 3) by decide +kernel) ?_
      refine xv_b E [.iload_n 2] (pc' := 74) (lv' := [(0, .inr (.inr (some a0))), (2, .inl v2), (3, .inl v3), (4, .inl v4)]) (st' := [.inl v2, .inl v_32]) (by decide +kernel) rfl rfl ?_
      by_cases q49 : v_32 = v2
      · rw [if_pos q49] at h
        refine xv_icmp_ne E 114 (show decode prog_6_method_10_code 74 = .ok (.if_icmp .ne (40), 3) by decide +kernel) rfl (fun z => absurd q49 z) (fun _ => ?_)
        refine xv_b E [.aload_n 0] (pc' := 78) (lv' := [(0, .inr (.inr (some a0))), (2, .inl v2), (3, .inl v3), (4, .inl v4)]) (st' := [.inr (.inr (some a0))]) (by decide +kernel) rfl rfl ?_
        obtain ⟨o_34, h35, h⟩ := bd h
        refine xg_r E 4 4 h35 mw39 (show decode prog_6_method_10_code 78 = .ok (.getfield 11, 3) by decide +kernel) ?_
        refine xv_b E [.iload 4] (pc' := 83) (lv' := [(0, .inr (.inr (some a0))), (2, .inl v2), (3, .inl v3), (4, .inl v4)]) (st' := [.inl v4, .inr (.inr o_34)]) (by decide +kernel) rfl rfl ?_
        obtain ⟨o_36, h37, h⟩ := bd h
        refine xa_r E 30 h37 (show decode prog_6_method_10_code 83 = .ok (.aaload, 1) by decide +kernel) ?_
        refine xv_b E [.iload_n 3] (pc' := 85) (lv' := [(0, .inr (.inr (some a0))), (2, .inl v2), (3, .inl v3), (4, .inl v4)]) (st' := [.inl v3, .inr (.inr o_36)]) (by decide +kernel) rfl rfl ?_
        obtain ⟨M38, h39, h⟩ := bd h
        refine xp_i E 0 9 h39 mw295 (show decode prog_6_method_10_code 85 = .ok (.putfield 79, 3) by decide +kernel) (Or.inl rfl) ?_
        refine xv_b E [.aload_n 0, .aload_n 0] (pc' := 90) (lv' := [(0, .inr (.inr (some a0))), (2, .inl v2), (3, .inl v3), (4, .inl v4)]) (st' := [.inr (.inr (some a0)), .inr (.inr (some a0))]) (by decide +kernel) rfl rfl ?_
        obtain ⟨o_40, h41, h⟩ := bd h
        refine xg_r E 4 4 h41 mw39 (show decode prog_6_method_10_code 90 = .ok (.getfield 11, 3) by decide +kernel) ?_
        refine xv_b E [.iload 4] (pc' := 95) (lv' := [(0, .inr (.inr (some a0))), (2, .inl v2), (3, .inl v3), (4, .inl v4)]) (st' := [.inl v4, .inr (.inr o_40), .inr (.inr (some a0))]) (by decide +kernel) rfl rfl ?_
        obtain ⟨o_42, h43, h⟩ := bd h
        refine xa_r E 30 h43 (show decode prog_6_method_10_code 95 = .ok (.aaload, 1) by decide +kernel) ?_
        refine xv_b E [.aload_n 0] (pc' := 97) (lv' := [(0, .inr (.inr (some a0))), (2, .inl v2), (3, .inl v3), (4, .inl v4)]) (st' := [.inr (.inr (some a0)), .inr (.inr o_42), .inr (.inr (some a0))]) (by decide +kernel) rfl rfl ?_
        obtain ⟨o_44, h45, h⟩ := bd h
        refine xg_r E 4 3 h45 mw43 (show decode prog_6_method_10_code 97 = .ok (.getfield 31, 3) by decide +kernel) ?_
        refine xv_b E [.iload_n 2] (pc' := 101) (lv' := [(0, .inr (.inr (some a0))), (2, .inl v2), (3, .inl v3), (4, .inl v4)]) (st' := [.inl v2, .inr (.inr o_44), .inr (.inr o_42), .inr (.inr (some a0))]) (by decide +kernel) rfl rfl ?_
        obtain ⟨v_46, h47, h⟩ := bd h
        refine xa_i E h47 (show decode prog_6_method_10_code 101 = .ok (.iaload, 1) by decide +kernel) ?_
        refine xv_b E [.iload_n 3] (pc' := 103) (lv' := [(0, .inr (.inr (some a0))), (2, .inl v2), (3, .inl v3), (4, .inl v4)]) (st' := [.inl v3, .inl v_46, .inr (.inr o_42), .inr (.inr (some a0))]) (by decide +kernel) rfl rfl ?_
        by_cases q48 : v_46 = v3
        · rw [if_pos q48] at h
          refine xv_icmp_ne E 110 (show decode prog_6_method_10_code 103 = .ok (.if_icmp .ne (7), 3) by decide +kernel) rfl (fun z => absurd q48 z) (fun _ => ?_)
          refine xv_b E [.iconst 2] (pc' := 107) (lv' := [(0, .inr (.inr (some a0))), (2, .inl v2), (3, .inl v3), (4, .inl v4)]) (st' := [.inl (2 : Int32), .inr (.inr o_42), .inr (.inr (some a0))]) (by decide +kernel) rfl rfl ?_
          refine xv_goto E 111 (show decode prog_6_method_10_code 107 = .ok (.goto (4), 3) by decide +kernel) rfl ?_
          exact xv_w (sb91_111 E B a0 v2 v3 v4 (2 : Int32) o_42 (some a0) M38 h hN) rfl
        · rw [if_neg q48] at h
          refine xv_icmp_ne E 110 (show decode prog_6_method_10_code 103 = .ok (.if_icmp .ne (7), 3) by decide +kernel) rfl (fun _ => ?_) (fun z => absurd z q48)
          refine xv_b E [.iconst 1] (pc' := 111) (lv' := [(0, .inr (.inr (some a0))), (2, .inl v2), (3, .inl v3), (4, .inl v4)]) (st' := [.inl (1 : Int32), .inr (.inr o_42), .inr (.inr (some a0))]) (by decide +kernel) rfl rfl ?_
          exact xv_w (sb91_111 E B a0 v2 v3 v4 (1 : Int32) o_42 (some a0) M38 h hN) rfl
      · rw [if_neg q49] at h
        refine xv_icmp_ne E 114 (show decode prog_6_method_10_code 74 = .ok (.if_icmp .ne (40), 3) by decide +kernel) rfl (fun _ => ?_) (fun z => absurd z q49)
        exact xv_w (sb91_114 E B a0 v2 v3 v4 M h hN) rfl
    · rw [if_neg q50] at h
      refine xv_if_ne E 114 (show decode prog_6_method_10_code 60 = .ok (.ifCond .ne (54), 3) by decide +kernel) rfl (fun _ => ?_) (fun z => absurd z q50)
      exact xv_w (sb91_114 E B a0 v2 v3 v4 M h hN) rfl
end
theorem t91 (G : gX) (l : Launch) {as : List aV} {M : hM} {r : Option aV} {M' : hM} (h : f91 as M = some (r, M')) : xM G l ym91 prog_6_method_10_code 5 none 5 as M r M' := by
  unfold f91 at h
  split at h
  · have hle : ∀ h as M res, k91 h as M = some res → h_sz M ≤ r_sz res ∧ h_sl M ≤ r_sl res := by
      intro h as M res hb
      unfold k91 at hb
      by_cases e0 : h = 41
      · rw [if_pos e0] at hb
        split at hb
        · exact lb91_41 G l _ _ _ _ M hb
        · cases hb
      · rw [if_neg e0] at hb
        cases hb
    obtain ⟨res, hx, hres⟩ := x_go_ok h
    refine xM_of (by decide) (Nat.le_of_ble_eq_true rfl) ?_ ?_
    · have e1 := lb91_0 G l _ _ M hx
      have e2 := x_go_le hle hres
      omega
    · intro p e s m args below meth c E B
      refine sb91_0 E B _ _ M hx (hres _ ?_)
      intro h as M res hb hN
      unfold k91 at hb
      unfold pg91
      by_cases e0 : h = 41
      · rw [if_pos e0] at hb ⊢
        split at hb
        · exact sb91_41 E B _ _ _ _ M hb hN
        · cases hb
      · rw [if_neg e0] at hb ⊢
        cases hb
  · cases h
/-! ZF.Host.take(LZF$Frame;)V -/
def ym92 : MethodName := ⟨"ZonedFabric$Host", "take", "(LZonedFabric$Frame;)V"⟩
theorem cd92 : xCd ym92 prog_6_method_9_code 2 none 1 := ⟨mw495, mw37, by decide, by decide, by decide +kernel⟩
def b92_107  (M : hM) : Option xRes :=
  some (.inl (none, M))
def b92_0 (a0 : Nat) (o1 : Option Nat) (M : hM) : Option xRes :=
  Option.bind (g_o M 2 o1) fun b_3 =>
  Option.bind (c_I (f57 [.inr (.inr (some b_3))] M)) fun q_1 =>
  if q_1.1 = 6 then
    (Option.bind (g_o q_1.2 4 (some a0)) fun b_8 =>
    Option.bind (c_V (f91 [.inr (.inr (some b_8)), .inr (.inr o1)] q_1.2)) fun q_6 =>
    b92_107  q_6)
  else
    (if q_1.1 = 7 then
      (b92_107  q_1.2)
    else
      (if q_1.1 = 8 then
        (Option.bind (g_o q_1.2 2 o1) fun b_14 =>
        Option.bind (c_I (f65 [.inr (.inr (some b_14))] q_1.2)) fun q_12 =>
        Option.bind (g_o q_12.2 4 (some a0)) fun b_18 =>
        Option.bind (c_V (f90 [.inr (.inr (some b_18)), .inl q_12.1] q_12.2)) fun q_16 =>
        b92_107  q_16)
      else
        (if q_1.1 = 9 then
          (b92_107  q_1.2)
        else
          (if q_1.1 = 10 then
            (Option.bind (g_o q_1.2 4 (some a0)) fun b_24 =>
            Option.bind (c_V (f89 [.inr (.inr (some b_24)), .inr (.inr o1)] q_1.2)) fun q_22 =>
            b92_107  q_22)
          else
            (if q_1.1 = 11 then
              (Option.bind (g_o q_1.2 4 (some a0)) fun b_29 =>
              Option.bind (c_V (f88 [.inr (.inr (some b_29)), .inr (.inr o1)] q_1.2)) fun q_27 =>
              b92_107  q_27)
            else
              (if q_1.1 = 12 then
                (Option.bind (g_o q_1.2 4 (some a0)) fun b_34 =>
                Option.bind (c_V (f86 [.inr (.inr (some b_34)), .inr (.inr o1)] q_1.2)) fun q_32 =>
                b92_107  q_32)
              else
                (if q_1.1 = 13 then
                  (b92_107  q_1.2)
                else
                  (if q_1.1 = 14 then
                    (Option.bind (g_o q_1.2 4 (some a0)) fun b_40 =>
                    Option.bind (c_V (f84 [.inr (.inr (some b_40)), .inr (.inr o1)] q_1.2)) fun q_38 =>
                    b92_107  q_38)
                  else
                    (b92_107  q_1.2)))))))))
def f92 (as : List aV) (M : hM) : xO := match as with
  | [.inr (.inr (some a0)), .inr (.inr o1)] => x_out (b92_0 a0 o1 M)
  | _ => none
theorem lb92_107 (G : gX) (l : Launch)  (M : hM) {res : xRes} (h : b92_107  M = some res) : h_sz M ≤ r_sz res ∧ h_sl M ≤ r_sl res := by
  unfold b92_107 at h
  obtain rfl := Option.some.inj h
  show h_sz M ≤ h_sz M ∧ h_sl M ≤ h_sl M
  omega
theorem lb92_0 (G : gX) (l : Launch) (a0 : Nat) (o1 : Option Nat) (M : hM) {res : xRes} (h : b92_0 a0 o1 M = some res) : h_sz M ≤ r_sz res ∧ h_sl M ≤ r_sl res := by
  unfold b92_0 at h
  obtain ⟨b_3, h4, h⟩ := bd h
  obtain ⟨q_1, h2, h⟩ := bd h
  have eh2 := (t57 G l (c_I_some h2)).1
  by_cases q5 : q_1.1 = 6
  · rw [if_pos q5] at h
    obtain ⟨b_8, h9, h⟩ := bd h
    obtain ⟨q_6, h7, h⟩ := bd h
    have eh7 := (t91 G l (c_V_some h7)).1
    have e := lb92_107 G l  q_6 h
    omega
  · rw [if_neg q5] at h
    by_cases q10 : q_1.1 = 7
    · rw [if_pos q10] at h
      have e := lb92_107 G l  q_1.2 h
      omega
    · rw [if_neg q10] at h
      by_cases q11 : q_1.1 = 8
      · rw [if_pos q11] at h
        obtain ⟨b_14, h15, h⟩ := bd h
        obtain ⟨q_12, h13, h⟩ := bd h
        have eh13 := (t65 G l (c_I_some h13)).1
        obtain ⟨b_18, h19, h⟩ := bd h
        obtain ⟨q_16, h17, h⟩ := bd h
        have eh17 := (t90 G l (c_V_some h17)).1
        have e := lb92_107 G l  q_16 h
        omega
      · rw [if_neg q11] at h
        by_cases q20 : q_1.1 = 9
        · rw [if_pos q20] at h
          have e := lb92_107 G l  q_1.2 h
          omega
        · rw [if_neg q20] at h
          by_cases q21 : q_1.1 = 10
          · rw [if_pos q21] at h
            obtain ⟨b_24, h25, h⟩ := bd h
            obtain ⟨q_22, h23, h⟩ := bd h
            have eh23 := (t89 G l (c_V_some h23)).1
            have e := lb92_107 G l  q_22 h
            omega
          · rw [if_neg q21] at h
            by_cases q26 : q_1.1 = 11
            · rw [if_pos q26] at h
              obtain ⟨b_29, h30, h⟩ := bd h
              obtain ⟨q_27, h28, h⟩ := bd h
              have eh28 := (t88 G l (c_V_some h28)).1
              have e := lb92_107 G l  q_27 h
              omega
            · rw [if_neg q26] at h
              by_cases q31 : q_1.1 = 12
              · rw [if_pos q31] at h
                obtain ⟨b_34, h35, h⟩ := bd h
                obtain ⟨q_32, h33, h⟩ := bd h
                have eh33 := (t86 G l (c_V_some h33)).1
                have e := lb92_107 G l  q_32 h
                omega
              · rw [if_neg q31] at h
                by_cases q36 : q_1.1 = 13
                · rw [if_pos q36] at h
                  have e := lb92_107 G l  q_1.2 h
                  omega
                · rw [if_neg q36] at h
                  by_cases q37 : q_1.1 = 14
                  · rw [if_pos q37] at h
                    obtain ⟨b_40, h41, h⟩ := bd h
                    obtain ⟨q_38, h39, h⟩ := bd h
                    have eh39 := (t84 G l (c_V_some h39)).1
                    have e := lb92_107 G l  q_38 h
                    omega
                  · rw [if_neg q37] at h
                    have e := lb92_107 G l  q_1.2 h
                    omega
section
variable {p : Program} {l : Launch} {e : Env} {s : State} {m : MethodId} {args : Array Value} {below : List Frame} {meth : Method} {c : Code} {G : gX} {z0 y0 : Nat} {r : Option aV} {M' : hM}
theorem sb92_107 (E : xE G p (xRm 6 (h_sz M' - z0) (h_sl M' - y0)) s m args c prog_6_method_9_code "ZonedFabric$Host" z0 y0 (h_sz M') (h_sl M') 2) (B : xB ym92 none meth)  (M : hM) {res : xRes} (h : b92_107  M = some res) (hN : xN (fun _ _ _ => False) r M' res) : xV G p l e (xRm 6 (h_sz M' - z0) (h_sl M' - y0)) s m args below meth c z0 y0 (h_sz M') (h_sl M') 2 (MQ below (xQc G r M') args s (h_sz M' - z0) (h_sl M' - y0) (xFr G)) 107 [] [] M := by
  unfold b92_107 at h
  obtain rfl := Option.some.inj h
  obtain ⟨rfl, rfl⟩ := Prod.mk.inj (show ((none : Option aV), M) = (r, M') from hN)
  exact xv_rv E B.1 B.2.1 (show decode prog_6_method_9_code 107 = .ok (.return_, 1) by decide +kernel) rfl rfl
theorem sb92_0 (E : xE G p (xRm 6 (h_sz M' - z0) (h_sl M' - y0)) s m args c prog_6_method_9_code "ZonedFabric$Host" z0 y0 (h_sz M') (h_sl M') 2) (B : xB ym92 none meth) (a0 : Nat) (o1 : Option Nat) (M : hM) {res : xRes} (h : b92_0 a0 o1 M = some res) (hN : xN (fun _ _ _ => False) r M' res) : xV G p l e (xRm 6 (h_sz M' - z0) (h_sl M' - y0)) s m args below meth c z0 y0 (h_sz M') (h_sl M') 2 (MQ below (xQc G r M') args s (h_sz M' - z0) (h_sl M' - y0) (xFr G)) 0 [(0, .inr (.inr (some a0))), (1, .inr (.inr o1))] [] M := by
  unfold b92_0 at h
  refine xv_b E [.aload_n 1] (pc' := 1) (lv' := [(0, .inr (.inr (some a0))), (1, .inr (.inr o1))]) (st' := [.inr (.inr o1)]) (by decide +kernel) rfl rfl ?_
  obtain ⟨b_3, h4, h⟩ := bd h
  obtain ⟨eh4, th4⟩ := g_o_some h4
  obtain ⟨q_1, h2, h⟩ := bd h
  refine xv_cvo E eh4 2 (as := []) (t57 G l (c_I_some h2)) cd57 mw496 mw339 mw340 (show decode prog_6_method_9_code 1 = .ok (.invokevirtual 114, 3) by decide +kernel) th4 rfl rfl (Nat.le_of_ble_eq_true rfl) ⟨Nat.le_of_ble_eq_true rfl, Nat.le_of_ble_eq_true rfl⟩ ?_
  by_cases q5 : q_1.1 = 6
  · rw [if_pos q5] at h
    refine xv_tabIn E (off := 52) 56 (show decode prog_6_method_9_code 4 = .ok (.tableswitch (103) 6 14 #[52, 103, 60, 103, 71, 79, 87, 103, 95], 52) by decide +kernel) (by rw [q5]; decide) (by rw [q5]; decide) (by rw [q5]; rfl) rfl ?_
    refine xv_b E [.aload_n 0, .aload_n 1] (pc' := 58) (lv' := [(0, .inr (.inr (some a0))), (1, .inr (.inr o1))]) (st' := [.inr (.inr o1), .inr (.inr (some a0))]) (by decide +kernel) rfl rfl ?_
    obtain ⟨b_8, h9, h⟩ := bd h
    obtain ⟨eh9, th9⟩ := g_o_some h9
    obtain ⟨q_6, h7, h⟩ := bd h
    refine xv_cvo E eh9 4 (as := [.inr (.inr o1)]) (t91 G l (c_V_some h7)) cd91 mw497 mw498 mw499 (show decode prog_6_method_9_code 58 = .ok (.invokevirtual 118, 3) by decide +kernel) th9 rfl rfl (Nat.le_of_ble_eq_true rfl) ⟨Nat.le_of_ble_eq_true rfl, Nat.le_of_ble_eq_true rfl⟩ ?_
    refine xv_goto E 107 (show decode prog_6_method_9_code 61 = .ok (.goto (46), 3) by decide +kernel) rfl ?_
    exact xv_w (sb92_107 E B  q_6 h hN) rfl
  · rw [if_neg q5] at h
    by_cases q10 : q_1.1 = 7
    · rw [if_pos q10] at h
      refine xv_tabIn E (off := 103) 107 (show decode prog_6_method_9_code 4 = .ok (.tableswitch (103) 6 14 #[52, 103, 60, 103, 71, 79, 87, 103, 95], 52) by decide +kernel) (by rw [q10]; decide) (by rw [q10]; decide) (by rw [q10]; rfl) rfl ?_
      exact xv_w (sb92_107 E B  q_1.2 h hN) rfl
    · rw [if_neg q10] at h
      by_cases q11 : q_1.1 = 8
      · rw [if_pos q11] at h
        refine xv_tabIn E (off := 60) 64 (show decode prog_6_method_9_code 4 = .ok (.tableswitch (103) 6 14 #[52, 103, 60, 103, 71, 79, 87, 103, 95], 52) by decide +kernel) (by rw [q11]; decide) (by rw [q11]; decide) (by rw [q11]; rfl) rfl ?_
        refine xv_b E [.aload_n 0, .aload_n 1] (pc' := 66) (lv' := [(0, .inr (.inr (some a0))), (1, .inr (.inr o1))]) (st' := [.inr (.inr o1), .inr (.inr (some a0))]) (by decide +kernel) rfl rfl ?_
        obtain ⟨b_14, h15, h⟩ := bd h
        obtain ⟨eh15, th15⟩ := g_o_some h15
        obtain ⟨q_12, h13, h⟩ := bd h
        refine xv_cvo E eh15 2 (as := []) (t65 G l (c_I_some h13)) cd65 mw467 mw370 mw371 (show decode prog_6_method_9_code 66 = .ok (.invokevirtual 121, 3) by decide +kernel) th15 rfl rfl (Nat.le_of_ble_eq_true rfl) ⟨Nat.le_of_ble_eq_true rfl, Nat.le_of_ble_eq_true rfl⟩ ?_
        obtain ⟨b_18, h19, h⟩ := bd h
        obtain ⟨eh19, th19⟩ := g_o_some h19
        obtain ⟨q_16, h17, h⟩ := bd h
        refine xv_cvo E eh19 4 (as := [.inl q_12.1]) (t90 G l (c_V_some h17)) cd90 mw500 mw501 mw502 (show decode prog_6_method_9_code 69 = .ok (.invokevirtual 124, 3) by decide +kernel) th19 rfl rfl (Nat.le_of_ble_eq_true rfl) ⟨Nat.le_of_ble_eq_true rfl, Nat.le_of_ble_eq_true rfl⟩ ?_
        refine xv_goto E 107 (show decode prog_6_method_9_code 72 = .ok (.goto (35), 3) by decide +kernel) rfl ?_
        exact xv_w (sb92_107 E B  q_16 h hN) rfl
      · rw [if_neg q11] at h
        by_cases q20 : q_1.1 = 9
        · rw [if_pos q20] at h
          refine xv_tabIn E (off := 103) 107 (show decode prog_6_method_9_code 4 = .ok (.tableswitch (103) 6 14 #[52, 103, 60, 103, 71, 79, 87, 103, 95], 52) by decide +kernel) (by rw [q20]; decide) (by rw [q20]; decide) (by rw [q20]; rfl) rfl ?_
          exact xv_w (sb92_107 E B  q_1.2 h hN) rfl
        · rw [if_neg q20] at h
          by_cases q21 : q_1.1 = 10
          · rw [if_pos q21] at h
            refine xv_tabIn E (off := 71) 75 (show decode prog_6_method_9_code 4 = .ok (.tableswitch (103) 6 14 #[52, 103, 60, 103, 71, 79, 87, 103, 95], 52) by decide +kernel) (by rw [q21]; decide) (by rw [q21]; decide) (by rw [q21]; rfl) rfl ?_
            refine xv_b E [.aload_n 0, .aload_n 1] (pc' := 77) (lv' := [(0, .inr (.inr (some a0))), (1, .inr (.inr o1))]) (st' := [.inr (.inr o1), .inr (.inr (some a0))]) (by decide +kernel) rfl rfl ?_
            obtain ⟨b_24, h25, h⟩ := bd h
            obtain ⟨eh25, th25⟩ := g_o_some h25
            obtain ⟨q_22, h23, h⟩ := bd h
            refine xv_cvo E eh25 4 (as := [.inr (.inr o1)]) (t89 G l (c_V_some h23)) cd89 mw503 mw504 mw505 (show decode prog_6_method_9_code 77 = .ok (.invokevirtual 128, 3) by decide +kernel) th25 rfl rfl (Nat.le_of_ble_eq_true rfl) ⟨Nat.le_of_ble_eq_true rfl, Nat.le_of_ble_eq_true rfl⟩ ?_
            refine xv_goto E 107 (show decode prog_6_method_9_code 80 = .ok (.goto (27), 3) by decide +kernel) rfl ?_
            exact xv_w (sb92_107 E B  q_22 h hN) rfl
          · rw [if_neg q21] at h
            by_cases q26 : q_1.1 = 11
            · rw [if_pos q26] at h
              refine xv_tabIn E (off := 79) 83 (show decode prog_6_method_9_code 4 = .ok (.tableswitch (103) 6 14 #[52, 103, 60, 103, 71, 79, 87, 103, 95], 52) by decide +kernel) (by rw [q26]; decide) (by rw [q26]; decide) (by rw [q26]; rfl) rfl ?_
              refine xv_b E [.aload_n 0, .aload_n 1] (pc' := 85) (lv' := [(0, .inr (.inr (some a0))), (1, .inr (.inr o1))]) (st' := [.inr (.inr o1), .inr (.inr (some a0))]) (by decide +kernel) rfl rfl ?_
              obtain ⟨b_29, h30, h⟩ := bd h
              obtain ⟨eh30, th30⟩ := g_o_some h30
              obtain ⟨q_27, h28, h⟩ := bd h
              refine xv_cvo E eh30 4 (as := [.inr (.inr o1)]) (t88 G l (c_V_some h28)) cd88 mw506 mw507 mw508 (show decode prog_6_method_9_code 85 = .ok (.invokevirtual 131, 3) by decide +kernel) th30 rfl rfl (Nat.le_of_ble_eq_true rfl) ⟨Nat.le_of_ble_eq_true rfl, Nat.le_of_ble_eq_true rfl⟩ ?_
              refine xv_goto E 107 (show decode prog_6_method_9_code 88 = .ok (.goto (19), 3) by decide +kernel) rfl ?_
              exact xv_w (sb92_107 E B  q_27 h hN) rfl
            · rw [if_neg q26] at h
              by_cases q31 : q_1.1 = 12
              · rw [if_pos q31] at h
                refine xv_tabIn E (off := 87) 91 (show decode prog_6_method_9_code 4 = .ok (.tableswitch (103) 6 14 #[52, 103, 60, 103, 71, 79, 87, 103, 95], 52) by decide +kernel) (by rw [q31]; decide) (by rw [q31]; decide) (by rw [q31]; rfl) rfl ?_
                refine xv_b E [.aload_n 0, .aload_n 1] (pc' := 93) (lv' := [(0, .inr (.inr (some a0))), (1, .inr (.inr o1))]) (st' := [.inr (.inr o1), .inr (.inr (some a0))]) (by decide +kernel) rfl rfl ?_
                obtain ⟨b_34, h35, h⟩ := bd h
                obtain ⟨eh35, th35⟩ := g_o_some h35
                obtain ⟨q_32, h33, h⟩ := bd h
                refine xv_cvo E eh35 4 (as := [.inr (.inr o1)]) (t86 G l (c_V_some h33)) cd86 mw509 mw510 mw511 (show decode prog_6_method_9_code 93 = .ok (.invokevirtual 134, 3) by decide +kernel) th35 rfl rfl (Nat.le_of_ble_eq_true rfl) ⟨Nat.le_of_ble_eq_true rfl, Nat.le_of_ble_eq_true rfl⟩ ?_
                refine xv_goto E 107 (show decode prog_6_method_9_code 96 = .ok (.goto (11), 3) by decide +kernel) rfl ?_
                exact xv_w (sb92_107 E B  q_32 h hN) rfl
              · rw [if_neg q31] at h
                by_cases q36 : q_1.1 = 13
                · rw [if_pos q36] at h
                  refine xv_tabIn E (off := 103) 107 (show decode prog_6_method_9_code 4 = .ok (.tableswitch (103) 6 14 #[52, 103, 60, 103, 71, 79, 87, 103, 95], 52) by decide +kernel) (by rw [q36]; decide) (by rw [q36]; decide) (by rw [q36]; rfl) rfl ?_
                  exact xv_w (sb92_107 E B  q_1.2 h hN) rfl
                · rw [if_neg q36] at h
                  by_cases q37 : q_1.1 = 14
                  · rw [if_pos q37] at h
                    refine xv_tabIn E (off := 95) 99 (show decode prog_6_method_9_code 4 = .ok (.tableswitch (103) 6 14 #[52, 103, 60, 103, 71, 79, 87, 103, 95], 52) by decide +kernel) (by rw [q37]; decide) (by rw [q37]; decide) (by rw [q37]; rfl) rfl ?_
                    refine xv_b E [.aload_n 0, .aload_n 1] (pc' := 101) (lv' := [(0, .inr (.inr (some a0))), (1, .inr (.inr o1))]) (st' := [.inr (.inr o1), .inr (.inr (some a0))]) (by decide +kernel) rfl rfl ?_
                    obtain ⟨b_40, h41, h⟩ := bd h
                    obtain ⟨eh41, th41⟩ := g_o_some h41
                    obtain ⟨q_38, h39, h⟩ := bd h
                    refine xv_cvo E eh41 4 (as := [.inr (.inr o1)]) (t84 G l (c_V_some h39)) cd84 mw512 mw513 mw514 (show decode prog_6_method_9_code 101 = .ok (.invokevirtual 137, 3) by decide +kernel) th41 rfl rfl (Nat.le_of_ble_eq_true rfl) ⟨Nat.le_of_ble_eq_true rfl, Nat.le_of_ble_eq_true rfl⟩ ?_
                    refine xv_goto E 107 (show decode prog_6_method_9_code 104 = .ok (.goto (3), 3) by decide +kernel) rfl ?_
                    exact xv_w (sb92_107 E B  q_38 h hN) rfl
                  · rw [if_neg q37] at h
                    refine xv_tabOut E 107 (show decode prog_6_method_9_code 4 = .ok (.tableswitch (103) 6 14 #[52, 103, 60, 103, 71, 79, 87, 103, 95], 52) by decide +kernel) (sw_out (lo := 6) (hi := 14) (by decide) (by decide) (fun k h1 h2 => ?_)) rfl ?_
                    · rcases (show k = 6 ∨ k = 7 ∨ k = 8 ∨ k = 9 ∨ k = 10 ∨ k = 11 ∨ k = 12 ∨ k = 13 ∨ k = 14 by omega) with rfl | rfl | rfl | rfl | rfl | rfl | rfl | rfl | rfl
                      · exact q5
                      · exact q10
                      · exact q11
                      · exact q20
                      · exact q21
                      · exact q26
                      · exact q31
                      · exact q36
                      · exact q37
                    · exact xv_w (sb92_107 E B  q_1.2 h hN) rfl
end
theorem t92 (G : gX) (l : Launch) {as : List aV} {M : hM} {r : Option aV} {M' : hM} (h : f92 as M = some (r, M')) : xM G l ym92 prog_6_method_9_code 2 none 6 as M r M' := by
  unfold f92 at h
  split at h
  · have h := x_out_ok h
    refine xM_of (by decide) (Nat.le_of_ble_eq_true rfl) (lb92_0 G l _ _ M h) ?_
    intro p e s m args below meth c E B
    exact sb92_0 E B _ _ M h rfl
  · cases h
/-! ZF.Node.takeAddress(I)V -/
def ym93 : MethodName := ⟨"ZonedFabric$Node", "takeAddress", "(I)V"⟩
theorem cd93 : xCd ym93 prog_7_method_3_code 2 none 1 := ⟨mw515, mw27, by decide, by decide, by decide +kernel⟩
def b93_19 (a0 : Nat) (v1 : Int32) (M : hM) : Option xRes :=
  Option.bind (p_i M 5 3 (some a0) v1) fun M11 =>
  some (.inl (none, M11))
def b93_0 (a0 : Nat) (v1 : Int32) (M : hM) : Option xRes :=
  Option.bind (g_i M 5 3 (some a0)) fun v_1 =>
  if v_1 = 0 then
    (b93_19 a0 v1 M)
  else
    (Option.bind (g_i M 5 3 (some a0)) fun v_3 =>
    if v_3 = v1 then
      (b93_19 a0 v1 M)
    else
      (Option.bind (g_o M 5 (some a0)) fun b_7 =>
      Option.bind (c_V (f22 [.inr (.inr (some b_7))] M)) fun q_5 =>
      b93_19 a0 v1 q_5))
def f93 (as : List aV) (M : hM) : xO := match as with
  | [.inr (.inr (some a0)), .inl v1] => x_out (b93_0 a0 v1 M)
  | _ => none
theorem lb93_19 (G : gX) (l : Launch) (a0 : Nat) (v1 : Int32) (M : hM) {res : xRes} (h : b93_19 a0 v1 M = some res) : h_sz M ≤ r_sz res ∧ h_sl M ≤ r_sl res := by
  unfold b93_19 at h
  obtain ⟨M11, h12, h⟩ := bd h
  have eh12 := p_i_sz h12
  obtain rfl := Option.some.inj h
  show h_sz M ≤ h_sz M11 ∧ h_sl M ≤ h_sl M11
  omega
theorem lb93_0 (G : gX) (l : Launch) (a0 : Nat) (v1 : Int32) (M : hM) {res : xRes} (h : b93_0 a0 v1 M = some res) : h_sz M ≤ r_sz res ∧ h_sl M ≤ r_sl res := by
  unfold b93_0 at h
  obtain ⟨v_1, h2, h⟩ := bd h
  by_cases q10 : v_1 = 0
  · rw [if_pos q10] at h
    have e := lb93_19 G l a0 v1 M h
    omega
  · rw [if_neg q10] at h
    obtain ⟨v_3, h4, h⟩ := bd h
    by_cases q9 : v_3 = v1
    · rw [if_pos q9] at h
      have e := lb93_19 G l a0 v1 M h
      omega
    · rw [if_neg q9] at h
      obtain ⟨b_7, h8, h⟩ := bd h
      obtain ⟨q_5, h6, h⟩ := bd h
      have eh6 := (t22 G l (c_V_some h6)).1
      have e := lb93_19 G l a0 v1 q_5 h
      omega
section
variable {p : Program} {l : Launch} {e : Env} {s : State} {m : MethodId} {args : Array Value} {below : List Frame} {meth : Method} {c : Code} {G : gX} {z0 y0 : Nat} {r : Option aV} {M' : hM}
theorem sb93_19 (E : xE G p (xRm 2 (h_sz M' - z0) (h_sl M' - y0)) s m args c prog_7_method_3_code "ZonedFabric$Node" z0 y0 (h_sz M') (h_sl M') 2) (B : xB ym93 none meth) (a0 : Nat) (v1 : Int32) (M : hM) {res : xRes} (h : b93_19 a0 v1 M = some res) (hN : xN (fun _ _ _ => False) r M' res) : xV G p l e (xRm 2 (h_sz M' - z0) (h_sl M' - y0)) s m args below meth c z0 y0 (h_sz M') (h_sl M') 2 (MQ below (xQc G r M') args s (h_sz M' - z0) (h_sl M' - y0) (xFr G)) 19 [(0, .inr (.inr (some a0))), (1, .inl v1)] [] M := by
  unfold b93_19 at h
  refine xv_b E [.aload_n 0, .iload_n 1] (pc' := 21) (lv' := [(0, .inr (.inr (some a0))), (1, .inl v1)]) (st' := [.inl v1, .inr (.inr (some a0))]) (by decide +kernel) rfl rfl ?_
  obtain ⟨M11, h12, h⟩ := bd h
  refine xp_i E 5 3 h12 mw181 (show decode prog_7_method_3_code 21 = .ok (.putfield 67, 3) by decide +kernel) (Or.inl rfl) ?_
  obtain rfl := Option.some.inj h
  obtain ⟨rfl, rfl⟩ := Prod.mk.inj (show ((none : Option aV), M11) = (r, M') from hN)
  exact xv_rv E B.1 B.2.1 (show decode prog_7_method_3_code 24 = .ok (.return_, 1) by decide +kernel) rfl rfl
theorem sb93_0 (E : xE G p (xRm 2 (h_sz M' - z0) (h_sl M' - y0)) s m args c prog_7_method_3_code "ZonedFabric$Node" z0 y0 (h_sz M') (h_sl M') 2) (B : xB ym93 none meth) (a0 : Nat) (v1 : Int32) (M : hM) {res : xRes} (h : b93_0 a0 v1 M = some res) (hN : xN (fun _ _ _ => False) r M' res) : xV G p l e (xRm 2 (h_sz M' - z0) (h_sl M' - y0)) s m args below meth c z0 y0 (h_sz M') (h_sl M') 2 (MQ below (xQc G r M') args s (h_sz M' - z0) (h_sl M' - y0) (xFr G)) 0 [(0, .inr (.inr (some a0))), (1, .inl v1)] [] M := by
  unfold b93_0 at h
  refine xv_b E [.aload_n 0] (pc' := 1) (lv' := [(0, .inr (.inr (some a0))), (1, .inl v1)]) (st' := [.inr (.inr (some a0))]) (by decide +kernel) rfl rfl ?_
  obtain ⟨v_1, h2, h⟩ := bd h
  refine xg_i E 5 3 h2 mw181 (show decode prog_7_method_3_code 1 = .ok (.getfield 67, 3) by decide +kernel) ?_
  by_cases q10 : v_1 = 0
  · rw [if_pos q10] at h
    refine xv_if_eq E 19 (show decode prog_7_method_3_code 4 = .ok (.ifCond .eq (15), 3) by decide +kernel) rfl (fun _ => ?_) (fun z => absurd q10 z)
    exact xv_w (sb93_19 E B a0 v1 M h hN) rfl
  · rw [if_neg q10] at h
    refine xv_if_eq E 19 (show decode prog_7_method_3_code 4 = .ok (.ifCond .eq (15), 3) by decide +kernel) rfl (fun z => absurd z q10) (fun _ => ?_)
    refine xv_b E [.aload_n 0] (pc' := 8) (lv' := [(0, .inr (.inr (some a0))), (1, .inl v1)]) (st' := [.inr (.inr (some a0))]) (by decide +kernel) rfl rfl ?_
    obtain ⟨v_3, h4, h⟩ := bd h
    refine xg_i E 5 3 h4 mw181 (show decode prog_7_method_3_code 8 = .ok (.getfield 67, 3) by decide +kernel) ?_
    refine xv_b E [.iload_n 1] (pc' := 12) (lv' := [(0, .inr (.inr (some a0))), (1, .inl v1)]) (st' := [.inl v1, .inl v_3]) (by decide +kernel) rfl rfl ?_
    by_cases q9 : v_3 = v1
    · rw [if_pos q9] at h
      refine xv_icmp_eq E 19 (show decode prog_7_method_3_code 12 = .ok (.if_icmp .eq (7), 3) by decide +kernel) rfl (fun _ => ?_) (fun z => absurd q9 z)
      exact xv_w (sb93_19 E B a0 v1 M h hN) rfl
    · rw [if_neg q9] at h
      refine xv_icmp_eq E 19 (show decode prog_7_method_3_code 12 = .ok (.if_icmp .eq (7), 3) by decide +kernel) rfl (fun z => absurd z q9) (fun _ => ?_)
      refine xv_b E [.aload_n 0] (pc' := 16) (lv' := [(0, .inr (.inr (some a0))), (1, .inl v1)]) (st' := [.inr (.inr (some a0))]) (by decide +kernel) rfl rfl ?_
      obtain ⟨b_7, h8, h⟩ := bd h
      obtain ⟨eh8, th8⟩ := g_o_some h8
      obtain ⟨q_5, h6, h⟩ := bd h
      refine xv_cvo E eh8 5 (as := []) (t22 G l (c_V_some h6)) cd22 mw182 mw183 mw184 (show decode prog_7_method_3_code 16 = .ok (.invokevirtual 100, 3) by decide +kernel) th8 rfl rfl (Nat.le_of_ble_eq_true rfl) ⟨Nat.le_of_ble_eq_true rfl, Nat.le_of_ble_eq_true rfl⟩ ?_
      exact xv_w (sb93_19 E B a0 v1 q_5 h hN) rfl
end
theorem t93 (G : gX) (l : Launch) {as : List aV} {M : hM} {r : Option aV} {M' : hM} (h : f93 as M = some (r, M')) : xM G l ym93 prog_7_method_3_code 2 none 2 as M r M' := by
  unfold f93 at h
  split at h
  · have h := x_out_ok h
    refine xM_of (by decide) (Nat.le_of_ble_eq_true rfl) (lb93_0 G l _ _ M h) ?_
    intro p e s m args below meth c E B
    exact sb93_0 E B _ _ M h rfl
  · cases h
/-! ZF.Node.turn()V -/
def ym94 : MethodName := ⟨"ZonedFabric$Node", "turn", "()V"⟩
theorem cd94 : xCd ym94 prog_7_method_2_code 3 none 0 := ⟨mw516, mw27, by decide, by decide, by decide +kernel⟩
def b94_0 (a0 : Nat) (M : hM) : Option xRes :=
  Option.bind (g_r M 5 2 (some a0)) fun o_1 =>
  Option.bind (g_r M 8 10 o_1) fun o_3 =>
  Option.bind (g_i M 3 2 o_3) fun v_5 =>
  some (.inr (11, [.inr (.inr (some a0)), .inl v_5], M))
def b94_131 (a0 : Nat) (v1 : Int32) (o2 : Option Nat) (M : hM) : Option xRes :=
  Option.bind (g_r M 5 0 (some a0)) fun o_74 =>
  Option.bind (g_o M 9 o_74) fun b_78 =>
  Option.bind (c_V (f17 [.inr (.inr (some b_78)), .inr (.inr o2)] M)) fun q_76 =>
  some (.inr (11, [.inr (.inr (some a0)), .inl (v1 + (-1 : Int32))], q_76))
def b94_80 (a0 : Nat) (v1 : Int32) (o2 : Option Nat) (M : hM) : Option xRes :=
  Option.bind (g_i M 5 3 (some a0)) fun v_46 =>
  if v_46 = 0 then
    (b94_131 a0 v1 o2 M)
  else
    (Option.bind (g_o M 2 o2) fun b_50 =>
    Option.bind (c_I (f64 [.inr (.inr (some b_50))] M)) fun q_48 =>
    Option.bind (g_i q_48.2 5 3 (some a0)) fun v_52 =>
    if q_48.1 = v_52 then
      (Option.bind (g_r q_48.2 5 4 (some a0)) fun o_54 =>
      if o_54 = none then
        (Option.bind (g_r q_48.2 5 5 (some a0)) fun o_56 =>
        if o_56 = none then
          (b94_131 a0 v1 o2 q_48.2)
        else
          (Option.bind (g_r q_48.2 5 5 (some a0)) fun o_58 =>
          Option.bind (g_o q_48.2 1 o_58) fun b_62 =>
          Option.bind (c_V (f82 [.inr (.inr (some b_62)), .inr (.inr o2)] q_48.2)) fun q_60 =>
          b94_131 a0 v1 o2 q_60))
      else
        (Option.bind (g_r q_48.2 5 4 (some a0)) fun o_65 =>
        Option.bind (g_o q_48.2 4 o_65) fun b_69 =>
        Option.bind (c_V (f92 [.inr (.inr (some b_69)), .inr (.inr o2)] q_48.2)) fun q_67 =>
        b94_131 a0 v1 o2 q_67))
    else
      (b94_131 a0 v1 o2 q_48.2))
def b94_177 (a0 : Nat) (M : hM) : Option xRes :=
  Option.bind (g_r M 5 2 (some a0)) fun o_102 =>
  Option.bind (g_o M 8 o_102) fun b_106 =>
  Option.bind (c_V (f45 [.inr (.inr (some b_106))] M)) fun q_104 =>
  some (.inl (none, q_104))
def b94_163 (a0 : Nat) (M : hM) : Option xRes :=
  Option.bind (g_r M 5 5 (some a0)) fun o_93 =>
  if o_93 = none then
    (b94_177 a0 M)
  else
    (Option.bind (g_r M 5 5 (some a0)) fun o_95 =>
    Option.bind (g_o M 1 o_95) fun b_99 =>
    Option.bind (c_V (f46 [.inr (.inr (some b_99))] M)) fun q_97 =>
    b94_177 a0 q_97)
def b94_145 (a0 : Nat) (M : hM) : Option xRes :=
  Option.bind (g_o M 5 (some a0)) fun b_82 =>
  Option.bind (c_V (f40 [.inr (.inr (some b_82))] M)) fun q_80 =>
  Option.bind (g_r q_80 5 4 (some a0)) fun o_84 =>
  if o_84 = none then
    (b94_163 a0 q_80)
  else
    (Option.bind (g_r q_80 5 4 (some a0)) fun o_86 =>
    Option.bind (g_o q_80 4 o_86) fun b_90 =>
    Option.bind (c_V (f53 [.inr (.inr (some b_90))] q_80)) fun q_88 =>
    b94_163 a0 q_88)
def b94_11 (a0 : Nat) (v1 : Int32) (M : hM) : Option xRes :=
  if v1 ≤ 0 then
    (b94_145 a0 M)
  else
    (Option.bind (g_r M 5 2 (some a0)) fun o_7 =>
    Option.bind (g_o M 8 o_7) fun b_11 =>
    Option.bind (c_R (f54 [.inr (.inr (some b_11))] M)) fun q_9 =>
    if q_9.1 = none then
      (b94_145 a0 q_9.2)
    else
      (Option.bind (g_r q_9.2 5 0 (some a0)) fun o_13 =>
      Option.bind (g_o q_9.2 2 q_9.1) fun b_17 =>
      Option.bind (c_I (f63 [.inr (.inr (some b_17)), .inr (.inr o_13)] q_9.2)) fun q_15 =>
      if q_15.1 = 0 then
        (Option.bind (g_r q_15.2 5 0 (some a0)) fun o_37 =>
        Option.bind (g_o q_15.2 9 o_37) fun b_41 =>
        Option.bind (c_V (f37 [.inr (.inr (some b_41)), .inl (1 : Int32)] q_15.2)) fun q_39 =>
        b94_131 a0 v1 q_9.1 q_39)
      else
        (Option.bind (g_o q_15.2 2 q_9.1) fun b_21 =>
        Option.bind (c_I (f57 [.inr (.inr (some b_21))] q_15.2)) fun q_19 =>
        if q_19.1 = (4 : Int32) then
          (Option.bind (g_o q_19.2 2 q_9.1) fun b_25 =>
          Option.bind (c_I (f65 [.inr (.inr (some b_25))] q_19.2)) fun q_23 =>
          if q_23.1 = (16777214 : Int32) then
            (Option.bind (g_o q_23.2 2 q_9.1) fun b_29 =>
            Option.bind (c_I (f64 [.inr (.inr (some b_29))] q_23.2)) fun q_27 =>
            Option.bind (g_o q_27.2 5 (some a0)) fun b_33 =>
            Option.bind (c_V (f93 [.inr (.inr (some b_33)), .inl q_27.1] q_27.2)) fun q_31 =>
            b94_131 a0 v1 q_9.1 q_31)
          else
            (b94_80 a0 v1 q_9.1 q_23.2))
        else
          (b94_80 a0 v1 q_9.1 q_19.2))))
def k94 (h : Nat) (as : List aV) (M : hM) : Option xRes :=
  if h = 11 then (match as with | [.inr (.inr (some a0)), .inl v1] => b94_11 a0 v1 M | _ => none) else
  none
def f94 (as : List aV) (M : hM) : xO := match as with
  | [.inr (.inr (some a0))] => x_go k94 (b94_0 a0 M)
  | _ => none
theorem lb94_0 (G : gX) (l : Launch) (a0 : Nat) (M : hM) {res : xRes} (h : b94_0 a0 M = some res) : h_sz M ≤ r_sz res ∧ h_sl M ≤ r_sl res := by
  unfold b94_0 at h
  obtain ⟨o_1, h2, h⟩ := bd h
  obtain ⟨o_3, h4, h⟩ := bd h
  obtain ⟨v_5, h6, h⟩ := bd h
  obtain rfl := Option.some.inj h
  show h_sz M ≤ h_sz M ∧ h_sl M ≤ h_sl M
  omega
theorem lb94_131 (G : gX) (l : Launch) (a0 : Nat) (v1 : Int32) (o2 : Option Nat) (M : hM) {res : xRes} (h : b94_131 a0 v1 o2 M = some res) : h_sz M ≤ r_sz res ∧ h_sl M ≤ r_sl res := by
  unfold b94_131 at h
  obtain ⟨o_74, h75, h⟩ := bd h
  obtain ⟨b_78, h79, h⟩ := bd h
  obtain ⟨q_76, h77, h⟩ := bd h
  have eh77 := (t17 G l (c_V_some h77)).1
  obtain rfl := Option.some.inj h
  show h_sz M ≤ h_sz q_76 ∧ h_sl M ≤ h_sl q_76
  omega
theorem lb94_80 (G : gX) (l : Launch) (a0 : Nat) (v1 : Int32) (o2 : Option Nat) (M : hM) {res : xRes} (h : b94_80 a0 v1 o2 M = some res) : h_sz M ≤ r_sz res ∧ h_sl M ≤ r_sl res := by
  unfold b94_80 at h
  obtain ⟨v_46, h47, h⟩ := bd h
  by_cases q73 : v_46 = 0
  · rw [if_pos q73] at h
    have e := lb94_131 G l a0 v1 o2 M h
    omega
  · rw [if_neg q73] at h
    obtain ⟨b_50, h51, h⟩ := bd h
    obtain ⟨q_48, h49, h⟩ := bd h
    have eh49 := (t64 G l (c_I_some h49)).1
    obtain ⟨v_52, h53, h⟩ := bd h
    by_cases q72 : q_48.1 = v_52
    · rw [if_pos q72] at h
      obtain ⟨o_54, h55, h⟩ := bd h
      by_cases q71 : o_54 = none
      · rw [if_pos q71] at h
        obtain ⟨o_56, h57, h⟩ := bd h
        by_cases q64 : o_56 = none
        · rw [if_pos q64] at h
          have e := lb94_131 G l a0 v1 o2 q_48.2 h
          omega
        · rw [if_neg q64] at h
          obtain ⟨o_58, h59, h⟩ := bd h
          obtain ⟨b_62, h63, h⟩ := bd h
          obtain ⟨q_60, h61, h⟩ := bd h
          have eh61 := (t82 G l (c_V_some h61)).1
          have e := lb94_131 G l a0 v1 o2 q_60 h
          omega
      · rw [if_neg q71] at h
        obtain ⟨o_65, h66, h⟩ := bd h
        obtain ⟨b_69, h70, h⟩ := bd h
        obtain ⟨q_67, h68, h⟩ := bd h
        have eh68 := (t92 G l (c_V_some h68)).1
        have e := lb94_131 G l a0 v1 o2 q_67 h
        omega
    · rw [if_neg q72] at h
      have e := lb94_131 G l a0 v1 o2 q_48.2 h
      omega
theorem lb94_177 (G : gX) (l : Launch) (a0 : Nat) (M : hM) {res : xRes} (h : b94_177 a0 M = some res) : h_sz M ≤ r_sz res ∧ h_sl M ≤ r_sl res := by
  unfold b94_177 at h
  obtain ⟨o_102, h103, h⟩ := bd h
  obtain ⟨b_106, h107, h⟩ := bd h
  obtain ⟨q_104, h105, h⟩ := bd h
  have eh105 := (t45 G l (c_V_some h105)).1
  obtain rfl := Option.some.inj h
  show h_sz M ≤ h_sz q_104 ∧ h_sl M ≤ h_sl q_104
  omega
theorem lb94_163 (G : gX) (l : Launch) (a0 : Nat) (M : hM) {res : xRes} (h : b94_163 a0 M = some res) : h_sz M ≤ r_sz res ∧ h_sl M ≤ r_sl res := by
  unfold b94_163 at h
  obtain ⟨o_93, h94, h⟩ := bd h
  by_cases q101 : o_93 = none
  · rw [if_pos q101] at h
    have e := lb94_177 G l a0 M h
    omega
  · rw [if_neg q101] at h
    obtain ⟨o_95, h96, h⟩ := bd h
    obtain ⟨b_99, h100, h⟩ := bd h
    obtain ⟨q_97, h98, h⟩ := bd h
    have eh98 := (t46 G l (c_V_some h98)).1
    have e := lb94_177 G l a0 q_97 h
    omega
theorem lb94_145 (G : gX) (l : Launch) (a0 : Nat) (M : hM) {res : xRes} (h : b94_145 a0 M = some res) : h_sz M ≤ r_sz res ∧ h_sl M ≤ r_sl res := by
  unfold b94_145 at h
  obtain ⟨b_82, h83, h⟩ := bd h
  obtain ⟨q_80, h81, h⟩ := bd h
  have eh81 := (t40 G l (c_V_some h81)).1
  obtain ⟨o_84, h85, h⟩ := bd h
  by_cases q92 : o_84 = none
  · rw [if_pos q92] at h
    have e := lb94_163 G l a0 q_80 h
    omega
  · rw [if_neg q92] at h
    obtain ⟨o_86, h87, h⟩ := bd h
    obtain ⟨b_90, h91, h⟩ := bd h
    obtain ⟨q_88, h89, h⟩ := bd h
    have eh89 := (t53 G l (c_V_some h89)).1
    have e := lb94_163 G l a0 q_88 h
    omega
theorem lb94_11 (G : gX) (l : Launch) (a0 : Nat) (v1 : Int32) (M : hM) {res : xRes} (h : b94_11 a0 v1 M = some res) : h_sz M ≤ r_sz res ∧ h_sl M ≤ r_sl res := by
  unfold b94_11 at h
  by_cases q45 : v1 ≤ 0
  · rw [if_pos q45] at h
    have e := lb94_145 G l a0 M h
    omega
  · rw [if_neg q45] at h
    obtain ⟨o_7, h8, h⟩ := bd h
    obtain ⟨b_11, h12, h⟩ := bd h
    obtain ⟨q_9, h10, h⟩ := bd h
    have eh10 := (t54 G l (c_R_some h10)).1
    by_cases q44 : q_9.1 = none
    · rw [if_pos q44] at h
      have e := lb94_145 G l a0 q_9.2 h
      omega
    · rw [if_neg q44] at h
      obtain ⟨o_13, h14, h⟩ := bd h
      obtain ⟨b_17, h18, h⟩ := bd h
      obtain ⟨q_15, h16, h⟩ := bd h
      have eh16 := (t63 G l (c_I_some h16)).1
      by_cases q43 : q_15.1 = 0
      · rw [if_pos q43] at h
        obtain ⟨o_37, h38, h⟩ := bd h
        obtain ⟨b_41, h42, h⟩ := bd h
        obtain ⟨q_39, h40, h⟩ := bd h
        have eh40 := (t37 G l (c_V_some h40)).1
        have e := lb94_131 G l a0 v1 q_9.1 q_39 h
        omega
      · rw [if_neg q43] at h
        obtain ⟨b_21, h22, h⟩ := bd h
        obtain ⟨q_19, h20, h⟩ := bd h
        have eh20 := (t57 G l (c_I_some h20)).1
        by_cases q36 : q_19.1 = (4 : Int32)
        · rw [if_pos q36] at h
          obtain ⟨b_25, h26, h⟩ := bd h
          obtain ⟨q_23, h24, h⟩ := bd h
          have eh24 := (t65 G l (c_I_some h24)).1
          by_cases q35 : q_23.1 = (16777214 : Int32)
          · rw [if_pos q35] at h
            obtain ⟨b_29, h30, h⟩ := bd h
            obtain ⟨q_27, h28, h⟩ := bd h
            have eh28 := (t64 G l (c_I_some h28)).1
            obtain ⟨b_33, h34, h⟩ := bd h
            obtain ⟨q_31, h32, h⟩ := bd h
            have eh32 := (t93 G l (c_V_some h32)).1
            have e := lb94_131 G l a0 v1 q_9.1 q_31 h
            omega
          · rw [if_neg q35] at h
            have e := lb94_80 G l a0 v1 q_9.1 q_23.2 h
            omega
        · rw [if_neg q36] at h
          have e := lb94_80 G l a0 v1 q_9.1 q_19.2 h
          omega
section
variable {p : Program} {l : Launch} {e : Env} {s : State} {m : MethodId} {args : Array Value} {below : List Frame} {meth : Method} {c : Code} {G : gX} {z0 y0 : Nat} {r : Option aV} {M' : hM}
def pg94 (p : Program) (l : Launch) (e : Env) (s : State) (m : MethodId) (args : Array Value) (below : List Frame) (meth : Method) (c : Code) (G : gX) (z0 y0 : Nat) (r : Option aV) (M' : hM) (h : Nat) (as : List aV) (M : hM) : Prop :=
  if h = 11 then (match as with | [.inr (.inr (some a0)), .inl v1] => xV G p l e (xRm 7 (h_sz M' - z0) (h_sl M' - y0)) s m args below meth c z0 y0 (h_sz M') (h_sl M') 3 (MQ below (xQc G r M') args s (h_sz M' - z0) (h_sl M' - y0) (xFr G)) 11 [(0, .inr (.inr (some a0))), (1, .inl v1)] [] M | _ => False) else
  False
theorem sb94_0 (E : xE G p (xRm 7 (h_sz M' - z0) (h_sl M' - y0)) s m args c prog_7_method_2_code "ZonedFabric$Node" z0 y0 (h_sz M') (h_sl M') 3) (B : xB ym94 none meth) (a0 : Nat) (M : hM) {res : xRes} (h : b94_0 a0 M = some res) (hN : xN (pg94 p l e s m args below meth c G z0 y0 r M') r M' res) : xV G p l e (xRm 7 (h_sz M' - z0) (h_sl M' - y0)) s m args below meth c z0 y0 (h_sz M') (h_sl M') 3 (MQ below (xQc G r M') args s (h_sz M' - z0) (h_sl M' - y0) (xFr G)) 0 [(0, .inr (.inr (some a0)))] [] M := by
  unfold b94_0 at h
  refine xv_b E [.aload_n 0] (pc' := 1) (lv' := [(0, .inr (.inr (some a0)))]) (st' := [.inr (.inr (some a0))]) (by decide +kernel) rfl rfl ?_
  obtain ⟨o_1, h2, h⟩ := bd h
  refine xg_r E 5 2 h2 mw34 (show decode prog_7_method_2_code 1 = .ok (.getfield 24, 3) by decide +kernel) ?_
  obtain ⟨o_3, h4, h⟩ := bd h
  refine xg_r E 8 10 h4 mw517 (show decode prog_7_method_2_code 4 = .ok (.getfield 28, 3) by decide +kernel) ?_
  obtain ⟨v_5, h6, h⟩ := bd h
  refine xg_i E 3 2 h6 mw518 (show decode prog_7_method_2_code 7 = .ok (.getfield 32, 3) by decide +kernel) ?_
  refine xv_b E [.istore_n 1] (pc' := 11) (lv' := [(1, .inl v_5), (0, .inr (.inr (some a0)))]) (st' := []) (by decide +kernel) rfl rfl ?_
  obtain rfl := Option.some.inj h
  exact xv_w hN rfl
theorem sb94_131 (E : xE G p (xRm 7 (h_sz M' - z0) (h_sl M' - y0)) s m args c prog_7_method_2_code "ZonedFabric$Node" z0 y0 (h_sz M') (h_sl M') 3) (B : xB ym94 none meth) (a0 : Nat) (v1 : Int32) (o2 : Option Nat) (M : hM) {res : xRes} (h : b94_131 a0 v1 o2 M = some res) (hN : xN (pg94 p l e s m args below meth c G z0 y0 r M') r M' res) : xV G p l e (xRm 7 (h_sz M' - z0) (h_sl M' - y0)) s m args below meth c z0 y0 (h_sz M') (h_sl M') 3 (MQ below (xQc G r M') args s (h_sz M' - z0) (h_sl M' - y0) (xFr G)) 131 [(0, .inr (.inr (some a0))), (1, .inl v1), (2, .inr (.inr o2))] [] M := by
  unfold b94_131 at h
  refine xv_b E [.aload_n 0] (pc' := 132) (lv' := [(0, .inr (.inr (some a0))), (1, .inl v1), (2, .inr (.inr o2))]) (st' := [.inr (.inr (some a0))]) (by decide +kernel) rfl rfl ?_
  obtain ⟨o_74, h75, h⟩ := bd h
  refine xg_r E 5 0 h75 mw28 (show decode prog_7_method_2_code 132 = .ok (.getfield 9, 3) by decide +kernel) ?_
  refine xv_b E [.aload_n 2] (pc' := 136) (lv' := [(0, .inr (.inr (some a0))), (1, .inl v1), (2, .inr (.inr o2))]) (st' := [.inr (.inr o2), .inr (.inr o_74)]) (by decide +kernel) rfl rfl ?_
  obtain ⟨b_78, h79, h⟩ := bd h
  obtain ⟨eh79, th79⟩ := g_o_some h79
  obtain ⟨q_76, h77, h⟩ := bd h
  refine xv_cvo E eh79 9 (as := [.inr (.inr o2)]) (t17 G l (c_V_some h77)) cd17 mw540 mw161 mw162 (show decode prog_7_method_2_code 136 = .ok (.invokevirtual 87, 3) by decide +kernel) th79 rfl rfl (Nat.le_of_ble_eq_true rfl) ⟨Nat.le_of_ble_eq_true rfl, Nat.le_of_ble_eq_true rfl⟩ ?_
  refine xv_b E [.iinc 1 (-1)] (pc' := 142) (lv' := [(1, .inl (v1 + (-1 : Int32))), (0, .inr (.inr (some a0))), (2, .inr (.inr o2))]) (st' := []) (by decide +kernel) rfl rfl ?_
  refine xv_goto E 11 (show decode prog_7_method_2_code 142 = .ok (.goto (-131), 3) by decide +kernel) rfl ?_
  obtain rfl := Option.some.inj h
  exact xv_w hN rfl
theorem sb94_80 (E : xE G p (xRm 7 (h_sz M' - z0) (h_sl M' - y0)) s m args c prog_7_method_2_code "ZonedFabric$Node" z0 y0 (h_sz M') (h_sl M') 3) (B : xB ym94 none meth) (a0 : Nat) (v1 : Int32) (o2 : Option Nat) (M : hM) {res : xRes} (h : b94_80 a0 v1 o2 M = some res) (hN : xN (pg94 p l e s m args below meth c G z0 y0 r M') r M' res) : xV G p l e (xRm 7 (h_sz M' - z0) (h_sl M' - y0)) s m args below meth c z0 y0 (h_sz M') (h_sl M') 3 (MQ below (xQc G r M') args s (h_sz M' - z0) (h_sl M' - y0) (xFr G)) 80 [(0, .inr (.inr (some a0))), (1, .inl v1), (2, .inr (.inr o2))] [] M := by
  unfold b94_80 at h
  refine xv_b E [.aload_n 0] (pc' := 81) (lv' := [(0, .inr (.inr (some a0))), (1, .inl v1), (2, .inr (.inr o2))]) (st' := [.inr (.inr (some a0))]) (by decide +kernel) rfl rfl ?_
  obtain ⟨v_46, h47, h⟩ := bd h
  refine xg_i E 5 3 h47 mw181 (show decode prog_7_method_2_code 81 = .ok (.getfield 67, 3) by decide +kernel) ?_
  by_cases q73 : v_46 = 0
  · rw [if_pos q73] at h
    refine xv_if_eq E 131 (show decode prog_7_method_2_code 84 = .ok (.ifCond .eq (47), 3) by decide +kernel) rfl (fun _ => ?_) (fun z => absurd q73 z)
    exact xv_w (sb94_131 E B a0 v1 o2 M h hN) rfl
  · rw [if_neg q73] at h
    refine xv_if_eq E 131 (show decode prog_7_method_2_code 84 = .ok (.ifCond .eq (47), 3) by decide +kernel) rfl (fun z => absurd z q73) (fun _ => ?_)
    refine xv_b E [.aload_n 2] (pc' := 88) (lv' := [(0, .inr (.inr (some a0))), (1, .inl v1), (2, .inr (.inr o2))]) (st' := [.inr (.inr o2)]) (by decide +kernel) rfl rfl ?_
    obtain ⟨b_50, h51, h⟩ := bd h
    obtain ⟨eh51, th51⟩ := g_o_some h51
    obtain ⟨q_48, h49, h⟩ := bd h
    refine xv_cvo E eh51 2 (as := []) (t64 G l (c_I_some h49)) cd64 mw527 mw528 mw529 (show decode prog_7_method_2_code 88 = .ok (.invokevirtual 61, 3) by decide +kernel) th51 rfl rfl (Nat.le_of_ble_eq_true rfl) ⟨Nat.le_of_ble_eq_true rfl, Nat.le_of_ble_eq_true rfl⟩ ?_
    refine xv_b E [.aload_n 0] (pc' := 92) (lv' := [(0, .inr (.inr (some a0))), (1, .inl v1), (2, .inr (.inr o2))]) (st' := [.inr (.inr (some a0)), .inl q_48.1]) (by decide +kernel) rfl rfl ?_
    obtain ⟨v_52, h53, h⟩ := bd h
    refine xg_i E 5 3 h53 mw181 (show decode prog_7_method_2_code 92 = .ok (.getfield 67, 3) by decide +kernel) ?_
    by_cases q72 : q_48.1 = v_52
    · rw [if_pos q72] at h
      refine xv_icmp_ne E 131 (show decode prog_7_method_2_code 95 = .ok (.if_icmp .ne (36), 3) by decide +kernel) rfl (fun z => absurd q72 z) (fun _ => ?_)
      refine xv_b E [.aload_n 0] (pc' := 99) (lv' := [(0, .inr (.inr (some a0))), (1, .inl v1), (2, .inr (.inr o2))]) (st' := [.inr (.inr (some a0))]) (by decide +kernel) rfl rfl ?_
      obtain ⟨o_54, h55, h⟩ := bd h
      refine xg_r E 5 4 h55 mw172 (show decode prog_7_method_2_code 99 = .ok (.getfield 70, 3) by decide +kernel) ?_
      by_cases q71 : o_54 = none
      · rw [if_pos q71] at h
        refine xi_null E 116 (show decode prog_7_method_2_code 102 = .ok (.ifnull (14), 3) by decide +kernel) rfl (fun _ => ?_) (fun z => absurd q71 z)
        refine xv_b E [.aload_n 0] (pc' := 117) (lv' := [(0, .inr (.inr (some a0))), (1, .inl v1), (2, .inr (.inr o2))]) (st' := [.inr (.inr (some a0))]) (by decide +kernel) rfl rfl ?_
        obtain ⟨o_56, h57, h⟩ := bd h
        refine xg_r E 5 5 h57 mw176 (show decode prog_7_method_2_code 117 = .ok (.getfield 80, 3) by decide +kernel) ?_
        by_cases q64 : o_56 = none
        · rw [if_pos q64] at h
          refine xi_null E 131 (show decode prog_7_method_2_code 120 = .ok (.ifnull (11), 3) by decide +kernel) rfl (fun _ => ?_) (fun z => absurd q64 z)
          exact xv_w (sb94_131 E B a0 v1 o2 q_48.2 h hN) rfl
        · rw [if_neg q64] at h
          refine xi_null E 131 (show decode prog_7_method_2_code 120 = .ok (.ifnull (11), 3) by decide +kernel) rfl (fun z => absurd z q64) (fun _ => ?_)
          refine xv_b E [.aload_n 0] (pc' := 124) (lv' := [(0, .inr (.inr (some a0))), (1, .inl v1), (2, .inr (.inr o2))]) (st' := [.inr (.inr (some a0))]) (by decide +kernel) rfl rfl ?_
          obtain ⟨o_58, h59, h⟩ := bd h
          refine xg_r E 5 5 h59 mw176 (show decode prog_7_method_2_code 124 = .ok (.getfield 80, 3) by decide +kernel) ?_
          refine xv_b E [.aload_n 2] (pc' := 128) (lv' := [(0, .inr (.inr (some a0))), (1, .inl v1), (2, .inr (.inr o2))]) (st' := [.inr (.inr o2), .inr (.inr o_58)]) (by decide +kernel) rfl rfl ?_
          obtain ⟨b_62, h63, h⟩ := bd h
          obtain ⟨eh63, th63⟩ := g_o_some h63
          obtain ⟨q_60, h61, h⟩ := bd h
          refine xv_cvo E eh63 1 (as := [.inr (.inr o2)]) (t82 G l (c_V_some h61)) cd82 mw534 mw535 mw536 (show decode prog_7_method_2_code 128 = .ok (.invokevirtual 84, 3) by decide +kernel) th63 rfl rfl (Nat.le_of_ble_eq_true rfl) ⟨Nat.le_of_ble_eq_true rfl, Nat.le_of_ble_eq_true rfl⟩ ?_
          exact xv_w (sb94_131 E B a0 v1 o2 q_60 h hN) rfl
      · rw [if_neg q71] at h
        refine xi_null E 116 (show decode prog_7_method_2_code 102 = .ok (.ifnull (14), 3) by decide +kernel) rfl (fun z => absurd z q71) (fun _ => ?_)
        refine xv_b E [.aload_n 0] (pc' := 106) (lv' := [(0, .inr (.inr (some a0))), (1, .inl v1), (2, .inr (.inr o2))]) (st' := [.inr (.inr (some a0))]) (by decide +kernel) rfl rfl ?_
        obtain ⟨o_65, h66, h⟩ := bd h
        refine xg_r E 5 4 h66 mw172 (show decode prog_7_method_2_code 106 = .ok (.getfield 70, 3) by decide +kernel) ?_
        refine xv_b E [.aload_n 2] (pc' := 110) (lv' := [(0, .inr (.inr (some a0))), (1, .inl v1), (2, .inr (.inr o2))]) (st' := [.inr (.inr o2), .inr (.inr o_65)]) (by decide +kernel) rfl rfl ?_
        obtain ⟨b_69, h70, h⟩ := bd h
        obtain ⟨eh70, th70⟩ := g_o_some h70
        obtain ⟨q_67, h68, h⟩ := bd h
        refine xv_cvo E eh70 4 (as := [.inr (.inr o2)]) (t92 G l (c_V_some h68)) cd92 mw537 mw538 mw539 (show decode prog_7_method_2_code 110 = .ok (.invokevirtual 74, 3) by decide +kernel) th70 rfl rfl (Nat.le_of_ble_eq_true rfl) ⟨Nat.le_of_ble_eq_true rfl, Nat.le_of_ble_eq_true rfl⟩ ?_
        refine xv_goto E 131 (show decode prog_7_method_2_code 113 = .ok (.goto (18), 3) by decide +kernel) rfl ?_
        exact xv_w (sb94_131 E B a0 v1 o2 q_67 h hN) rfl
    · rw [if_neg q72] at h
      refine xv_icmp_ne E 131 (show decode prog_7_method_2_code 95 = .ok (.if_icmp .ne (36), 3) by decide +kernel) rfl (fun _ => ?_) (fun z => absurd z q72)
      exact xv_w (sb94_131 E B a0 v1 o2 q_48.2 h hN) rfl
theorem sb94_177 (E : xE G p (xRm 7 (h_sz M' - z0) (h_sl M' - y0)) s m args c prog_7_method_2_code "ZonedFabric$Node" z0 y0 (h_sz M') (h_sl M') 3) (B : xB ym94 none meth) (a0 : Nat) (M : hM) {res : xRes} (h : b94_177 a0 M = some res) (hN : xN (pg94 p l e s m args below meth c G z0 y0 r M') r M' res) : xV G p l e (xRm 7 (h_sz M' - z0) (h_sl M' - y0)) s m args below meth c z0 y0 (h_sz M') (h_sl M') 3 (MQ below (xQc G r M') args s (h_sz M' - z0) (h_sl M' - y0) (xFr G)) 177 [(0, .inr (.inr (some a0)))] [] M := by
  unfold b94_177 at h
  refine xv_b E [.aload_n 0] (pc' := 178) (lv' := [(0, .inr (.inr (some a0)))]) (st' := [.inr (.inr (some a0))]) (by decide +kernel) rfl rfl ?_
  obtain ⟨o_102, h103, h⟩ := bd h
  refine xg_r E 5 2 h103 mw34 (show decode prog_7_method_2_code 178 = .ok (.getfield 24, 3) by decide +kernel) ?_
  obtain ⟨b_106, h107, h⟩ := bd h
  obtain ⟨eh107, th107⟩ := g_o_some h107
  obtain ⟨q_104, h105, h⟩ := bd h
  refine xv_cvo E eh107 8 (as := []) (t45 G l (c_V_some h105)) cd45 mw550 mw551 mw552 (show decode prog_7_method_2_code 181 = .ok (.invokevirtual 97, 3) by decide +kernel) th107 rfl rfl (Nat.le_of_ble_eq_true rfl) ⟨Nat.le_of_ble_eq_true rfl, Nat.le_of_ble_eq_true rfl⟩ ?_
  obtain rfl := Option.some.inj h
  obtain ⟨rfl, rfl⟩ := Prod.mk.inj (show ((none : Option aV), q_104) = (r, M') from hN)
  exact xv_rv E B.1 B.2.1 (show decode prog_7_method_2_code 184 = .ok (.return_, 1) by decide +kernel) rfl rfl
theorem sb94_163 (E : xE G p (xRm 7 (h_sz M' - z0) (h_sl M' - y0)) s m args c prog_7_method_2_code "ZonedFabric$Node" z0 y0 (h_sz M') (h_sl M') 3) (B : xB ym94 none meth) (a0 : Nat) (M : hM) {res : xRes} (h : b94_163 a0 M = some res) (hN : xN (pg94 p l e s m args below meth c G z0 y0 r M') r M' res) : xV G p l e (xRm 7 (h_sz M' - z0) (h_sl M' - y0)) s m args below meth c z0 y0 (h_sz M') (h_sl M') 3 (MQ below (xQc G r M') args s (h_sz M' - z0) (h_sl M' - y0) (xFr G)) 163 [(0, .inr (.inr (some a0)))] [] M := by
  unfold b94_163 at h
  refine xv_b E [.aload_n 0] (pc' := 164) (lv' := [(0, .inr (.inr (some a0)))]) (st' := [.inr (.inr (some a0))]) (by decide +kernel) rfl rfl ?_
  obtain ⟨o_93, h94, h⟩ := bd h
  refine xg_r E 5 5 h94 mw176 (show decode prog_7_method_2_code 164 = .ok (.getfield 80, 3) by decide +kernel) ?_
  by_cases q101 : o_93 = none
  · rw [if_pos q101] at h
    refine xi_null E 177 (show decode prog_7_method_2_code 167 = .ok (.ifnull (10), 3) by decide +kernel) rfl (fun _ => ?_) (fun z => absurd q101 z)
    exact xv_w (sb94_177 E B a0 M h hN) rfl
  · rw [if_neg q101] at h
    refine xi_null E 177 (show decode prog_7_method_2_code 167 = .ok (.ifnull (10), 3) by decide +kernel) rfl (fun z => absurd z q101) (fun _ => ?_)
    refine xv_b E [.aload_n 0] (pc' := 171) (lv' := [(0, .inr (.inr (some a0)))]) (st' := [.inr (.inr (some a0))]) (by decide +kernel) rfl rfl ?_
    obtain ⟨o_95, h96, h⟩ := bd h
    refine xg_r E 5 5 h96 mw176 (show decode prog_7_method_2_code 171 = .ok (.getfield 80, 3) by decide +kernel) ?_
    obtain ⟨b_99, h100, h⟩ := bd h
    obtain ⟨eh100, th100⟩ := g_o_some h100
    obtain ⟨q_97, h98, h⟩ := bd h
    refine xv_cvo E eh100 1 (as := []) (t46 G l (c_V_some h98)) cd46 mw547 mw548 mw549 (show decode prog_7_method_2_code 174 = .ok (.invokevirtual 96, 3) by decide +kernel) th100 rfl rfl (Nat.le_of_ble_eq_true rfl) ⟨Nat.le_of_ble_eq_true rfl, Nat.le_of_ble_eq_true rfl⟩ ?_
    exact xv_w (sb94_177 E B a0 q_97 h hN) rfl
theorem sb94_145 (E : xE G p (xRm 7 (h_sz M' - z0) (h_sl M' - y0)) s m args c prog_7_method_2_code "ZonedFabric$Node" z0 y0 (h_sz M') (h_sl M') 3) (B : xB ym94 none meth) (a0 : Nat) (M : hM) {res : xRes} (h : b94_145 a0 M = some res) (hN : xN (pg94 p l e s m args below meth c G z0 y0 r M') r M' res) : xV G p l e (xRm 7 (h_sz M' - z0) (h_sl M' - y0)) s m args below meth c z0 y0 (h_sz M') (h_sl M') 3 (MQ below (xQc G r M') args s (h_sz M' - z0) (h_sl M' - y0) (xFr G)) 145 [(0, .inr (.inr (some a0)))] [] M := by
  unfold b94_145 at h
  refine xv_b E [.aload_n 0] (pc' := 146) (lv' := [(0, .inr (.inr (some a0)))]) (st' := [.inr (.inr (some a0))]) (by decide +kernel) rfl rfl ?_
  obtain ⟨b_82, h83, h⟩ := bd h
  obtain ⟨eh83, th83⟩ := g_o_some h83
  obtain ⟨q_80, h81, h⟩ := bd h
  refine xv_cvo E eh83 5 (as := []) (t40 G l (c_V_some h81)) cd40 mw541 mw542 mw543 (show decode prog_7_method_2_code 146 = .ok (.invokevirtual 90, 3) by decide +kernel) th83 rfl rfl (Nat.le_of_ble_eq_true rfl) ⟨Nat.le_of_ble_eq_true rfl, Nat.le_of_ble_eq_true rfl⟩ ?_
  refine xv_b E [.aload_n 0] (pc' := 150) (lv' := [(0, .inr (.inr (some a0)))]) (st' := [.inr (.inr (some a0))]) (by decide +kernel) rfl rfl ?_
  obtain ⟨o_84, h85, h⟩ := bd h
  refine xg_r E 5 4 h85 mw172 (show decode prog_7_method_2_code 150 = .ok (.getfield 70, 3) by decide +kernel) ?_
  by_cases q92 : o_84 = none
  · rw [if_pos q92] at h
    refine xi_null E 163 (show decode prog_7_method_2_code 153 = .ok (.ifnull (10), 3) by decide +kernel) rfl (fun _ => ?_) (fun z => absurd q92 z)
    exact xv_w (sb94_163 E B a0 q_80 h hN) rfl
  · rw [if_neg q92] at h
    refine xi_null E 163 (show decode prog_7_method_2_code 153 = .ok (.ifnull (10), 3) by decide +kernel) rfl (fun z => absurd z q92) (fun _ => ?_)
    refine xv_b E [.aload_n 0] (pc' := 157) (lv' := [(0, .inr (.inr (some a0)))]) (st' := [.inr (.inr (some a0))]) (by decide +kernel) rfl rfl ?_
    obtain ⟨o_86, h87, h⟩ := bd h
    refine xg_r E 5 4 h87 mw172 (show decode prog_7_method_2_code 157 = .ok (.getfield 70, 3) by decide +kernel) ?_
    obtain ⟨b_90, h91, h⟩ := bd h
    obtain ⟨eh91, th91⟩ := g_o_some h91
    obtain ⟨q_88, h89, h⟩ := bd h
    refine xv_cvo E eh91 4 (as := []) (t53 G l (c_V_some h89)) cd53 mw544 mw545 mw546 (show decode prog_7_method_2_code 160 = .ok (.invokevirtual 93, 3) by decide +kernel) th91 rfl rfl (Nat.le_of_ble_eq_true rfl) ⟨Nat.le_of_ble_eq_true rfl, Nat.le_of_ble_eq_true rfl⟩ ?_
    exact xv_w (sb94_163 E B a0 q_88 h hN) rfl
theorem sb94_11 (E : xE G p (xRm 7 (h_sz M' - z0) (h_sl M' - y0)) s m args c prog_7_method_2_code "ZonedFabric$Node" z0 y0 (h_sz M') (h_sl M') 3) (B : xB ym94 none meth) (a0 : Nat) (v1 : Int32) (M : hM) {res : xRes} (h : b94_11 a0 v1 M = some res) (hN : xN (pg94 p l e s m args below meth c G z0 y0 r M') r M' res) : xV G p l e (xRm 7 (h_sz M' - z0) (h_sl M' - y0)) s m args below meth c z0 y0 (h_sz M') (h_sl M') 3 (MQ below (xQc G r M') args s (h_sz M' - z0) (h_sl M' - y0) (xFr G)) 11 [(0, .inr (.inr (some a0))), (1, .inl v1)] [] M := by
  unfold b94_11 at h
  refine xv_b E [.iload_n 1] (pc' := 12) (lv' := [(0, .inr (.inr (some a0))), (1, .inl v1)]) (st' := [.inl v1]) (by decide +kernel) rfl rfl ?_
  by_cases q45 : v1 ≤ 0
  · rw [if_pos q45] at h
    refine xv_if_le E 145 (show decode prog_7_method_2_code 12 = .ok (.ifCond .le (133), 3) by decide +kernel) rfl (fun _ => ?_) (fun z => absurd q45 z)
    exact xv_w (sb94_145 E B a0 M h hN) rfl
  · rw [if_neg q45] at h
    refine xv_if_le E 145 (show decode prog_7_method_2_code 12 = .ok (.ifCond .le (133), 3) by decide +kernel) rfl (fun z => absurd z q45) (fun _ => ?_)
    refine xv_b E [.aload_n 0] (pc' := 16) (lv' := [(0, .inr (.inr (some a0))), (1, .inl v1)]) (st' := [.inr (.inr (some a0))]) (by decide +kernel) rfl rfl ?_
    obtain ⟨o_7, h8, h⟩ := bd h
    refine xg_r E 5 2 h8 mw34 (show decode prog_7_method_2_code 16 = .ok (.getfield 24, 3) by decide +kernel) ?_
    obtain ⟨b_11, h12, h⟩ := bd h
    obtain ⟨eh12, th12⟩ := g_o_some h12
    obtain ⟨q_9, h10, h⟩ := bd h
    refine xv_cvo E eh12 8 (as := []) (t54 G l (c_R_some h10)) cd54 mw519 mw520 mw521 (show decode prog_7_method_2_code 19 = .ok (.invokevirtual 37, 3) by decide +kernel) th12 rfl rfl (Nat.le_of_ble_eq_true rfl) ⟨Nat.le_of_ble_eq_true rfl, Nat.le_of_ble_eq_true rfl⟩ ?_
    refine xv_b E [.astore_n 2, .aload_n 2] (pc' := 24) (lv' := [(2, .inr (.inr q_9.1)), (0, .inr (.inr (some a0))), (1, .inl v1)]) (st' := [.inr (.inr q_9.1)]) (by decide +kernel) rfl rfl ?_
    by_cases q44 : q_9.1 = none
    · rw [if_pos q44] at h
      refine xi_nonnull E 30 (show decode prog_7_method_2_code 24 = .ok (.ifnonnull (6), 3) by decide +kernel) rfl (fun z => absurd q44 z) (fun _ => ?_)
      refine xv_goto E 145 (show decode prog_7_method_2_code 27 = .ok (.goto (118), 3) by decide +kernel) rfl ?_
      exact xv_w (sb94_145 E B a0 q_9.2 h hN) rfl
    · rw [if_neg q44] at h
      refine xi_nonnull E 30 (show decode prog_7_method_2_code 24 = .ok (.ifnonnull (6), 3) by decide +kernel) rfl (fun _ => ?_) (fun z => absurd z q44)
      refine xv_b E [.aload_n 2, .aload_n 0] (pc' := 32) (lv' := [(2, .inr (.inr q_9.1)), (0, .inr (.inr (some a0))), (1, .inl v1)]) (st' := [.inr (.inr (some a0)), .inr (.inr q_9.1)]) (by decide +kernel) rfl rfl ?_
      obtain ⟨o_13, h14, h⟩ := bd h
      refine xg_r E 5 0 h14 mw28 (show decode prog_7_method_2_code 32 = .ok (.getfield 9, 3) by decide +kernel) ?_
      obtain ⟨b_17, h18, h⟩ := bd h
      obtain ⟨eh18, th18⟩ := g_o_some h18
      obtain ⟨q_15, h16, h⟩ := bd h
      refine xv_cvo E eh18 2 (as := [.inr (.inr o_13)]) (t63 G l (c_I_some h16)) cd63 mw522 mw523 mw524 (show decode prog_7_method_2_code 35 = .ok (.invokevirtual 41, 3) by decide +kernel) th18 rfl rfl (Nat.le_of_ble_eq_true rfl) ⟨Nat.le_of_ble_eq_true rfl, Nat.le_of_ble_eq_true rfl⟩ ?_
      by_cases q43 : q_15.1 = 0
      · rw [if_pos q43] at h
        refine xv_if_ne E 52 (show decode prog_7_method_2_code 38 = .ok (.ifCond .ne (14), 3) by decide +kernel) rfl (fun z => absurd q43 z) (fun _ => ?_)
        refine xv_b E [.aload_n 0] (pc' := 42) (lv' := [(2, .inr (.inr q_9.1)), (0, .inr (.inr (some a0))), (1, .inl v1)]) (st' := [.inr (.inr (some a0))]) (by decide +kernel) rfl rfl ?_
        obtain ⟨o_37, h38, h⟩ := bd h
        refine xg_r E 5 0 h38 mw28 (show decode prog_7_method_2_code 42 = .ok (.getfield 9, 3) by decide +kernel) ?_
        refine xv_b E [.iconst 1] (pc' := 46) (lv' := [(2, .inr (.inr q_9.1)), (0, .inr (.inr (some a0))), (1, .inl v1)]) (st' := [.inl (1 : Int32), .inr (.inr o_37)]) (by decide +kernel) rfl rfl ?_
        obtain ⟨b_41, h42, h⟩ := bd h
        obtain ⟨eh42, th42⟩ := g_o_some h42
        obtain ⟨q_39, h40, h⟩ := bd h
        refine xv_cvo E eh42 9 (as := [.inl (1 : Int32)]) (t37 G l (c_V_some h40)) cd37 mw533 mw244 mw245 (show decode prog_7_method_2_code 46 = .ok (.invokevirtual 47, 3) by decide +kernel) th42 rfl rfl (Nat.le_of_ble_eq_true rfl) ⟨Nat.le_of_ble_eq_true rfl, Nat.le_of_ble_eq_true rfl⟩ ?_
        refine xv_goto E 131 (show decode prog_7_method_2_code 49 = .ok (.goto (82), 3) by decide +kernel) rfl ?_
        exact xv_w (sb94_131 E B a0 v1 q_9.1 q_39 h hN) rfl
      · rw [if_neg q43] at h
        refine xv_if_ne E 52 (show decode prog_7_method_2_code 38 = .ok (.ifCond .ne (14), 3) by decide +kernel) rfl (fun _ => ?_) (fun z => absurd z q43)
        refine xv_b E [.aload_n 2] (pc' := 53) (lv' := [(2, .inr (.inr q_9.1)), (0, .inr (.inr (some a0))), (1, .inl v1)]) (st' := [.inr (.inr q_9.1)]) (by decide +kernel) rfl rfl ?_
        obtain ⟨b_21, h22, h⟩ := bd h
        obtain ⟨eh22, th22⟩ := g_o_some h22
        obtain ⟨q_19, h20, h⟩ := bd h
        refine xv_cvo E eh22 2 (as := []) (t57 G l (c_I_some h20)) cd57 mw525 mw339 mw340 (show decode prog_7_method_2_code 53 = .ok (.invokevirtual 53, 3) by decide +kernel) th22 rfl rfl (Nat.le_of_ble_eq_true rfl) ⟨Nat.le_of_ble_eq_true rfl, Nat.le_of_ble_eq_true rfl⟩ ?_
        refine xv_b E [.iconst 4] (pc' := 57) (lv' := [(2, .inr (.inr q_9.1)), (0, .inr (.inr (some a0))), (1, .inl v1)]) (st' := [.inl (4 : Int32), .inl q_19.1]) (by decide +kernel) rfl rfl ?_
        by_cases q36 : q_19.1 = (4 : Int32)
        · rw [if_pos q36] at h
          refine xv_icmp_ne E 80 (show decode prog_7_method_2_code 57 = .ok (.if_icmp .ne (23), 3) by decide +kernel) rfl (fun z => absurd q36 z) (fun _ => ?_)
          refine xv_b E [.aload_n 2] (pc' := 61) (lv' := [(2, .inr (.inr q_9.1)), (0, .inr (.inr (some a0))), (1, .inl v1)]) (st' := [.inr (.inr q_9.1)]) (by decide +kernel) rfl rfl ?_
          obtain ⟨b_25, h26, h⟩ := bd h
          obtain ⟨eh26, th26⟩ := g_o_some h26
          obtain ⟨q_23, h24, h⟩ := bd h
          refine xv_cvo E eh26 2 (as := []) (t65 G l (c_I_some h24)) cd65 mw526 mw370 mw371 (show decode prog_7_method_2_code 61 = .ok (.invokevirtual 57, 3) by decide +kernel) th26 rfl rfl (Nat.le_of_ble_eq_true rfl) ⟨Nat.le_of_ble_eq_true rfl, Nat.le_of_ble_eq_true rfl⟩ ?_
          refine xv_ldc E (16777214 : Int32) mw259 (show decode prog_7_method_2_code 64 = .ok (.ldc 60, 2) by decide +kernel) ?_
          by_cases q35 : q_23.1 = (16777214 : Int32)
          · rw [if_pos q35] at h
            refine xv_icmp_ne E 80 (show decode prog_7_method_2_code 66 = .ok (.if_icmp .ne (14), 3) by decide +kernel) rfl (fun z => absurd q35 z) (fun _ => ?_)
            refine xv_b E [.aload_n 0, .aload_n 2] (pc' := 71) (lv' := [(2, .inr (.inr q_9.1)), (0, .inr (.inr (some a0))), (1, .inl v1)]) (st' := [.inr (.inr q_9.1), .inr (.inr (some a0))]) (by decide +kernel) rfl rfl ?_
            obtain ⟨b_29, h30, h⟩ := bd h
            obtain ⟨eh30, th30⟩ := g_o_some h30
            obtain ⟨q_27, h28, h⟩ := bd h
            refine xv_cvo E eh30 2 (as := []) (t64 G l (c_I_some h28)) cd64 mw527 mw528 mw529 (show decode prog_7_method_2_code 71 = .ok (.invokevirtual 61, 3) by decide +kernel) th30 rfl rfl (Nat.le_of_ble_eq_true rfl) ⟨Nat.le_of_ble_eq_true rfl, Nat.le_of_ble_eq_true rfl⟩ ?_
            obtain ⟨b_33, h34, h⟩ := bd h
            obtain ⟨eh34, th34⟩ := g_o_some h34
            obtain ⟨q_31, h32, h⟩ := bd h
            refine xv_cvo E eh34 5 (as := [.inl q_27.1]) (t93 G l (c_V_some h32)) cd93 mw530 mw531 mw532 (show decode prog_7_method_2_code 74 = .ok (.invokevirtual 64, 3) by decide +kernel) th34 rfl rfl (Nat.le_of_ble_eq_true rfl) ⟨Nat.le_of_ble_eq_true rfl, Nat.le_of_ble_eq_true rfl⟩ ?_
            refine xv_goto E 131 (show decode prog_7_method_2_code 77 = .ok (.goto (54), 3) by decide +kernel) rfl ?_
            exact xv_w (sb94_131 E B a0 v1 q_9.1 q_31 h hN) rfl
          · rw [if_neg q35] at h
            refine xv_icmp_ne E 80 (show decode prog_7_method_2_code 66 = .ok (.if_icmp .ne (14), 3) by decide +kernel) rfl (fun _ => ?_) (fun z => absurd z q35)
            exact xv_w (sb94_80 E B a0 v1 q_9.1 q_23.2 h hN) rfl
        · rw [if_neg q36] at h
          refine xv_icmp_ne E 80 (show decode prog_7_method_2_code 57 = .ok (.if_icmp .ne (23), 3) by decide +kernel) rfl (fun _ => ?_) (fun z => absurd z q36)
          exact xv_w (sb94_80 E B a0 v1 q_9.1 q_19.2 h hN) rfl
end
theorem t94 (G : gX) (l : Launch) {as : List aV} {M : hM} {r : Option aV} {M' : hM} (h : f94 as M = some (r, M')) : xM G l ym94 prog_7_method_2_code 3 none 7 as M r M' := by
  unfold f94 at h
  split at h
  · have hle : ∀ h as M res, k94 h as M = some res → h_sz M ≤ r_sz res ∧ h_sl M ≤ r_sl res := by
      intro h as M res hb
      unfold k94 at hb
      by_cases e0 : h = 11
      · rw [if_pos e0] at hb
        split at hb
        · exact lb94_11 G l _ _ M hb
        · cases hb
      · rw [if_neg e0] at hb
        cases hb
    obtain ⟨res, hx, hres⟩ := x_go_ok h
    refine xM_of (by decide) (Nat.le_of_ble_eq_true rfl) ?_ ?_
    · have e1 := lb94_0 G l _ M hx
      have e2 := x_go_le hle hres
      omega
    · intro p e s m args below meth c E B
      refine sb94_0 E B _ M hx (hres _ ?_)
      intro h as M res hb hN
      unfold k94 at hb
      unfold pg94
      by_cases e0 : h = 11
      · rw [if_pos e0] at hb ⊢
        split at hb
        · exact sb94_11 E B _ _ M hb hN
        · cases hb
      · rw [if_neg e0] at hb ⊢
        cases hb
  · cases h
/-! ZF.Switch.takeBackAddresses()V -/
def ym95 : MethodName := ⟨"ZonedFabric$Switch", "takeBackAddresses", "()V"⟩
theorem cd95 : xCd ym95 prog_12_method_3_code 3 none 0 := ⟨mw553, mw51, by decide, by decide, by decide +kernel⟩
def b95_0 (a0 : Nat) (M : hM) : Option xRes :=
  some (.inr (2, [.inr (.inr (some a0)), .inl (0 : Int32)], M))
def b95_64 (a0 : Nat) (v1 : Int32) (M : hM) : Option xRes :=
  some (.inr (2, [.inr (.inr (some a0)), .inl (v1 + (1 : Int32))], M))
def b95_43 (a0 : Nat) (v1 : Int32) (o2 : Option Nat) (M : hM) : Option xRes :=
  Option.bind (p_i M 8 12 o2 (0 : Int32)) fun M17 =>
  Option.bind (g_r M17 10 0 (some a0)) fun o_19 =>
  Option.bind (g_o M17 9 o_19) fun b_23 =>
  Option.bind (c_R (f34 [.inr (.inr (some b_23)), .inl (4 : Int32), .inl (0 : Int32), .inl (16777214 : Int32), .inl (0 : Int32)] M17)) fun q_21 =>
  Option.bind (g_o q_21.2 8 o2) fun b_27 =>
  Option.bind (c_V (f39 [.inr (.inr (some b_27)), .inr (.inr q_21.1)] q_21.2)) fun q_25 =>
  b95_64 a0 v1 q_25
def b95_2 (a0 : Nat) (v1 : Int32) (M : hM) : Option xRes :=
  if (8 : Int32) ≤ v1 then
    (some (.inl (none, M)))
  else
    (Option.bind (g_r M 10 2 (some a0)) fun o_1 =>
    Option.bind (al_r M 38 o_1 v1) fun o_3 =>
    Option.bind (g_i M 8 12 o_3) fun v_5 =>
    if v_5 = 0 then
      (b95_64 a0 v1 M)
    else
      (Option.bind (g_i M 10 10 (some a0)) fun v_7 =>
      if v_7 = 0 then
        (Option.bind (g_i M 8 12 o_3) fun v_9 =>
        Option.bind (g_i M 10 3 (some a0)) fun v_11 =>
        if (v_9 >>> ((16 : Int32) &&& 31)) = v_11 then
          (b95_64 a0 v1 M)
        else
          (b95_43 a0 v1 o_3 M))
      else
        (b95_43 a0 v1 o_3 M)))
def k95 (h : Nat) (as : List aV) (M : hM) : Option xRes :=
  if h = 2 then (match as with | [.inr (.inr (some a0)), .inl v1] => b95_2 a0 v1 M | _ => none) else
  none
def f95 (as : List aV) (M : hM) : xO := match as with
  | [.inr (.inr (some a0))] => x_go k95 (b95_0 a0 M)
  | _ => none
theorem lb95_0 (G : gX) (l : Launch) (a0 : Nat) (M : hM) {res : xRes} (h : b95_0 a0 M = some res) : h_sz M ≤ r_sz res ∧ h_sl M ≤ r_sl res := by
  unfold b95_0 at h
  obtain rfl := Option.some.inj h
  show h_sz M ≤ h_sz M ∧ h_sl M ≤ h_sl M
  omega
theorem lb95_64 (G : gX) (l : Launch) (a0 : Nat) (v1 : Int32) (M : hM) {res : xRes} (h : b95_64 a0 v1 M = some res) : h_sz M ≤ r_sz res ∧ h_sl M ≤ r_sl res := by
  unfold b95_64 at h
  obtain rfl := Option.some.inj h
  show h_sz M ≤ h_sz M ∧ h_sl M ≤ h_sl M
  omega
theorem lb95_43 (G : gX) (l : Launch) (a0 : Nat) (v1 : Int32) (o2 : Option Nat) (M : hM) {res : xRes} (h : b95_43 a0 v1 o2 M = some res) : h_sz M ≤ r_sz res ∧ h_sl M ≤ r_sl res := by
  unfold b95_43 at h
  obtain ⟨M17, h18, h⟩ := bd h
  have eh18 := p_i_sz h18
  obtain ⟨o_19, h20, h⟩ := bd h
  obtain ⟨b_23, h24, h⟩ := bd h
  obtain ⟨q_21, h22, h⟩ := bd h
  have eh22 := (t34 G l (c_R_some h22)).1
  obtain ⟨b_27, h28, h⟩ := bd h
  obtain ⟨q_25, h26, h⟩ := bd h
  have eh26 := (t39 G l (c_V_some h26)).1
  have e := lb95_64 G l a0 v1 q_25 h
  omega
theorem lb95_2 (G : gX) (l : Launch) (a0 : Nat) (v1 : Int32) (M : hM) {res : xRes} (h : b95_2 a0 v1 M = some res) : h_sz M ≤ r_sz res ∧ h_sl M ≤ r_sl res := by
  unfold b95_2 at h
  by_cases q16 : (8 : Int32) ≤ v1
  · rw [if_pos q16] at h
    obtain rfl := Option.some.inj h
    show h_sz M ≤ h_sz M ∧ h_sl M ≤ h_sl M
    omega
  · rw [if_neg q16] at h
    obtain ⟨o_1, h2, h⟩ := bd h
    obtain ⟨o_3, h4, h⟩ := bd h
    obtain ⟨v_5, h6, h⟩ := bd h
    by_cases q15 : v_5 = 0
    · rw [if_pos q15] at h
      have e := lb95_64 G l a0 v1 M h
      omega
    · rw [if_neg q15] at h
      obtain ⟨v_7, h8, h⟩ := bd h
      by_cases q14 : v_7 = 0
      · rw [if_pos q14] at h
        obtain ⟨v_9, h10, h⟩ := bd h
        obtain ⟨v_11, h12, h⟩ := bd h
        by_cases q13 : (v_9 >>> ((16 : Int32) &&& 31)) = v_11
        · rw [if_pos q13] at h
          have e := lb95_64 G l a0 v1 M h
          omega
        · rw [if_neg q13] at h
          have e := lb95_43 G l a0 v1 o_3 M h
          omega
      · rw [if_neg q14] at h
        have e := lb95_43 G l a0 v1 o_3 M h
        omega
section
variable {p : Program} {l : Launch} {e : Env} {s : State} {m : MethodId} {args : Array Value} {below : List Frame} {meth : Method} {c : Code} {G : gX} {z0 y0 : Nat} {r : Option aV} {M' : hM}
def pg95 (p : Program) (l : Launch) (e : Env) (s : State) (m : MethodId) (args : Array Value) (below : List Frame) (meth : Method) (c : Code) (G : gX) (z0 y0 : Nat) (r : Option aV) (M' : hM) (h : Nat) (as : List aV) (M : hM) : Prop :=
  if h = 2 then (match as with | [.inr (.inr (some a0)), .inl v1] => xV G p l e (xRm 3 (h_sz M' - z0) (h_sl M' - y0)) s m args below meth c z0 y0 (h_sz M') (h_sl M') 3 (MQ below (xQc G r M') args s (h_sz M' - z0) (h_sl M' - y0) (xFr G)) 2 [(0, .inr (.inr (some a0))), (1, .inl v1)] [] M | _ => False) else
  False
theorem sb95_0 (E : xE G p (xRm 3 (h_sz M' - z0) (h_sl M' - y0)) s m args c prog_12_method_3_code "ZonedFabric$Switch" z0 y0 (h_sz M') (h_sl M') 3) (B : xB ym95 none meth) (a0 : Nat) (M : hM) {res : xRes} (h : b95_0 a0 M = some res) (hN : xN (pg95 p l e s m args below meth c G z0 y0 r M') r M' res) : xV G p l e (xRm 3 (h_sz M' - z0) (h_sl M' - y0)) s m args below meth c z0 y0 (h_sz M') (h_sl M') 3 (MQ below (xQc G r M') args s (h_sz M' - z0) (h_sl M' - y0) (xFr G)) 0 [(0, .inr (.inr (some a0)))] [] M := by
  unfold b95_0 at h
  refine xv_b E [.iconst 0, .istore_n 1] (pc' := 2) (lv' := [(1, .inl (0 : Int32)), (0, .inr (.inr (some a0)))]) (st' := []) (by decide +kernel) rfl rfl ?_
  obtain rfl := Option.some.inj h
  exact xv_w hN rfl
theorem sb95_64 (E : xE G p (xRm 3 (h_sz M' - z0) (h_sl M' - y0)) s m args c prog_12_method_3_code "ZonedFabric$Switch" z0 y0 (h_sz M') (h_sl M') 3) (B : xB ym95 none meth) (a0 : Nat) (v1 : Int32) (M : hM) {res : xRes} (h : b95_64 a0 v1 M = some res) (hN : xN (pg95 p l e s m args below meth c G z0 y0 r M') r M' res) : xV G p l e (xRm 3 (h_sz M' - z0) (h_sl M' - y0)) s m args below meth c z0 y0 (h_sz M') (h_sl M') 3 (MQ below (xQc G r M') args s (h_sz M' - z0) (h_sl M' - y0) (xFr G)) 64 [(0, .inr (.inr (some a0))), (1, .inl v1)] [] M := by
  unfold b95_64 at h
  refine xv_b E [.iinc 1 1] (pc' := 67) (lv' := [(1, .inl (v1 + (1 : Int32))), (0, .inr (.inr (some a0)))]) (st' := []) (by decide +kernel) rfl rfl ?_
  refine xv_goto E 2 (show decode prog_12_method_3_code 67 = .ok (.goto (-65), 3) by decide +kernel) rfl ?_
  obtain rfl := Option.some.inj h
  exact xv_w hN rfl
theorem sb95_43 (E : xE G p (xRm 3 (h_sz M' - z0) (h_sl M' - y0)) s m args c prog_12_method_3_code "ZonedFabric$Switch" z0 y0 (h_sz M') (h_sl M') 3) (B : xB ym95 none meth) (a0 : Nat) (v1 : Int32) (o2 : Option Nat) (M : hM) {res : xRes} (h : b95_43 a0 v1 o2 M = some res) (hN : xN (pg95 p l e s m args below meth c G z0 y0 r M') r M' res) : xV G p l e (xRm 3 (h_sz M' - z0) (h_sl M' - y0)) s m args below meth c z0 y0 (h_sz M') (h_sl M') 3 (MQ below (xQc G r M') args s (h_sz M' - z0) (h_sl M' - y0) (xFr G)) 43 [(0, .inr (.inr (some a0))), (1, .inl v1), (2, .inr (.inr o2))] [] M := by
  unfold b95_43 at h
  refine xv_b E [.aload_n 2, .iconst 0] (pc' := 45) (lv' := [(0, .inr (.inr (some a0))), (1, .inl v1), (2, .inr (.inr o2))]) (st' := [.inl (0 : Int32), .inr (.inr o2)]) (by decide +kernel) rfl rfl ?_
  obtain ⟨M17, h18, h⟩ := bd h
  refine xp_i E 8 12 h18 mw554 (show decode prog_12_method_3_code 45 = .ok (.putfield 84, 3) by decide +kernel) (Or.inl rfl) ?_
  refine xv_b E [.aload_n 2, .aload_n 0] (pc' := 50) (lv' := [(0, .inr (.inr (some a0))), (1, .inl v1), (2, .inr (.inr o2))]) (st' := [.inr (.inr (some a0)), .inr (.inr o2)]) (by decide +kernel) rfl rfl ?_
  obtain ⟨o_19, h20, h⟩ := bd h
  refine xg_r E 10 0 h20 mw60 (show decode prog_12_method_3_code 50 = .ok (.getfield 34, 3) by decide +kernel) ?_
  refine xv_b E [.iconst 4, .iconst 0] (pc' := 55) (lv' := [(0, .inr (.inr (some a0))), (1, .inl v1), (2, .inr (.inr o2))]) (st' := [.inl (0 : Int32), .inl (4 : Int32), .inr (.inr o_19), .inr (.inr o2)]) (by decide +kernel) rfl rfl ?_
  refine xv_ldc E (16777214 : Int32) mw558 (show decode prog_12_method_3_code 55 = .ok (.ldc 91, 2) by decide +kernel) ?_
  refine xv_b E [.iconst 0] (pc' := 58) (lv' := [(0, .inr (.inr (some a0))), (1, .inl v1), (2, .inr (.inr o2))]) (st' := [.inl (0 : Int32), .inl (16777214 : Int32), .inl (0 : Int32), .inl (4 : Int32), .inr (.inr o_19), .inr (.inr o2)]) (by decide +kernel) rfl rfl ?_
  obtain ⟨b_23, h24, h⟩ := bd h
  obtain ⟨eh24, th24⟩ := g_o_some h24
  obtain ⟨q_21, h22, h⟩ := bd h
  refine xv_cvo E eh24 9 (as := [.inl (4 : Int32), .inl (0 : Int32), .inl (16777214 : Int32), .inl (0 : Int32)]) (t34 G l (c_R_some h22)) cd34 mw556 mw251 mw252 (show decode prog_12_method_3_code 58 = .ok (.invokevirtual 92, 3) by decide +kernel) th24 rfl rfl (Nat.le_of_ble_eq_true rfl) ⟨Nat.le_of_ble_eq_true rfl, Nat.le_of_ble_eq_true rfl⟩ ?_
  obtain ⟨b_27, h28, h⟩ := bd h
  obtain ⟨eh28, th28⟩ := g_o_some h28
  obtain ⟨q_25, h26, h⟩ := bd h
  refine xv_cvo E eh28 8 (as := [.inr (.inr q_21.1)]) (t39 G l (c_V_some h26)) cd39 mw557 mw257 mw258 (show decode prog_12_method_3_code 61 = .ok (.invokevirtual 95, 3) by decide +kernel) th28 rfl rfl (Nat.le_of_ble_eq_true rfl) ⟨Nat.le_of_ble_eq_true rfl, Nat.le_of_ble_eq_true rfl⟩ ?_
  exact xv_w (sb95_64 E B a0 v1 q_25 h hN) rfl
theorem sb95_2 (E : xE G p (xRm 3 (h_sz M' - z0) (h_sl M' - y0)) s m args c prog_12_method_3_code "ZonedFabric$Switch" z0 y0 (h_sz M') (h_sl M') 3) (B : xB ym95 none meth) (a0 : Nat) (v1 : Int32) (M : hM) {res : xRes} (h : b95_2 a0 v1 M = some res) (hN : xN (pg95 p l e s m args below meth c G z0 y0 r M') r M' res) : xV G p l e (xRm 3 (h_sz M' - z0) (h_sl M' - y0)) s m args below meth c z0 y0 (h_sz M') (h_sl M') 3 (MQ below (xQc G r M') args s (h_sz M' - z0) (h_sl M' - y0) (xFr G)) 2 [(0, .inr (.inr (some a0))), (1, .inl v1)] [] M := by
  unfold b95_2 at h
  refine xv_b E [.iload_n 1, .bipush 8] (pc' := 5) (lv' := [(0, .inr (.inr (some a0))), (1, .inl v1)]) (st' := [.inl (8 : Int32), .inl v1]) (by decide +kernel) rfl rfl ?_
  by_cases q16 : (8 : Int32) ≤ v1
  · rw [if_pos q16] at h
    refine xv_icmp_ge E 70 (show decode prog_12_method_3_code 5 = .ok (.if_icmp .ge (65), 3) by decide +kernel) rfl (fun _ => ?_) (fun z => absurd q16 z)
    obtain rfl := Option.some.inj h
    obtain ⟨rfl, rfl⟩ := Prod.mk.inj (show ((none : Option aV), M) = (r, M') from hN)
    exact xv_rv E B.1 B.2.1 (show decode prog_12_method_3_code 70 = .ok (.return_, 1) by decide +kernel) rfl rfl
  · rw [if_neg q16] at h
    refine xv_icmp_ge E 70 (show decode prog_12_method_3_code 5 = .ok (.if_icmp .ge (65), 3) by decide +kernel) rfl (fun z => absurd z q16) (fun _ => ?_)
    refine xv_b E [.aload_n 0] (pc' := 9) (lv' := [(0, .inr (.inr (some a0))), (1, .inl v1)]) (st' := [.inr (.inr (some a0))]) (by decide +kernel) rfl rfl ?_
    obtain ⟨o_1, h2, h⟩ := bd h
    refine xg_r E 10 2 h2 mw53 (show decode prog_12_method_3_code 9 = .ok (.getfield 11, 3) by decide +kernel) ?_
    refine xv_b E [.iload_n 1] (pc' := 13) (lv' := [(0, .inr (.inr (some a0))), (1, .inl v1)]) (st' := [.inl v1, .inr (.inr o_1)]) (by decide +kernel) rfl rfl ?_
    obtain ⟨o_3, h4, h⟩ := bd h
    refine xa_r E 38 h4 (show decode prog_12_method_3_code 13 = .ok (.aaload, 1) by decide +kernel) ?_
    refine xv_b E [.astore_n 2, .aload_n 2] (pc' := 16) (lv' := [(2, .inr (.inr o_3)), (0, .inr (.inr (some a0))), (1, .inl v1)]) (st' := [.inr (.inr o_3)]) (by decide +kernel) rfl rfl ?_
    obtain ⟨v_5, h6, h⟩ := bd h
    refine xg_i E 8 12 h6 mw554 (show decode prog_12_method_3_code 16 = .ok (.getfield 84, 3) by decide +kernel) ?_
    by_cases q15 : v_5 = 0
    · rw [if_pos q15] at h
      refine xv_if_eq E 64 (show decode prog_12_method_3_code 19 = .ok (.ifCond .eq (45), 3) by decide +kernel) rfl (fun _ => ?_) (fun z => absurd q15 z)
      exact xv_w (sb95_64 E B a0 v1 M h hN) rfl
    · rw [if_neg q15] at h
      refine xv_if_eq E 64 (show decode prog_12_method_3_code 19 = .ok (.ifCond .eq (45), 3) by decide +kernel) rfl (fun z => absurd z q15) (fun _ => ?_)
      refine xv_b E [.aload_n 0] (pc' := 23) (lv' := [(2, .inr (.inr o_3)), (0, .inr (.inr (some a0))), (1, .inl v1)]) (st' := [.inr (.inr (some a0))]) (by decide +kernel) rfl rfl ?_
      obtain ⟨v_7, h8, h⟩ := bd h
      refine xg_i E 10 10 h8 mw555 (show decode prog_12_method_3_code 23 = .ok (.getfield 87, 3) by decide +kernel) ?_
      by_cases q14 : v_7 = 0
      · rw [if_pos q14] at h
        refine xv_if_ne E 43 (show decode prog_12_method_3_code 26 = .ok (.ifCond .ne (17), 3) by decide +kernel) rfl (fun z => absurd q14 z) (fun _ => ?_)
        refine xv_b E [.aload_n 2] (pc' := 30) (lv' := [(2, .inr (.inr o_3)), (0, .inr (.inr (some a0))), (1, .inl v1)]) (st' := [.inr (.inr o_3)]) (by decide +kernel) rfl rfl ?_
        obtain ⟨v_9, h10, h⟩ := bd h
        refine xg_i E 8 12 h10 mw554 (show decode prog_12_method_3_code 30 = .ok (.getfield 84, 3) by decide +kernel) ?_
        refine xv_b E [.bipush 16, .ishr, .aload_n 0] (pc' := 37) (lv' := [(2, .inr (.inr o_3)), (0, .inr (.inr (some a0))), (1, .inl v1)]) (st' := [.inr (.inr (some a0)), .inl (v_9 >>> ((16 : Int32) &&& 31))]) (by decide +kernel) rfl rfl ?_
        obtain ⟨v_11, h12, h⟩ := bd h
        refine xg_i E 10 3 h12 mw62 (show decode prog_12_method_3_code 37 = .ok (.getfield 41, 3) by decide +kernel) ?_
        by_cases q13 : (v_9 >>> ((16 : Int32) &&& 31)) = v_11
        · rw [if_pos q13] at h
          refine xv_icmp_eq E 64 (show decode prog_12_method_3_code 40 = .ok (.if_icmp .eq (24), 3) by decide +kernel) rfl (fun _ => ?_) (fun z => absurd q13 z)
          exact xv_w (sb95_64 E B a0 v1 M h hN) rfl
        · rw [if_neg q13] at h
          refine xv_icmp_eq E 64 (show decode prog_12_method_3_code 40 = .ok (.if_icmp .eq (24), 3) by decide +kernel) rfl (fun z => absurd z q13) (fun _ => ?_)
          exact xv_w (sb95_43 E B a0 v1 o_3 M h hN) rfl
      · rw [if_neg q14] at h
        refine xv_if_ne E 43 (show decode prog_12_method_3_code 26 = .ok (.ifCond .ne (17), 3) by decide +kernel) rfl (fun _ => ?_) (fun z => absurd z q14)
        exact xv_w (sb95_43 E B a0 v1 o_3 M h hN) rfl
end
theorem t95 (G : gX) (l : Launch) {as : List aV} {M : hM} {r : Option aV} {M' : hM} (h : f95 as M = some (r, M')) : xM G l ym95 prog_12_method_3_code 3 none 3 as M r M' := by
  unfold f95 at h
  split at h
  · have hle : ∀ h as M res, k95 h as M = some res → h_sz M ≤ r_sz res ∧ h_sl M ≤ r_sl res := by
      intro h as M res hb
      unfold k95 at hb
      by_cases e0 : h = 2
      · rw [if_pos e0] at hb
        split at hb
        · exact lb95_2 G l _ _ M hb
        · cases hb
      · rw [if_neg e0] at hb
        cases hb
    obtain ⟨res, hx, hres⟩ := x_go_ok h
    refine xM_of (by decide) (Nat.le_of_ble_eq_true rfl) ?_ ?_
    · have e1 := lb95_0 G l _ M hx
      have e2 := x_go_le hle hres
      omega
    · intro p e s m args below meth c E B
      refine sb95_0 E B _ M hx (hres _ ?_)
      intro h as M res hb hN
      unfold k95 at hb
      unfold pg95
      by_cases e0 : h = 2
      · rw [if_pos e0] at hb ⊢
        split at hb
        · exact sb95_2 E B _ _ M hb hN
        · cases hb
      · rw [if_neg e0] at hb ⊢
        cases hb
  · cases h
/-! ZF.Notice.byteAt(I)I -/
def ym96 : MethodName := ⟨"ZonedFabric$Notice", "byteAt", "(I)I"⟩
theorem cd96 : xCd ym96 prog_8_method_5_code 2 (some FieldType.int) 1 := ⟨mw559, mw46, by decide, by decide, by decide +kernel⟩
def b96_26 (si0 : Int32) (M : hM) : Option xRes :=
  some (.inl (some (.inl si0), M))
def b96_25  (M : hM) : Option xRes :=
  b96_26 (0 : Int32) M
def b96_0 (a0 : Nat) (v1 : Int32) (M : hM) : Option xRes :=
  if v1 < 0 then
    (b96_25  M)
  else
    (Option.bind (g_i M 6 1 (some a0)) fun v_1 =>
    if v_1 ≤ v1 then
      (b96_25  M)
    else
      (Option.bind (g_r M 6 0 (some a0)) fun o_3 =>
      Option.bind (al_i M 21 o_3 v1) fun v_5 =>
      b96_26 (v_5 &&& (255 : Int32)) M))
def f96 (as : List aV) (M : hM) : xO := match as with
  | [.inr (.inr (some a0)), .inl v1] => x_out (b96_0 a0 v1 M)
  | _ => none
theorem lb96_26 (G : gX) (l : Launch) (si0 : Int32) (M : hM) {res : xRes} (h : b96_26 si0 M = some res) : h_sz M ≤ r_sz res ∧ h_sl M ≤ r_sl res := by
  unfold b96_26 at h
  obtain rfl := Option.some.inj h
  show h_sz M ≤ h_sz M ∧ h_sl M ≤ h_sl M
  omega
theorem lb96_25 (G : gX) (l : Launch)  (M : hM) {res : xRes} (h : b96_25  M = some res) : h_sz M ≤ r_sz res ∧ h_sl M ≤ r_sl res := by
  unfold b96_25 at h
  have e := lb96_26 G l (0 : Int32) M h
  omega
theorem lb96_0 (G : gX) (l : Launch) (a0 : Nat) (v1 : Int32) (M : hM) {res : xRes} (h : b96_0 a0 v1 M = some res) : h_sz M ≤ r_sz res ∧ h_sl M ≤ r_sl res := by
  unfold b96_0 at h
  by_cases q8 : v1 < 0
  · rw [if_pos q8] at h
    have e := lb96_25 G l  M h
    omega
  · rw [if_neg q8] at h
    obtain ⟨v_1, h2, h⟩ := bd h
    by_cases q7 : v_1 ≤ v1
    · rw [if_pos q7] at h
      have e := lb96_25 G l  M h
      omega
    · rw [if_neg q7] at h
      obtain ⟨o_3, h4, h⟩ := bd h
      obtain ⟨v_5, h6, h⟩ := bd h
      have e := lb96_26 G l (v_5 &&& (255 : Int32)) M h
      omega
section
variable {p : Program} {l : Launch} {e : Env} {s : State} {m : MethodId} {args : Array Value} {below : List Frame} {meth : Method} {c : Code} {G : gX} {z0 y0 : Nat} {r : Option aV} {M' : hM}
theorem sb96_26 (E : xE G p (xRm 0 (h_sz M' - z0) (h_sl M' - y0)) s m args c prog_8_method_5_code "ZonedFabric$Notice" z0 y0 (h_sz M') (h_sl M') 2) (B : xB ym96 (some FieldType.int) meth) (si0 : Int32) (M : hM) {res : xRes} (h : b96_26 si0 M = some res) (hN : xN (fun _ _ _ => False) r M' res) : xV G p l e (xRm 0 (h_sz M' - z0) (h_sl M' - y0)) s m args below meth c z0 y0 (h_sz M') (h_sl M') 2 (MQ below (xQc G r M') args s (h_sz M' - z0) (h_sl M' - y0) (xFr G)) 26 [] [.inl si0] M := by
  unfold b96_26 at h
  obtain rfl := Option.some.inj h
  obtain ⟨rfl, rfl⟩ := Prod.mk.inj (show ((some (.inl si0) : Option aV), M) = (r, M') from hN)
  exact xv_ri E B.1 rfl B.2.1 (show decode prog_8_method_5_code 26 = .ok (.ireturn, 1) by decide +kernel) rfl rfl
theorem sb96_25 (E : xE G p (xRm 0 (h_sz M' - z0) (h_sl M' - y0)) s m args c prog_8_method_5_code "ZonedFabric$Notice" z0 y0 (h_sz M') (h_sl M') 2) (B : xB ym96 (some FieldType.int) meth)  (M : hM) {res : xRes} (h : b96_25  M = some res) (hN : xN (fun _ _ _ => False) r M' res) : xV G p l e (xRm 0 (h_sz M' - z0) (h_sl M' - y0)) s m args below meth c z0 y0 (h_sz M') (h_sl M') 2 (MQ below (xQc G r M') args s (h_sz M' - z0) (h_sl M' - y0) (xFr G)) 25 [] [] M := by
  unfold b96_25 at h
  refine xv_b E [.iconst 0] (pc' := 26) (lv' := []) (st' := [.inl (0 : Int32)]) (by decide +kernel) rfl rfl ?_
  exact xv_w (sb96_26 E B (0 : Int32) M h hN) rfl
theorem sb96_0 (E : xE G p (xRm 0 (h_sz M' - z0) (h_sl M' - y0)) s m args c prog_8_method_5_code "ZonedFabric$Notice" z0 y0 (h_sz M') (h_sl M') 2) (B : xB ym96 (some FieldType.int) meth) (a0 : Nat) (v1 : Int32) (M : hM) {res : xRes} (h : b96_0 a0 v1 M = some res) (hN : xN (fun _ _ _ => False) r M' res) : xV G p l e (xRm 0 (h_sz M' - z0) (h_sl M' - y0)) s m args below meth c z0 y0 (h_sz M') (h_sl M') 2 (MQ below (xQc G r M') args s (h_sz M' - z0) (h_sl M' - y0) (xFr G)) 0 [(0, .inr (.inr (some a0))), (1, .inl v1)] [] M := by
  unfold b96_0 at h
  refine xv_b E [.iload_n 1] (pc' := 1) (lv' := [(0, .inr (.inr (some a0))), (1, .inl v1)]) (st' := [.inl v1]) (by decide +kernel) rfl rfl ?_
  by_cases q8 : v1 < 0
  · rw [if_pos q8] at h
    refine xv_if_lt E 25 (show decode prog_8_method_5_code 1 = .ok (.ifCond .lt (24), 3) by decide +kernel) rfl (fun _ => ?_) (fun z => absurd q8 z)
    exact xv_w (sb96_25 E B  M h hN) rfl
  · rw [if_neg q8] at h
    refine xv_if_lt E 25 (show decode prog_8_method_5_code 1 = .ok (.ifCond .lt (24), 3) by decide +kernel) rfl (fun z => absurd z q8) (fun _ => ?_)
    refine xv_b E [.iload_n 1, .aload_n 0] (pc' := 6) (lv' := [(0, .inr (.inr (some a0))), (1, .inl v1)]) (st' := [.inr (.inr (some a0)), .inl v1]) (by decide +kernel) rfl rfl ?_
    obtain ⟨v_1, h2, h⟩ := bd h
    refine xg_i E 6 1 h2 mw560 (show decode prog_8_method_5_code 6 = .ok (.getfield 15, 3) by decide +kernel) ?_
    by_cases q7 : v_1 ≤ v1
    · rw [if_pos q7] at h
      refine xv_icmp_ge E 25 (show decode prog_8_method_5_code 9 = .ok (.if_icmp .ge (16), 3) by decide +kernel) rfl (fun _ => ?_) (fun z => absurd q7 z)
      exact xv_w (sb96_25 E B  M h hN) rfl
    · rw [if_neg q7] at h
      refine xv_icmp_ge E 25 (show decode prog_8_method_5_code 9 = .ok (.if_icmp .ge (16), 3) by decide +kernel) rfl (fun z => absurd z q7) (fun _ => ?_)
      refine xv_b E [.aload_n 0] (pc' := 13) (lv' := [(0, .inr (.inr (some a0))), (1, .inl v1)]) (st' := [.inr (.inr (some a0))]) (by decide +kernel) rfl rfl ?_
      obtain ⟨o_3, h4, h⟩ := bd h
      refine xg_r E 6 0 h4 mw48 (show decode prog_8_method_5_code 13 = .ok (.getfield 9, 3) by decide +kernel) ?_
      refine xv_b E [.iload_n 1] (pc' := 17) (lv' := [(0, .inr (.inr (some a0))), (1, .inl v1)]) (st' := [.inl v1, .inr (.inr o_3)]) (by decide +kernel) rfl rfl ?_
      obtain ⟨v_5, h6, h⟩ := bd h
      refine xa_b E h6 (show decode prog_8_method_5_code 17 = .ok (.baload, 1) by decide +kernel) ?_
      refine xv_b E [.sipush 255, .iand] (pc' := 22) (lv' := [(0, .inr (.inr (some a0))), (1, .inl v1)]) (st' := [.inl (v_5 &&& (255 : Int32))]) (by decide +kernel) rfl rfl ?_
      refine xv_goto E 26 (show decode prog_8_method_5_code 22 = .ok (.goto (4), 3) by decide +kernel) rfl ?_
      exact xv_w (sb96_26 E B (v_5 &&& (255 : Int32)) M h hN) rfl
end
theorem t96 (G : gX) (l : Launch) {as : List aV} {M : hM} {r : Option aV} {M' : hM} (h : f96 as M = some (r, M')) : xM G l ym96 prog_8_method_5_code 2 (some FieldType.int) 0 as M r M' := by
  unfold f96 at h
  split at h
  · have h := x_out_ok h
    refine xM_of (by decide) (Nat.le_of_ble_eq_true rfl) (lb96_0 G l _ _ M h) ?_
    intro p e s m args below meth c E B
    exact sb96_0 E B _ _ M h rfl
  · cases h
/-! ZF.Notice.neighbours()I -/
def ym97 : MethodName := ⟨"ZonedFabric$Notice", "neighbours", "()I"⟩
theorem cd97 : xCd ym97 prog_8_method_9_code 1 (some FieldType.int) 0 := ⟨mw561, mw46, by decide, by decide, by decide +kernel⟩
def b97_0 (a0 : Nat) (M : hM) : Option xRes :=
  Option.bind (g_o M 6 (some a0)) fun b_3 =>
  Option.bind (c_I (f96 [.inr (.inr (some b_3)), .inl (5 : Int32)] M)) fun q_1 =>
  some (.inl (some (.inl q_1.1), q_1.2))
def f97 (as : List aV) (M : hM) : xO := match as with
  | [.inr (.inr (some a0))] => x_out (b97_0 a0 M)
  | _ => none
theorem lb97_0 (G : gX) (l : Launch) (a0 : Nat) (M : hM) {res : xRes} (h : b97_0 a0 M = some res) : h_sz M ≤ r_sz res ∧ h_sl M ≤ r_sl res := by
  unfold b97_0 at h
  obtain ⟨b_3, h4, h⟩ := bd h
  obtain ⟨q_1, h2, h⟩ := bd h
  have eh2 := (t96 G l (c_I_some h2)).1
  obtain rfl := Option.some.inj h
  show h_sz M ≤ h_sz q_1.2 ∧ h_sl M ≤ h_sl q_1.2
  omega
section
variable {p : Program} {l : Launch} {e : Env} {s : State} {m : MethodId} {args : Array Value} {below : List Frame} {meth : Method} {c : Code} {G : gX} {z0 y0 : Nat} {r : Option aV} {M' : hM}
theorem sb97_0 (E : xE G p (xRm 1 (h_sz M' - z0) (h_sl M' - y0)) s m args c prog_8_method_9_code "ZonedFabric$Notice" z0 y0 (h_sz M') (h_sl M') 1) (B : xB ym97 (some FieldType.int) meth) (a0 : Nat) (M : hM) {res : xRes} (h : b97_0 a0 M = some res) (hN : xN (fun _ _ _ => False) r M' res) : xV G p l e (xRm 1 (h_sz M' - z0) (h_sl M' - y0)) s m args below meth c z0 y0 (h_sz M') (h_sl M') 1 (MQ below (xQc G r M') args s (h_sz M' - z0) (h_sl M' - y0) (xFr G)) 0 [(0, .inr (.inr (some a0)))] [] M := by
  unfold b97_0 at h
  refine xv_b E [.aload_n 0, .iconst 5] (pc' := 2) (lv' := [(0, .inr (.inr (some a0)))]) (st' := [.inl (5 : Int32), .inr (.inr (some a0))]) (by decide +kernel) rfl rfl ?_
  obtain ⟨b_3, h4, h⟩ := bd h
  obtain ⟨eh4, th4⟩ := g_o_some h4
  obtain ⟨q_1, h2, h⟩ := bd h
  refine xv_cvo E eh4 6 (as := [.inl (5 : Int32)]) (t96 G l (c_I_some h2)) cd96 mw562 mw563 mw564 (show decode prog_8_method_9_code 2 = .ok (.invokevirtual 19, 3) by decide +kernel) th4 rfl rfl (Nat.le_of_ble_eq_true rfl) ⟨Nat.le_of_ble_eq_true rfl, Nat.le_of_ble_eq_true rfl⟩ ?_
  obtain rfl := Option.some.inj h
  obtain ⟨rfl, rfl⟩ := Prod.mk.inj (show ((some (.inl q_1.1) : Option aV), q_1.2) = (r, M') from hN)
  exact xv_ri E B.1 rfl B.2.1 (show decode prog_8_method_9_code 5 = .ok (.ireturn, 1) by decide +kernel) rfl rfl
end
theorem t97 (G : gX) (l : Launch) {as : List aV} {M : hM} {r : Option aV} {M' : hM} (h : f97 as M = some (r, M')) : xM G l ym97 prog_8_method_9_code 1 (some FieldType.int) 1 as M r M' := by
  unfold f97 at h
  split at h
  · have h := x_out_ok h
    refine xM_of (by decide) (Nat.le_of_ble_eq_true rfl) (lb97_0 G l _ M h) ?_
    intro p e s m args below meth c E B
    exact sb97_0 E B _ M h rfl
  · cases h
/-! ZF.Notice.neighbourSwitch(I)I -/
def ym98 : MethodName := ⟨"ZonedFabric$Notice", "neighbourSwitch", "(I)I"⟩
theorem cd98 : xCd ym98 prog_8_method_11_code 2 (some FieldType.int) 1 := ⟨mw565, mw46, by decide, by decide, by decide +kernel⟩
def b98_0 (a0 : Nat) (v1 : Int32) (M : hM) : Option xRes :=
  Option.bind (g_o M 6 (some a0)) fun b_3 =>
  Option.bind (c_I (f96 [.inr (.inr (some b_3)), .inl ((7 : Int32) + ((3 : Int32) * v1))] M)) fun q_1 =>
  some (.inl (some (.inl q_1.1), q_1.2))
def f98 (as : List aV) (M : hM) : xO := match as with
  | [.inr (.inr (some a0)), .inl v1] => x_out (b98_0 a0 v1 M)
  | _ => none
theorem lb98_0 (G : gX) (l : Launch) (a0 : Nat) (v1 : Int32) (M : hM) {res : xRes} (h : b98_0 a0 v1 M = some res) : h_sz M ≤ r_sz res ∧ h_sl M ≤ r_sl res := by
  unfold b98_0 at h
  obtain ⟨b_3, h4, h⟩ := bd h
  obtain ⟨q_1, h2, h⟩ := bd h
  have eh2 := (t96 G l (c_I_some h2)).1
  obtain rfl := Option.some.inj h
  show h_sz M ≤ h_sz q_1.2 ∧ h_sl M ≤ h_sl q_1.2
  omega
section
variable {p : Program} {l : Launch} {e : Env} {s : State} {m : MethodId} {args : Array Value} {below : List Frame} {meth : Method} {c : Code} {G : gX} {z0 y0 : Nat} {r : Option aV} {M' : hM}
theorem sb98_0 (E : xE G p (xRm 1 (h_sz M' - z0) (h_sl M' - y0)) s m args c prog_8_method_11_code "ZonedFabric$Notice" z0 y0 (h_sz M') (h_sl M') 2) (B : xB ym98 (some FieldType.int) meth) (a0 : Nat) (v1 : Int32) (M : hM) {res : xRes} (h : b98_0 a0 v1 M = some res) (hN : xN (fun _ _ _ => False) r M' res) : xV G p l e (xRm 1 (h_sz M' - z0) (h_sl M' - y0)) s m args below meth c z0 y0 (h_sz M') (h_sl M') 2 (MQ below (xQc G r M') args s (h_sz M' - z0) (h_sl M' - y0) (xFr G)) 0 [(0, .inr (.inr (some a0))), (1, .inl v1)] [] M := by
  unfold b98_0 at h
  refine xv_b E [.aload_n 0, .bipush 7, .iconst 3, .iload_n 1, .imul, .iadd] (pc' := 7) (lv' := [(0, .inr (.inr (some a0))), (1, .inl v1)]) (st' := [.inl ((7 : Int32) + ((3 : Int32) * v1)), .inr (.inr (some a0))]) (by decide +kernel) rfl rfl ?_
  obtain ⟨b_3, h4, h⟩ := bd h
  obtain ⟨eh4, th4⟩ := g_o_some h4
  obtain ⟨q_1, h2, h⟩ := bd h
  refine xv_cvo E eh4 6 (as := [.inl ((7 : Int32) + ((3 : Int32) * v1))]) (t96 G l (c_I_some h2)) cd96 mw562 mw563 mw564 (show decode prog_8_method_11_code 7 = .ok (.invokevirtual 19, 3) by decide +kernel) th4 rfl rfl (Nat.le_of_ble_eq_true rfl) ⟨Nat.le_of_ble_eq_true rfl, Nat.le_of_ble_eq_true rfl⟩ ?_
  obtain rfl := Option.some.inj h
  obtain ⟨rfl, rfl⟩ := Prod.mk.inj (show ((some (.inl q_1.1) : Option aV), q_1.2) = (r, M') from hN)
  exact xv_ri E B.1 rfl B.2.1 (show decode prog_8_method_11_code 10 = .ok (.ireturn, 1) by decide +kernel) rfl rfl
end
theorem t98 (G : gX) (l : Launch) {as : List aV} {M : hM} {r : Option aV} {M' : hM} (h : f98 as M = some (r, M')) : xM G l ym98 prog_8_method_11_code 2 (some FieldType.int) 1 as M r M' := by
  unfold f98 at h
  split at h
  · have h := x_out_ok h
    refine xM_of (by decide) (Nat.le_of_ble_eq_true rfl) (lb98_0 G l _ _ M h) ?_
    intro p e s m args below meth c E B
    exact sb98_0 E B _ _ M h rfl
  · cases h
/-! ZF.Notice.neighbourCost(I)I -/
def ym99 : MethodName := ⟨"ZonedFabric$Notice", "neighbourCost", "(I)I"⟩
theorem cd99 : xCd ym99 prog_8_method_12_code 2 (some FieldType.int) 1 := ⟨mw566, mw46, by decide, by decide, by decide +kernel⟩
def b99_0 (a0 : Nat) (v1 : Int32) (M : hM) : Option xRes :=
  Option.bind (g_o M 6 (some a0)) fun b_3 =>
  Option.bind (c_I (f96 [.inr (.inr (some b_3)), .inl ((8 : Int32) + ((3 : Int32) * v1))] M)) fun q_1 =>
  some (.inl (some (.inl q_1.1), q_1.2))
def f99 (as : List aV) (M : hM) : xO := match as with
  | [.inr (.inr (some a0)), .inl v1] => x_out (b99_0 a0 v1 M)
  | _ => none
theorem lb99_0 (G : gX) (l : Launch) (a0 : Nat) (v1 : Int32) (M : hM) {res : xRes} (h : b99_0 a0 v1 M = some res) : h_sz M ≤ r_sz res ∧ h_sl M ≤ r_sl res := by
  unfold b99_0 at h
  obtain ⟨b_3, h4, h⟩ := bd h
  obtain ⟨q_1, h2, h⟩ := bd h
  have eh2 := (t96 G l (c_I_some h2)).1
  obtain rfl := Option.some.inj h
  show h_sz M ≤ h_sz q_1.2 ∧ h_sl M ≤ h_sl q_1.2
  omega
section
variable {p : Program} {l : Launch} {e : Env} {s : State} {m : MethodId} {args : Array Value} {below : List Frame} {meth : Method} {c : Code} {G : gX} {z0 y0 : Nat} {r : Option aV} {M' : hM}
theorem sb99_0 (E : xE G p (xRm 1 (h_sz M' - z0) (h_sl M' - y0)) s m args c prog_8_method_12_code "ZonedFabric$Notice" z0 y0 (h_sz M') (h_sl M') 2) (B : xB ym99 (some FieldType.int) meth) (a0 : Nat) (v1 : Int32) (M : hM) {res : xRes} (h : b99_0 a0 v1 M = some res) (hN : xN (fun _ _ _ => False) r M' res) : xV G p l e (xRm 1 (h_sz M' - z0) (h_sl M' - y0)) s m args below meth c z0 y0 (h_sz M') (h_sl M') 2 (MQ below (xQc G r M') args s (h_sz M' - z0) (h_sl M' - y0) (xFr G)) 0 [(0, .inr (.inr (some a0))), (1, .inl v1)] [] M := by
  unfold b99_0 at h
  refine xv_b E [.aload_n 0, .bipush 8, .iconst 3, .iload_n 1, .imul, .iadd] (pc' := 7) (lv' := [(0, .inr (.inr (some a0))), (1, .inl v1)]) (st' := [.inl ((8 : Int32) + ((3 : Int32) * v1)), .inr (.inr (some a0))]) (by decide +kernel) rfl rfl ?_
  obtain ⟨b_3, h4, h⟩ := bd h
  obtain ⟨eh4, th4⟩ := g_o_some h4
  obtain ⟨q_1, h2, h⟩ := bd h
  refine xv_cvo E eh4 6 (as := [.inl ((8 : Int32) + ((3 : Int32) * v1))]) (t96 G l (c_I_some h2)) cd96 mw562 mw563 mw564 (show decode prog_8_method_12_code 7 = .ok (.invokevirtual 19, 3) by decide +kernel) th4 rfl rfl (Nat.le_of_ble_eq_true rfl) ⟨Nat.le_of_ble_eq_true rfl, Nat.le_of_ble_eq_true rfl⟩ ?_
  obtain rfl := Option.some.inj h
  obtain ⟨rfl, rfl⟩ := Prod.mk.inj (show ((some (.inl q_1.1) : Option aV), q_1.2) = (r, M') from hN)
  exact xv_ri E B.1 rfl B.2.1 (show decode prog_8_method_12_code 10 = .ok (.ireturn, 1) by decide +kernel) rfl rfl
end
theorem t99 (G : gX) (l : Launch) {as : List aV} {M : hM} {r : Option aV} {M' : hM} (h : f99 as M = some (r, M')) : xM G l ym99 prog_8_method_12_code 2 (some FieldType.int) 1 as M r M' := by
  unfold f99 at h
  split at h
  · have h := x_out_ok h
    refine xM_of (by decide) (Nat.le_of_ble_eq_true rfl) (lb99_0 G l _ _ M h) ?_
    intro p e s m args below meth c E B
    exact sb99_0 E B _ _ M h rfl
  · cases h
/-! ZF.Switch.noteCosts()V -/
def ym100 : MethodName := ⟨"ZonedFabric$Switch", "noteCosts", "()V"⟩
theorem cd100 : xCd ym100 prog_12_method_22_code 4 none 0 := ⟨mw567, mw51, by decide, by decide, by decide +kernel⟩
def b100_0 (a0 : Nat) (M : hM) : Option xRes :=
  some (.inr (2, [.inr (.inr (some a0)), .inl (0 : Int32)], M))
def b100_2 (a0 : Nat) (v1 : Int32) (M : hM) : Option xRes :=
  Option.bind (g_r M 10 4 (some a0)) fun o_1 =>
  Option.bind (a_ln M 36 o_1) fun v_3 =>
  if v_3 ≤ v1 then
    (some (.inl (none, M)))
  else
    (some (.inr (13, [.inr (.inr (some a0)), .inl v1, .inl (0 : Int32)], M)))
def b100_13 (a0 : Nat) (v1 : Int32) (v2 : Int32) (M : hM) : Option xRes :=
  Option.bind (g_r M 10 4 (some a0)) fun o_6 =>
  Option.bind (a_ln M 36 o_6) fun v_8 =>
  if v_8 ≤ v2 then
    (some (.inr (41, [.inr (.inr (some a0)), .inl v1, .inl (0 : Int32)], M)))
  else
    (Option.bind (g_r M 10 6 (some a0)) fun o_10 =>
    Option.bind (al_r M 50 o_10 v1) fun o_12 =>
    Option.bind (as_i M 20 o_12 v2 (1000000 : Int32)) fun M14 =>
    some (.inr (13, [.inr (.inr (some a0)), .inl v1, .inl (v2 + (1 : Int32))], M14)))
def b100_103 (a0 : Nat) (v1 : Int32) (v2 : Int32) (M : hM) : Option xRes :=
  some (.inr (41, [.inr (.inr (some a0)), .inl v1, .inl (v2 + (1 : Int32))], M))
def b100_41 (a0 : Nat) (v1 : Int32) (v2 : Int32) (M : hM) : Option xRes :=
  Option.bind (g_r M 10 4 (some a0)) fun o_17 =>
  Option.bind (al_r M 36 o_17 v1) fun o_19 =>
  Option.bind (g_o M 6 o_19) fun b_23 =>
  Option.bind (c_I (f97 [.inr (.inr (some b_23))] M)) fun q_21 =>
  if q_21.1 ≤ v2 then
    (some (.inr (2, [.inr (.inr (some a0)), .inl (v1 + (1 : Int32))], q_21.2)))
  else
    (Option.bind (g_r q_21.2 10 4 (some a0)) fun o_25 =>
    Option.bind (al_r q_21.2 36 o_25 v1) fun o_27 =>
    Option.bind (g_o q_21.2 6 o_27) fun b_31 =>
    Option.bind (c_I (f98 [.inr (.inr (some b_31)), .inl v2] q_21.2)) fun q_29 =>
    Option.bind (g_r q_29.2 10 4 (some a0)) fun o_33 =>
    Option.bind (a_ln q_29.2 36 o_33) fun v_35 =>
    if v_35 ≤ q_29.1 then
      (b100_103 a0 v1 v2 q_29.2)
    else
      (Option.bind (g_r q_29.2 10 6 (some a0)) fun o_37 =>
      Option.bind (al_r q_29.2 50 o_37 v1) fun o_39 =>
      Option.bind (g_r q_29.2 10 6 (some a0)) fun o_41 =>
      Option.bind (al_r q_29.2 50 o_41 v1) fun o_43 =>
      Option.bind (al_i q_29.2 20 o_43 q_29.1) fun v_45 =>
      Option.bind (g_r q_29.2 10 4 (some a0)) fun o_47 =>
      Option.bind (al_r q_29.2 36 o_47 v1) fun o_49 =>
      Option.bind (g_o q_29.2 6 o_49) fun b_53 =>
      Option.bind (c_I (f99 [.inr (.inr (some b_53)), .inl v2] q_29.2)) fun q_51 =>
      Option.bind (as_i q_51.2 20 o_39 q_29.1 (if q_51.1 < v_45 then q_51.1 else v_45)) fun M55 =>
      b100_103 a0 v1 v2 M55))
def k100 (h : Nat) (as : List aV) (M : hM) : Option xRes :=
  if h = 2 then (match as with | [.inr (.inr (some a0)), .inl v1] => b100_2 a0 v1 M | _ => none) else
  if h = 13 then (match as with | [.inr (.inr (some a0)), .inl v1, .inl v2] => b100_13 a0 v1 v2 M | _ => none) else
  if h = 41 then (match as with | [.inr (.inr (some a0)), .inl v1, .inl v2] => b100_41 a0 v1 v2 M | _ => none) else
  none
def f100 (as : List aV) (M : hM) : xO := match as with
  | [.inr (.inr (some a0))] => x_go k100 (b100_0 a0 M)
  | _ => none
theorem lb100_0 (G : gX) (l : Launch) (a0 : Nat) (M : hM) {res : xRes} (h : b100_0 a0 M = some res) : h_sz M ≤ r_sz res ∧ h_sl M ≤ r_sl res := by
  unfold b100_0 at h
  obtain rfl := Option.some.inj h
  show h_sz M ≤ h_sz M ∧ h_sl M ≤ h_sl M
  omega
theorem lb100_2 (G : gX) (l : Launch) (a0 : Nat) (v1 : Int32) (M : hM) {res : xRes} (h : b100_2 a0 v1 M = some res) : h_sz M ≤ r_sz res ∧ h_sl M ≤ r_sl res := by
  unfold b100_2 at h
  obtain ⟨o_1, h2, h⟩ := bd h
  obtain ⟨v_3, h4, h⟩ := bd h
  by_cases q5 : v_3 ≤ v1
  · rw [if_pos q5] at h
    obtain rfl := Option.some.inj h
    show h_sz M ≤ h_sz M ∧ h_sl M ≤ h_sl M
    omega
  · rw [if_neg q5] at h
    obtain rfl := Option.some.inj h
    show h_sz M ≤ h_sz M ∧ h_sl M ≤ h_sl M
    omega
theorem lb100_13 (G : gX) (l : Launch) (a0 : Nat) (v1 : Int32) (v2 : Int32) (M : hM) {res : xRes} (h : b100_13 a0 v1 v2 M = some res) : h_sz M ≤ r_sz res ∧ h_sl M ≤ r_sl res := by
  unfold b100_13 at h
  obtain ⟨o_6, h7, h⟩ := bd h
  obtain ⟨v_8, h9, h⟩ := bd h
  by_cases q16 : v_8 ≤ v2
  · rw [if_pos q16] at h
    obtain rfl := Option.some.inj h
    show h_sz M ≤ h_sz M ∧ h_sl M ≤ h_sl M
    omega
  · rw [if_neg q16] at h
    obtain ⟨o_10, h11, h⟩ := bd h
    obtain ⟨o_12, h13, h⟩ := bd h
    obtain ⟨M14, h15, h⟩ := bd h
    have eh15 := as_i_sz h15
    obtain rfl := Option.some.inj h
    show h_sz M ≤ h_sz M14 ∧ h_sl M ≤ h_sl M14
    omega
theorem lb100_103 (G : gX) (l : Launch) (a0 : Nat) (v1 : Int32) (v2 : Int32) (M : hM) {res : xRes} (h : b100_103 a0 v1 v2 M = some res) : h_sz M ≤ r_sz res ∧ h_sl M ≤ r_sl res := by
  unfold b100_103 at h
  obtain rfl := Option.some.inj h
  show h_sz M ≤ h_sz M ∧ h_sl M ≤ h_sl M
  omega
theorem lb100_41 (G : gX) (l : Launch) (a0 : Nat) (v1 : Int32) (v2 : Int32) (M : hM) {res : xRes} (h : b100_41 a0 v1 v2 M = some res) : h_sz M ≤ r_sz res ∧ h_sl M ≤ r_sl res := by
  unfold b100_41 at h
  obtain ⟨o_17, h18, h⟩ := bd h
  obtain ⟨o_19, h20, h⟩ := bd h
  obtain ⟨b_23, h24, h⟩ := bd h
  obtain ⟨q_21, h22, h⟩ := bd h
  have eh22 := (t97 G l (c_I_some h22)).1
  by_cases q58 : q_21.1 ≤ v2
  · rw [if_pos q58] at h
    obtain rfl := Option.some.inj h
    show h_sz M ≤ h_sz q_21.2 ∧ h_sl M ≤ h_sl q_21.2
    omega
  · rw [if_neg q58] at h
    obtain ⟨o_25, h26, h⟩ := bd h
    obtain ⟨o_27, h28, h⟩ := bd h
    obtain ⟨b_31, h32, h⟩ := bd h
    obtain ⟨q_29, h30, h⟩ := bd h
    have eh30 := (t98 G l (c_I_some h30)).1
    obtain ⟨o_33, h34, h⟩ := bd h
    obtain ⟨v_35, h36, h⟩ := bd h
    by_cases q57 : v_35 ≤ q_29.1
    · rw [if_pos q57] at h
      have e := lb100_103 G l a0 v1 v2 q_29.2 h
      omega
    · rw [if_neg q57] at h
      obtain ⟨o_37, h38, h⟩ := bd h
      obtain ⟨o_39, h40, h⟩ := bd h
      obtain ⟨o_41, h42, h⟩ := bd h
      obtain ⟨o_43, h44, h⟩ := bd h
      obtain ⟨v_45, h46, h⟩ := bd h
      obtain ⟨o_47, h48, h⟩ := bd h
      obtain ⟨o_49, h50, h⟩ := bd h
      obtain ⟨b_53, h54, h⟩ := bd h
      obtain ⟨q_51, h52, h⟩ := bd h
      have eh52 := (t99 G l (c_I_some h52)).1
      obtain ⟨M55, h56, h⟩ := bd h
      have eh56 := as_i_sz h56
      have e := lb100_103 G l a0 v1 v2 M55 h
      omega
section
variable {p : Program} {l : Launch} {e : Env} {s : State} {m : MethodId} {args : Array Value} {below : List Frame} {meth : Method} {c : Code} {G : gX} {z0 y0 : Nat} {r : Option aV} {M' : hM}
def pg100 (p : Program) (l : Launch) (e : Env) (s : State) (m : MethodId) (args : Array Value) (below : List Frame) (meth : Method) (c : Code) (G : gX) (z0 y0 : Nat) (r : Option aV) (M' : hM) (h : Nat) (as : List aV) (M : hM) : Prop :=
  if h = 2 then (match as with | [.inr (.inr (some a0)), .inl v1] => xV G p l e (xRm 2 (h_sz M' - z0) (h_sl M' - y0)) s m args below meth c z0 y0 (h_sz M') (h_sl M') 4 (MQ below (xQc G r M') args s (h_sz M' - z0) (h_sl M' - y0) (xFr G)) 2 [(0, .inr (.inr (some a0))), (1, .inl v1)] [] M | _ => False) else
  if h = 13 then (match as with | [.inr (.inr (some a0)), .inl v1, .inl v2] => xV G p l e (xRm 2 (h_sz M' - z0) (h_sl M' - y0)) s m args below meth c z0 y0 (h_sz M') (h_sl M') 4 (MQ below (xQc G r M') args s (h_sz M' - z0) (h_sl M' - y0) (xFr G)) 13 [(0, .inr (.inr (some a0))), (1, .inl v1), (2, .inl v2)] [] M | _ => False) else
  if h = 41 then (match as with | [.inr (.inr (some a0)), .inl v1, .inl v2] => xV G p l e (xRm 2 (h_sz M' - z0) (h_sl M' - y0)) s m args below meth c z0 y0 (h_sz M') (h_sl M') 4 (MQ below (xQc G r M') args s (h_sz M' - z0) (h_sl M' - y0) (xFr G)) 41 [(0, .inr (.inr (some a0))), (1, .inl v1), (2, .inl v2)] [] M | _ => False) else
  False
theorem sb100_0 (E : xE G p (xRm 2 (h_sz M' - z0) (h_sl M' - y0)) s m args c prog_12_method_22_code "ZonedFabric$Switch" z0 y0 (h_sz M') (h_sl M') 4) (B : xB ym100 none meth) (a0 : Nat) (M : hM) {res : xRes} (h : b100_0 a0 M = some res) (hN : xN (pg100 p l e s m args below meth c G z0 y0 r M') r M' res) : xV G p l e (xRm 2 (h_sz M' - z0) (h_sl M' - y0)) s m args below meth c z0 y0 (h_sz M') (h_sl M') 4 (MQ below (xQc G r M') args s (h_sz M' - z0) (h_sl M' - y0) (xFr G)) 0 [(0, .inr (.inr (some a0)))] [] M := by
  unfold b100_0 at h
  refine xv_b E [.iconst 0, .istore_n 1] (pc' := 2) (lv' := [(1, .inl (0 : Int32)), (0, .inr (.inr (some a0)))]) (st' := []) (by decide +kernel) rfl rfl ?_
  obtain rfl := Option.some.inj h
  exact xv_w hN rfl
theorem sb100_2 (E : xE G p (xRm 2 (h_sz M' - z0) (h_sl M' - y0)) s m args c prog_12_method_22_code "ZonedFabric$Switch" z0 y0 (h_sz M') (h_sl M') 4) (B : xB ym100 none meth) (a0 : Nat) (v1 : Int32) (M : hM) {res : xRes} (h : b100_2 a0 v1 M = some res) (hN : xN (pg100 p l e s m args below meth c G z0 y0 r M') r M' res) : xV G p l e (xRm 2 (h_sz M' - z0) (h_sl M' - y0)) s m args below meth c z0 y0 (h_sz M') (h_sl M') 4 (MQ below (xQc G r M') args s (h_sz M' - z0) (h_sl M' - y0) (xFr G)) 2 [(0, .inr (.inr (some a0))), (1, .inl v1)] [] M := by
  unfold b100_2 at h
  refine xv_b E [.iload_n 1, .aload_n 0] (pc' := 4) (lv' := [(0, .inr (.inr (some a0))), (1, .inl v1)]) (st' := [.inr (.inr (some a0)), .inl v1]) (by decide +kernel) rfl rfl ?_
  obtain ⟨o_1, h2, h⟩ := bd h
  refine xg_r E 10 4 h2 mw63 (show decode prog_12_method_22_code 4 = .ok (.getfield 44, 3) by decide +kernel) ?_
  obtain ⟨v_3, h4, h⟩ := bd h
  refine xa_n E 36 h4 (show decode prog_12_method_22_code 7 = .ok (.arraylength, 1) by decide +kernel) ?_
  by_cases q5 : v_3 ≤ v1
  · rw [if_pos q5] at h
    refine xv_icmp_ge E 115 (show decode prog_12_method_22_code 8 = .ok (.if_icmp .ge (107), 3) by decide +kernel) rfl (fun _ => ?_) (fun z => absurd q5 z)
    obtain rfl := Option.some.inj h
    obtain ⟨rfl, rfl⟩ := Prod.mk.inj (show ((none : Option aV), M) = (r, M') from hN)
    exact xv_rv E B.1 B.2.1 (show decode prog_12_method_22_code 115 = .ok (.return_, 1) by decide +kernel) rfl rfl
  · rw [if_neg q5] at h
    refine xv_icmp_ge E 115 (show decode prog_12_method_22_code 8 = .ok (.if_icmp .ge (107), 3) by decide +kernel) rfl (fun z => absurd z q5) (fun _ => ?_)
    refine xv_b E [.iconst 0, .istore_n 2] (pc' := 13) (lv' := [(2, .inl (0 : Int32)), (0, .inr (.inr (some a0))), (1, .inl v1)]) (st' := []) (by decide +kernel) rfl rfl ?_
    obtain rfl := Option.some.inj h
    exact xv_w hN rfl
theorem sb100_13 (E : xE G p (xRm 2 (h_sz M' - z0) (h_sl M' - y0)) s m args c prog_12_method_22_code "ZonedFabric$Switch" z0 y0 (h_sz M') (h_sl M') 4) (B : xB ym100 none meth) (a0 : Nat) (v1 : Int32) (v2 : Int32) (M : hM) {res : xRes} (h : b100_13 a0 v1 v2 M = some res) (hN : xN (pg100 p l e s m args below meth c G z0 y0 r M') r M' res) : xV G p l e (xRm 2 (h_sz M' - z0) (h_sl M' - y0)) s m args below meth c z0 y0 (h_sz M') (h_sl M') 4 (MQ below (xQc G r M') args s (h_sz M' - z0) (h_sl M' - y0) (xFr G)) 13 [(0, .inr (.inr (some a0))), (1, .inl v1), (2, .inl v2)] [] M := by
  unfold b100_13 at h
  refine xv_b E [.iload_n 2, .aload_n 0] (pc' := 15) (lv' := [(0, .inr (.inr (some a0))), (1, .inl v1), (2, .inl v2)]) (st' := [.inr (.inr (some a0)), .inl v2]) (by decide +kernel) rfl rfl ?_
  obtain ⟨o_6, h7, h⟩ := bd h
  refine xg_r E 10 4 h7 mw63 (show decode prog_12_method_22_code 15 = .ok (.getfield 44, 3) by decide +kernel) ?_
  obtain ⟨v_8, h9, h⟩ := bd h
  refine xa_n E 36 h9 (show decode prog_12_method_22_code 18 = .ok (.arraylength, 1) by decide +kernel) ?_
  by_cases q16 : v_8 ≤ v2
  · rw [if_pos q16] at h
    refine xv_icmp_ge E 39 (show decode prog_12_method_22_code 19 = .ok (.if_icmp .ge (20), 3) by decide +kernel) rfl (fun _ => ?_) (fun z => absurd q16 z)
    refine xv_b E [.iconst 0, .istore_n 2] (pc' := 41) (lv' := [(2, .inl (0 : Int32)), (0, .inr (.inr (some a0))), (1, .inl v1)]) (st' := []) (by decide +kernel) rfl rfl ?_
    obtain rfl := Option.some.inj h
    exact xv_w hN rfl
  · rw [if_neg q16] at h
    refine xv_icmp_ge E 39 (show decode prog_12_method_22_code 19 = .ok (.if_icmp .ge (20), 3) by decide +kernel) rfl (fun z => absurd z q16) (fun _ => ?_)
    refine xv_b E [.aload_n 0] (pc' := 23) (lv' := [(0, .inr (.inr (some a0))), (1, .inl v1), (2, .inl v2)]) (st' := [.inr (.inr (some a0))]) (by decide +kernel) rfl rfl ?_
    obtain ⟨o_10, h11, h⟩ := bd h
    refine xg_r E 10 6 h11 mw65 (show decode prog_12_method_22_code 23 = .ok (.getfield 50, 3) by decide +kernel) ?_
    refine xv_b E [.iload_n 1] (pc' := 27) (lv' := [(0, .inr (.inr (some a0))), (1, .inl v1), (2, .inl v2)]) (st' := [.inl v1, .inr (.inr o_10)]) (by decide +kernel) rfl rfl ?_
    obtain ⟨o_12, h13, h⟩ := bd h
    refine xa_r E 50 h13 (show decode prog_12_method_22_code 27 = .ok (.aaload, 1) by decide +kernel) ?_
    refine xv_b E [.iload_n 2] (pc' := 29) (lv' := [(0, .inr (.inr (some a0))), (1, .inl v1), (2, .inl v2)]) (st' := [.inl v2, .inr (.inr o_12)]) (by decide +kernel) rfl rfl ?_
    refine xv_ldcw E (1000000 : Int32) mw568 (show decode prog_12_method_22_code 29 = .ok (.ldc_w 286, 3) by decide +kernel) ?_
    obtain ⟨M14, h15, h⟩ := bd h
    refine xs_i E h15 (show decode prog_12_method_22_code 32 = .ok (.iastore, 1) by decide +kernel) ?_
    refine xv_b E [.iinc 2 1] (pc' := 36) (lv' := [(2, .inl (v2 + (1 : Int32))), (0, .inr (.inr (some a0))), (1, .inl v1)]) (st' := []) (by decide +kernel) rfl rfl ?_
    refine xv_goto E 13 (show decode prog_12_method_22_code 36 = .ok (.goto (-23), 3) by decide +kernel) rfl ?_
    obtain rfl := Option.some.inj h
    exact xv_w hN rfl
theorem sb100_103 (E : xE G p (xRm 2 (h_sz M' - z0) (h_sl M' - y0)) s m args c prog_12_method_22_code "ZonedFabric$Switch" z0 y0 (h_sz M') (h_sl M') 4) (B : xB ym100 none meth) (a0 : Nat) (v1 : Int32) (v2 : Int32) (M : hM) {res : xRes} (h : b100_103 a0 v1 v2 M = some res) (hN : xN (pg100 p l e s m args below meth c G z0 y0 r M') r M' res) : xV G p l e (xRm 2 (h_sz M' - z0) (h_sl M' - y0)) s m args below meth c z0 y0 (h_sz M') (h_sl M') 4 (MQ below (xQc G r M') args s (h_sz M' - z0) (h_sl M' - y0) (xFr G)) 103 [(0, .inr (.inr (some a0))), (1, .inl v1), (2, .inl v2)] [] M := by
  unfold b100_103 at h
  refine xv_b E [.iinc 2 1] (pc' := 106) (lv' := [(2, .inl (v2 + (1 : Int32))), (0, .inr (.inr (some a0))), (1, .inl v1)]) (st' := []) (by decide +kernel) rfl rfl ?_
  refine xv_goto E 41 (show decode prog_12_method_22_code 106 = .ok (.goto (-65), 3) by decide +kernel) rfl ?_
  obtain rfl := Option.some.inj h
  exact xv_w hN rfl
theorem sb100_41 (E : xE G p (xRm 2 (h_sz M' - z0) (h_sl M' - y0)) s m args c prog_12_method_22_code "ZonedFabric$Switch" z0 y0 (h_sz M') (h_sl M') 4) (B : xB ym100 none meth) (a0 : Nat) (v1 : Int32) (v2 : Int32) (M : hM) {res : xRes} (h : b100_41 a0 v1 v2 M = some res) (hN : xN (pg100 p l e s m args below meth c G z0 y0 r M') r M' res) : xV G p l e (xRm 2 (h_sz M' - z0) (h_sl M' - y0)) s m args below meth c z0 y0 (h_sz M') (h_sl M') 4 (MQ below (xQc G r M') args s (h_sz M' - z0) (h_sl M' - y0) (xFr G)) 41 [(0, .inr (.inr (some a0))), (1, .inl v1), (2, .inl v2)] [] M := by
  unfold b100_41 at h
  refine xv_b E [.iload_n 2, .aload_n 0] (pc' := 43) (lv' := [(0, .inr (.inr (some a0))), (1, .inl v1), (2, .inl v2)]) (st' := [.inr (.inr (some a0)), .inl v2]) (by decide +kernel) rfl rfl ?_
  obtain ⟨o_17, h18, h⟩ := bd h
  refine xg_r E 10 4 h18 mw63 (show decode prog_12_method_22_code 43 = .ok (.getfield 44, 3) by decide +kernel) ?_
  refine xv_b E [.iload_n 1] (pc' := 47) (lv' := [(0, .inr (.inr (some a0))), (1, .inl v1), (2, .inl v2)]) (st' := [.inl v1, .inr (.inr o_17), .inl v2]) (by decide +kernel) rfl rfl ?_
  obtain ⟨o_19, h20, h⟩ := bd h
  refine xa_r E 36 h20 (show decode prog_12_method_22_code 47 = .ok (.aaload, 1) by decide +kernel) ?_
  obtain ⟨b_23, h24, h⟩ := bd h
  obtain ⟨eh24, th24⟩ := g_o_some h24
  obtain ⟨q_21, h22, h⟩ := bd h
  refine xv_cvo E eh24 6 (as := []) (t97 G l (c_I_some h22)) cd97 mw569 mw570 mw571 (show decode prog_12_method_22_code 48 = .ok (.invokevirtual 287, 3) by decide +kernel) th24 rfl rfl (Nat.le_of_ble_eq_true rfl) ⟨Nat.le_of_ble_eq_true rfl, Nat.le_of_ble_eq_true rfl⟩ ?_
  by_cases q58 : q_21.1 ≤ v2
  · rw [if_pos q58] at h
    refine xv_icmp_ge E 109 (show decode prog_12_method_22_code 51 = .ok (.if_icmp .ge (58), 3) by decide +kernel) rfl (fun _ => ?_) (fun z => absurd q58 z)
    refine xv_b E [.iinc 1 1] (pc' := 112) (lv' := [(1, .inl (v1 + (1 : Int32))), (0, .inr (.inr (some a0))), (2, .inl v2)]) (st' := []) (by decide +kernel) rfl rfl ?_
    refine xv_goto E 2 (show decode prog_12_method_22_code 112 = .ok (.goto (-110), 3) by decide +kernel) rfl ?_
    obtain rfl := Option.some.inj h
    exact xv_w hN rfl
  · rw [if_neg q58] at h
    refine xv_icmp_ge E 109 (show decode prog_12_method_22_code 51 = .ok (.if_icmp .ge (58), 3) by decide +kernel) rfl (fun z => absurd z q58) (fun _ => ?_)
    refine xv_b E [.aload_n 0] (pc' := 55) (lv' := [(0, .inr (.inr (some a0))), (1, .inl v1), (2, .inl v2)]) (st' := [.inr (.inr (some a0))]) (by decide +kernel) rfl rfl ?_
    obtain ⟨o_25, h26, h⟩ := bd h
    refine xg_r E 10 4 h26 mw63 (show decode prog_12_method_22_code 55 = .ok (.getfield 44, 3) by decide +kernel) ?_
    refine xv_b E [.iload_n 1] (pc' := 59) (lv' := [(0, .inr (.inr (some a0))), (1, .inl v1), (2, .inl v2)]) (st' := [.inl v1, .inr (.inr o_25)]) (by decide +kernel) rfl rfl ?_
    obtain ⟨o_27, h28, h⟩ := bd h
    refine xa_r E 36 h28 (show decode prog_12_method_22_code 59 = .ok (.aaload, 1) by decide +kernel) ?_
    refine xv_b E [.iload_n 2] (pc' := 61) (lv' := [(0, .inr (.inr (some a0))), (1, .inl v1), (2, .inl v2)]) (st' := [.inl v2, .inr (.inr o_27)]) (by decide +kernel) rfl rfl ?_
    obtain ⟨b_31, h32, h⟩ := bd h
    obtain ⟨eh32, th32⟩ := g_o_some h32
    obtain ⟨q_29, h30, h⟩ := bd h
    refine xv_cvo E eh32 6 (as := [.inl v2]) (t98 G l (c_I_some h30)) cd98 mw572 mw573 mw574 (show decode prog_12_method_22_code 61 = .ok (.invokevirtual 290, 3) by decide +kernel) th32 rfl rfl (Nat.le_of_ble_eq_true rfl) ⟨Nat.le_of_ble_eq_true rfl, Nat.le_of_ble_eq_true rfl⟩ ?_
    refine xv_b E [.istore_n 3, .iload_n 3, .aload_n 0] (pc' := 67) (lv' := [(3, .inl q_29.1), (0, .inr (.inr (some a0))), (1, .inl v1), (2, .inl v2)]) (st' := [.inr (.inr (some a0)), .inl q_29.1]) (by decide +kernel) rfl rfl ?_
    obtain ⟨o_33, h34, h⟩ := bd h
    refine xg_r E 10 4 h34 mw63 (show decode prog_12_method_22_code 67 = .ok (.getfield 44, 3) by decide +kernel) ?_
    obtain ⟨v_35, h36, h⟩ := bd h
    refine xa_n E 36 h36 (show decode prog_12_method_22_code 70 = .ok (.arraylength, 1) by decide +kernel) ?_
    by_cases q57 : v_35 ≤ q_29.1
    · rw [if_pos q57] at h
      refine xv_icmp_ge E 103 (show decode prog_12_method_22_code 71 = .ok (.if_icmp .ge (32), 3) by decide +kernel) rfl (fun _ => ?_) (fun z => absurd q57 z)
      exact xv_w (sb100_103 E B a0 v1 v2 q_29.2 h hN) rfl
    · rw [if_neg q57] at h
      refine xv_icmp_ge E 103 (show decode prog_12_method_22_code 71 = .ok (.if_icmp .ge (32), 3) by decide +kernel) rfl (fun z => absurd z q57) (fun _ => ?_)
      refine xv_b E [.aload_n 0] (pc' := 75) (lv' := [(3, .inl q_29.1), (0, .inr (.inr (some a0))), (1, .inl v1), (2, .inl v2)]) (st' := [.inr (.inr (some a0))]) (by decide +kernel) rfl rfl ?_
      obtain ⟨o_37, h38, h⟩ := bd h
      refine xg_r E 10 6 h38 mw65 (show decode prog_12_method_22_code 75 = .ok (.getfield 50, 3) by decide +kernel) ?_
      refine xv_b E [.iload_n 1] (pc' := 79) (lv' := [(3, .inl q_29.1), (0, .inr (.inr (some a0))), (1, .inl v1), (2, .inl v2)]) (st' := [.inl v1, .inr (.inr o_37)]) (by decide +kernel) rfl rfl ?_
      obtain ⟨o_39, h40, h⟩ := bd h
      refine xa_r E 50 h40 (show decode prog_12_method_22_code 79 = .ok (.aaload, 1) by decide +kernel) ?_
      refine xv_b E [.iload_n 3, .aload_n 0] (pc' := 82) (lv' := [(3, .inl q_29.1), (0, .inr (.inr (some a0))), (1, .inl v1), (2, .inl v2)]) (st' := [.inr (.inr (some a0)), .inl q_29.1, .inr (.inr o_39)]) (by decide +kernel) rfl rfl ?_
      obtain ⟨o_41, h42, h⟩ := bd h
      refine xg_r E 10 6 h42 mw65 (show decode prog_12_method_22_code 82 = .ok (.getfield 50, 3) by decide +kernel) ?_
      refine xv_b E [.iload_n 1] (pc' := 86) (lv' := [(3, .inl q_29.1), (0, .inr (.inr (some a0))), (1, .inl v1), (2, .inl v2)]) (st' := [.inl v1, .inr (.inr o_41), .inl q_29.1, .inr (.inr o_39)]) (by decide +kernel) rfl rfl ?_
      obtain ⟨o_43, h44, h⟩ := bd h
      refine xa_r E 50 h44 (show decode prog_12_method_22_code 86 = .ok (.aaload, 1) by decide +kernel) ?_
      refine xv_b E [.iload_n 3] (pc' := 88) (lv' := [(3, .inl q_29.1), (0, .inr (.inr (some a0))), (1, .inl v1), (2, .inl v2)]) (st' := [.inl q_29.1, .inr (.inr o_43), .inl q_29.1, .inr (.inr o_39)]) (by decide +kernel) rfl rfl ?_
      obtain ⟨v_45, h46, h⟩ := bd h
      refine xa_i E h46 (show decode prog_12_method_22_code 88 = .ok (.iaload, 1) by decide +kernel) ?_
      refine xv_b E [.aload_n 0] (pc' := 90) (lv' := [(3, .inl q_29.1), (0, .inr (.inr (some a0))), (1, .inl v1), (2, .inl v2)]) (st' := [.inr (.inr (some a0)), .inl v_45, .inl q_29.1, .inr (.inr o_39)]) (by decide +kernel) rfl rfl ?_
      obtain ⟨o_47, h48, h⟩ := bd h
      refine xg_r E 10 4 h48 mw63 (show decode prog_12_method_22_code 90 = .ok (.getfield 44, 3) by decide +kernel) ?_
      refine xv_b E [.iload_n 1] (pc' := 94) (lv' := [(3, .inl q_29.1), (0, .inr (.inr (some a0))), (1, .inl v1), (2, .inl v2)]) (st' := [.inl v1, .inr (.inr o_47), .inl v_45, .inl q_29.1, .inr (.inr o_39)]) (by decide +kernel) rfl rfl ?_
      obtain ⟨o_49, h50, h⟩ := bd h
      refine xa_r E 36 h50 (show decode prog_12_method_22_code 94 = .ok (.aaload, 1) by decide +kernel) ?_
      refine xv_b E [.iload_n 2] (pc' := 96) (lv' := [(3, .inl q_29.1), (0, .inr (.inr (some a0))), (1, .inl v1), (2, .inl v2)]) (st' := [.inl v2, .inr (.inr o_49), .inl v_45, .inl q_29.1, .inr (.inr o_39)]) (by decide +kernel) rfl rfl ?_
      obtain ⟨b_53, h54, h⟩ := bd h
      obtain ⟨eh54, th54⟩ := g_o_some h54
      obtain ⟨q_51, h52, h⟩ := bd h
      refine xv_cvo E eh54 6 (as := [.inl v2]) (t99 G l (c_I_some h52)) cd99 mw575 mw576 mw577 (show decode prog_12_method_22_code 96 = .ok (.invokevirtual 293, 3) by decide +kernel) th54 rfl rfl (Nat.le_of_ble_eq_true rfl) ⟨Nat.le_of_ble_eq_true rfl, Nat.le_of_ble_eq_true rfl⟩ ?_
      refine xv_min E mw578 mw235 mw236 mwMin (show decode prog_12_method_22_code 99 = .ok (.invokestatic 296, 3) by decide +kernel) (Nat.le_of_ble_eq_true rfl) ⟨Nat.le_of_ble_eq_true rfl, Nat.le_of_ble_eq_true rfl⟩ ?_
      obtain ⟨M55, h56, h⟩ := bd h
      refine xs_i E h56 (show decode prog_12_method_22_code 102 = .ok (.iastore, 1) by decide +kernel) ?_
      exact xv_w (sb100_103 E B a0 v1 v2 M55 h hN) rfl
end
theorem t100 (G : gX) (l : Launch) {as : List aV} {M : hM} {r : Option aV} {M' : hM} (h : f100 as M = some (r, M')) : xM G l ym100 prog_12_method_22_code 4 none 2 as M r M' := by
  unfold f100 at h
  split at h
  · have hle : ∀ h as M res, k100 h as M = some res → h_sz M ≤ r_sz res ∧ h_sl M ≤ r_sl res := by
      intro h as M res hb
      unfold k100 at hb
      by_cases e0 : h = 2
      · rw [if_pos e0] at hb
        split at hb
        · exact lb100_2 G l _ _ M hb
        · cases hb
      · rw [if_neg e0] at hb
        by_cases e1 : h = 13
        · rw [if_pos e1] at hb
          split at hb
          · exact lb100_13 G l _ _ _ M hb
          · cases hb
        · rw [if_neg e1] at hb
          by_cases e2 : h = 41
          · rw [if_pos e2] at hb
            split at hb
            · exact lb100_41 G l _ _ _ M hb
            · cases hb
          · rw [if_neg e2] at hb
            cases hb
    obtain ⟨res, hx, hres⟩ := x_go_ok h
    refine xM_of (by decide) (Nat.le_of_ble_eq_true rfl) ?_ ?_
    · have e1 := lb100_0 G l _ M hx
      have e2 := x_go_le hle hres
      omega
    · intro p e s m args below meth c E B
      refine sb100_0 E B _ M hx (hres _ ?_)
      intro h as M res hb hN
      unfold k100 at hb
      unfold pg100
      by_cases e0 : h = 2
      · rw [if_pos e0] at hb ⊢
        split at hb
        · exact sb100_2 E B _ _ M hb hN
        · cases hb
      · rw [if_neg e0] at hb ⊢
        by_cases e1 : h = 13
        · rw [if_pos e1] at hb ⊢
          split at hb
          · exact sb100_13 E B _ _ _ M hb hN
          · cases hb
        · rw [if_neg e1] at hb ⊢
          by_cases e2 : h = 41
          · rw [if_pos e2] at hb ⊢
            split at hb
            · exact sb100_41 E B _ _ _ M hb hN
            · cases hb
          · rw [if_neg e2] at hb ⊢
            cases hb
  · cases h
/-! ZF.Switch.areJoined(II)Z -/
def ym101 : MethodName := ⟨"ZonedFabric$Switch", "areJoined", "(II)Z"⟩
theorem cd101 : xCd ym101 prog_12_method_23_code 3 (some FieldType.boolean) 2 := ⟨mw579, mw51, by decide, by decide, by decide +kernel⟩
def b101_33 (si0 : Int32) (M : hM) : Option xRes :=
  if si0 = 0 ∨ si0 = 1 then
    (some (.inl (some (.inl si0), M)))
  else
    none
def b101_32  (M : hM) : Option xRes :=
  b101_33 (0 : Int32) M
def b101_0 (a0 : Nat) (v1 : Int32) (v2 : Int32) (M : hM) : Option xRes :=
  Option.bind (g_r M 10 6 (some a0)) fun o_1 =>
  Option.bind (al_r M 50 o_1 v1) fun o_3 =>
  Option.bind (al_i M 20 o_3 v2) fun v_5 =>
  if (1000000 : Int32) ≤ v_5 then
    (b101_32  M)
  else
    (Option.bind (g_r M 10 6 (some a0)) fun o_7 =>
    Option.bind (al_r M 50 o_7 v2) fun o_9 =>
    Option.bind (al_i M 20 o_9 v1) fun v_11 =>
    if (1000000 : Int32) ≤ v_11 then
      (b101_32  M)
    else
      (b101_33 (1 : Int32) M))
def f101 (as : List aV) (M : hM) : xO := match as with
  | [.inr (.inr (some a0)), .inl v1, .inl v2] => x_out (b101_0 a0 v1 v2 M)
  | _ => none
theorem lb101_33 (G : gX) (l : Launch) (si0 : Int32) (M : hM) {res : xRes} (h : b101_33 si0 M = some res) : h_sz M ≤ r_sz res ∧ h_sl M ≤ r_sl res := by
  unfold b101_33 at h
  by_cases q15 : si0 = 0 ∨ si0 = 1
  · rw [if_pos q15] at h
    obtain rfl := Option.some.inj h
    show h_sz M ≤ h_sz M ∧ h_sl M ≤ h_sl M
    omega
  · rw [if_neg q15] at h
    cases h
theorem lb101_32 (G : gX) (l : Launch)  (M : hM) {res : xRes} (h : b101_32  M = some res) : h_sz M ≤ r_sz res ∧ h_sl M ≤ r_sl res := by
  unfold b101_32 at h
  have e := lb101_33 G l (0 : Int32) M h
  omega
theorem lb101_0 (G : gX) (l : Launch) (a0 : Nat) (v1 : Int32) (v2 : Int32) (M : hM) {res : xRes} (h : b101_0 a0 v1 v2 M = some res) : h_sz M ≤ r_sz res ∧ h_sl M ≤ r_sl res := by
  unfold b101_0 at h
  obtain ⟨o_1, h2, h⟩ := bd h
  obtain ⟨o_3, h4, h⟩ := bd h
  obtain ⟨v_5, h6, h⟩ := bd h
  by_cases q14 : (1000000 : Int32) ≤ v_5
  · rw [if_pos q14] at h
    have e := lb101_32 G l  M h
    omega
  · rw [if_neg q14] at h
    obtain ⟨o_7, h8, h⟩ := bd h
    obtain ⟨o_9, h10, h⟩ := bd h
    obtain ⟨v_11, h12, h⟩ := bd h
    by_cases q13 : (1000000 : Int32) ≤ v_11
    · rw [if_pos q13] at h
      have e := lb101_32 G l  M h
      omega
    · rw [if_neg q13] at h
      have e := lb101_33 G l (1 : Int32) M h
      omega
section
variable {p : Program} {l : Launch} {e : Env} {s : State} {m : MethodId} {args : Array Value} {below : List Frame} {meth : Method} {c : Code} {G : gX} {z0 y0 : Nat} {r : Option aV} {M' : hM}
theorem sb101_33 (E : xE G p (xRm 0 (h_sz M' - z0) (h_sl M' - y0)) s m args c prog_12_method_23_code "ZonedFabric$Switch" z0 y0 (h_sz M') (h_sl M') 3) (B : xB ym101 (some FieldType.boolean) meth) (si0 : Int32) (M : hM) {res : xRes} (h : b101_33 si0 M = some res) (hN : xN (fun _ _ _ => False) r M' res) : xV G p l e (xRm 0 (h_sz M' - z0) (h_sl M' - y0)) s m args below meth c z0 y0 (h_sz M') (h_sl M') 3 (MQ below (xQc G r M') args s (h_sz M' - z0) (h_sl M' - y0) (xFr G)) 33 [] [.inl si0] M := by
  unfold b101_33 at h
  by_cases q15 : si0 = 0 ∨ si0 = 1
  · rw [if_pos q15] at h
    obtain rfl := Option.some.inj h
    obtain ⟨rfl, rfl⟩ := Prod.mk.inj (show ((some (.inl si0) : Option aV), M) = (r, M') from hN)
    exact xv_ri E B.1 (by rcases q15 with z | z <;> rw [z] <;> rfl) B.2.1 (show decode prog_12_method_23_code 33 = .ok (.ireturn, 1) by decide +kernel) rfl rfl
  · rw [if_neg q15] at h
    cases h
theorem sb101_32 (E : xE G p (xRm 0 (h_sz M' - z0) (h_sl M' - y0)) s m args c prog_12_method_23_code "ZonedFabric$Switch" z0 y0 (h_sz M') (h_sl M') 3) (B : xB ym101 (some FieldType.boolean) meth)  (M : hM) {res : xRes} (h : b101_32  M = some res) (hN : xN (fun _ _ _ => False) r M' res) : xV G p l e (xRm 0 (h_sz M' - z0) (h_sl M' - y0)) s m args below meth c z0 y0 (h_sz M') (h_sl M') 3 (MQ below (xQc G r M') args s (h_sz M' - z0) (h_sl M' - y0) (xFr G)) 32 [] [] M := by
  unfold b101_32 at h
  refine xv_b E [.iconst 0] (pc' := 33) (lv' := []) (st' := [.inl (0 : Int32)]) (by decide +kernel) rfl rfl ?_
  exact xv_w (sb101_33 E B (0 : Int32) M h hN) rfl
theorem sb101_0 (E : xE G p (xRm 0 (h_sz M' - z0) (h_sl M' - y0)) s m args c prog_12_method_23_code "ZonedFabric$Switch" z0 y0 (h_sz M') (h_sl M') 3) (B : xB ym101 (some FieldType.boolean) meth) (a0 : Nat) (v1 : Int32) (v2 : Int32) (M : hM) {res : xRes} (h : b101_0 a0 v1 v2 M = some res) (hN : xN (fun _ _ _ => False) r M' res) : xV G p l e (xRm 0 (h_sz M' - z0) (h_sl M' - y0)) s m args below meth c z0 y0 (h_sz M') (h_sl M') 3 (MQ below (xQc G r M') args s (h_sz M' - z0) (h_sl M' - y0) (xFr G)) 0 [(0, .inr (.inr (some a0))), (1, .inl v1), (2, .inl v2)] [] M := by
  unfold b101_0 at h
  refine xv_b E [.aload_n 0] (pc' := 1) (lv' := [(0, .inr (.inr (some a0))), (1, .inl v1), (2, .inl v2)]) (st' := [.inr (.inr (some a0))]) (by decide +kernel) rfl rfl ?_
  obtain ⟨o_1, h2, h⟩ := bd h
  refine xg_r E 10 6 h2 mw65 (show decode prog_12_method_23_code 1 = .ok (.getfield 50, 3) by decide +kernel) ?_
  refine xv_b E [.iload_n 1] (pc' := 5) (lv' := [(0, .inr (.inr (some a0))), (1, .inl v1), (2, .inl v2)]) (st' := [.inl v1, .inr (.inr o_1)]) (by decide +kernel) rfl rfl ?_
  obtain ⟨o_3, h4, h⟩ := bd h
  refine xa_r E 50 h4 (show decode prog_12_method_23_code 5 = .ok (.aaload, 1) by decide +kernel) ?_
  refine xv_b E [.iload_n 2] (pc' := 7) (lv' := [(0, .inr (.inr (some a0))), (1, .inl v1), (2, .inl v2)]) (st' := [.inl v2, .inr (.inr o_3)]) (by decide +kernel) rfl rfl ?_
  obtain ⟨v_5, h6, h⟩ := bd h
  refine xa_i E h6 (show decode prog_12_method_23_code 7 = .ok (.iaload, 1) by decide +kernel) ?_
  refine xv_ldcw E (1000000 : Int32) mw568 (show decode prog_12_method_23_code 8 = .ok (.ldc_w 286, 3) by decide +kernel) ?_
  by_cases q14 : (1000000 : Int32) ≤ v_5
  · rw [if_pos q14] at h
    refine xv_icmp_ge E 32 (show decode prog_12_method_23_code 11 = .ok (.if_icmp .ge (21), 3) by decide +kernel) rfl (fun _ => ?_) (fun z => absurd q14 z)
    exact xv_w (sb101_32 E B  M h hN) rfl
  · rw [if_neg q14] at h
    refine xv_icmp_ge E 32 (show decode prog_12_method_23_code 11 = .ok (.if_icmp .ge (21), 3) by decide +kernel) rfl (fun z => absurd z q14) (fun _ => ?_)
    refine xv_b E [.aload_n 0] (pc' := 15) (lv' := [(0, .inr (.inr (some a0))), (1, .inl v1), (2, .inl v2)]) (st' := [.inr (.inr (some a0))]) (by decide +kernel) rfl rfl ?_
    obtain ⟨o_7, h8, h⟩ := bd h
    refine xg_r E 10 6 h8 mw65 (show decode prog_12_method_23_code 15 = .ok (.getfield 50, 3) by decide +kernel) ?_
    refine xv_b E [.iload_n 2] (pc' := 19) (lv' := [(0, .inr (.inr (some a0))), (1, .inl v1), (2, .inl v2)]) (st' := [.inl v2, .inr (.inr o_7)]) (by decide +kernel) rfl rfl ?_
    obtain ⟨o_9, h10, h⟩ := bd h
    refine xa_r E 50 h10 (show decode prog_12_method_23_code 19 = .ok (.aaload, 1) by decide +kernel) ?_
    refine xv_b E [.iload_n 1] (pc' := 21) (lv' := [(0, .inr (.inr (some a0))), (1, .inl v1), (2, .inl v2)]) (st' := [.inl v1, .inr (.inr o_9)]) (by decide +kernel) rfl rfl ?_
    obtain ⟨v_11, h12, h⟩ := bd h
    refine xa_i E h12 (show decode prog_12_method_23_code 21 = .ok (.iaload, 1) by decide +kernel) ?_
    refine xv_ldcw E (1000000 : Int32) mw568 (show decode prog_12_method_23_code 22 = .ok (.ldc_w 286, 3) by decide +kernel) ?_
    by_cases q13 : (1000000 : Int32) ≤ v_11
    · rw [if_pos q13] at h
      refine xv_icmp_ge E 32 (show decode prog_12_method_23_code 25 = .ok (.if_icmp .ge (7), 3) by decide +kernel) rfl (fun _ => ?_) (fun z => absurd q13 z)
      exact xv_w (sb101_32 E B  M h hN) rfl
    · rw [if_neg q13] at h
      refine xv_icmp_ge E 32 (show decode prog_12_method_23_code 25 = .ok (.if_icmp .ge (7), 3) by decide +kernel) rfl (fun z => absurd z q13) (fun _ => ?_)
      refine xv_b E [.iconst 1] (pc' := 29) (lv' := [(0, .inr (.inr (some a0))), (1, .inl v1), (2, .inl v2)]) (st' := [.inl (1 : Int32)]) (by decide +kernel) rfl rfl ?_
      refine xv_goto E 33 (show decode prog_12_method_23_code 29 = .ok (.goto (4), 3) by decide +kernel) rfl ?_
      exact xv_w (sb101_33 E B (1 : Int32) M h hN) rfl
end
theorem t101 (G : gX) (l : Launch) {as : List aV} {M : hM} {r : Option aV} {M' : hM} (h : f101 as M = some (r, M')) : xM G l ym101 prog_12_method_23_code 3 (some FieldType.boolean) 0 as M r M' := by
  unfold f101 at h
  split at h
  · have h := x_out_ok h
    refine xM_of (by decide) (Nat.le_of_ble_eq_true rfl) (lb101_0 G l _ _ _ M h) ?_
    intro p e s m args below meth c E B
    exact sb101_0 E B _ _ _ M h rfl
  · cases h
/-! ZF.Switch.addUpCosts()V -/
def ym102 : MethodName := ⟨"ZonedFabric$Switch", "addUpCosts", "()V"⟩
theorem cd102 : xCd ym102 prog_12_method_24_code 4 none 0 := ⟨mw580, mw51, by decide, by decide, by decide +kernel⟩
def b102_0 (a0 : Nat) (M : hM) : Option xRes :=
  some (.inr (2, [.inr (.inr (some a0)), .inl (0 : Int32)], M))
def b102_2 (a0 : Nat) (v1 : Int32) (M : hM) : Option xRes :=
  Option.bind (g_r M 10 7 (some a0)) fun o_1 =>
  Option.bind (a_ln M 50 o_1) fun v_3 =>
  if v_3 ≤ v1 then
    (some (.inr (76, [.inr (.inr (some a0)), .inl (0 : Int32)], M)))
  else
    (some (.inr (13, [.inr (.inr (some a0)), .inl v1, .inl (0 : Int32)], M)))
def b102_61 (a0 : Nat) (v1 : Int32) (v2 : Int32) (si0 : Int32) (si1 : Int32) (sr2 : Option Nat) (M : hM) : Option xRes :=
  Option.bind (as_i M 20 sr2 si1 si0) fun M27 =>
  some (.inr (13, [.inr (.inr (some a0)), .inl v1, .inl (v2 + (1 : Int32))], M27))
def b102_13 (a0 : Nat) (v1 : Int32) (v2 : Int32) (M : hM) : Option xRes :=
  Option.bind (g_r M 10 7 (some a0)) fun o_6 =>
  Option.bind (a_ln M 50 o_6) fun v_8 =>
  if v_8 ≤ v2 then
    (some (.inr (2, [.inr (.inr (some a0)), .inl (v1 + (1 : Int32))], M)))
  else
    (Option.bind (g_r M 10 7 (some a0)) fun o_10 =>
    Option.bind (al_r M 50 o_10 v1) fun o_12 =>
    if v1 = v2 then
      (b102_61 a0 v1 v2 (0 : Int32) v2 o_12 M)
    else
      (Option.bind (g_o M 10 (some a0)) fun b_16 =>
      Option.bind (c_I (f101 [.inr (.inr (some b_16)), .inl v1, .inl v2] M)) fun q_14 =>
      if q_14.1 = 0 then
        (b102_61 a0 v1 v2 (1000000 : Int32) v2 o_12 q_14.2)
      else
        (Option.bind (g_r q_14.2 10 6 (some a0)) fun o_18 =>
        Option.bind (al_r q_14.2 50 o_18 v1) fun o_20 =>
        Option.bind (al_i q_14.2 20 o_20 v2) fun v_22 =>
        b102_61 a0 v1 v2 v_22 v2 o_12 q_14.2)))
def b102_76 (a0 : Nat) (v1 : Int32) (M : hM) : Option xRes :=
  Option.bind (g_r M 10 7 (some a0)) fun o_29 =>
  Option.bind (a_ln M 50 o_29) fun v_31 =>
  if v_31 ≤ v1 then
    (some (.inl (none, M)))
  else
    (some (.inr (87, [.inr (.inr (some a0)), .inl v1, .inl (0 : Int32)], M)))
def b102_87 (a0 : Nat) (v1 : Int32) (v2 : Int32) (M : hM) : Option xRes :=
  Option.bind (g_r M 10 7 (some a0)) fun o_34 =>
  Option.bind (a_ln M 50 o_34) fun v_36 =>
  if v_36 ≤ v2 then
    (some (.inr (76, [.inr (.inr (some a0)), .inl (v1 + (1 : Int32))], M)))
  else
    (some (.inr (98, [.inr (.inr (some a0)), .inl v1, .inl v2, .inl (0 : Int32)], M)))
def b102_98 (a0 : Nat) (v1 : Int32) (v2 : Int32) (v3 : Int32) (M : hM) : Option xRes :=
  Option.bind (g_r M 10 7 (some a0)) fun o_39 =>
  Option.bind (a_ln M 50 o_39) fun v_41 =>
  if v_41 ≤ v3 then
    (some (.inr (87, [.inr (.inr (some a0)), .inl v1, .inl (v2 + (1 : Int32))], M)))
  else
    (Option.bind (g_r M 10 7 (some a0)) fun o_43 =>
    Option.bind (al_r M 50 o_43 v2) fun o_45 =>
    Option.bind (g_r M 10 7 (some a0)) fun o_47 =>
    Option.bind (al_r M 50 o_47 v2) fun o_49 =>
    Option.bind (al_i M 20 o_49 v3) fun v_51 =>
    Option.bind (g_r M 10 7 (some a0)) fun o_53 =>
    Option.bind (al_r M 50 o_53 v2) fun o_55 =>
    Option.bind (al_i M 20 o_55 v1) fun v_57 =>
    Option.bind (g_r M 10 7 (some a0)) fun o_59 =>
    Option.bind (al_r M 50 o_59 v1) fun o_61 =>
    Option.bind (al_i M 20 o_61 v3) fun v_63 =>
    Option.bind (as_i M 20 o_45 v3 (if (v_57 + v_63) < v_51 then (v_57 + v_63) else v_51)) fun M65 =>
    some (.inr (98, [.inr (.inr (some a0)), .inl v1, .inl v2, .inl (v3 + (1 : Int32))], M65)))
def k102 (h : Nat) (as : List aV) (M : hM) : Option xRes :=
  if h = 2 then (match as with | [.inr (.inr (some a0)), .inl v1] => b102_2 a0 v1 M | _ => none) else
  if h = 13 then (match as with | [.inr (.inr (some a0)), .inl v1, .inl v2] => b102_13 a0 v1 v2 M | _ => none) else
  if h = 76 then (match as with | [.inr (.inr (some a0)), .inl v1] => b102_76 a0 v1 M | _ => none) else
  if h = 87 then (match as with | [.inr (.inr (some a0)), .inl v1, .inl v2] => b102_87 a0 v1 v2 M | _ => none) else
  if h = 98 then (match as with | [.inr (.inr (some a0)), .inl v1, .inl v2, .inl v3] => b102_98 a0 v1 v2 v3 M | _ => none) else
  none
def f102 (as : List aV) (M : hM) : xO := match as with
  | [.inr (.inr (some a0))] => x_go k102 (b102_0 a0 M)
  | _ => none
theorem lb102_0 (G : gX) (l : Launch) (a0 : Nat) (M : hM) {res : xRes} (h : b102_0 a0 M = some res) : h_sz M ≤ r_sz res ∧ h_sl M ≤ r_sl res := by
  unfold b102_0 at h
  obtain rfl := Option.some.inj h
  show h_sz M ≤ h_sz M ∧ h_sl M ≤ h_sl M
  omega
theorem lb102_2 (G : gX) (l : Launch) (a0 : Nat) (v1 : Int32) (M : hM) {res : xRes} (h : b102_2 a0 v1 M = some res) : h_sz M ≤ r_sz res ∧ h_sl M ≤ r_sl res := by
  unfold b102_2 at h
  obtain ⟨o_1, h2, h⟩ := bd h
  obtain ⟨v_3, h4, h⟩ := bd h
  by_cases q5 : v_3 ≤ v1
  · rw [if_pos q5] at h
    obtain rfl := Option.some.inj h
    show h_sz M ≤ h_sz M ∧ h_sl M ≤ h_sl M
    omega
  · rw [if_neg q5] at h
    obtain rfl := Option.some.inj h
    show h_sz M ≤ h_sz M ∧ h_sl M ≤ h_sl M
    omega
theorem lb102_61 (G : gX) (l : Launch) (a0 : Nat) (v1 : Int32) (v2 : Int32) (si0 : Int32) (si1 : Int32) (sr2 : Option Nat) (M : hM) {res : xRes} (h : b102_61 a0 v1 v2 si0 si1 sr2 M = some res) : h_sz M ≤ r_sz res ∧ h_sl M ≤ r_sl res := by
  unfold b102_61 at h
  obtain ⟨M27, h28, h⟩ := bd h
  have eh28 := as_i_sz h28
  obtain rfl := Option.some.inj h
  show h_sz M ≤ h_sz M27 ∧ h_sl M ≤ h_sl M27
  omega
theorem lb102_13 (G : gX) (l : Launch) (a0 : Nat) (v1 : Int32) (v2 : Int32) (M : hM) {res : xRes} (h : b102_13 a0 v1 v2 M = some res) : h_sz M ≤ r_sz res ∧ h_sl M ≤ r_sl res := by
  unfold b102_13 at h
  obtain ⟨o_6, h7, h⟩ := bd h
  obtain ⟨v_8, h9, h⟩ := bd h
  by_cases q26 : v_8 ≤ v2
  · rw [if_pos q26] at h
    obtain rfl := Option.some.inj h
    show h_sz M ≤ h_sz M ∧ h_sl M ≤ h_sl M
    omega
  · rw [if_neg q26] at h
    obtain ⟨o_10, h11, h⟩ := bd h
    obtain ⟨o_12, h13, h⟩ := bd h
    by_cases q25 : v1 = v2
    · rw [if_pos q25] at h
      have e := lb102_61 G l a0 v1 v2 (0 : Int32) v2 o_12 M h
      omega
    · rw [if_neg q25] at h
      obtain ⟨b_16, h17, h⟩ := bd h
      obtain ⟨q_14, h15, h⟩ := bd h
      have eh15 := (t101 G l (c_I_some h15)).1
      by_cases q24 : q_14.1 = 0
      · rw [if_pos q24] at h
        have e := lb102_61 G l a0 v1 v2 (1000000 : Int32) v2 o_12 q_14.2 h
        omega
      · rw [if_neg q24] at h
        obtain ⟨o_18, h19, h⟩ := bd h
        obtain ⟨o_20, h21, h⟩ := bd h
        obtain ⟨v_22, h23, h⟩ := bd h
        have e := lb102_61 G l a0 v1 v2 v_22 v2 o_12 q_14.2 h
        omega
theorem lb102_76 (G : gX) (l : Launch) (a0 : Nat) (v1 : Int32) (M : hM) {res : xRes} (h : b102_76 a0 v1 M = some res) : h_sz M ≤ r_sz res ∧ h_sl M ≤ r_sl res := by
  unfold b102_76 at h
  obtain ⟨o_29, h30, h⟩ := bd h
  obtain ⟨v_31, h32, h⟩ := bd h
  by_cases q33 : v_31 ≤ v1
  · rw [if_pos q33] at h
    obtain rfl := Option.some.inj h
    show h_sz M ≤ h_sz M ∧ h_sl M ≤ h_sl M
    omega
  · rw [if_neg q33] at h
    obtain rfl := Option.some.inj h
    show h_sz M ≤ h_sz M ∧ h_sl M ≤ h_sl M
    omega
theorem lb102_87 (G : gX) (l : Launch) (a0 : Nat) (v1 : Int32) (v2 : Int32) (M : hM) {res : xRes} (h : b102_87 a0 v1 v2 M = some res) : h_sz M ≤ r_sz res ∧ h_sl M ≤ r_sl res := by
  unfold b102_87 at h
  obtain ⟨o_34, h35, h⟩ := bd h
  obtain ⟨v_36, h37, h⟩ := bd h
  by_cases q38 : v_36 ≤ v2
  · rw [if_pos q38] at h
    obtain rfl := Option.some.inj h
    show h_sz M ≤ h_sz M ∧ h_sl M ≤ h_sl M
    omega
  · rw [if_neg q38] at h
    obtain rfl := Option.some.inj h
    show h_sz M ≤ h_sz M ∧ h_sl M ≤ h_sl M
    omega
theorem lb102_98 (G : gX) (l : Launch) (a0 : Nat) (v1 : Int32) (v2 : Int32) (v3 : Int32) (M : hM) {res : xRes} (h : b102_98 a0 v1 v2 v3 M = some res) : h_sz M ≤ r_sz res ∧ h_sl M ≤ r_sl res := by
  unfold b102_98 at h
  obtain ⟨o_39, h40, h⟩ := bd h
  obtain ⟨v_41, h42, h⟩ := bd h
  by_cases q67 : v_41 ≤ v3
  · rw [if_pos q67] at h
    obtain rfl := Option.some.inj h
    show h_sz M ≤ h_sz M ∧ h_sl M ≤ h_sl M
    omega
  · rw [if_neg q67] at h
    obtain ⟨o_43, h44, h⟩ := bd h
    obtain ⟨o_45, h46, h⟩ := bd h
    obtain ⟨o_47, h48, h⟩ := bd h
    obtain ⟨o_49, h50, h⟩ := bd h
    obtain ⟨v_51, h52, h⟩ := bd h
    obtain ⟨o_53, h54, h⟩ := bd h
    obtain ⟨o_55, h56, h⟩ := bd h
    obtain ⟨v_57, h58, h⟩ := bd h
    obtain ⟨o_59, h60, h⟩ := bd h
    obtain ⟨o_61, h62, h⟩ := bd h
    obtain ⟨v_63, h64, h⟩ := bd h
    obtain ⟨M65, h66, h⟩ := bd h
    have eh66 := as_i_sz h66
    obtain rfl := Option.some.inj h
    show h_sz M ≤ h_sz M65 ∧ h_sl M ≤ h_sl M65
    omega
section
variable {p : Program} {l : Launch} {e : Env} {s : State} {m : MethodId} {args : Array Value} {below : List Frame} {meth : Method} {c : Code} {G : gX} {z0 y0 : Nat} {r : Option aV} {M' : hM}
def pg102 (p : Program) (l : Launch) (e : Env) (s : State) (m : MethodId) (args : Array Value) (below : List Frame) (meth : Method) (c : Code) (G : gX) (z0 y0 : Nat) (r : Option aV) (M' : hM) (h : Nat) (as : List aV) (M : hM) : Prop :=
  if h = 2 then (match as with | [.inr (.inr (some a0)), .inl v1] => xV G p l e (xRm 1 (h_sz M' - z0) (h_sl M' - y0)) s m args below meth c z0 y0 (h_sz M') (h_sl M') 4 (MQ below (xQc G r M') args s (h_sz M' - z0) (h_sl M' - y0) (xFr G)) 2 [(0, .inr (.inr (some a0))), (1, .inl v1)] [] M | _ => False) else
  if h = 13 then (match as with | [.inr (.inr (some a0)), .inl v1, .inl v2] => xV G p l e (xRm 1 (h_sz M' - z0) (h_sl M' - y0)) s m args below meth c z0 y0 (h_sz M') (h_sl M') 4 (MQ below (xQc G r M') args s (h_sz M' - z0) (h_sl M' - y0) (xFr G)) 13 [(0, .inr (.inr (some a0))), (1, .inl v1), (2, .inl v2)] [] M | _ => False) else
  if h = 76 then (match as with | [.inr (.inr (some a0)), .inl v1] => xV G p l e (xRm 1 (h_sz M' - z0) (h_sl M' - y0)) s m args below meth c z0 y0 (h_sz M') (h_sl M') 4 (MQ below (xQc G r M') args s (h_sz M' - z0) (h_sl M' - y0) (xFr G)) 76 [(0, .inr (.inr (some a0))), (1, .inl v1)] [] M | _ => False) else
  if h = 87 then (match as with | [.inr (.inr (some a0)), .inl v1, .inl v2] => xV G p l e (xRm 1 (h_sz M' - z0) (h_sl M' - y0)) s m args below meth c z0 y0 (h_sz M') (h_sl M') 4 (MQ below (xQc G r M') args s (h_sz M' - z0) (h_sl M' - y0) (xFr G)) 87 [(0, .inr (.inr (some a0))), (1, .inl v1), (2, .inl v2)] [] M | _ => False) else
  if h = 98 then (match as with | [.inr (.inr (some a0)), .inl v1, .inl v2, .inl v3] => xV G p l e (xRm 1 (h_sz M' - z0) (h_sl M' - y0)) s m args below meth c z0 y0 (h_sz M') (h_sl M') 4 (MQ below (xQc G r M') args s (h_sz M' - z0) (h_sl M' - y0) (xFr G)) 98 [(0, .inr (.inr (some a0))), (1, .inl v1), (2, .inl v2), (3, .inl v3)] [] M | _ => False) else
  False
theorem sb102_0 (E : xE G p (xRm 1 (h_sz M' - z0) (h_sl M' - y0)) s m args c prog_12_method_24_code "ZonedFabric$Switch" z0 y0 (h_sz M') (h_sl M') 4) (B : xB ym102 none meth) (a0 : Nat) (M : hM) {res : xRes} (h : b102_0 a0 M = some res) (hN : xN (pg102 p l e s m args below meth c G z0 y0 r M') r M' res) : xV G p l e (xRm 1 (h_sz M' - z0) (h_sl M' - y0)) s m args below meth c z0 y0 (h_sz M') (h_sl M') 4 (MQ below (xQc G r M') args s (h_sz M' - z0) (h_sl M' - y0) (xFr G)) 0 [(0, .inr (.inr (some a0)))] [] M := by
  unfold b102_0 at h
  refine xv_b E [.iconst 0, .istore_n 1] (pc' := 2) (lv' := [(1, .inl (0 : Int32)), (0, .inr (.inr (some a0)))]) (st' := []) (by decide +kernel) rfl rfl ?_
  obtain rfl := Option.some.inj h
  exact xv_w hN rfl
theorem sb102_2 (E : xE G p (xRm 1 (h_sz M' - z0) (h_sl M' - y0)) s m args c prog_12_method_24_code "ZonedFabric$Switch" z0 y0 (h_sz M') (h_sl M') 4) (B : xB ym102 none meth) (a0 : Nat) (v1 : Int32) (M : hM) {res : xRes} (h : b102_2 a0 v1 M = some res) (hN : xN (pg102 p l e s m args below meth c G z0 y0 r M') r M' res) : xV G p l e (xRm 1 (h_sz M' - z0) (h_sl M' - y0)) s m args below meth c z0 y0 (h_sz M') (h_sl M') 4 (MQ below (xQc G r M') args s (h_sz M' - z0) (h_sl M' - y0) (xFr G)) 2 [(0, .inr (.inr (some a0))), (1, .inl v1)] [] M := by
  unfold b102_2 at h
  refine xv_b E [.iload_n 1, .aload_n 0] (pc' := 4) (lv' := [(0, .inr (.inr (some a0))), (1, .inl v1)]) (st' := [.inr (.inr (some a0)), .inl v1]) (by decide +kernel) rfl rfl ?_
  obtain ⟨o_1, h2, h⟩ := bd h
  refine xg_r E 10 7 h2 mw66 (show decode prog_12_method_24_code 4 = .ok (.getfield 53, 3) by decide +kernel) ?_
  obtain ⟨v_3, h4, h⟩ := bd h
  refine xa_n E 50 h4 (show decode prog_12_method_24_code 7 = .ok (.arraylength, 1) by decide +kernel) ?_
  by_cases q5 : v_3 ≤ v1
  · rw [if_pos q5] at h
    refine xv_icmp_ge E 74 (show decode prog_12_method_24_code 8 = .ok (.if_icmp .ge (66), 3) by decide +kernel) rfl (fun _ => ?_) (fun z => absurd q5 z)
    refine xv_b E [.iconst 0, .istore_n 1] (pc' := 76) (lv' := [(1, .inl (0 : Int32)), (0, .inr (.inr (some a0)))]) (st' := []) (by decide +kernel) rfl rfl ?_
    obtain rfl := Option.some.inj h
    exact xv_w hN rfl
  · rw [if_neg q5] at h
    refine xv_icmp_ge E 74 (show decode prog_12_method_24_code 8 = .ok (.if_icmp .ge (66), 3) by decide +kernel) rfl (fun z => absurd z q5) (fun _ => ?_)
    refine xv_b E [.iconst 0, .istore_n 2] (pc' := 13) (lv' := [(2, .inl (0 : Int32)), (0, .inr (.inr (some a0))), (1, .inl v1)]) (st' := []) (by decide +kernel) rfl rfl ?_
    obtain rfl := Option.some.inj h
    exact xv_w hN rfl
theorem sb102_61 (E : xE G p (xRm 1 (h_sz M' - z0) (h_sl M' - y0)) s m args c prog_12_method_24_code "ZonedFabric$Switch" z0 y0 (h_sz M') (h_sl M') 4) (B : xB ym102 none meth) (a0 : Nat) (v1 : Int32) (v2 : Int32) (si0 : Int32) (si1 : Int32) (sr2 : Option Nat) (M : hM) {res : xRes} (h : b102_61 a0 v1 v2 si0 si1 sr2 M = some res) (hN : xN (pg102 p l e s m args below meth c G z0 y0 r M') r M' res) : xV G p l e (xRm 1 (h_sz M' - z0) (h_sl M' - y0)) s m args below meth c z0 y0 (h_sz M') (h_sl M') 4 (MQ below (xQc G r M') args s (h_sz M' - z0) (h_sl M' - y0) (xFr G)) 61 [(0, .inr (.inr (some a0))), (1, .inl v1), (2, .inl v2)] [.inl si0, .inl si1, .inr (.inr sr2)] M := by
  unfold b102_61 at h
  obtain ⟨M27, h28, h⟩ := bd h
  refine xs_i E h28 (show decode prog_12_method_24_code 61 = .ok (.iastore, 1) by decide +kernel) ?_
  refine xv_b E [.iinc 2 1] (pc' := 65) (lv' := [(2, .inl (v2 + (1 : Int32))), (0, .inr (.inr (some a0))), (1, .inl v1)]) (st' := []) (by decide +kernel) rfl rfl ?_
  refine xv_goto E 13 (show decode prog_12_method_24_code 65 = .ok (.goto (-52), 3) by decide +kernel) rfl ?_
  obtain rfl := Option.some.inj h
  exact xv_w hN rfl
theorem sb102_13 (E : xE G p (xRm 1 (h_sz M' - z0) (h_sl M' - y0)) s m args c prog_12_method_24_code "ZonedFabric$Switch" z0 y0 (h_sz M') (h_sl M') 4) (B : xB ym102 none meth) (a0 : Nat) (v1 : Int32) (v2 : Int32) (M : hM) {res : xRes} (h : b102_13 a0 v1 v2 M = some res) (hN : xN (pg102 p l e s m args below meth c G z0 y0 r M') r M' res) : xV G p l e (xRm 1 (h_sz M' - z0) (h_sl M' - y0)) s m args below meth c z0 y0 (h_sz M') (h_sl M') 4 (MQ below (xQc G r M') args s (h_sz M' - z0) (h_sl M' - y0) (xFr G)) 13 [(0, .inr (.inr (some a0))), (1, .inl v1), (2, .inl v2)] [] M := by
  unfold b102_13 at h
  refine xv_b E [.iload_n 2, .aload_n 0] (pc' := 15) (lv' := [(0, .inr (.inr (some a0))), (1, .inl v1), (2, .inl v2)]) (st' := [.inr (.inr (some a0)), .inl v2]) (by decide +kernel) rfl rfl ?_
  obtain ⟨o_6, h7, h⟩ := bd h
  refine xg_r E 10 7 h7 mw66 (show decode prog_12_method_24_code 15 = .ok (.getfield 53, 3) by decide +kernel) ?_
  obtain ⟨v_8, h9, h⟩ := bd h
  refine xa_n E 50 h9 (show decode prog_12_method_24_code 18 = .ok (.arraylength, 1) by decide +kernel) ?_
  by_cases q26 : v_8 ≤ v2
  · rw [if_pos q26] at h
    refine xv_icmp_ge E 68 (show decode prog_12_method_24_code 19 = .ok (.if_icmp .ge (49), 3) by decide +kernel) rfl (fun _ => ?_) (fun z => absurd q26 z)
    refine xv_b E [.iinc 1 1] (pc' := 71) (lv' := [(1, .inl (v1 + (1 : Int32))), (0, .inr (.inr (some a0))), (2, .inl v2)]) (st' := []) (by decide +kernel) rfl rfl ?_
    refine xv_goto E 2 (show decode prog_12_method_24_code 71 = .ok (.goto (-69), 3) by decide +kernel) rfl ?_
    obtain rfl := Option.some.inj h
    exact xv_w hN rfl
  · rw [if_neg q26] at h
    refine xv_icmp_ge E 68 (show decode prog_12_method_24_code 19 = .ok (.if_icmp .ge (49), 3) by decide +kernel) rfl (fun z => absurd z q26) (fun _ => ?_)
    refine xv_b E [.aload_n 0] (pc' := 23) (lv' := [(0, .inr (.inr (some a0))), (1, .inl v1), (2, .inl v2)]) (st' := [.inr (.inr (some a0))]) (by decide +kernel) rfl rfl ?_
    obtain ⟨o_10, h11, h⟩ := bd h
    refine xg_r E 10 7 h11 mw66 (show decode prog_12_method_24_code 23 = .ok (.getfield 53, 3) by decide +kernel) ?_
    refine xv_b E [.iload_n 1] (pc' := 27) (lv' := [(0, .inr (.inr (some a0))), (1, .inl v1), (2, .inl v2)]) (st' := [.inl v1, .inr (.inr o_10)]) (by decide +kernel) rfl rfl ?_
    obtain ⟨o_12, h13, h⟩ := bd h
    refine xa_r E 50 h13 (show decode prog_12_method_24_code 27 = .ok (.aaload, 1) by decide +kernel) ?_
    refine xv_b E [.iload_n 2, .iload_n 1, .iload_n 2] (pc' := 31) (lv' := [(0, .inr (.inr (some a0))), (1, .inl v1), (2, .inl v2)]) (st' := [.inl v2, .inl v1, .inl v2, .inr (.inr o_12)]) (by decide +kernel) rfl rfl ?_
    by_cases q25 : v1 = v2
    · rw [if_pos q25] at h
      refine xv_icmp_ne E 38 (show decode prog_12_method_24_code 31 = .ok (.if_icmp .ne (7), 3) by decide +kernel) rfl (fun z => absurd q25 z) (fun _ => ?_)
      refine xv_b E [.iconst 0] (pc' := 35) (lv' := [(0, .inr (.inr (some a0))), (1, .inl v1), (2, .inl v2)]) (st' := [.inl (0 : Int32), .inl v2, .inr (.inr o_12)]) (by decide +kernel) rfl rfl ?_
      refine xv_goto E 61 (show decode prog_12_method_24_code 35 = .ok (.goto (26), 3) by decide +kernel) rfl ?_
      exact xv_w (sb102_61 E B a0 v1 v2 (0 : Int32) v2 o_12 M h hN) rfl
    · rw [if_neg q25] at h
      refine xv_icmp_ne E 38 (show decode prog_12_method_24_code 31 = .ok (.if_icmp .ne (7), 3) by decide +kernel) rfl (fun _ => ?_) (fun z => absurd z q25)
      refine xv_b E [.aload_n 0, .iload_n 1, .iload_n 2] (pc' := 41) (lv' := [(0, .inr (.inr (some a0))), (1, .inl v1), (2, .inl v2)]) (st' := [.inl v2, .inl v1, .inr (.inr (some a0)), .inl v2, .inr (.inr o_12)]) (by decide +kernel) rfl rfl ?_
      obtain ⟨b_16, h17, h⟩ := bd h
      obtain ⟨eh17, th17⟩ := g_o_some h17
      obtain ⟨q_14, h15, h⟩ := bd h
      refine xv_cvo E eh17 10 (as := [.inl v1, .inl v2]) (t101 G l (c_I_some h15)) cd101 mw581 mw582 mw583 (show decode prog_12_method_24_code 41 = .ok (.invokevirtual 302, 3) by decide +kernel) th17 rfl rfl (Nat.le_of_ble_eq_true rfl) ⟨Nat.le_of_ble_eq_true rfl, Nat.le_of_ble_eq_true rfl⟩ ?_
      by_cases q24 : q_14.1 = 0
      · rw [if_pos q24] at h
        refine xv_if_eq E 58 (show decode prog_12_method_24_code 44 = .ok (.ifCond .eq (14), 3) by decide +kernel) rfl (fun _ => ?_) (fun z => absurd q24 z)
        refine xv_ldcw E (1000000 : Int32) mw568 (show decode prog_12_method_24_code 58 = .ok (.ldc_w 286, 3) by decide +kernel) ?_
        exact xv_w (sb102_61 E B a0 v1 v2 (1000000 : Int32) v2 o_12 q_14.2 h hN) rfl
      · rw [if_neg q24] at h
        refine xv_if_eq E 58 (show decode prog_12_method_24_code 44 = .ok (.ifCond .eq (14), 3) by decide +kernel) rfl (fun z => absurd z q24) (fun _ => ?_)
        refine xv_b E [.aload_n 0] (pc' := 48) (lv' := [(0, .inr (.inr (some a0))), (1, .inl v1), (2, .inl v2)]) (st' := [.inr (.inr (some a0)), .inl v2, .inr (.inr o_12)]) (by decide +kernel) rfl rfl ?_
        obtain ⟨o_18, h19, h⟩ := bd h
        refine xg_r E 10 6 h19 mw65 (show decode prog_12_method_24_code 48 = .ok (.getfield 50, 3) by decide +kernel) ?_
        refine xv_b E [.iload_n 1] (pc' := 52) (lv' := [(0, .inr (.inr (some a0))), (1, .inl v1), (2, .inl v2)]) (st' := [.inl v1, .inr (.inr o_18), .inl v2, .inr (.inr o_12)]) (by decide +kernel) rfl rfl ?_
        obtain ⟨o_20, h21, h⟩ := bd h
        refine xa_r E 50 h21 (show decode prog_12_method_24_code 52 = .ok (.aaload, 1) by decide +kernel) ?_
        refine xv_b E [.iload_n 2] (pc' := 54) (lv' := [(0, .inr (.inr (some a0))), (1, .inl v1), (2, .inl v2)]) (st' := [.inl v2, .inr (.inr o_20), .inl v2, .inr (.inr o_12)]) (by decide +kernel) rfl rfl ?_
        obtain ⟨v_22, h23, h⟩ := bd h
        refine xa_i E h23 (show decode prog_12_method_24_code 54 = .ok (.iaload, 1) by decide +kernel) ?_
        refine xv_goto E 61 (show decode prog_12_method_24_code 55 = .ok (.goto (6), 3) by decide +kernel) rfl ?_
        exact xv_w (sb102_61 E B a0 v1 v2 v_22 v2 o_12 q_14.2 h hN) rfl
theorem sb102_76 (E : xE G p (xRm 1 (h_sz M' - z0) (h_sl M' - y0)) s m args c prog_12_method_24_code "ZonedFabric$Switch" z0 y0 (h_sz M') (h_sl M') 4) (B : xB ym102 none meth) (a0 : Nat) (v1 : Int32) (M : hM) {res : xRes} (h : b102_76 a0 v1 M = some res) (hN : xN (pg102 p l e s m args below meth c G z0 y0 r M') r M' res) : xV G p l e (xRm 1 (h_sz M' - z0) (h_sl M' - y0)) s m args below meth c z0 y0 (h_sz M') (h_sl M') 4 (MQ below (xQc G r M') args s (h_sz M' - z0) (h_sl M' - y0) (xFr G)) 76 [(0, .inr (.inr (some a0))), (1, .inl v1)] [] M := by
  unfold b102_76 at h
  refine xv_b E [.iload_n 1, .aload_n 0] (pc' := 78) (lv' := [(0, .inr (.inr (some a0))), (1, .inl v1)]) (st' := [.inr (.inr (some a0)), .inl v1]) (by decide +kernel) rfl rfl ?_
  obtain ⟨o_29, h30, h⟩ := bd h
  refine xg_r E 10 7 h30 mw66 (show decode prog_12_method_24_code 78 = .ok (.getfield 53, 3) by decide +kernel) ?_
  obtain ⟨v_31, h32, h⟩ := bd h
  refine xa_n E 50 h32 (show decode prog_12_method_24_code 81 = .ok (.arraylength, 1) by decide +kernel) ?_
  by_cases q33 : v_31 ≤ v1
  · rw [if_pos q33] at h
    refine xv_icmp_ge E 161 (show decode prog_12_method_24_code 82 = .ok (.if_icmp .ge (79), 3) by decide +kernel) rfl (fun _ => ?_) (fun z => absurd q33 z)
    obtain rfl := Option.some.inj h
    obtain ⟨rfl, rfl⟩ := Prod.mk.inj (show ((none : Option aV), M) = (r, M') from hN)
    exact xv_rv E B.1 B.2.1 (show decode prog_12_method_24_code 161 = .ok (.return_, 1) by decide +kernel) rfl rfl
  · rw [if_neg q33] at h
    refine xv_icmp_ge E 161 (show decode prog_12_method_24_code 82 = .ok (.if_icmp .ge (79), 3) by decide +kernel) rfl (fun z => absurd z q33) (fun _ => ?_)
    refine xv_b E [.iconst 0, .istore_n 2] (pc' := 87) (lv' := [(2, .inl (0 : Int32)), (0, .inr (.inr (some a0))), (1, .inl v1)]) (st' := []) (by decide +kernel) rfl rfl ?_
    obtain rfl := Option.some.inj h
    exact xv_w hN rfl
theorem sb102_87 (E : xE G p (xRm 1 (h_sz M' - z0) (h_sl M' - y0)) s m args c prog_12_method_24_code "ZonedFabric$Switch" z0 y0 (h_sz M') (h_sl M') 4) (B : xB ym102 none meth) (a0 : Nat) (v1 : Int32) (v2 : Int32) (M : hM) {res : xRes} (h : b102_87 a0 v1 v2 M = some res) (hN : xN (pg102 p l e s m args below meth c G z0 y0 r M') r M' res) : xV G p l e (xRm 1 (h_sz M' - z0) (h_sl M' - y0)) s m args below meth c z0 y0 (h_sz M') (h_sl M') 4 (MQ below (xQc G r M') args s (h_sz M' - z0) (h_sl M' - y0) (xFr G)) 87 [(0, .inr (.inr (some a0))), (1, .inl v1), (2, .inl v2)] [] M := by
  unfold b102_87 at h
  refine xv_b E [.iload_n 2, .aload_n 0] (pc' := 89) (lv' := [(0, .inr (.inr (some a0))), (1, .inl v1), (2, .inl v2)]) (st' := [.inr (.inr (some a0)), .inl v2]) (by decide +kernel) rfl rfl ?_
  obtain ⟨o_34, h35, h⟩ := bd h
  refine xg_r E 10 7 h35 mw66 (show decode prog_12_method_24_code 89 = .ok (.getfield 53, 3) by decide +kernel) ?_
  obtain ⟨v_36, h37, h⟩ := bd h
  refine xa_n E 50 h37 (show decode prog_12_method_24_code 92 = .ok (.arraylength, 1) by decide +kernel) ?_
  by_cases q38 : v_36 ≤ v2
  · rw [if_pos q38] at h
    refine xv_icmp_ge E 155 (show decode prog_12_method_24_code 93 = .ok (.if_icmp .ge (62), 3) by decide +kernel) rfl (fun _ => ?_) (fun z => absurd q38 z)
    refine xv_b E [.iinc 1 1] (pc' := 158) (lv' := [(1, .inl (v1 + (1 : Int32))), (0, .inr (.inr (some a0))), (2, .inl v2)]) (st' := []) (by decide +kernel) rfl rfl ?_
    refine xv_goto E 76 (show decode prog_12_method_24_code 158 = .ok (.goto (-82), 3) by decide +kernel) rfl ?_
    obtain rfl := Option.some.inj h
    exact xv_w hN rfl
  · rw [if_neg q38] at h
    refine xv_icmp_ge E 155 (show decode prog_12_method_24_code 93 = .ok (.if_icmp .ge (62), 3) by decide +kernel) rfl (fun z => absurd z q38) (fun _ => ?_)
    refine xv_b E [.iconst 0, .istore_n 3] (pc' := 98) (lv' := [(3, .inl (0 : Int32)), (0, .inr (.inr (some a0))), (1, .inl v1), (2, .inl v2)]) (st' := []) (by decide +kernel) rfl rfl ?_
    obtain rfl := Option.some.inj h
    exact xv_w hN rfl
theorem sb102_98 (E : xE G p (xRm 1 (h_sz M' - z0) (h_sl M' - y0)) s m args c prog_12_method_24_code "ZonedFabric$Switch" z0 y0 (h_sz M') (h_sl M') 4) (B : xB ym102 none meth) (a0 : Nat) (v1 : Int32) (v2 : Int32) (v3 : Int32) (M : hM) {res : xRes} (h : b102_98 a0 v1 v2 v3 M = some res) (hN : xN (pg102 p l e s m args below meth c G z0 y0 r M') r M' res) : xV G p l e (xRm 1 (h_sz M' - z0) (h_sl M' - y0)) s m args below meth c z0 y0 (h_sz M') (h_sl M') 4 (MQ below (xQc G r M') args s (h_sz M' - z0) (h_sl M' - y0) (xFr G)) 98 [(0, .inr (.inr (some a0))), (1, .inl v1), (2, .inl v2), (3, .inl v3)] [] M := by
  unfold b102_98 at h
  refine xv_b E [.iload_n 3, .aload_n 0] (pc' := 100) (lv' := [(0, .inr (.inr (some a0))), (1, .inl v1), (2, .inl v2), (3, .inl v3)]) (st' := [.inr (.inr (some a0)), .inl v3]) (by decide +kernel) rfl rfl ?_
  obtain ⟨o_39, h40, h⟩ := bd h
  refine xg_r E 10 7 h40 mw66 (show decode prog_12_method_24_code 100 = .ok (.getfield 53, 3) by decide +kernel) ?_
  obtain ⟨v_41, h42, h⟩ := bd h
  refine xa_n E 50 h42 (show decode prog_12_method_24_code 103 = .ok (.arraylength, 1) by decide +kernel) ?_
  by_cases q67 : v_41 ≤ v3
  · rw [if_pos q67] at h
    refine xv_icmp_ge E 149 (show decode prog_12_method_24_code 104 = .ok (.if_icmp .ge (45), 3) by decide +kernel) rfl (fun _ => ?_) (fun z => absurd q67 z)
    refine xv_b E [.iinc 2 1] (pc' := 152) (lv' := [(2, .inl (v2 + (1 : Int32))), (0, .inr (.inr (some a0))), (1, .inl v1), (3, .inl v3)]) (st' := []) (by decide +kernel) rfl rfl ?_
    refine xv_goto E 87 (show decode prog_12_method_24_code 152 = .ok (.goto (-65), 3) by decide +kernel) rfl ?_
    obtain rfl := Option.some.inj h
    exact xv_w hN rfl
  · rw [if_neg q67] at h
    refine xv_icmp_ge E 149 (show decode prog_12_method_24_code 104 = .ok (.if_icmp .ge (45), 3) by decide +kernel) rfl (fun z => absurd z q67) (fun _ => ?_)
    refine xv_b E [.aload_n 0] (pc' := 108) (lv' := [(0, .inr (.inr (some a0))), (1, .inl v1), (2, .inl v2), (3, .inl v3)]) (st' := [.inr (.inr (some a0))]) (by decide +kernel) rfl rfl ?_
    obtain ⟨o_43, h44, h⟩ := bd h
    refine xg_r E 10 7 h44 mw66 (show decode prog_12_method_24_code 108 = .ok (.getfield 53, 3) by decide +kernel) ?_
    refine xv_b E [.iload_n 2] (pc' := 112) (lv' := [(0, .inr (.inr (some a0))), (1, .inl v1), (2, .inl v2), (3, .inl v3)]) (st' := [.inl v2, .inr (.inr o_43)]) (by decide +kernel) rfl rfl ?_
    obtain ⟨o_45, h46, h⟩ := bd h
    refine xa_r E 50 h46 (show decode prog_12_method_24_code 112 = .ok (.aaload, 1) by decide +kernel) ?_
    refine xv_b E [.iload_n 3, .aload_n 0] (pc' := 115) (lv' := [(0, .inr (.inr (some a0))), (1, .inl v1), (2, .inl v2), (3, .inl v3)]) (st' := [.inr (.inr (some a0)), .inl v3, .inr (.inr o_45)]) (by decide +kernel) rfl rfl ?_
    obtain ⟨o_47, h48, h⟩ := bd h
    refine xg_r E 10 7 h48 mw66 (show decode prog_12_method_24_code 115 = .ok (.getfield 53, 3) by decide +kernel) ?_
    refine xv_b E [.iload_n 2] (pc' := 119) (lv' := [(0, .inr (.inr (some a0))), (1, .inl v1), (2, .inl v2), (3, .inl v3)]) (st' := [.inl v2, .inr (.inr o_47), .inl v3, .inr (.inr o_45)]) (by decide +kernel) rfl rfl ?_
    obtain ⟨o_49, h50, h⟩ := bd h
    refine xa_r E 50 h50 (show decode prog_12_method_24_code 119 = .ok (.aaload, 1) by decide +kernel) ?_
    refine xv_b E [.iload_n 3] (pc' := 121) (lv' := [(0, .inr (.inr (some a0))), (1, .inl v1), (2, .inl v2), (3, .inl v3)]) (st' := [.inl v3, .inr (.inr o_49), .inl v3, .inr (.inr o_45)]) (by decide +kernel) rfl rfl ?_
    obtain ⟨v_51, h52, h⟩ := bd h
    refine xa_i E h52 (show decode prog_12_method_24_code 121 = .ok (.iaload, 1) by decide +kernel) ?_
    refine xv_b E [.aload_n 0] (pc' := 123) (lv' := [(0, .inr (.inr (some a0))), (1, .inl v1), (2, .inl v2), (3, .inl v3)]) (st' := [.inr (.inr (some a0)), .inl v_51, .inl v3, .inr (.inr o_45)]) (by decide +kernel) rfl rfl ?_
    obtain ⟨o_53, h54, h⟩ := bd h
    refine xg_r E 10 7 h54 mw66 (show decode prog_12_method_24_code 123 = .ok (.getfield 53, 3) by decide +kernel) ?_
    refine xv_b E [.iload_n 2] (pc' := 127) (lv' := [(0, .inr (.inr (some a0))), (1, .inl v1), (2, .inl v2), (3, .inl v3)]) (st' := [.inl v2, .inr (.inr o_53), .inl v_51, .inl v3, .inr (.inr o_45)]) (by decide +kernel) rfl rfl ?_
    obtain ⟨o_55, h56, h⟩ := bd h
    refine xa_r E 50 h56 (show decode prog_12_method_24_code 127 = .ok (.aaload, 1) by decide +kernel) ?_
    refine xv_b E [.iload_n 1] (pc' := 129) (lv' := [(0, .inr (.inr (some a0))), (1, .inl v1), (2, .inl v2), (3, .inl v3)]) (st' := [.inl v1, .inr (.inr o_55), .inl v_51, .inl v3, .inr (.inr o_45)]) (by decide +kernel) rfl rfl ?_
    obtain ⟨v_57, h58, h⟩ := bd h
    refine xa_i E h58 (show decode prog_12_method_24_code 129 = .ok (.iaload, 1) by decide +kernel) ?_
    refine xv_b E [.aload_n 0] (pc' := 131) (lv' := [(0, .inr (.inr (some a0))), (1, .inl v1), (2, .inl v2), (3, .inl v3)]) (st' := [.inr (.inr (some a0)), .inl v_57, .inl v_51, .inl v3, .inr (.inr o_45)]) (by decide +kernel) rfl rfl ?_
    obtain ⟨o_59, h60, h⟩ := bd h
    refine xg_r E 10 7 h60 mw66 (show decode prog_12_method_24_code 131 = .ok (.getfield 53, 3) by decide +kernel) ?_
    refine xv_b E [.iload_n 1] (pc' := 135) (lv' := [(0, .inr (.inr (some a0))), (1, .inl v1), (2, .inl v2), (3, .inl v3)]) (st' := [.inl v1, .inr (.inr o_59), .inl v_57, .inl v_51, .inl v3, .inr (.inr o_45)]) (by decide +kernel) rfl rfl ?_
    obtain ⟨o_61, h62, h⟩ := bd h
    refine xa_r E 50 h62 (show decode prog_12_method_24_code 135 = .ok (.aaload, 1) by decide +kernel) ?_
    refine xv_b E [.iload_n 3] (pc' := 137) (lv' := [(0, .inr (.inr (some a0))), (1, .inl v1), (2, .inl v2), (3, .inl v3)]) (st' := [.inl v3, .inr (.inr o_61), .inl v_57, .inl v_51, .inl v3, .inr (.inr o_45)]) (by decide +kernel) rfl rfl ?_
    obtain ⟨v_63, h64, h⟩ := bd h
    refine xa_i E h64 (show decode prog_12_method_24_code 137 = .ok (.iaload, 1) by decide +kernel) ?_
    refine xv_b E [.iadd] (pc' := 139) (lv' := [(0, .inr (.inr (some a0))), (1, .inl v1), (2, .inl v2), (3, .inl v3)]) (st' := [.inl (v_57 + v_63), .inl v_51, .inl v3, .inr (.inr o_45)]) (by decide +kernel) rfl rfl ?_
    refine xv_min E mw578 mw235 mw236 mwMin (show decode prog_12_method_24_code 139 = .ok (.invokestatic 296, 3) by decide +kernel) (Nat.le_of_ble_eq_true rfl) ⟨Nat.le_of_ble_eq_true rfl, Nat.le_of_ble_eq_true rfl⟩ ?_
    obtain ⟨M65, h66, h⟩ := bd h
    refine xs_i E h66 (show decode prog_12_method_24_code 142 = .ok (.iastore, 1) by decide +kernel) ?_
    refine xv_b E [.iinc 3 1] (pc' := 146) (lv' := [(3, .inl (v3 + (1 : Int32))), (0, .inr (.inr (some a0))), (1, .inl v1), (2, .inl v2)]) (st' := []) (by decide +kernel) rfl rfl ?_
    refine xv_goto E 98 (show decode prog_12_method_24_code 146 = .ok (.goto (-48), 3) by decide +kernel) rfl ?_
    obtain rfl := Option.some.inj h
    exact xv_w hN rfl
end
theorem t102 (G : gX) (l : Launch) {as : List aV} {M : hM} {r : Option aV} {M' : hM} (h : f102 as M = some (r, M')) : xM G l ym102 prog_12_method_24_code 4 none 1 as M r M' := by
  unfold f102 at h
  split at h
  · have hle : ∀ h as M res, k102 h as M = some res → h_sz M ≤ r_sz res ∧ h_sl M ≤ r_sl res := by
      intro h as M res hb
      unfold k102 at hb
      by_cases e0 : h = 2
      · rw [if_pos e0] at hb
        split at hb
        · exact lb102_2 G l _ _ M hb
        · cases hb
      · rw [if_neg e0] at hb
        by_cases e1 : h = 13
        · rw [if_pos e1] at hb
          split at hb
          · exact lb102_13 G l _ _ _ M hb
          · cases hb
        · rw [if_neg e1] at hb
          by_cases e2 : h = 76
          · rw [if_pos e2] at hb
            split at hb
            · exact lb102_76 G l _ _ M hb
            · cases hb
          · rw [if_neg e2] at hb
            by_cases e3 : h = 87
            · rw [if_pos e3] at hb
              split at hb
              · exact lb102_87 G l _ _ _ M hb
              · cases hb
            · rw [if_neg e3] at hb
              by_cases e4 : h = 98
              · rw [if_pos e4] at hb
                split at hb
                · exact lb102_98 G l _ _ _ _ M hb
                · cases hb
              · rw [if_neg e4] at hb
                cases hb
    obtain ⟨res, hx, hres⟩ := x_go_ok h
    refine xM_of (by decide) (Nat.le_of_ble_eq_true rfl) ?_ ?_
    · have e1 := lb102_0 G l _ M hx
      have e2 := x_go_le hle hres
      omega
    · intro p e s m args below meth c E B
      refine sb102_0 E B _ M hx (hres _ ?_)
      intro h as M res hb hN
      unfold k102 at hb
      unfold pg102
      by_cases e0 : h = 2
      · rw [if_pos e0] at hb ⊢
        split at hb
        · exact sb102_2 E B _ _ M hb hN
        · cases hb
      · rw [if_neg e0] at hb ⊢
        by_cases e1 : h = 13
        · rw [if_pos e1] at hb ⊢
          split at hb
          · exact sb102_13 E B _ _ _ M hb hN
          · cases hb
        · rw [if_neg e1] at hb ⊢
          by_cases e2 : h = 76
          · rw [if_pos e2] at hb ⊢
            split at hb
            · exact sb102_76 E B _ _ M hb hN
            · cases hb
          · rw [if_neg e2] at hb ⊢
            by_cases e3 : h = 87
            · rw [if_pos e3] at hb ⊢
              split at hb
              · exact sb102_87 E B _ _ _ M hb hN
              · cases hb
            · rw [if_neg e3] at hb ⊢
              by_cases e4 : h = 98
              · rw [if_pos e4] at hb ⊢
                split at hb
                · exact sb102_98 E B _ _ _ _ M hb hN
                · cases hb
              · rw [if_neg e4] at hb ⊢
                cases hb
  · cases h
