theorem mw663 : Cond.code ⟨"ZonedFabric$Switch", "tellOwnRecord", "()V"⟩ prog_12_method_6_code 2 none ∈ xTs := xTs_in (tk3 (List.mem_of_getElem? (i := 146) (by decide +kernel))) rfl
theorem mw664 : Cond.methodLink "ZonedFabric$Switch" 131 ⟨"ZonedFabric$Switch", "draftOwnRecord", "()V"⟩ ∈ xTs := xTs_in (tk3 (List.mem_of_getElem? (i := 147) (by decide +kernel))) rfl
theorem mw665 : Cond.instanceMethod ⟨"ZonedFabric$Switch", "draftOwnRecord", "()V"⟩ ∈ xTs := xTs_in (tk3 (List.mem_of_getElem? (i := 149) (by decide +kernel))) rfl
theorem mw666 : Cond.selects "ZonedFabric$Switch" ⟨"ZonedFabric$Switch", "draftOwnRecord", "()V"⟩ ⟨"ZonedFabric$Switch", "draftOwnRecord", "()V"⟩ ∈ xTs := xTs_in (List.mem_append_left _ (List.mem_of_getElem? (i := 16) (by decide +kernel))) rfl
theorem mw667 : Cond.methodLink "ZonedFabric$Switch" 134 ⟨"ZonedFabric$Notice", "tellsSameAs", "(LZonedFabric$Notice;)Z"⟩ ∈ xTs := xTs_in (tk3 (List.mem_of_getElem? (i := 163) (by decide +kernel))) rfl
theorem mw668 : Cond.instanceMethod ⟨"ZonedFabric$Notice", "tellsSameAs", "(LZonedFabric$Notice;)Z"⟩ ∈ xTs := xTs_in (tk3 (List.mem_of_getElem? (i := 164) (by decide +kernel))) rfl
theorem mw669 : Cond.selects "ZonedFabric$Notice" ⟨"ZonedFabric$Notice", "tellsSameAs", "(LZonedFabric$Notice;)Z"⟩ ⟨"ZonedFabric$Notice", "tellsSameAs", "(LZonedFabric$Notice;)Z"⟩ ∈ xTs := xTs_in (tk3 (List.mem_of_getElem? (i := 165) (by decide +kernel))) rfl
theorem mw670 : Cond.methodLink "ZonedFabric$Switch" 138 ⟨"ZonedFabric$Notice", "issue", "()I"⟩ ∈ xTs := xTs_in (tk3 (List.mem_of_getElem? (i := 167) (by decide +kernel))) rfl
theorem mw671 : Cond.instanceMethod ⟨"ZonedFabric$Notice", "issue", "()I"⟩ ∈ xTs := xTs_in (tk3 (List.mem_of_getElem? (i := 168) (by decide +kernel))) rfl
theorem mw672 : Cond.selects "ZonedFabric$Notice" ⟨"ZonedFabric$Notice", "issue", "()I"⟩ ⟨"ZonedFabric$Notice", "issue", "()I"⟩ ∈ xTs := xTs_in (tk3 (List.mem_of_getElem? (i := 169) (by decide +kernel))) rfl
theorem mw673 : Cond.methodLink "ZonedFabric$Switch" 142 ⟨"ZonedFabric$Notice", "setIssue", "(I)V"⟩ ∈ xTs := xTs_in (tk3 (List.mem_of_getElem? (i := 171) (by decide +kernel))) rfl
theorem mw674 : Cond.instanceMethod ⟨"ZonedFabric$Notice", "setIssue", "(I)V"⟩ ∈ xTs := xTs_in (tk3 (List.mem_of_getElem? (i := 172) (by decide +kernel))) rfl
theorem mw675 : Cond.selects "ZonedFabric$Notice" ⟨"ZonedFabric$Notice", "setIssue", "(I)V"⟩ ⟨"ZonedFabric$Notice", "setIssue", "(I)V"⟩ ∈ xTs := xTs_in (tk3 (List.mem_of_getElem? (i := 173) (by decide +kernel))) rfl
theorem mw676 : Cond.methodLink "ZonedFabric$Switch" 146 ⟨"ZonedFabric$Shared", "tally", "(I)V"⟩ ∈ xTs := xTs_in (tk3 (List.mem_of_getElem? (i := 175) (by decide +kernel))) rfl
theorem mw677 : Cond.methodLink "ZonedFabric$Switch" 149 ⟨"ZonedFabric$Switch", "spread", "(LZonedFabric$Notice;I)V"⟩ ∈ xTs := xTs_in (tk3 (List.mem_of_getElem? (i := 176) (by decide +kernel))) rfl
theorem mw678 : Cond.instanceMethod ⟨"ZonedFabric$Switch", "spread", "(LZonedFabric$Notice;I)V"⟩ ∈ xTs := xTs_in (tk3 (List.mem_of_getElem? (i := 178) (by decide +kernel))) rfl
theorem mw679 : Cond.selects "ZonedFabric$Switch" ⟨"ZonedFabric$Switch", "spread", "(LZonedFabric$Notice;I)V"⟩ ⟨"ZonedFabric$Switch", "spread", "(LZonedFabric$Notice;I)V"⟩ ∈ xTs := xTs_in (List.mem_append_left _ (List.mem_of_getElem? (i := 17) (by decide +kernel))) rfl
theorem mw680 : Cond.code ⟨"ZonedFabric$Shared", "inCommonZone", "(II)Z"⟩ prog_11_method_3_code 5 (some FieldType.boolean) ∈ xTs := xTs_in (tk4 (List.mem_of_getElem? (i := 42) (by decide +kernel))) rfl
theorem mw681 : Cond.methodLink "ZonedFabric$Shared" 28 ⟨"ZonedFabric$Shared", "isNode", "(I)Z"⟩ ∈ xTs := xTs_in (tk4 (List.mem_of_getElem? (i := 43) (by decide +kernel))) rfl
theorem mw682 : Cond.fieldLink "ZonedFabric$Shared" 32 "ZonedFabric$Shared" "zonesOn" "Z" ∈ xTs := xTs_in (tk1 (List.mem_of_getElem? (i := 50) (by decide +kernel))) rfl
theorem mw683 : Cond.code ⟨"ZonedFabric$Notice", "portOf", "(I)I"⟩ prog_8_method_14_code 4 (some FieldType.int) ∈ xTs := xTs_in (tk4 (List.mem_of_getElem? (i := 81) (by decide +kernel))) rfl
theorem mw684 : Cond.code ⟨"ZonedFabric$Switch", "addressOf", "(I)I"⟩ prog_12_method_18_code 4 (some FieldType.int) ∈ xTs := xTs_in (tk4 (List.mem_of_getElem? (i := 77) (by decide +kernel))) rfl
theorem mw685 : Cond.methodLink "ZonedFabric$Switch" 267 ⟨"ZonedFabric$Notice", "portOf", "(I)I"⟩ ∈ xTs := xTs_in (tk4 (List.mem_of_getElem? (i := 78) (by decide +kernel))) rfl
theorem mw686 : Cond.instanceMethod ⟨"ZonedFabric$Notice", "portOf", "(I)I"⟩ ∈ xTs := xTs_in (tk4 (List.mem_of_getElem? (i := 79) (by decide +kernel))) rfl
theorem mw687 : Cond.selects "ZonedFabric$Notice" ⟨"ZonedFabric$Notice", "portOf", "(I)I"⟩ ⟨"ZonedFabric$Notice", "portOf", "(I)I"⟩ ∈ xTs := xTs_in (tk4 (List.mem_of_getElem? (i := 80) (by decide +kernel))) rfl
theorem mw688 : Cond.code ⟨"ZonedFabric$Switch", "takeAsk", "(LZonedFabric$Port;LZonedFabric$Frame;)V"⟩ prog_12_method_12_code 6 none ∈ xTs := xTs_in (tk4 (List.mem_of_getElem? (i := 73) (by decide +kernel))) rfl
theorem mw689 : Cond.methodLink "ZonedFabric$Switch" 221 ⟨"ZonedFabric$Frame", "from", "()I"⟩ ∈ xTs := xTs_in (tk4 (List.mem_of_getElem? (i := 30) (by decide +kernel))) rfl
theorem mw690 : Cond.methodLink "ZonedFabric$Switch" 224 ⟨"ZonedFabric$Frame", "load", "(I)I"⟩ ∈ xTs := xTs_in (tk4 (List.mem_of_getElem? (i := 60) (by decide +kernel))) rfl
theorem mw691 : Cond.methodLink "ZonedFabric$Switch" 228 ⟨"ZonedFabric$Shared", "inCommonZone", "(II)Z"⟩ ∈ xTs := xTs_in (tk4 (List.mem_of_getElem? (i := 39) (by decide +kernel))) rfl
theorem mw692 : Cond.instanceMethod ⟨"ZonedFabric$Shared", "inCommonZone", "(II)Z"⟩ ∈ xTs := xTs_in (tk4 (List.mem_of_getElem? (i := 40) (by decide +kernel))) rfl
theorem mw693 : Cond.selects "ZonedFabric$Shared" ⟨"ZonedFabric$Shared", "inCommonZone", "(II)Z"⟩ ⟨"ZonedFabric$Shared", "inCommonZone", "(II)Z"⟩ ∈ xTs := xTs_in (tk4 (List.mem_of_getElem? (i := 41) (by decide +kernel))) rfl
theorem mw694 : Cond.methodLink "ZonedFabric$Switch" 232 ⟨"ZonedFabric$Switch", "addressOf", "(I)I"⟩ ∈ xTs := xTs_in (tk4 (List.mem_of_getElem? (i := 74) (by decide +kernel))) rfl
theorem mw695 : Cond.instanceMethod ⟨"ZonedFabric$Switch", "addressOf", "(I)I"⟩ ∈ xTs := xTs_in (tk4 (List.mem_of_getElem? (i := 76) (by decide +kernel))) rfl
theorem mw696 : Cond.selects "ZonedFabric$Switch" ⟨"ZonedFabric$Switch", "addressOf", "(I)I"⟩ ⟨"ZonedFabric$Switch", "addressOf", "(I)I"⟩ ∈ xTs := xTs_in (List.mem_append_left _ (List.mem_of_getElem? (i := 31) (by decide +kernel))) rfl
theorem mw697 : Cond.constant "ZonedFabric$Switch" 193 (16777212) ∈ xTs := xTs_in (tk4 (List.mem_of_getElem? (i := 25) (by decide +kernel))) rfl
theorem mw698 : Cond.code ⟨"ZonedFabric$Switch", "takeFlogi", "(LZonedFabric$Port;)V"⟩ prog_12_method_11_code 2 none ∈ xTs := xTs_in (tk4 (List.mem_of_getElem? (i := 69) (by decide +kernel))) rfl
theorem mw699 : Cond.fieldLink "ZonedFabric$Switch" 220 "ZonedFabric$Port" "number" "I" ∈ xTs := xTs_in (tk1 (List.mem_of_getElem? (i := 132) (by decide +kernel))) rfl
theorem mw700 : Cond.code ⟨"ZonedFabric$Switch", "takeRecord", "(LZonedFabric$Port;LZonedFabric$Frame;)V"⟩ prog_12_method_14_code 7 none ∈ xTs := xTs_in (tk4 (List.mem_of_getElem? (i := 64) (by decide +kernel))) rfl
theorem mw701 : Cond.methodLink "ZonedFabric$Switch" 235 ⟨"ZonedFabric$Frame", "number", "(II)J"⟩ ∈ xTs := xTs_in (tk4 (List.mem_of_getElem? (i := 65) (by decide +kernel))) rfl
theorem mw702 : Cond.fieldLink "ZonedFabric$Switch" 238 "ZonedFabric$Frame" "length" "I" ∈ xTs := xTs_in (tk3 (List.mem_of_getElem? (i := 32) (by decide +kernel))) rfl
theorem mw703 : Cond.code ⟨"ZonedFabric$Switch", "takeHello", "(LZonedFabric$Port;LZonedFabric$Frame;)V"⟩ prog_12_method_13_code 4 none ∈ xTs := xTs_in (tk4 (List.mem_of_getElem? (i := 59) (by decide +kernel))) rfl
theorem mw704 : Cond.code ⟨"ZonedFabric$Switch", "wayTo", "(I)I"⟩ prog_12_method_17_code 3 (some FieldType.int) ∈ xTs := xTs_in (tk4 (List.mem_of_getElem? (i := 47) (by decide +kernel))) rfl
theorem mw705 : Cond.code ⟨"ZonedFabric$Switch", "outPort", "(LZonedFabric$Port;II)I"⟩ prog_12_method_16_code 6 (some FieldType.int) ∈ xTs := xTs_in (tk4 (List.mem_of_getElem? (i := 37) (by decide +kernel))) rfl
theorem mw706 : Cond.methodLink "ZonedFabric$Switch" 204 ⟨"ZonedFabric$Port", "isToNode", "()Z"⟩ ∈ xTs := xTs_in (tk4 (List.mem_of_getElem? (i := 38) (by decide +kernel))) rfl
theorem mw707 : Cond.methodLink "ZonedFabric$Switch" 260 ⟨"ZonedFabric$Switch", "wayTo", "(I)I"⟩ ∈ xTs := xTs_in (tk4 (List.mem_of_getElem? (i := 44) (by decide +kernel))) rfl
theorem mw708 : Cond.instanceMethod ⟨"ZonedFabric$Switch", "wayTo", "(I)I"⟩ ∈ xTs := xTs_in (tk4 (List.mem_of_getElem? (i := 45) (by decide +kernel))) rfl
theorem mw709 : Cond.selects "ZonedFabric$Switch" ⟨"ZonedFabric$Switch", "wayTo", "(I)I"⟩ ⟨"ZonedFabric$Switch", "wayTo", "(I)I"⟩ ∈ xTs := xTs_in (tk4 (List.mem_of_getElem? (i := 46) (by decide +kernel))) rfl
theorem mw710 : Cond.code ⟨"ZonedFabric$Port", "drop", "(I)V"⟩ prog_10_method_14_code 2 none ∈ xTs := xTs_in (tk4 (List.mem_of_getElem? (i := 15) (by decide +kernel))) rfl
theorem mw711 : Cond.methodLink "ZonedFabric$Port" 107 ⟨"ZonedFabric$Port", "leave", "()LZonedFabric$Frame;"⟩ ∈ xTs := xTs_in (tk4 (List.mem_of_getElem? (i := 16) (by decide +kernel))) rfl
theorem mw712 : Cond.code ⟨"ZonedFabric$Port", "stay", "()V"⟩ prog_10_method_15_code 1 none ∈ xTs := xTs_in (tk4 (List.mem_of_getElem? (i := 54) (by decide +kernel))) rfl
theorem mw713 : Cond.methodLink "ZonedFabric$Port" 110 ⟨"ZonedFabric$Port", "drop", "(I)V"⟩ ∈ xTs := xTs_in (tk4 (List.mem_of_getElem? (i := 55) (by decide +kernel))) rfl
theorem mw714 : Cond.instanceMethod ⟨"ZonedFabric$Port", "drop", "(I)V"⟩ ∈ xTs := xTs_in (tk4 (List.mem_of_getElem? (i := 13) (by decide +kernel))) rfl
theorem mw715 : Cond.selects "ZonedFabric$Port" ⟨"ZonedFabric$Port", "drop", "(I)V"⟩ ⟨"ZonedFabric$Port", "drop", "(I)V"⟩ ∈ xTs := xTs_in (tk4 (List.mem_of_getElem? (i := 14) (by decide +kernel))) rfl
theorem mw716 : Cond.code ⟨"ZonedFabric$Switch", "passOn", "(LZonedFabric$Port;LZonedFabric$Frame;)V"⟩ prog_12_method_15_code 5 none ∈ xTs := xTs_in (tk4 (List.mem_of_getElem? (i := 29) (by decide +kernel))) rfl
theorem mw717 : Cond.methodLink "ZonedFabric$Switch" 187 ⟨"ZonedFabric$Frame", "to", "()I"⟩ ∈ xTs := xTs_in (tk4 (List.mem_of_getElem? (i := 20) (by decide +kernel))) rfl
theorem mw718 : Cond.methodLink "ZonedFabric$Switch" 241 ⟨"ZonedFabric$Switch", "outPort", "(LZonedFabric$Port;II)I"⟩ ∈ xTs := xTs_in (tk4 (List.mem_of_getElem? (i := 34) (by decide +kernel))) rfl
theorem mw719 : Cond.instanceMethod ⟨"ZonedFabric$Switch", "outPort", "(LZonedFabric$Port;II)I"⟩ ∈ xTs := xTs_in (tk4 (List.mem_of_getElem? (i := 36) (by decide +kernel))) rfl
theorem mw720 : Cond.selects "ZonedFabric$Switch" ⟨"ZonedFabric$Switch", "outPort", "(LZonedFabric$Port;II)I"⟩ ⟨"ZonedFabric$Switch", "outPort", "(LZonedFabric$Port;II)I"⟩ ∈ xTs := xTs_in (List.mem_append_left _ (List.mem_of_getElem? (i := 26) (by decide +kernel))) rfl
theorem mw721 : Cond.fieldLink "ZonedFabric$Switch" 245 "ZonedFabric$Port" "queue" "LZonedFabric$FrameLine;" ∈ xTs := xTs_in (tk1 (List.mem_of_getElem? (i := 147) (by decide +kernel))) rfl
theorem mw722 : Cond.fieldLink "ZonedFabric$Switch" 248 "ZonedFabric$FrameLine" "size" "I" ∈ xTs := xTs_in (tk1 (List.mem_of_getElem? (i := 119) (by decide +kernel))) rfl
theorem mw723 : Cond.methodLink "ZonedFabric$Switch" 251 ⟨"ZonedFabric$Port", "canSend", "()Z"⟩ ∈ xTs := xTs_in (tk4 (List.mem_of_getElem? (i := 48) (by decide +kernel))) rfl
theorem mw724 : Cond.methodLink "ZonedFabric$Switch" 213 ⟨"ZonedFabric$Port", "leave", "()LZonedFabric$Frame;"⟩ ∈ xTs := xTs_in (tk4 (List.mem_of_getElem? (i := 49) (by decide +kernel))) rfl
theorem mw725 : Cond.methodLink "ZonedFabric$Switch" 254 ⟨"ZonedFabric$Port", "send", "(LZonedFabric$Frame;)V"⟩ ∈ xTs := xTs_in (tk4 (List.mem_of_getElem? (i := 50) (by decide +kernel))) rfl
theorem mw726 : Cond.methodLink "ZonedFabric$Switch" 184 ⟨"ZonedFabric$Port", "drop", "(I)V"⟩ ∈ xTs := xTs_in (tk4 (List.mem_of_getElem? (i := 12) (by decide +kernel))) rfl
theorem mw727 : Cond.methodLink "ZonedFabric$Switch" 257 ⟨"ZonedFabric$Port", "stay", "()V"⟩ ∈ xTs := xTs_in (tk4 (List.mem_of_getElem? (i := 51) (by decide +kernel))) rfl
theorem mw728 : Cond.instanceMethod ⟨"ZonedFabric$Port", "stay", "()V"⟩ ∈ xTs := xTs_in (tk4 (List.mem_of_getElem? (i := 52) (by decide +kernel))) rfl
theorem mw729 : Cond.selects "ZonedFabric$Port" ⟨"ZonedFabric$Port", "stay", "()V"⟩ ⟨"ZonedFabric$Port", "stay", "()V"⟩ ∈ xTs := xTs_in (tk4 (List.mem_of_getElem? (i := 53) (by decide +kernel))) rfl
theorem mw730 : Cond.code ⟨"ZonedFabric$Switch", "serve", "(LZonedFabric$Port;)V"⟩ prog_12_method_10_code 5 none ∈ xTs := xTs_in (tk3 (List.mem_of_getElem? (i := 214) (by decide +kernel))) rfl
theorem mw731 : Cond.fieldLink "ZonedFabric$Switch" 170 "ZonedFabric$Port" "buffers" "LZonedFabric$FrameLine;" ∈ xTs := xTs_in (tk1 (List.mem_of_getElem? (i := 151) (by decide +kernel))) rfl
theorem mw732 : Cond.fieldLink "ZonedFabric$Switch" 174 "ZonedFabric$FrameLine" "first" "LZonedFabric$Frame;" ∈ xTs := xTs_in (tk1 (List.mem_of_getElem? (i := 113) (by decide +kernel))) rfl
theorem mw733 : Cond.methodLink "ZonedFabric$Switch" 180 ⟨"ZonedFabric$Frame", "isTrue", "(LZonedFabric$Shared;)Z"⟩ ∈ xTs := xTs_in (tk3 (List.mem_of_getElem? (i := 215) (by decide +kernel))) rfl
theorem mw734 : Cond.methodLink "ZonedFabric$Switch" 190 ⟨"ZonedFabric$Frame", "kind", "()I"⟩ ∈ xTs := xTs_in (tk4 (List.mem_of_getElem? (i := 24) (by decide +kernel))) rfl
theorem mw735 : Cond.methodLink "ZonedFabric$Switch" 194 ⟨"ZonedFabric$Switch", "passOn", "(LZonedFabric$Port;LZonedFabric$Frame;)V"⟩ ∈ xTs := xTs_in (tk4 (List.mem_of_getElem? (i := 26) (by decide +kernel))) rfl
theorem mw736 : Cond.instanceMethod ⟨"ZonedFabric$Switch", "passOn", "(LZonedFabric$Port;LZonedFabric$Frame;)V"⟩ ∈ xTs := xTs_in (tk4 (List.mem_of_getElem? (i := 28) (by decide +kernel))) rfl
theorem mw737 : Cond.selects "ZonedFabric$Switch" ⟨"ZonedFabric$Switch", "passOn", "(LZonedFabric$Port;LZonedFabric$Frame;)V"⟩ ⟨"ZonedFabric$Switch", "passOn", "(LZonedFabric$Port;LZonedFabric$Frame;)V"⟩ ∈ xTs := xTs_in (List.mem_append_left _ (List.mem_of_getElem? (i := 25) (by decide +kernel))) rfl
theorem mw738 : Cond.methodLink "ZonedFabric$Switch" 198 ⟨"ZonedFabric$Switch", "takeHello", "(LZonedFabric$Port;LZonedFabric$Frame;)V"⟩ ∈ xTs := xTs_in (tk4 (List.mem_of_getElem? (i := 56) (by decide +kernel))) rfl
theorem mw739 : Cond.instanceMethod ⟨"ZonedFabric$Switch", "takeHello", "(LZonedFabric$Port;LZonedFabric$Frame;)V"⟩ ∈ xTs := xTs_in (tk4 (List.mem_of_getElem? (i := 58) (by decide +kernel))) rfl
theorem mw740 : Cond.selects "ZonedFabric$Switch" ⟨"ZonedFabric$Switch", "takeHello", "(LZonedFabric$Port;LZonedFabric$Frame;)V"⟩ ⟨"ZonedFabric$Switch", "takeHello", "(LZonedFabric$Port;LZonedFabric$Frame;)V"⟩ ∈ xTs := xTs_in (List.mem_append_left _ (List.mem_of_getElem? (i := 27) (by decide +kernel))) rfl
theorem mw741 : Cond.methodLink "ZonedFabric$Switch" 201 ⟨"ZonedFabric$Switch", "takeRecord", "(LZonedFabric$Port;LZonedFabric$Frame;)V"⟩ ∈ xTs := xTs_in (tk4 (List.mem_of_getElem? (i := 61) (by decide +kernel))) rfl
theorem mw742 : Cond.instanceMethod ⟨"ZonedFabric$Switch", "takeRecord", "(LZonedFabric$Port;LZonedFabric$Frame;)V"⟩ ∈ xTs := xTs_in (tk4 (List.mem_of_getElem? (i := 63) (by decide +kernel))) rfl
theorem mw743 : Cond.selects "ZonedFabric$Switch" ⟨"ZonedFabric$Switch", "takeRecord", "(LZonedFabric$Port;LZonedFabric$Frame;)V"⟩ ⟨"ZonedFabric$Switch", "takeRecord", "(LZonedFabric$Port;LZonedFabric$Frame;)V"⟩ ∈ xTs := xTs_in (List.mem_append_left _ (List.mem_of_getElem? (i := 28) (by decide +kernel))) rfl
theorem mw744 : Cond.methodLink "ZonedFabric$Switch" 207 ⟨"ZonedFabric$Switch", "takeFlogi", "(LZonedFabric$Port;)V"⟩ ∈ xTs := xTs_in (tk4 (List.mem_of_getElem? (i := 66) (by decide +kernel))) rfl
theorem mw745 : Cond.instanceMethod ⟨"ZonedFabric$Switch", "takeFlogi", "(LZonedFabric$Port;)V"⟩ ∈ xTs := xTs_in (tk4 (List.mem_of_getElem? (i := 68) (by decide +kernel))) rfl
theorem mw746 : Cond.selects "ZonedFabric$Switch" ⟨"ZonedFabric$Switch", "takeFlogi", "(LZonedFabric$Port;)V"⟩ ⟨"ZonedFabric$Switch", "takeFlogi", "(LZonedFabric$Port;)V"⟩ ∈ xTs := xTs_in (List.mem_append_left _ (List.mem_of_getElem? (i := 29) (by decide +kernel))) rfl
theorem mw747 : Cond.methodLink "ZonedFabric$Switch" 210 ⟨"ZonedFabric$Switch", "takeAsk", "(LZonedFabric$Port;LZonedFabric$Frame;)V"⟩ ∈ xTs := xTs_in (tk4 (List.mem_of_getElem? (i := 70) (by decide +kernel))) rfl
theorem mw748 : Cond.instanceMethod ⟨"ZonedFabric$Switch", "takeAsk", "(LZonedFabric$Port;LZonedFabric$Frame;)V"⟩ ∈ xTs := xTs_in (tk4 (List.mem_of_getElem? (i := 72) (by decide +kernel))) rfl
theorem mw749 : Cond.selects "ZonedFabric$Switch" ⟨"ZonedFabric$Switch", "takeAsk", "(LZonedFabric$Port;LZonedFabric$Frame;)V"⟩ ⟨"ZonedFabric$Switch", "takeAsk", "(LZonedFabric$Port;LZonedFabric$Frame;)V"⟩ ∈ xTs := xTs_in (List.mem_append_left _ (List.mem_of_getElem? (i := 30) (by decide +kernel))) rfl
theorem mw750 : Cond.methodLink "ZonedFabric$Switch" 217 ⟨"ZonedFabric$Shared", "release", "(LZonedFabric$Frame;)V"⟩ ∈ xTs := xTs_in (tk4 (List.mem_of_getElem? (i := 82) (by decide +kernel))) rfl
/-! ZF.Switch.tellOwnRecord()V -/
def ym124 : MethodName := ⟨"ZonedFabric$Switch", "tellOwnRecord", "()V"⟩
theorem cd124 : xCd ym124 prog_12_method_6_code 2 none 0 := ⟨mw663, mw51, by decide, by decide, by decide +kernel⟩
def b124_50 (a0 : Nat) (o1 : Option Nat) (M : hM) : Option xRes :=
  Option.bind (g_r M 10 5 (some a0)) fun o_30 =>
  Option.bind (g_o M 6 o1) fun b_34 =>
  Option.bind (c_I (f118 [.inr (.inr (some b_34))] M)) fun q_32 =>
  Option.bind (g_o q_32.2 6 o_30) fun b_38 =>
  Option.bind (c_V (f119 [.inr (.inr (some b_38)), .inl (q_32.1 + (1 : Int32))] q_32.2)) fun q_36 =>
  Option.bind (g_r q_36 10 5 (some a0)) fun o_40 =>
  Option.bind (g_r q_36 10 0 (some a0)) fun o_42 =>
  Option.bind (g_i q_36 9 3 o_42) fun v_44 =>
  Option.bind (p_i q_36 6 2 o_40 v_44) fun M46 =>
  Option.bind (g_r M46 10 4 (some a0)) fun o_48 =>
  Option.bind (g_i M46 10 1 (some a0)) fun v_50 =>
  Option.bind (g_r M46 10 5 (some a0)) fun o_52 =>
  Option.bind (as_r M46 6 o_48 v_50 o_52) fun M54 =>
  Option.bind (p_r M54 10 5 (some a0) o1) fun M56 =>
  Option.bind (g_r M56 10 0 (some a0)) fun o_58 =>
  Option.bind (g_o M56 9 o_58) fun b_62 =>
  Option.bind (c_V (f37 [.inr (.inr (some b_62)), .inl (8 : Int32)] M56)) fun q_60 =>
  Option.bind (g_o q_60 10 (some a0)) fun b_66 =>
  Option.bind (c_V (f109 [.inr (.inr (some b_66))] q_60)) fun q_64 =>
  Option.bind (g_r q_64 10 4 (some a0)) fun o_68 =>
  Option.bind (g_i q_64 10 1 (some a0)) fun v_70 =>
  Option.bind (al_r q_64 36 o_68 v_70) fun o_72 =>
  Option.bind (g_o q_64 10 (some a0)) fun b_76 =>
  Option.bind (c_V (f122 [.inr (.inr (some b_76)), .inr (.inr o_72), .inl (-1 : Int32)] q_64)) fun q_74 =>
  some (.inl (none, q_74))
def b124_0 (a0 : Nat) (M : hM) : Option xRes :=
  Option.bind (g_r M 10 4 (some a0)) fun o_1 =>
  Option.bind (g_i M 10 1 (some a0)) fun v_3 =>
  Option.bind (al_r M 36 o_1 v_3) fun o_5 =>
  Option.bind (g_o M 10 (some a0)) fun b_9 =>
  Option.bind (c_V (f117 [.inr (.inr (some b_9))] M)) fun q_7 =>
  Option.bind (g_o q_7 6 o_5) fun b_13 =>
  Option.bind (c_I (f105 [.inr (.inr (some b_13))] q_7)) fun q_11 =>
  if q_11.1 = 0 then
    (b124_50 a0 o_5 q_11.2)
  else
    (Option.bind (g_r q_11.2 10 5 (some a0)) fun o_15 =>
    Option.bind (g_o q_11.2 6 o_5) fun b_19 =>
    Option.bind (c_I (f123 [.inr (.inr (some b_19)), .inr (.inr o_15)] q_11.2)) fun q_17 =>
    if q_17.1 = 0 then
      (b124_50 a0 o_5 q_17.2)
    else
      (Option.bind (g_r q_17.2 10 0 (some a0)) fun o_21 =>
      Option.bind (g_i q_17.2 9 3 o_21) fun v_23 =>
      Option.bind (g_i q_17.2 6 2 o_5) fun v_25 =>
      if (40 : Int32) ≤ (v_23 - v_25) then
        (b124_50 a0 o_5 q_17.2)
      else
        (some (.inl (none, q_17.2)))))
def f124 (as : List aV) (M : hM) : xO := match as with
  | [.inr (.inr (some a0))] => x_out (b124_0 a0 M)
  | _ => none
theorem lb124_50 (G : gX) (l : Launch) (a0 : Nat) (o1 : Option Nat) (M : hM) {res : xRes} (h : b124_50 a0 o1 M = some res) : h_sz M ≤ r_sz res ∧ h_sl M ≤ r_sl res := by
  unfold b124_50 at h
  obtain ⟨o_30, h31, h⟩ := bd h
  obtain ⟨b_34, h35, h⟩ := bd h
  obtain ⟨q_32, h33, h⟩ := bd h
  have eh33 := (t118 G l (c_I_some h33)).1
  obtain ⟨b_38, h39, h⟩ := bd h
  obtain ⟨q_36, h37, h⟩ := bd h
  have eh37 := (t119 G l (c_V_some h37)).1
  obtain ⟨o_40, h41, h⟩ := bd h
  obtain ⟨o_42, h43, h⟩ := bd h
  obtain ⟨v_44, h45, h⟩ := bd h
  obtain ⟨M46, h47, h⟩ := bd h
  have eh47 := p_i_sz h47
  obtain ⟨o_48, h49, h⟩ := bd h
  obtain ⟨v_50, h51, h⟩ := bd h
  obtain ⟨o_52, h53, h⟩ := bd h
  obtain ⟨M54, h55, h⟩ := bd h
  have eh55 := as_r_sz h55
  obtain ⟨M56, h57, h⟩ := bd h
  have eh57 := p_r_sz h57
  obtain ⟨o_58, h59, h⟩ := bd h
  obtain ⟨b_62, h63, h⟩ := bd h
  obtain ⟨q_60, h61, h⟩ := bd h
  have eh61 := (t37 G l (c_V_some h61)).1
  obtain ⟨b_66, h67, h⟩ := bd h
  obtain ⟨q_64, h65, h⟩ := bd h
  have eh65 := (t109 G l (c_V_some h65)).1
  obtain ⟨o_68, h69, h⟩ := bd h
  obtain ⟨v_70, h71, h⟩ := bd h
  obtain ⟨o_72, h73, h⟩ := bd h
  obtain ⟨b_76, h77, h⟩ := bd h
  obtain ⟨q_74, h75, h⟩ := bd h
  have eh75 := (t122 G l (c_V_some h75)).1
  obtain rfl := Option.some.inj h
  show h_sz M ≤ h_sz q_74 ∧ h_sl M ≤ h_sl q_74
  omega
theorem lb124_0 (G : gX) (l : Launch) (a0 : Nat) (M : hM) {res : xRes} (h : b124_0 a0 M = some res) : h_sz M ≤ r_sz res ∧ h_sl M ≤ r_sl res := by
  unfold b124_0 at h
  obtain ⟨o_1, h2, h⟩ := bd h
  obtain ⟨v_3, h4, h⟩ := bd h
  obtain ⟨o_5, h6, h⟩ := bd h
  obtain ⟨b_9, h10, h⟩ := bd h
  obtain ⟨q_7, h8, h⟩ := bd h
  have eh8 := (t117 G l (c_V_some h8)).1
  obtain ⟨b_13, h14, h⟩ := bd h
  obtain ⟨q_11, h12, h⟩ := bd h
  have eh12 := (t105 G l (c_I_some h12)).1
  by_cases q29 : q_11.1 = 0
  · rw [if_pos q29] at h
    have e := lb124_50 G l a0 o_5 q_11.2 h
    omega
  · rw [if_neg q29] at h
    obtain ⟨o_15, h16, h⟩ := bd h
    obtain ⟨b_19, h20, h⟩ := bd h
    obtain ⟨q_17, h18, h⟩ := bd h
    have eh18 := (t123 G l (c_I_some h18)).1
    by_cases q28 : q_17.1 = 0
    · rw [if_pos q28] at h
      have e := lb124_50 G l a0 o_5 q_17.2 h
      omega
    · rw [if_neg q28] at h
      obtain ⟨o_21, h22, h⟩ := bd h
      obtain ⟨v_23, h24, h⟩ := bd h
      obtain ⟨v_25, h26, h⟩ := bd h
      by_cases q27 : (40 : Int32) ≤ (v_23 - v_25)
      · rw [if_pos q27] at h
        have e := lb124_50 G l a0 o_5 q_17.2 h
        omega
      · rw [if_neg q27] at h
        obtain rfl := Option.some.inj h
        show h_sz M ≤ h_sz q_17.2 ∧ h_sl M ≤ h_sl q_17.2
        omega
section
variable {p : Program} {l : Launch} {e : Env} {s : State} {m : MethodId} {args : Array Value} {below : List Frame} {meth : Method} {c : Code} {G : gX} {z0 y0 : Nat} {r : Option aV} {M' : hM}
theorem sb124_50 (E : xE G p (xRm 5 (h_sz M' - z0) (h_sl M' - y0)) s m args c prog_12_method_6_code "ZonedFabric$Switch" z0 y0 (h_sz M') (h_sl M') 2) (B : xB ym124 none meth) (a0 : Nat) (o1 : Option Nat) (M : hM) {res : xRes} (h : b124_50 a0 o1 M = some res) (hN : xN (fun _ _ _ => False) r M' res) : xV G p l e (xRm 5 (h_sz M' - z0) (h_sl M' - y0)) s m args below meth c z0 y0 (h_sz M') (h_sl M') 2 (MQ below (xQc G r M') args s (h_sz M' - z0) (h_sl M' - y0) (xFr G)) 50 [(0, .inr (.inr (some a0))), (1, .inr (.inr o1))] [] M := by
  unfold b124_50 at h
  refine xv_b E [.aload_n 0] (pc' := 51) (lv' := [(0, .inr (.inr (some a0))), (1, .inr (.inr o1))]) (st' := [.inr (.inr (some a0))]) (by decide +kernel) rfl rfl ?_
  obtain ⟨o_30, h31, h⟩ := bd h
  refine xg_r E 10 5 h31 mw57 (show decode prog_12_method_6_code 51 = .ok (.getfield 20, 3) by decide +kernel) ?_
  refine xv_b E [.aload_n 1] (pc' := 55) (lv' := [(0, .inr (.inr (some a0))), (1, .inr (.inr o1))]) (st' := [.inr (.inr o1), .inr (.inr o_30)]) (by decide +kernel) rfl rfl ?_
  obtain ⟨b_34, h35, h⟩ := bd h
  obtain ⟨eh35, th35⟩ := g_o_some h35
  obtain ⟨q_32, h33, h⟩ := bd h
  refine xv_cvo E eh35 6 (as := []) (t118 G l (c_I_some h33)) cd118 mw670 mw671 mw672 (show decode prog_12_method_6_code 55 = .ok (.invokevirtual 138, 3) by decide +kernel) th35 rfl rfl (Nat.le_of_ble_eq_true rfl) ⟨Nat.le_of_ble_eq_true rfl, Nat.le_of_ble_eq_true rfl⟩ ?_
  refine xv_b E [.iconst 1, .iadd] (pc' := 60) (lv' := [(0, .inr (.inr (some a0))), (1, .inr (.inr o1))]) (st' := [.inl (q_32.1 + (1 : Int32)), .inr (.inr o_30)]) (by decide +kernel) rfl rfl ?_
  obtain ⟨b_38, h39, h⟩ := bd h
  obtain ⟨eh39, th39⟩ := g_o_some h39
  obtain ⟨q_36, h37, h⟩ := bd h
  refine xv_cvo E eh39 6 (as := [.inl (q_32.1 + (1 : Int32))]) (t119 G l (c_V_some h37)) cd119 mw673 mw674 mw675 (show decode prog_12_method_6_code 60 = .ok (.invokevirtual 142, 3) by decide +kernel) th39 rfl rfl (Nat.le_of_ble_eq_true rfl) ⟨Nat.le_of_ble_eq_true rfl, Nat.le_of_ble_eq_true rfl⟩ ?_
  refine xv_b E [.aload_n 0] (pc' := 64) (lv' := [(0, .inr (.inr (some a0))), (1, .inr (.inr o1))]) (st' := [.inr (.inr (some a0))]) (by decide +kernel) rfl rfl ?_
  obtain ⟨o_40, h41, h⟩ := bd h
  refine xg_r E 10 5 h41 mw57 (show decode prog_12_method_6_code 64 = .ok (.getfield 20, 3) by decide +kernel) ?_
  refine xv_b E [.aload_n 0] (pc' := 68) (lv' := [(0, .inr (.inr (some a0))), (1, .inr (.inr o1))]) (st' := [.inr (.inr (some a0)), .inr (.inr o_40)]) (by decide +kernel) rfl rfl ?_
  obtain ⟨o_42, h43, h⟩ := bd h
  refine xg_r E 10 0 h43 mw60 (show decode prog_12_method_6_code 68 = .ok (.getfield 34, 3) by decide +kernel) ?_
  obtain ⟨v_44, h45, h⟩ := bd h
  refine xg_i E 9 3 h45 mw620 (show decode prog_12_method_6_code 71 = .ok (.getfield 74, 3) by decide +kernel) ?_
  obtain ⟨M46, h47, h⟩ := bd h
  refine xp_i E 6 2 h47 mw621 (show decode prog_12_method_6_code 74 = .ok (.putfield 103, 3) by decide +kernel) (Or.inl rfl) ?_
  refine xv_b E [.aload_n 0] (pc' := 78) (lv' := [(0, .inr (.inr (some a0))), (1, .inr (.inr o1))]) (st' := [.inr (.inr (some a0))]) (by decide +kernel) rfl rfl ?_
  obtain ⟨o_48, h49, h⟩ := bd h
  refine xg_r E 10 4 h49 mw63 (show decode prog_12_method_6_code 78 = .ok (.getfield 44, 3) by decide +kernel) ?_
  refine xv_b E [.aload_n 0] (pc' := 82) (lv' := [(0, .inr (.inr (some a0))), (1, .inr (.inr o1))]) (st' := [.inr (.inr (some a0)), .inr (.inr o_48)]) (by decide +kernel) rfl rfl ?_
  obtain ⟨v_50, h51, h⟩ := bd h
  refine xg_i E 10 1 h51 mw61 (show decode prog_12_method_6_code 82 = .ok (.getfield 38, 3) by decide +kernel) ?_
  refine xv_b E [.aload_n 0] (pc' := 86) (lv' := [(0, .inr (.inr (some a0))), (1, .inr (.inr o1))]) (st' := [.inr (.inr (some a0)), .inl v_50, .inr (.inr o_48)]) (by decide +kernel) rfl rfl ?_
  obtain ⟨o_52, h53, h⟩ := bd h
  refine xg_r E 10 5 h53 mw57 (show decode prog_12_method_6_code 86 = .ok (.getfield 20, 3) by decide +kernel) ?_
  obtain ⟨M54, h55, h⟩ := bd h
  refine xs_r E 6 h55 (show decode prog_12_method_6_code 89 = .ok (.aastore, 1) by decide +kernel) ?_
  refine xv_b E [.aload_n 0, .aload_n 1] (pc' := 92) (lv' := [(0, .inr (.inr (some a0))), (1, .inr (.inr o1))]) (st' := [.inr (.inr o1), .inr (.inr (some a0))]) (by decide +kernel) rfl rfl ?_
  obtain ⟨M56, h57, h⟩ := bd h
  refine xp_r E 10 5 h57 mw57 (show decode prog_12_method_6_code 92 = .ok (.putfield 20, 3) by decide +kernel) (Or.inl rfl) ?_
  refine xv_b E [.aload_n 0] (pc' := 96) (lv' := [(0, .inr (.inr (some a0))), (1, .inr (.inr o1))]) (st' := [.inr (.inr (some a0))]) (by decide +kernel) rfl rfl ?_
  obtain ⟨o_58, h59, h⟩ := bd h
  refine xg_r E 10 0 h59 mw60 (show decode prog_12_method_6_code 96 = .ok (.getfield 34, 3) by decide +kernel) ?_
  refine xv_b E [.bipush 8] (pc' := 101) (lv' := [(0, .inr (.inr (some a0))), (1, .inr (.inr o1))]) (st' := [.inl (8 : Int32), .inr (.inr o_58)]) (by decide +kernel) rfl rfl ?_
  obtain ⟨b_62, h63, h⟩ := bd h
  obtain ⟨eh63, th63⟩ := g_o_some h63
  obtain ⟨q_60, h61, h⟩ := bd h
  refine xv_cvo E eh63 9 (as := [.inl (8 : Int32)]) (t37 G l (c_V_some h61)) cd37 mw676 mw244 mw245 (show decode prog_12_method_6_code 101 = .ok (.invokevirtual 146, 3) by decide +kernel) th63 rfl rfl (Nat.le_of_ble_eq_true rfl) ⟨Nat.le_of_ble_eq_true rfl, Nat.le_of_ble_eq_true rfl⟩ ?_
  refine xv_b E [.aload_n 0] (pc' := 105) (lv' := [(0, .inr (.inr (some a0))), (1, .inr (.inr o1))]) (st' := [.inr (.inr (some a0))]) (by decide +kernel) rfl rfl ?_
  obtain ⟨b_66, h67, h⟩ := bd h
  obtain ⟨eh67, th67⟩ := g_o_some h67
  obtain ⟨q_64, h65, h⟩ := bd h
  refine xv_cvo E eh67 10 (as := []) (t109 G l (c_V_some h65)) cd109 mw617 mw618 mw619 (show decode prog_12_method_6_code 105 = .ok (.invokevirtual 109, 3) by decide +kernel) th67 rfl rfl (Nat.le_of_ble_eq_true rfl) ⟨Nat.le_of_ble_eq_true rfl, Nat.le_of_ble_eq_true rfl⟩ ?_
  refine xv_b E [.aload_n 0, .aload_n 0] (pc' := 110) (lv' := [(0, .inr (.inr (some a0))), (1, .inr (.inr o1))]) (st' := [.inr (.inr (some a0)), .inr (.inr (some a0))]) (by decide +kernel) rfl rfl ?_
  obtain ⟨o_68, h69, h⟩ := bd h
  refine xg_r E 10 4 h69 mw63 (show decode prog_12_method_6_code 110 = .ok (.getfield 44, 3) by decide +kernel) ?_
  refine xv_b E [.aload_n 0] (pc' := 114) (lv' := [(0, .inr (.inr (some a0))), (1, .inr (.inr o1))]) (st' := [.inr (.inr (some a0)), .inr (.inr o_68), .inr (.inr (some a0))]) (by decide +kernel) rfl rfl ?_
  obtain ⟨v_70, h71, h⟩ := bd h
  refine xg_i E 10 1 h71 mw61 (show decode prog_12_method_6_code 114 = .ok (.getfield 38, 3) by decide +kernel) ?_
  obtain ⟨o_72, h73, h⟩ := bd h
  refine xa_r E 36 h73 (show decode prog_12_method_6_code 117 = .ok (.aaload, 1) by decide +kernel) ?_
  refine xv_b E [.iconst (-1)] (pc' := 119) (lv' := [(0, .inr (.inr (some a0))), (1, .inr (.inr o1))]) (st' := [.inl (-1 : Int32), .inr (.inr o_72), .inr (.inr (some a0))]) (by decide +kernel) rfl rfl ?_
  obtain ⟨b_76, h77, h⟩ := bd h
  obtain ⟨eh77, th77⟩ := g_o_some h77
  obtain ⟨q_74, h75, h⟩ := bd h
  refine xv_cvo E eh77 10 (as := [.inr (.inr o_72), .inl (-1 : Int32)]) (t122 G l (c_V_some h75)) cd122 mw677 mw678 mw679 (show decode prog_12_method_6_code 119 = .ok (.invokevirtual 149, 3) by decide +kernel) th77 rfl rfl (Nat.le_of_ble_eq_true rfl) ⟨Nat.le_of_ble_eq_true rfl, Nat.le_of_ble_eq_true rfl⟩ ?_
  obtain rfl := Option.some.inj h
  obtain ⟨rfl, rfl⟩ := Prod.mk.inj (show ((none : Option aV), q_74) = (r, M') from hN)
  exact xv_rv E B.1 B.2.1 (show decode prog_12_method_6_code 122 = .ok (.return_, 1) by decide +kernel) rfl rfl
theorem sb124_0 (E : xE G p (xRm 5 (h_sz M' - z0) (h_sl M' - y0)) s m args c prog_12_method_6_code "ZonedFabric$Switch" z0 y0 (h_sz M') (h_sl M') 2) (B : xB ym124 none meth) (a0 : Nat) (M : hM) {res : xRes} (h : b124_0 a0 M = some res) (hN : xN (fun _ _ _ => False) r M' res) : xV G p l e (xRm 5 (h_sz M' - z0) (h_sl M' - y0)) s m args below meth c z0 y0 (h_sz M') (h_sl M') 2 (MQ below (xQc G r M') args s (h_sz M' - z0) (h_sl M' - y0) (xFr G)) 0 [(0, .inr (.inr (some a0)))] [] M := by
  unfold b124_0 at h
  refine xv_b E [.aload_n 0] (pc' := 1) (lv' := [(0, .inr (.inr (some a0)))]) (st' := [.inr (.inr (some a0))]) (by decide +kernel) rfl rfl ?_
  obtain ⟨o_1, h2, h⟩ := bd h
  refine xg_r E 10 4 h2 mw63 (show decode prog_12_method_6_code 1 = .ok (.getfield 44, 3) by decide +kernel) ?_
  refine xv_b E [.aload_n 0] (pc' := 5) (lv' := [(0, .inr (.inr (some a0)))]) (st' := [.inr (.inr (some a0)), .inr (.inr o_1)]) (by decide +kernel) rfl rfl ?_
  obtain ⟨v_3, h4, h⟩ := bd h
  refine xg_i E 10 1 h4 mw61 (show decode prog_12_method_6_code 5 = .ok (.getfield 38, 3) by decide +kernel) ?_
  obtain ⟨o_5, h6, h⟩ := bd h
  refine xa_r E 36 h6 (show decode prog_12_method_6_code 8 = .ok (.aaload, 1) by decide +kernel) ?_
  refine xv_b E [.astore_n 1, .aload_n 0] (pc' := 11) (lv' := [(1, .inr (.inr o_5)), (0, .inr (.inr (some a0)))]) (st' := [.inr (.inr (some a0))]) (by decide +kernel) rfl rfl ?_
  obtain ⟨b_9, h10, h⟩ := bd h
  obtain ⟨eh10, th10⟩ := g_o_some h10
  obtain ⟨q_7, h8, h⟩ := bd h
  refine xv_cvo E eh10 10 (as := []) (t117 G l (c_V_some h8)) cd117 mw664 mw665 mw666 (show decode prog_12_method_6_code 11 = .ok (.invokevirtual 131, 3) by decide +kernel) th10 rfl rfl (Nat.le_of_ble_eq_true rfl) ⟨Nat.le_of_ble_eq_true rfl, Nat.le_of_ble_eq_true rfl⟩ ?_
  refine xv_b E [.aload_n 1] (pc' := 15) (lv' := [(1, .inr (.inr o_5)), (0, .inr (.inr (some a0)))]) (st' := [.inr (.inr o_5)]) (by decide +kernel) rfl rfl ?_
  obtain ⟨b_13, h14, h⟩ := bd h
  obtain ⟨eh14, th14⟩ := g_o_some h14
  obtain ⟨q_11, h12, h⟩ := bd h
  refine xv_cvo E eh14 6 (as := []) (t105 G l (c_I_some h12)) cd105 mw606 mw607 mw608 (show decode prog_12_method_6_code 15 = .ok (.invokevirtual 99, 3) by decide +kernel) th14 rfl rfl (Nat.le_of_ble_eq_true rfl) ⟨Nat.le_of_ble_eq_true rfl, Nat.le_of_ble_eq_true rfl⟩ ?_
  by_cases q29 : q_11.1 = 0
  · rw [if_pos q29] at h
    refine xv_if_eq E 50 (show decode prog_12_method_6_code 18 = .ok (.ifCond .eq (32), 3) by decide +kernel) rfl (fun _ => ?_) (fun z => absurd q29 z)
    exact xv_w (sb124_50 E B a0 o_5 q_11.2 h hN) rfl
  · rw [if_neg q29] at h
    refine xv_if_eq E 50 (show decode prog_12_method_6_code 18 = .ok (.ifCond .eq (32), 3) by decide +kernel) rfl (fun z => absurd z q29) (fun _ => ?_)
    refine xv_b E [.aload_n 1, .aload_n 0] (pc' := 23) (lv' := [(1, .inr (.inr o_5)), (0, .inr (.inr (some a0)))]) (st' := [.inr (.inr (some a0)), .inr (.inr o_5)]) (by decide +kernel) rfl rfl ?_
    obtain ⟨o_15, h16, h⟩ := bd h
    refine xg_r E 10 5 h16 mw57 (show decode prog_12_method_6_code 23 = .ok (.getfield 20, 3) by decide +kernel) ?_
    obtain ⟨b_19, h20, h⟩ := bd h
    obtain ⟨eh20, th20⟩ := g_o_some h20
    obtain ⟨q_17, h18, h⟩ := bd h
    refine xv_cvo E eh20 6 (as := [.inr (.inr o_15)]) (t123 G l (c_I_some h18)) cd123 mw667 mw668 mw669 (show decode prog_12_method_6_code 26 = .ok (.invokevirtual 134, 3) by decide +kernel) th20 rfl rfl (Nat.le_of_ble_eq_true rfl) ⟨Nat.le_of_ble_eq_true rfl, Nat.le_of_ble_eq_true rfl⟩ ?_
    by_cases q28 : q_17.1 = 0
    · rw [if_pos q28] at h
      refine xv_if_eq E 50 (show decode prog_12_method_6_code 29 = .ok (.ifCond .eq (21), 3) by decide +kernel) rfl (fun _ => ?_) (fun z => absurd q28 z)
      exact xv_w (sb124_50 E B a0 o_5 q_17.2 h hN) rfl
    · rw [if_neg q28] at h
      refine xv_if_eq E 50 (show decode prog_12_method_6_code 29 = .ok (.ifCond .eq (21), 3) by decide +kernel) rfl (fun z => absurd z q28) (fun _ => ?_)
      refine xv_b E [.aload_n 0] (pc' := 33) (lv' := [(1, .inr (.inr o_5)), (0, .inr (.inr (some a0)))]) (st' := [.inr (.inr (some a0))]) (by decide +kernel) rfl rfl ?_
      obtain ⟨o_21, h22, h⟩ := bd h
      refine xg_r E 10 0 h22 mw60 (show decode prog_12_method_6_code 33 = .ok (.getfield 34, 3) by decide +kernel) ?_
      obtain ⟨v_23, h24, h⟩ := bd h
      refine xg_i E 9 3 h24 mw620 (show decode prog_12_method_6_code 36 = .ok (.getfield 74, 3) by decide +kernel) ?_
      refine xv_b E [.aload_n 1] (pc' := 40) (lv' := [(1, .inr (.inr o_5)), (0, .inr (.inr (some a0)))]) (st' := [.inr (.inr o_5), .inl v_23]) (by decide +kernel) rfl rfl ?_
      obtain ⟨v_25, h26, h⟩ := bd h
      refine xg_i E 6 2 h26 mw621 (show decode prog_12_method_6_code 40 = .ok (.getfield 103, 3) by decide +kernel) ?_
      refine xv_b E [.isub, .bipush 40] (pc' := 46) (lv' := [(1, .inr (.inr o_5)), (0, .inr (.inr (some a0)))]) (st' := [.inl (40 : Int32), .inl (v_23 - v_25)]) (by decide +kernel) rfl rfl ?_
      by_cases q27 : (40 : Int32) ≤ (v_23 - v_25)
      · rw [if_pos q27] at h
        refine xv_icmp_ge E 50 (show decode prog_12_method_6_code 46 = .ok (.if_icmp .ge (4), 3) by decide +kernel) rfl (fun _ => ?_) (fun z => absurd q27 z)
        exact xv_w (sb124_50 E B a0 o_5 q_17.2 h hN) rfl
      · rw [if_neg q27] at h
        refine xv_icmp_ge E 50 (show decode prog_12_method_6_code 46 = .ok (.if_icmp .ge (4), 3) by decide +kernel) rfl (fun z => absurd z q27) (fun _ => ?_)
        obtain rfl := Option.some.inj h
        obtain ⟨rfl, rfl⟩ := Prod.mk.inj (show ((none : Option aV), q_17.2) = (r, M') from hN)
        exact xv_rv E B.1 B.2.1 (show decode prog_12_method_6_code 49 = .ok (.return_, 1) by decide +kernel) rfl rfl
end
theorem t124 (G : gX) (l : Launch) {as : List aV} {M : hM} {r : Option aV} {M' : hM} (h : f124 as M = some (r, M')) : xM G l ym124 prog_12_method_6_code 2 none 5 as M r M' := by
  unfold f124 at h
  split at h
  · have h := x_out_ok h
    refine xM_of (by decide) (Nat.le_of_ble_eq_true rfl) (lb124_0 G l _ M h) ?_
    intro p e s m args below meth c E B
    exact sb124_0 E B _ M h rfl
  · cases h
/-! ZF.Shared.inCommonZone(II)Z -/
def ym125 : MethodName := ⟨"ZonedFabric$Shared", "inCommonZone", "(II)Z"⟩
theorem cd125 : xCd ym125 prog_11_method_3_code 5 (some FieldType.boolean) 2 := ⟨mw680, mw1, by decide, by decide, by decide +kernel⟩
def b125_16  (M : hM) : Option xRes :=
  some (.inl (some (.inl (0 : Int32)), M))
def b125_0 (a0 : Nat) (v1 : Int32) (v2 : Int32) (M : hM) : Option xRes :=
  Option.bind (g_o M 9 (some a0)) fun b_3 =>
  Option.bind (c_I (f8 [.inr (.inr (some b_3)), .inl v1] M)) fun q_1 =>
  if q_1.1 = 0 then
    (b125_16  q_1.2)
  else
    (Option.bind (g_o q_1.2 9 (some a0)) fun b_7 =>
    Option.bind (c_I (f8 [.inr (.inr (some b_7)), .inl v2] q_1.2)) fun q_5 =>
    if q_5.1 = 0 then
      (b125_16  q_5.2)
    else
      (Option.bind (g_i q_5.2 9 6 (some a0)) fun v_9 =>
      if v_9 = 0 then
        (some (.inl (some (.inl (1 : Int32)), q_5.2)))
      else
        (some (.inr (38, [.inr (.inr (some a0)), .inl (((1 : Int32) <<< (v1 &&& 31)) ||| ((1 : Int32) <<< (v2 &&& 31))), .inl (0 : Int32)], q_5.2)))))
def b125_38 (a0 : Nat) (v3 : Int32) (v4 : Int32) (M : hM) : Option xRes :=
  if (8 : Int32) ≤ v4 then
    (some (.inl (some (.inl (0 : Int32)), M)))
  else
    (Option.bind (g_r M 9 5 (some a0)) fun o_14 =>
    Option.bind (al_i M 20 o_14 v4) fun v_16 =>
    if (v_16 &&& v3) = v3 then
      (some (.inl (some (.inl (1 : Int32)), M)))
    else
      (some (.inr (38, [.inr (.inr (some a0)), .inl v3, .inl (v4 + (1 : Int32))], M))))
def k125 (h : Nat) (as : List aV) (M : hM) : Option xRes :=
  if h = 38 then (match as with | [.inr (.inr (some a0)), .inl v3, .inl v4] => b125_38 a0 v3 v4 M | _ => none) else
  none
def f125 (as : List aV) (M : hM) : xO := match as with
  | [.inr (.inr (some a0)), .inl v1, .inl v2] => x_go k125 (b125_0 a0 v1 v2 M)
  | _ => none
theorem lb125_16 (G : gX) (l : Launch)  (M : hM) {res : xRes} (h : b125_16  M = some res) : h_sz M ≤ r_sz res ∧ h_sl M ≤ r_sl res := by
  unfold b125_16 at h
  obtain rfl := Option.some.inj h
  show h_sz M ≤ h_sz M ∧ h_sl M ≤ h_sl M
  omega
theorem lb125_0 (G : gX) (l : Launch) (a0 : Nat) (v1 : Int32) (v2 : Int32) (M : hM) {res : xRes} (h : b125_0 a0 v1 v2 M = some res) : h_sz M ≤ r_sz res ∧ h_sl M ≤ r_sl res := by
  unfold b125_0 at h
  obtain ⟨b_3, h4, h⟩ := bd h
  obtain ⟨q_1, h2, h⟩ := bd h
  have eh2 := (t8 G l (c_I_some h2)).1
  by_cases q13 : q_1.1 = 0
  · rw [if_pos q13] at h
    have e := lb125_16 G l  q_1.2 h
    omega
  · rw [if_neg q13] at h
    obtain ⟨b_7, h8, h⟩ := bd h
    obtain ⟨q_5, h6, h⟩ := bd h
    have eh6 := (t8 G l (c_I_some h6)).1
    by_cases q12 : q_5.1 = 0
    · rw [if_pos q12] at h
      have e := lb125_16 G l  q_5.2 h
      omega
    · rw [if_neg q12] at h
      obtain ⟨v_9, h10, h⟩ := bd h
      by_cases q11 : v_9 = 0
      · rw [if_pos q11] at h
        obtain rfl := Option.some.inj h
        show h_sz M ≤ h_sz q_5.2 ∧ h_sl M ≤ h_sl q_5.2
        omega
      · rw [if_neg q11] at h
        obtain rfl := Option.some.inj h
        show h_sz M ≤ h_sz q_5.2 ∧ h_sl M ≤ h_sl q_5.2
        omega
theorem lb125_38 (G : gX) (l : Launch) (a0 : Nat) (v3 : Int32) (v4 : Int32) (M : hM) {res : xRes} (h : b125_38 a0 v3 v4 M = some res) : h_sz M ≤ r_sz res ∧ h_sl M ≤ r_sl res := by
  unfold b125_38 at h
  by_cases q19 : (8 : Int32) ≤ v4
  · rw [if_pos q19] at h
    obtain rfl := Option.some.inj h
    show h_sz M ≤ h_sz M ∧ h_sl M ≤ h_sl M
    omega
  · rw [if_neg q19] at h
    obtain ⟨o_14, h15, h⟩ := bd h
    obtain ⟨v_16, h17, h⟩ := bd h
    by_cases q18 : (v_16 &&& v3) = v3
    · rw [if_pos q18] at h
      obtain rfl := Option.some.inj h
      show h_sz M ≤ h_sz M ∧ h_sl M ≤ h_sl M
      omega
    · rw [if_neg q18] at h
      obtain rfl := Option.some.inj h
      show h_sz M ≤ h_sz M ∧ h_sl M ≤ h_sl M
      omega
section
variable {p : Program} {l : Launch} {e : Env} {s : State} {m : MethodId} {args : Array Value} {below : List Frame} {meth : Method} {c : Code} {G : gX} {z0 y0 : Nat} {r : Option aV} {M' : hM}
def pg125 (p : Program) (l : Launch) (e : Env) (s : State) (m : MethodId) (args : Array Value) (below : List Frame) (meth : Method) (c : Code) (G : gX) (z0 y0 : Nat) (r : Option aV) (M' : hM) (h : Nat) (as : List aV) (M : hM) : Prop :=
  if h = 38 then (match as with | [.inr (.inr (some a0)), .inl v3, .inl v4] => xV G p l e (xRm 1 (h_sz M' - z0) (h_sl M' - y0)) s m args below meth c z0 y0 (h_sz M') (h_sl M') 5 (MQ below (xQc G r M') args s (h_sz M' - z0) (h_sl M' - y0) (xFr G)) 38 [(0, .inr (.inr (some a0))), (3, .inl v3), (4, .inl v4)] [] M | _ => False) else
  False
theorem sb125_16 (E : xE G p (xRm 1 (h_sz M' - z0) (h_sl M' - y0)) s m args c prog_11_method_3_code "ZonedFabric$Shared" z0 y0 (h_sz M') (h_sl M') 5) (B : xB ym125 (some FieldType.boolean) meth)  (M : hM) {res : xRes} (h : b125_16  M = some res) (hN : xN (pg125 p l e s m args below meth c G z0 y0 r M') r M' res) : xV G p l e (xRm 1 (h_sz M' - z0) (h_sl M' - y0)) s m args below meth c z0 y0 (h_sz M') (h_sl M') 5 (MQ below (xQc G r M') args s (h_sz M' - z0) (h_sl M' - y0) (xFr G)) 16 [] [] M := by
  unfold b125_16 at h
  refine xv_b E [.iconst 0] (pc' := 17) (lv' := []) (st' := [.inl (0 : Int32)]) (by decide +kernel) rfl rfl ?_
  obtain rfl := Option.some.inj h
  obtain ⟨rfl, rfl⟩ := Prod.mk.inj (show ((some (.inl (0 : Int32)) : Option aV), M) = (r, M') from hN)
  exact xv_ri E B.1 rfl B.2.1 (show decode prog_11_method_3_code 17 = .ok (.ireturn, 1) by decide +kernel) rfl rfl
theorem sb125_0 (E : xE G p (xRm 1 (h_sz M' - z0) (h_sl M' - y0)) s m args c prog_11_method_3_code "ZonedFabric$Shared" z0 y0 (h_sz M') (h_sl M') 5) (B : xB ym125 (some FieldType.boolean) meth) (a0 : Nat) (v1 : Int32) (v2 : Int32) (M : hM) {res : xRes} (h : b125_0 a0 v1 v2 M = some res) (hN : xN (pg125 p l e s m args below meth c G z0 y0 r M') r M' res) : xV G p l e (xRm 1 (h_sz M' - z0) (h_sl M' - y0)) s m args below meth c z0 y0 (h_sz M') (h_sl M') 5 (MQ below (xQc G r M') args s (h_sz M' - z0) (h_sl M' - y0) (xFr G)) 0 [(0, .inr (.inr (some a0))), (1, .inl v1), (2, .inl v2)] [] M := by
  unfold b125_0 at h
  refine xv_b E [.aload_n 0, .iload_n 1] (pc' := 2) (lv' := [(0, .inr (.inr (some a0))), (1, .inl v1), (2, .inl v2)]) (st' := [.inl v1, .inr (.inr (some a0))]) (by decide +kernel) rfl rfl ?_
  obtain ⟨b_3, h4, h⟩ := bd h
  obtain ⟨eh4, th4⟩ := g_o_some h4
  obtain ⟨q_1, h2, h⟩ := bd h
  refine xv_cvo E eh4 9 (as := [.inl v1]) (t8 G l (c_I_some h2)) cd8 mw681 mw117 mw118 (show decode prog_11_method_3_code 2 = .ok (.invokevirtual 28, 3) by decide +kernel) th4 rfl rfl (Nat.le_of_ble_eq_true rfl) ⟨Nat.le_of_ble_eq_true rfl, Nat.le_of_ble_eq_true rfl⟩ ?_
  by_cases q13 : q_1.1 = 0
  · rw [if_pos q13] at h
    refine xv_if_eq E 16 (show decode prog_11_method_3_code 5 = .ok (.ifCond .eq (11), 3) by decide +kernel) rfl (fun _ => ?_) (fun z => absurd q13 z)
    exact xv_w (sb125_16 E B  q_1.2 h hN) rfl
  · rw [if_neg q13] at h
    refine xv_if_eq E 16 (show decode prog_11_method_3_code 5 = .ok (.ifCond .eq (11), 3) by decide +kernel) rfl (fun z => absurd z q13) (fun _ => ?_)
    refine xv_b E [.aload_n 0, .iload_n 2] (pc' := 10) (lv' := [(0, .inr (.inr (some a0))), (1, .inl v1), (2, .inl v2)]) (st' := [.inl v2, .inr (.inr (some a0))]) (by decide +kernel) rfl rfl ?_
    obtain ⟨b_7, h8, h⟩ := bd h
    obtain ⟨eh8, th8⟩ := g_o_some h8
    obtain ⟨q_5, h6, h⟩ := bd h
    refine xv_cvo E eh8 9 (as := [.inl v2]) (t8 G l (c_I_some h6)) cd8 mw681 mw117 mw118 (show decode prog_11_method_3_code 10 = .ok (.invokevirtual 28, 3) by decide +kernel) th8 rfl rfl (Nat.le_of_ble_eq_true rfl) ⟨Nat.le_of_ble_eq_true rfl, Nat.le_of_ble_eq_true rfl⟩ ?_
    by_cases q12 : q_5.1 = 0
    · rw [if_pos q12] at h
      refine xv_if_ne E 18 (show decode prog_11_method_3_code 13 = .ok (.ifCond .ne (5), 3) by decide +kernel) rfl (fun z => absurd q12 z) (fun _ => ?_)
      exact xv_w (sb125_16 E B  q_5.2 h hN) rfl
    · rw [if_neg q12] at h
      refine xv_if_ne E 18 (show decode prog_11_method_3_code 13 = .ok (.ifCond .ne (5), 3) by decide +kernel) rfl (fun _ => ?_) (fun z => absurd z q12)
      refine xv_b E [.aload_n 0] (pc' := 19) (lv' := [(0, .inr (.inr (some a0))), (1, .inl v1), (2, .inl v2)]) (st' := [.inr (.inr (some a0))]) (by decide +kernel) rfl rfl ?_
      obtain ⟨v_9, h10, h⟩ := bd h
      refine xg_i E 9 6 h10 mw682 (show decode prog_11_method_3_code 19 = .ok (.getfield 32, 3) by decide +kernel) ?_
      by_cases q11 : v_9 = 0
      · rw [if_pos q11] at h
        refine xv_if_ne E 27 (show decode prog_11_method_3_code 22 = .ok (.ifCond .ne (5), 3) by decide +kernel) rfl (fun z => absurd q11 z) (fun _ => ?_)
        refine xv_b E [.iconst 1] (pc' := 26) (lv' := [(0, .inr (.inr (some a0))), (1, .inl v1), (2, .inl v2)]) (st' := [.inl (1 : Int32)]) (by decide +kernel) rfl rfl ?_
        obtain rfl := Option.some.inj h
        obtain ⟨rfl, rfl⟩ := Prod.mk.inj (show ((some (.inl (1 : Int32)) : Option aV), q_5.2) = (r, M') from hN)
        exact xv_ri E B.1 rfl B.2.1 (show decode prog_11_method_3_code 26 = .ok (.ireturn, 1) by decide +kernel) rfl rfl
      · rw [if_neg q11] at h
        refine xv_if_ne E 27 (show decode prog_11_method_3_code 22 = .ok (.ifCond .ne (5), 3) by decide +kernel) rfl (fun _ => ?_) (fun z => absurd z q11)
        refine xv_b E [.iconst 1, .iload_n 1, .ishl, .iconst 1, .iload_n 2, .ishl, .ior, .istore_n 3, .iconst 0, .istore 4] (pc' := 38) (lv' := [(4, .inl (0 : Int32)), (3, .inl (((1 : Int32) <<< (v1 &&& 31)) ||| ((1 : Int32) <<< (v2 &&& 31)))), (0, .inr (.inr (some a0))), (1, .inl v1), (2, .inl v2)]) (st' := []) (by decide +kernel) rfl rfl ?_
        obtain rfl := Option.some.inj h
        exact xv_w hN rfl
theorem sb125_38 (E : xE G p (xRm 1 (h_sz M' - z0) (h_sl M' - y0)) s m args c prog_11_method_3_code "ZonedFabric$Shared" z0 y0 (h_sz M') (h_sl M') 5) (B : xB ym125 (some FieldType.boolean) meth) (a0 : Nat) (v3 : Int32) (v4 : Int32) (M : hM) {res : xRes} (h : b125_38 a0 v3 v4 M = some res) (hN : xN (pg125 p l e s m args below meth c G z0 y0 r M') r M' res) : xV G p l e (xRm 1 (h_sz M' - z0) (h_sl M' - y0)) s m args below meth c z0 y0 (h_sz M') (h_sl M') 5 (MQ below (xQc G r M') args s (h_sz M' - z0) (h_sl M' - y0) (xFr G)) 38 [(0, .inr (.inr (some a0))), (3, .inl v3), (4, .inl v4)] [] M := by
  unfold b125_38 at h
  refine xv_b E [.iload 4, .bipush 8] (pc' := 42) (lv' := [(0, .inr (.inr (some a0))), (3, .inl v3), (4, .inl v4)]) (st' := [.inl (8 : Int32), .inl v4]) (by decide +kernel) rfl rfl ?_
  by_cases q19 : (8 : Int32) ≤ v4
  · rw [if_pos q19] at h
    refine xv_icmp_ge E 66 (show decode prog_11_method_3_code 42 = .ok (.if_icmp .ge (24), 3) by decide +kernel) rfl (fun _ => ?_) (fun z => absurd q19 z)
    refine xv_b E [.iconst 0] (pc' := 67) (lv' := [(0, .inr (.inr (some a0))), (3, .inl v3), (4, .inl v4)]) (st' := [.inl (0 : Int32)]) (by decide +kernel) rfl rfl ?_
    obtain rfl := Option.some.inj h
    obtain ⟨rfl, rfl⟩ := Prod.mk.inj (show ((some (.inl (0 : Int32)) : Option aV), M) = (r, M') from hN)
    exact xv_ri E B.1 rfl B.2.1 (show decode prog_11_method_3_code 67 = .ok (.ireturn, 1) by decide +kernel) rfl rfl
  · rw [if_neg q19] at h
    refine xv_icmp_ge E 66 (show decode prog_11_method_3_code 42 = .ok (.if_icmp .ge (24), 3) by decide +kernel) rfl (fun z => absurd z q19) (fun _ => ?_)
    refine xv_b E [.aload_n 0] (pc' := 46) (lv' := [(0, .inr (.inr (some a0))), (3, .inl v3), (4, .inl v4)]) (st' := [.inr (.inr (some a0))]) (by decide +kernel) rfl rfl ?_
    obtain ⟨o_14, h15, h⟩ := bd h
    refine xg_r E 9 5 h15 mw4 (show decode prog_11_method_3_code 46 = .ok (.getfield 15, 3) by decide +kernel) ?_
    refine xv_b E [.iload 4] (pc' := 51) (lv' := [(0, .inr (.inr (some a0))), (3, .inl v3), (4, .inl v4)]) (st' := [.inl v4, .inr (.inr o_14)]) (by decide +kernel) rfl rfl ?_
    obtain ⟨v_16, h17, h⟩ := bd h
    refine xa_i E h17 (show decode prog_11_method_3_code 51 = .ok (.iaload, 1) by decide +kernel) ?_
    refine xv_b E [.iload_n 3, .iand, .iload_n 3] (pc' := 55) (lv' := [(0, .inr (.inr (some a0))), (3, .inl v3), (4, .inl v4)]) (st' := [.inl v3, .inl (v_16 &&& v3)]) (by decide +kernel) rfl rfl ?_
    by_cases q18 : (v_16 &&& v3) = v3
    · rw [if_pos q18] at h
      refine xv_icmp_ne E 60 (show decode prog_11_method_3_code 55 = .ok (.if_icmp .ne (5), 3) by decide +kernel) rfl (fun z => absurd q18 z) (fun _ => ?_)
      refine xv_b E [.iconst 1] (pc' := 59) (lv' := [(0, .inr (.inr (some a0))), (3, .inl v3), (4, .inl v4)]) (st' := [.inl (1 : Int32)]) (by decide +kernel) rfl rfl ?_
      obtain rfl := Option.some.inj h
      obtain ⟨rfl, rfl⟩ := Prod.mk.inj (show ((some (.inl (1 : Int32)) : Option aV), M) = (r, M') from hN)
      exact xv_ri E B.1 rfl B.2.1 (show decode prog_11_method_3_code 59 = .ok (.ireturn, 1) by decide +kernel) rfl rfl
    · rw [if_neg q18] at h
      refine xv_icmp_ne E 60 (show decode prog_11_method_3_code 55 = .ok (.if_icmp .ne (5), 3) by decide +kernel) rfl (fun _ => ?_) (fun z => absurd z q18)
      refine xv_b E [.iinc 4 1] (pc' := 63) (lv' := [(4, .inl (v4 + (1 : Int32))), (0, .inr (.inr (some a0))), (3, .inl v3)]) (st' := []) (by decide +kernel) rfl rfl ?_
      refine xv_goto E 38 (show decode prog_11_method_3_code 63 = .ok (.goto (-25), 3) by decide +kernel) rfl ?_
      obtain rfl := Option.some.inj h
      exact xv_w hN rfl
end
theorem t125 (G : gX) (l : Launch) {as : List aV} {M : hM} {r : Option aV} {M' : hM} (h : f125 as M = some (r, M')) : xM G l ym125 prog_11_method_3_code 5 (some FieldType.boolean) 1 as M r M' := by
  unfold f125 at h
  split at h
  · have hle : ∀ h as M res, k125 h as M = some res → h_sz M ≤ r_sz res ∧ h_sl M ≤ r_sl res := by
      intro h as M res hb
      unfold k125 at hb
      by_cases e0 : h = 38
      · rw [if_pos e0] at hb
        split at hb
        · exact lb125_38 G l _ _ _ M hb
        · cases hb
      · rw [if_neg e0] at hb
        cases hb
    obtain ⟨res, hx, hres⟩ := x_go_ok h
    refine xM_of (by decide) (Nat.le_of_ble_eq_true rfl) ?_ ?_
    · have e1 := lb125_0 G l _ _ _ M hx
      have e2 := x_go_le hle hres
      omega
    · intro p e s m args below meth c E B
      refine sb125_0 E B _ _ _ M hx (hres _ ?_)
      intro h as M res hb hN
      unfold k125 at hb
      unfold pg125
      by_cases e0 : h = 38
      · rw [if_pos e0] at hb ⊢
        split at hb
        · exact sb125_38 E B _ _ _ M hb hN
        · cases hb
      · rw [if_neg e0] at hb ⊢
        cases hb
  · cases h
/-! ZF.Notice.portOf(I)I -/
def ym126 : MethodName := ⟨"ZonedFabric$Notice", "portOf", "(I)I"⟩
theorem cd126 : xCd ym126 prog_8_method_14_code 4 (some FieldType.int) 1 := ⟨mw683, mw46, by decide, by decide, by decide +kernel⟩
def b126_0 (a0 : Nat) (v1 : Int32) (M : hM) : Option xRes :=
  Option.bind (g_o M 6 (some a0)) fun b_3 =>
  Option.bind (c_I (f96 [.inr (.inr (some b_3)), .inl (5 : Int32)] M)) fun q_1 =>
  some (.inr (13, [.inr (.inr (some a0)), .inl v1, .inl ((7 : Int32) + ((3 : Int32) * q_1.1)), .inl (0 : Int32)], q_1.2))
def b126_13 (a0 : Nat) (v1 : Int32) (v2 : Int32) (v3 : Int32) (M : hM) : Option xRes :=
  Option.bind (g_o M 6 (some a0)) fun b_7 =>
  Option.bind (c_I (f96 [.inr (.inr (some b_7)), .inl (v2 - (1 : Int32))] M)) fun q_5 =>
  if q_5.1 ≤ v3 then
    (some (.inl (some (.inl (-1 : Int32)), q_5.2)))
  else
    (Option.bind (g_o q_5.2 6 (some a0)) fun b_11 =>
    Option.bind (c_I (f96 [.inr (.inr (some b_11)), .inl (v2 + ((2 : Int32) * v3))] q_5.2)) fun q_9 =>
    if q_9.1 = v1 then
      (Option.bind (g_o q_9.2 6 (some a0)) fun b_15 =>
      Option.bind (c_I (f96 [.inr (.inr (some b_15)), .inl ((v2 + ((2 : Int32) * v3)) + (1 : Int32))] q_9.2)) fun q_13 =>
      some (.inl (some (.inl q_13.1), q_13.2)))
    else
      (some (.inr (13, [.inr (.inr (some a0)), .inl v1, .inl v2, .inl (v3 + (1 : Int32))], q_9.2))))
def k126 (h : Nat) (as : List aV) (M : hM) : Option xRes :=
  if h = 13 then (match as with | [.inr (.inr (some a0)), .inl v1, .inl v2, .inl v3] => b126_13 a0 v1 v2 v3 M | _ => none) else
  none
def f126 (as : List aV) (M : hM) : xO := match as with
  | [.inr (.inr (some a0)), .inl v1] => x_go k126 (b126_0 a0 v1 M)
  | _ => none
theorem lb126_0 (G : gX) (l : Launch) (a0 : Nat) (v1 : Int32) (M : hM) {res : xRes} (h : b126_0 a0 v1 M = some res) : h_sz M ≤ r_sz res ∧ h_sl M ≤ r_sl res := by
  unfold b126_0 at h
  obtain ⟨b_3, h4, h⟩ := bd h
  obtain ⟨q_1, h2, h⟩ := bd h
  have eh2 := (t96 G l (c_I_some h2)).1
  obtain rfl := Option.some.inj h
  show h_sz M ≤ h_sz q_1.2 ∧ h_sl M ≤ h_sl q_1.2
  omega
theorem lb126_13 (G : gX) (l : Launch) (a0 : Nat) (v1 : Int32) (v2 : Int32) (v3 : Int32) (M : hM) {res : xRes} (h : b126_13 a0 v1 v2 v3 M = some res) : h_sz M ≤ r_sz res ∧ h_sl M ≤ r_sl res := by
  unfold b126_13 at h
  obtain ⟨b_7, h8, h⟩ := bd h
  obtain ⟨q_5, h6, h⟩ := bd h
  have eh6 := (t96 G l (c_I_some h6)).1
  by_cases q18 : q_5.1 ≤ v3
  · rw [if_pos q18] at h
    obtain rfl := Option.some.inj h
    show h_sz M ≤ h_sz q_5.2 ∧ h_sl M ≤ h_sl q_5.2
    omega
  · rw [if_neg q18] at h
    obtain ⟨b_11, h12, h⟩ := bd h
    obtain ⟨q_9, h10, h⟩ := bd h
    have eh10 := (t96 G l (c_I_some h10)).1
    by_cases q17 : q_9.1 = v1
    · rw [if_pos q17] at h
      obtain ⟨b_15, h16, h⟩ := bd h
      obtain ⟨q_13, h14, h⟩ := bd h
      have eh14 := (t96 G l (c_I_some h14)).1
      obtain rfl := Option.some.inj h
      show h_sz M ≤ h_sz q_13.2 ∧ h_sl M ≤ h_sl q_13.2
      omega
    · rw [if_neg q17] at h
      obtain rfl := Option.some.inj h
      show h_sz M ≤ h_sz q_9.2 ∧ h_sl M ≤ h_sl q_9.2
      omega
section
variable {p : Program} {l : Launch} {e : Env} {s : State} {m : MethodId} {args : Array Value} {below : List Frame} {meth : Method} {c : Code} {G : gX} {z0 y0 : Nat} {r : Option aV} {M' : hM}
def pg126 (p : Program) (l : Launch) (e : Env) (s : State) (m : MethodId) (args : Array Value) (below : List Frame) (meth : Method) (c : Code) (G : gX) (z0 y0 : Nat) (r : Option aV) (M' : hM) (h : Nat) (as : List aV) (M : hM) : Prop :=
  if h = 13 then (match as with | [.inr (.inr (some a0)), .inl v1, .inl v2, .inl v3] => xV G p l e (xRm 1 (h_sz M' - z0) (h_sl M' - y0)) s m args below meth c z0 y0 (h_sz M') (h_sl M') 4 (MQ below (xQc G r M') args s (h_sz M' - z0) (h_sl M' - y0) (xFr G)) 13 [(0, .inr (.inr (some a0))), (1, .inl v1), (2, .inl v2), (3, .inl v3)] [] M | _ => False) else
  False
theorem sb126_0 (E : xE G p (xRm 1 (h_sz M' - z0) (h_sl M' - y0)) s m args c prog_8_method_14_code "ZonedFabric$Notice" z0 y0 (h_sz M') (h_sl M') 4) (B : xB ym126 (some FieldType.int) meth) (a0 : Nat) (v1 : Int32) (M : hM) {res : xRes} (h : b126_0 a0 v1 M = some res) (hN : xN (pg126 p l e s m args below meth c G z0 y0 r M') r M' res) : xV G p l e (xRm 1 (h_sz M' - z0) (h_sl M' - y0)) s m args below meth c z0 y0 (h_sz M') (h_sl M') 4 (MQ below (xQc G r M') args s (h_sz M' - z0) (h_sl M' - y0) (xFr G)) 0 [(0, .inr (.inr (some a0))), (1, .inl v1)] [] M := by
  unfold b126_0 at h
  refine xv_b E [.bipush 7, .iconst 3, .aload_n 0, .iconst 5] (pc' := 5) (lv' := [(0, .inr (.inr (some a0))), (1, .inl v1)]) (st' := [.inl (5 : Int32), .inr (.inr (some a0)), .inl (3 : Int32), .inl (7 : Int32)]) (by decide +kernel) rfl rfl ?_
  obtain ⟨b_3, h4, h⟩ := bd h
  obtain ⟨eh4, th4⟩ := g_o_some h4
  obtain ⟨q_1, h2, h⟩ := bd h
  refine xv_cvo E eh4 6 (as := [.inl (5 : Int32)]) (t96 G l (c_I_some h2)) cd96 mw562 mw563 mw564 (show decode prog_8_method_14_code 5 = .ok (.invokevirtual 19, 3) by decide +kernel) th4 rfl rfl (Nat.le_of_ble_eq_true rfl) ⟨Nat.le_of_ble_eq_true rfl, Nat.le_of_ble_eq_true rfl⟩ ?_
  refine xv_b E [.imul, .iadd, .istore_n 2, .iconst 0, .istore_n 3] (pc' := 13) (lv' := [(3, .inl (0 : Int32)), (2, .inl ((7 : Int32) + ((3 : Int32) * q_1.1))), (0, .inr (.inr (some a0))), (1, .inl v1)]) (st' := []) (by decide +kernel) rfl rfl ?_
  obtain rfl := Option.some.inj h
  exact xv_w hN rfl
theorem sb126_13 (E : xE G p (xRm 1 (h_sz M' - z0) (h_sl M' - y0)) s m args c prog_8_method_14_code "ZonedFabric$Notice" z0 y0 (h_sz M') (h_sl M') 4) (B : xB ym126 (some FieldType.int) meth) (a0 : Nat) (v1 : Int32) (v2 : Int32) (v3 : Int32) (M : hM) {res : xRes} (h : b126_13 a0 v1 v2 v3 M = some res) (hN : xN (pg126 p l e s m args below meth c G z0 y0 r M') r M' res) : xV G p l e (xRm 1 (h_sz M' - z0) (h_sl M' - y0)) s m args below meth c z0 y0 (h_sz M') (h_sl M') 4 (MQ below (xQc G r M') args s (h_sz M' - z0) (h_sl M' - y0) (xFr G)) 13 [(0, .inr (.inr (some a0))), (1, .inl v1), (2, .inl v2), (3, .inl v3)] [] M := by
  unfold b126_13 at h
  refine xv_b E [.iload_n 3, .aload_n 0, .iload_n 2, .iconst 1, .isub] (pc' := 18) (lv' := [(0, .inr (.inr (some a0))), (1, .inl v1), (2, .inl v2), (3, .inl v3)]) (st' := [.inl (v2 - (1 : Int32)), .inr (.inr (some a0)), .inl v3]) (by decide +kernel) rfl rfl ?_
  obtain ⟨b_7, h8, h⟩ := bd h
  obtain ⟨eh8, th8⟩ := g_o_some h8
  obtain ⟨q_5, h6, h⟩ := bd h
  refine xv_cvo E eh8 6 (as := [.inl (v2 - (1 : Int32))]) (t96 G l (c_I_some h6)) cd96 mw562 mw563 mw564 (show decode prog_8_method_14_code 18 = .ok (.invokevirtual 19, 3) by decide +kernel) th8 rfl rfl (Nat.le_of_ble_eq_true rfl) ⟨Nat.le_of_ble_eq_true rfl, Nat.le_of_ble_eq_true rfl⟩ ?_
  by_cases q18 : q_5.1 ≤ v3
  · rw [if_pos q18] at h
    refine xv_icmp_ge E 55 (show decode prog_8_method_14_code 21 = .ok (.if_icmp .ge (34), 3) by decide +kernel) rfl (fun _ => ?_) (fun z => absurd q18 z)
    refine xv_b E [.iconst (-1)] (pc' := 56) (lv' := [(0, .inr (.inr (some a0))), (1, .inl v1), (2, .inl v2), (3, .inl v3)]) (st' := [.inl (-1 : Int32)]) (by decide +kernel) rfl rfl ?_
    obtain rfl := Option.some.inj h
    obtain ⟨rfl, rfl⟩ := Prod.mk.inj (show ((some (.inl (-1 : Int32)) : Option aV), q_5.2) = (r, M') from hN)
    exact xv_ri E B.1 rfl B.2.1 (show decode prog_8_method_14_code 56 = .ok (.ireturn, 1) by decide +kernel) rfl rfl
  · rw [if_neg q18] at h
    refine xv_icmp_ge E 55 (show decode prog_8_method_14_code 21 = .ok (.if_icmp .ge (34), 3) by decide +kernel) rfl (fun z => absurd z q18) (fun _ => ?_)
    refine xv_b E [.aload_n 0, .iload_n 2, .iconst 2, .iload_n 3, .imul, .iadd] (pc' := 30) (lv' := [(0, .inr (.inr (some a0))), (1, .inl v1), (2, .inl v2), (3, .inl v3)]) (st' := [.inl (v2 + ((2 : Int32) * v3)), .inr (.inr (some a0))]) (by decide +kernel) rfl rfl ?_
    obtain ⟨b_11, h12, h⟩ := bd h
    obtain ⟨eh12, th12⟩ := g_o_some h12
    obtain ⟨q_9, h10, h⟩ := bd h
    refine xv_cvo E eh12 6 (as := [.inl (v2 + ((2 : Int32) * v3))]) (t96 G l (c_I_some h10)) cd96 mw562 mw563 mw564 (show decode prog_8_method_14_code 30 = .ok (.invokevirtual 19, 3) by decide +kernel) th12 rfl rfl (Nat.le_of_ble_eq_true rfl) ⟨Nat.le_of_ble_eq_true rfl, Nat.le_of_ble_eq_true rfl⟩ ?_
    refine xv_b E [.iload_n 1] (pc' := 34) (lv' := [(0, .inr (.inr (some a0))), (1, .inl v1), (2, .inl v2), (3, .inl v3)]) (st' := [.inl v1, .inl q_9.1]) (by decide +kernel) rfl rfl ?_
    by_cases q17 : q_9.1 = v1
    · rw [if_pos q17] at h
      refine xv_icmp_ne E 49 (show decode prog_8_method_14_code 34 = .ok (.if_icmp .ne (15), 3) by decide +kernel) rfl (fun z => absurd q17 z) (fun _ => ?_)
      refine xv_b E [.aload_n 0, .iload_n 2, .iconst 2, .iload_n 3, .imul, .iadd, .iconst 1, .iadd] (pc' := 45) (lv' := [(0, .inr (.inr (some a0))), (1, .inl v1), (2, .inl v2), (3, .inl v3)]) (st' := [.inl ((v2 + ((2 : Int32) * v3)) + (1 : Int32)), .inr (.inr (some a0))]) (by decide +kernel) rfl rfl ?_
      obtain ⟨b_15, h16, h⟩ := bd h
      obtain ⟨eh16, th16⟩ := g_o_some h16
      obtain ⟨q_13, h14, h⟩ := bd h
      refine xv_cvo E eh16 6 (as := [.inl ((v2 + ((2 : Int32) * v3)) + (1 : Int32))]) (t96 G l (c_I_some h14)) cd96 mw562 mw563 mw564 (show decode prog_8_method_14_code 45 = .ok (.invokevirtual 19, 3) by decide +kernel) th16 rfl rfl (Nat.le_of_ble_eq_true rfl) ⟨Nat.le_of_ble_eq_true rfl, Nat.le_of_ble_eq_true rfl⟩ ?_
      obtain rfl := Option.some.inj h
      obtain ⟨rfl, rfl⟩ := Prod.mk.inj (show ((some (.inl q_13.1) : Option aV), q_13.2) = (r, M') from hN)
      exact xv_ri E B.1 rfl B.2.1 (show decode prog_8_method_14_code 48 = .ok (.ireturn, 1) by decide +kernel) rfl rfl
    · rw [if_neg q17] at h
      refine xv_icmp_ne E 49 (show decode prog_8_method_14_code 34 = .ok (.if_icmp .ne (15), 3) by decide +kernel) rfl (fun _ => ?_) (fun z => absurd z q17)
      refine xv_b E [.iinc 3 1] (pc' := 52) (lv' := [(3, .inl (v3 + (1 : Int32))), (0, .inr (.inr (some a0))), (1, .inl v1), (2, .inl v2)]) (st' := []) (by decide +kernel) rfl rfl ?_
      refine xv_goto E 13 (show decode prog_8_method_14_code 52 = .ok (.goto (-39), 3) by decide +kernel) rfl ?_
      obtain rfl := Option.some.inj h
      exact xv_w hN rfl
end
theorem t126 (G : gX) (l : Launch) {as : List aV} {M : hM} {r : Option aV} {M' : hM} (h : f126 as M = some (r, M')) : xM G l ym126 prog_8_method_14_code 4 (some FieldType.int) 1 as M r M' := by
  unfold f126 at h
  split at h
  · have hle : ∀ h as M res, k126 h as M = some res → h_sz M ≤ r_sz res ∧ h_sl M ≤ r_sl res := by
      intro h as M res hb
      unfold k126 at hb
      by_cases e0 : h = 13
      · rw [if_pos e0] at hb
        split at hb
        · exact lb126_13 G l _ _ _ _ M hb
        · cases hb
      · rw [if_neg e0] at hb
        cases hb
    obtain ⟨res, hx, hres⟩ := x_go_ok h
    refine xM_of (by decide) (Nat.le_of_ble_eq_true rfl) ?_ ?_
    · have e1 := lb126_0 G l _ _ M hx
      have e2 := x_go_le hle hres
      omega
    · intro p e s m args below meth c E B
      refine sb126_0 E B _ _ M hx (hres _ ?_)
      intro h as M res hb hN
      unfold k126 at hb
      unfold pg126
      by_cases e0 : h = 13
      · rw [if_pos e0] at hb ⊢
        split at hb
        · exact sb126_13 E B _ _ _ _ M hb hN
        · cases hb
      · rw [if_neg e0] at hb ⊢
        cases hb
  · cases h
/-! ZF.Switch.addressOf(I)I -/
def ym127 : MethodName := ⟨"ZonedFabric$Switch", "addressOf", "(I)I"⟩
theorem cd127 : xCd ym127 prog_12_method_18_code 4 (some FieldType.int) 1 := ⟨mw684, mw51, by decide, by decide, by decide +kernel⟩
def b127_0 (a0 : Nat) (v1 : Int32) (M : hM) : Option xRes :=
  some (.inr (2, [.inr (.inr (some a0)), .inl v1, .inl (0 : Int32)], M))
def b127_33 (a0 : Nat) (v1 : Int32) (v2 : Int32) (si0 : Int32) (M : hM) : Option xRes :=
  if si0 = (-1 : Int32) then
    (some (.inr (2, [.inr (.inr (some a0)), .inl v1, .inl (v2 + (1 : Int32))], M)))
  else
    (Option.bind (g_r M 10 4 (some a0)) fun o_19 =>
    Option.bind (al_r M 36 o_19 v2) fun o_21 =>
    Option.bind (g_o M 6 o_21) fun b_25 =>
    Option.bind (c_I (f103 [.inr (.inr (some b_25))] M)) fun q_23 =>
    some (.inl (some (.inl (((q_23.1 <<< ((16 : Int32) &&& 31)) ||| (si0 <<< ((8 : Int32) &&& 31))) ||| (v1 + (1 : Int32)))), q_23.2)))
def b127_2 (a0 : Nat) (v1 : Int32) (v2 : Int32) (M : hM) : Option xRes :=
  Option.bind (g_r M 10 4 (some a0)) fun o_1 =>
  Option.bind (a_ln M 36 o_1) fun v_3 =>
  if v_3 ≤ v2 then
    (some (.inl (some (.inl (0 : Int32)), M)))
  else
    (Option.bind (g_o M 10 (some a0)) fun b_7 =>
    Option.bind (c_I (f106 [.inr (.inr (some b_7)), .inl v2] M)) fun q_5 =>
    if q_5.1 = 0 then
      (b127_33 a0 v1 v2 (-1 : Int32) q_5.2)
    else
      (Option.bind (g_r q_5.2 10 4 (some a0)) fun o_9 =>
      Option.bind (al_r q_5.2 36 o_9 v2) fun o_11 =>
      Option.bind (g_o q_5.2 6 o_11) fun b_15 =>
      Option.bind (c_I (f126 [.inr (.inr (some b_15)), .inl v1] q_5.2)) fun q_13 =>
      b127_33 a0 v1 v2 q_13.1 q_13.2))
def k127 (h : Nat) (as : List aV) (M : hM) : Option xRes :=
  if h = 2 then (match as with | [.inr (.inr (some a0)), .inl v1, .inl v2] => b127_2 a0 v1 v2 M | _ => none) else
  none
def f127 (as : List aV) (M : hM) : xO := match as with
  | [.inr (.inr (some a0)), .inl v1] => x_go k127 (b127_0 a0 v1 M)
  | _ => none
theorem lb127_0 (G : gX) (l : Launch) (a0 : Nat) (v1 : Int32) (M : hM) {res : xRes} (h : b127_0 a0 v1 M = some res) : h_sz M ≤ r_sz res ∧ h_sl M ≤ r_sl res := by
  unfold b127_0 at h
  obtain rfl := Option.some.inj h
  show h_sz M ≤ h_sz M ∧ h_sl M ≤ h_sl M
  omega
theorem lb127_33 (G : gX) (l : Launch) (a0 : Nat) (v1 : Int32) (v2 : Int32) (si0 : Int32) (M : hM) {res : xRes} (h : b127_33 a0 v1 v2 si0 M = some res) : h_sz M ≤ r_sz res ∧ h_sl M ≤ r_sl res := by
  unfold b127_33 at h
  by_cases q27 : si0 = (-1 : Int32)
  · rw [if_pos q27] at h
    obtain rfl := Option.some.inj h
    show h_sz M ≤ h_sz M ∧ h_sl M ≤ h_sl M
    omega
  · rw [if_neg q27] at h
    obtain ⟨o_19, h20, h⟩ := bd h
    obtain ⟨o_21, h22, h⟩ := bd h
    obtain ⟨b_25, h26, h⟩ := bd h
    obtain ⟨q_23, h24, h⟩ := bd h
    have eh24 := (t103 G l (c_I_some h24)).1
    obtain rfl := Option.some.inj h
    show h_sz M ≤ h_sz q_23.2 ∧ h_sl M ≤ h_sl q_23.2
    omega
theorem lb127_2 (G : gX) (l : Launch) (a0 : Nat) (v1 : Int32) (v2 : Int32) (M : hM) {res : xRes} (h : b127_2 a0 v1 v2 M = some res) : h_sz M ≤ r_sz res ∧ h_sl M ≤ r_sl res := by
  unfold b127_2 at h
  obtain ⟨o_1, h2, h⟩ := bd h
  obtain ⟨v_3, h4, h⟩ := bd h
  by_cases q18 : v_3 ≤ v2
  · rw [if_pos q18] at h
    obtain rfl := Option.some.inj h
    show h_sz M ≤ h_sz M ∧ h_sl M ≤ h_sl M
    omega
  · rw [if_neg q18] at h
    obtain ⟨b_7, h8, h⟩ := bd h
    obtain ⟨q_5, h6, h⟩ := bd h
    have eh6 := (t106 G l (c_I_some h6)).1
    by_cases q17 : q_5.1 = 0
    · rw [if_pos q17] at h
      have e := lb127_33 G l a0 v1 v2 (-1 : Int32) q_5.2 h
      omega
    · rw [if_neg q17] at h
      obtain ⟨o_9, h10, h⟩ := bd h
      obtain ⟨o_11, h12, h⟩ := bd h
      obtain ⟨b_15, h16, h⟩ := bd h
      obtain ⟨q_13, h14, h⟩ := bd h
      have eh14 := (t126 G l (c_I_some h14)).1
      have e := lb127_33 G l a0 v1 v2 q_13.1 q_13.2 h
      omega
section
variable {p : Program} {l : Launch} {e : Env} {s : State} {m : MethodId} {args : Array Value} {below : List Frame} {meth : Method} {c : Code} {G : gX} {z0 y0 : Nat} {r : Option aV} {M' : hM}
def pg127 (p : Program) (l : Launch) (e : Env) (s : State) (m : MethodId) (args : Array Value) (below : List Frame) (meth : Method) (c : Code) (G : gX) (z0 y0 : Nat) (r : Option aV) (M' : hM) (h : Nat) (as : List aV) (M : hM) : Prop :=
  if h = 2 then (match as with | [.inr (.inr (some a0)), .inl v1, .inl v2] => xV G p l e (xRm 3 (h_sz M' - z0) (h_sl M' - y0)) s m args below meth c z0 y0 (h_sz M') (h_sl M') 4 (MQ below (xQc G r M') args s (h_sz M' - z0) (h_sl M' - y0) (xFr G)) 2 [(0, .inr (.inr (some a0))), (1, .inl v1), (2, .inl v2)] [] M | _ => False) else
  False
theorem sb127_0 (E : xE G p (xRm 3 (h_sz M' - z0) (h_sl M' - y0)) s m args c prog_12_method_18_code "ZonedFabric$Switch" z0 y0 (h_sz M') (h_sl M') 4) (B : xB ym127 (some FieldType.int) meth) (a0 : Nat) (v1 : Int32) (M : hM) {res : xRes} (h : b127_0 a0 v1 M = some res) (hN : xN (pg127 p l e s m args below meth c G z0 y0 r M') r M' res) : xV G p l e (xRm 3 (h_sz M' - z0) (h_sl M' - y0)) s m args below meth c z0 y0 (h_sz M') (h_sl M') 4 (MQ below (xQc G r M') args s (h_sz M' - z0) (h_sl M' - y0) (xFr G)) 0 [(0, .inr (.inr (some a0))), (1, .inl v1)] [] M := by
  unfold b127_0 at h
  refine xv_b E [.iconst 0, .istore_n 2] (pc' := 2) (lv' := [(2, .inl (0 : Int32)), (0, .inr (.inr (some a0))), (1, .inl v1)]) (st' := []) (by decide +kernel) rfl rfl ?_
  obtain rfl := Option.some.inj h
  exact xv_w hN rfl
theorem sb127_33 (E : xE G p (xRm 3 (h_sz M' - z0) (h_sl M' - y0)) s m args c prog_12_method_18_code "ZonedFabric$Switch" z0 y0 (h_sz M') (h_sl M') 4) (B : xB ym127 (some FieldType.int) meth) (a0 : Nat) (v1 : Int32) (v2 : Int32) (si0 : Int32) (M : hM) {res : xRes} (h : b127_33 a0 v1 v2 si0 M = some res) (hN : xN (pg127 p l e s m args below meth c G z0 y0 r M') r M' res) : xV G p l e (xRm 3 (h_sz M' - z0) (h_sl M' - y0)) s m args below meth c z0 y0 (h_sz M') (h_sl M') 4 (MQ below (xQc G r M') args s (h_sz M' - z0) (h_sl M' - y0) (xFr G)) 33 [(0, .inr (.inr (some a0))), (1, .inl v1), (2, .inl v2)] [.inl si0] M := by
  unfold b127_33 at h
  refine xv_b E [.istore_n 3, .iload_n 3, .iconst (-1)] (pc' := 36) (lv' := [(3, .inl si0), (0, .inr (.inr (some a0))), (1, .inl v1), (2, .inl v2)]) (st' := [.inl (-1 : Int32), .inl si0]) (by decide +kernel) rfl rfl ?_
  by_cases q27 : si0 = (-1 : Int32)
  · rw [if_pos q27] at h
    refine xv_icmp_eq E 61 (show decode prog_12_method_18_code 36 = .ok (.if_icmp .eq (25), 3) by decide +kernel) rfl (fun _ => ?_) (fun z => absurd q27 z)
    refine xv_b E [.iinc 2 1] (pc' := 64) (lv' := [(2, .inl (v2 + (1 : Int32))), (3, .inl si0), (0, .inr (.inr (some a0))), (1, .inl v1)]) (st' := []) (by decide +kernel) rfl rfl ?_
    refine xv_goto E 2 (show decode prog_12_method_18_code 64 = .ok (.goto (-62), 3) by decide +kernel) rfl ?_
    obtain rfl := Option.some.inj h
    exact xv_w hN rfl
  · rw [if_neg q27] at h
    refine xv_icmp_eq E 61 (show decode prog_12_method_18_code 36 = .ok (.if_icmp .eq (25), 3) by decide +kernel) rfl (fun z => absurd z q27) (fun _ => ?_)
    refine xv_b E [.aload_n 0] (pc' := 40) (lv' := [(3, .inl si0), (0, .inr (.inr (some a0))), (1, .inl v1), (2, .inl v2)]) (st' := [.inr (.inr (some a0))]) (by decide +kernel) rfl rfl ?_
    obtain ⟨o_19, h20, h⟩ := bd h
    refine xg_r E 10 4 h20 mw63 (show decode prog_12_method_18_code 40 = .ok (.getfield 44, 3) by decide +kernel) ?_
    refine xv_b E [.iload_n 2] (pc' := 44) (lv' := [(3, .inl si0), (0, .inr (.inr (some a0))), (1, .inl v1), (2, .inl v2)]) (st' := [.inl v2, .inr (.inr o_19)]) (by decide +kernel) rfl rfl ?_
    obtain ⟨o_21, h22, h⟩ := bd h
    refine xa_r E 36 h22 (show decode prog_12_method_18_code 44 = .ok (.aaload, 1) by decide +kernel) ?_
    obtain ⟨b_25, h26, h⟩ := bd h
    obtain ⟨eh26, th26⟩ := g_o_some h26
    obtain ⟨q_23, h24, h⟩ := bd h
    refine xv_cvo E eh26 6 (as := []) (t103 G l (c_I_some h24)) cd103 mw586 mw587 mw588 (show decode prog_12_method_18_code 45 = .ok (.invokevirtual 270, 3) by decide +kernel) th26 rfl rfl (Nat.le_of_ble_eq_true rfl) ⟨Nat.le_of_ble_eq_true rfl, Nat.le_of_ble_eq_true rfl⟩ ?_
    refine xv_b E [.bipush 16, .ishl, .iload_n 3, .bipush 8, .ishl, .ior, .iload_n 1, .iconst 1, .iadd, .ior] (pc' := 60) (lv' := [(3, .inl si0), (0, .inr (.inr (some a0))), (1, .inl v1), (2, .inl v2)]) (st' := [.inl (((q_23.1 <<< ((16 : Int32) &&& 31)) ||| (si0 <<< ((8 : Int32) &&& 31))) ||| (v1 + (1 : Int32)))]) (by decide +kernel) rfl rfl ?_
    obtain rfl := Option.some.inj h
    obtain ⟨rfl, rfl⟩ := Prod.mk.inj (show ((some (.inl (((q_23.1 <<< ((16 : Int32) &&& 31)) ||| (si0 <<< ((8 : Int32) &&& 31))) ||| (v1 + (1 : Int32)))) : Option aV), q_23.2) = (r, M') from hN)
    exact xv_ri E B.1 rfl B.2.1 (show decode prog_12_method_18_code 60 = .ok (.ireturn, 1) by decide +kernel) rfl rfl
theorem sb127_2 (E : xE G p (xRm 3 (h_sz M' - z0) (h_sl M' - y0)) s m args c prog_12_method_18_code "ZonedFabric$Switch" z0 y0 (h_sz M') (h_sl M') 4) (B : xB ym127 (some FieldType.int) meth) (a0 : Nat) (v1 : Int32) (v2 : Int32) (M : hM) {res : xRes} (h : b127_2 a0 v1 v2 M = some res) (hN : xN (pg127 p l e s m args below meth c G z0 y0 r M') r M' res) : xV G p l e (xRm 3 (h_sz M' - z0) (h_sl M' - y0)) s m args below meth c z0 y0 (h_sz M') (h_sl M') 4 (MQ below (xQc G r M') args s (h_sz M' - z0) (h_sl M' - y0) (xFr G)) 2 [(0, .inr (.inr (some a0))), (1, .inl v1), (2, .inl v2)] [] M := by
  unfold b127_2 at h
  refine xv_b E [.iload_n 2, .aload_n 0] (pc' := 4) (lv' := [(0, .inr (.inr (some a0))), (1, .inl v1), (2, .inl v2)]) (st' := [.inr (.inr (some a0)), .inl v2]) (by decide +kernel) rfl rfl ?_
  obtain ⟨o_1, h2, h⟩ := bd h
  refine xg_r E 10 4 h2 mw63 (show decode prog_12_method_18_code 4 = .ok (.getfield 44, 3) by decide +kernel) ?_
  obtain ⟨v_3, h4, h⟩ := bd h
  refine xa_n E 36 h4 (show decode prog_12_method_18_code 7 = .ok (.arraylength, 1) by decide +kernel) ?_
  by_cases q18 : v_3 ≤ v2
  · rw [if_pos q18] at h
    refine xv_icmp_ge E 67 (show decode prog_12_method_18_code 8 = .ok (.if_icmp .ge (59), 3) by decide +kernel) rfl (fun _ => ?_) (fun z => absurd q18 z)
    refine xv_b E [.iconst 0] (pc' := 68) (lv' := [(0, .inr (.inr (some a0))), (1, .inl v1), (2, .inl v2)]) (st' := [.inl (0 : Int32)]) (by decide +kernel) rfl rfl ?_
    obtain rfl := Option.some.inj h
    obtain ⟨rfl, rfl⟩ := Prod.mk.inj (show ((some (.inl (0 : Int32)) : Option aV), M) = (r, M') from hN)
    exact xv_ri E B.1 rfl B.2.1 (show decode prog_12_method_18_code 68 = .ok (.ireturn, 1) by decide +kernel) rfl rfl
  · rw [if_neg q18] at h
    refine xv_icmp_ge E 67 (show decode prog_12_method_18_code 8 = .ok (.if_icmp .ge (59), 3) by decide +kernel) rfl (fun z => absurd z q18) (fun _ => ?_)
    refine xv_b E [.aload_n 0, .iload_n 2] (pc' := 13) (lv' := [(0, .inr (.inr (some a0))), (1, .inl v1), (2, .inl v2)]) (st' := [.inl v2, .inr (.inr (some a0))]) (by decide +kernel) rfl rfl ?_
    obtain ⟨b_7, h8, h⟩ := bd h
    obtain ⟨eh8, th8⟩ := g_o_some h8
    obtain ⟨q_5, h6, h⟩ := bd h
    refine xv_cvo E eh8 10 (as := [.inl v2]) (t106 G l (c_I_some h6)) cd106 mw609 mw610 mw611 (show decode prog_12_method_18_code 13 = .ok (.invokevirtual 263, 3) by decide +kernel) th8 rfl rfl (Nat.le_of_ble_eq_true rfl) ⟨Nat.le_of_ble_eq_true rfl, Nat.le_of_ble_eq_true rfl⟩ ?_
    by_cases q17 : q_5.1 = 0
    · rw [if_pos q17] at h
      refine xv_if_eq E 32 (show decode prog_12_method_18_code 16 = .ok (.ifCond .eq (16), 3) by decide +kernel) rfl (fun _ => ?_) (fun z => absurd q17 z)
      refine xv_b E [.iconst (-1)] (pc' := 33) (lv' := [(0, .inr (.inr (some a0))), (1, .inl v1), (2, .inl v2)]) (st' := [.inl (-1 : Int32)]) (by decide +kernel) rfl rfl ?_
      exact xv_w (sb127_33 E B a0 v1 v2 (-1 : Int32) q_5.2 h hN) rfl
    · rw [if_neg q17] at h
      refine xv_if_eq E 32 (show decode prog_12_method_18_code 16 = .ok (.ifCond .eq (16), 3) by decide +kernel) rfl (fun z => absurd z q17) (fun _ => ?_)
      refine xv_b E [.aload_n 0] (pc' := 20) (lv' := [(0, .inr (.inr (some a0))), (1, .inl v1), (2, .inl v2)]) (st' := [.inr (.inr (some a0))]) (by decide +kernel) rfl rfl ?_
      obtain ⟨o_9, h10, h⟩ := bd h
      refine xg_r E 10 4 h10 mw63 (show decode prog_12_method_18_code 20 = .ok (.getfield 44, 3) by decide +kernel) ?_
      refine xv_b E [.iload_n 2] (pc' := 24) (lv' := [(0, .inr (.inr (some a0))), (1, .inl v1), (2, .inl v2)]) (st' := [.inl v2, .inr (.inr o_9)]) (by decide +kernel) rfl rfl ?_
      obtain ⟨o_11, h12, h⟩ := bd h
      refine xa_r E 36 h12 (show decode prog_12_method_18_code 24 = .ok (.aaload, 1) by decide +kernel) ?_
      refine xv_b E [.iload_n 1] (pc' := 26) (lv' := [(0, .inr (.inr (some a0))), (1, .inl v1), (2, .inl v2)]) (st' := [.inl v1, .inr (.inr o_11)]) (by decide +kernel) rfl rfl ?_
      obtain ⟨b_15, h16, h⟩ := bd h
      obtain ⟨eh16, th16⟩ := g_o_some h16
      obtain ⟨q_13, h14, h⟩ := bd h
      refine xv_cvo E eh16 6 (as := [.inl v1]) (t126 G l (c_I_some h14)) cd126 mw685 mw686 mw687 (show decode prog_12_method_18_code 26 = .ok (.invokevirtual 267, 3) by decide +kernel) th16 rfl rfl (Nat.le_of_ble_eq_true rfl) ⟨Nat.le_of_ble_eq_true rfl, Nat.le_of_ble_eq_true rfl⟩ ?_
      refine xv_goto E 33 (show decode prog_12_method_18_code 29 = .ok (.goto (4), 3) by decide +kernel) rfl ?_
      exact xv_w (sb127_33 E B a0 v1 v2 q_13.1 q_13.2 h hN) rfl
end
theorem t127 (G : gX) (l : Launch) {as : List aV} {M : hM} {r : Option aV} {M' : hM} (h : f127 as M = some (r, M')) : xM G l ym127 prog_12_method_18_code 4 (some FieldType.int) 3 as M r M' := by
  unfold f127 at h
  split at h
  · have hle : ∀ h as M res, k127 h as M = some res → h_sz M ≤ r_sz res ∧ h_sl M ≤ r_sl res := by
      intro h as M res hb
      unfold k127 at hb
      by_cases e0 : h = 2
      · rw [if_pos e0] at hb
        split at hb
        · exact lb127_2 G l _ _ _ M hb
        · cases hb
      · rw [if_neg e0] at hb
        cases hb
    obtain ⟨res, hx, hres⟩ := x_go_ok h
    refine xM_of (by decide) (Nat.le_of_ble_eq_true rfl) ?_ ?_
    · have e1 := lb127_0 G l _ _ M hx
      have e2 := x_go_le hle hres
      omega
    · intro p e s m args below meth c E B
      refine sb127_0 E B _ _ M hx (hres _ ?_)
      intro h as M res hb hN
      unfold k127 at hb
      unfold pg127
      by_cases e0 : h = 2
      · rw [if_pos e0] at hb ⊢
        split at hb
        · exact sb127_2 E B _ _ _ M hb hN
        · cases hb
      · rw [if_neg e0] at hb ⊢
        cases hb
  · cases h
/-! ZF.Switch.takeAsk(LZF$Port;LZF$Frame;)V -/
def ym128 : MethodName := ⟨"ZonedFabric$Switch", "takeAsk", "(LZonedFabric$Port;LZonedFabric$Frame;)V"⟩
theorem cd128 : xCd ym128 prog_12_method_12_code 6 none 2 := ⟨mw688, mw51, by decide, by decide, by decide +kernel⟩
def b128_18 (a0 : Nat) (M : hM) : Option xRes :=
  Option.bind (g_r M 10 0 (some a0)) fun o_42 =>
  Option.bind (g_o M 9 o_42) fun b_46 =>
  Option.bind (c_V (f37 [.inr (.inr (some b_46)), .inl (2 : Int32)] M)) fun q_44 =>
  some (.inl (none, q_44))
def b128_91 (o1 : Option Nat) (o5 : Option Nat) (sl0 : Int64) (si1 : Int32) (sr2 : Option Nat) (M : hM) : Option xRes :=
  Option.bind (g_o M 2 sr2) fun b_50 =>
  Option.bind (c_V (f36 [.inr (.inr (some b_50)), .inl si1, .inr (.inl sl0)] M)) fun q_48 =>
  Option.bind (g_o q_48 8 o1) fun b_54 =>
  Option.bind (c_V (f39 [.inr (.inr (some b_54)), .inr (.inr o5)] q_48)) fun q_52 =>
  some (.inl (none, q_52))
def b128_0 (a0 : Nat) (o1 : Option Nat) (o2 : Option Nat) (M : hM) : Option xRes :=
  Option.bind (g_i M 8 12 o1) fun v_1 =>
  if v_1 = 0 then
    (b128_18 a0 M)
  else
    (Option.bind (g_o M 2 o2) fun b_5 =>
    Option.bind (c_I (f65 [.inr (.inr (some b_5))] M)) fun q_3 =>
    Option.bind (g_i q_3.2 8 12 o1) fun v_7 =>
    if q_3.1 = v_7 then
      (Option.bind (g_o q_3.2 2 o2) fun b_11 =>
      Option.bind (c_I (f58 [.inr (.inr (some b_11)), .inl (0 : Int32)] q_3.2)) fun q_9 =>
      Option.bind (g_r q_9.2 10 0 (some a0)) fun o_13 =>
      Option.bind (g_o q_9.2 8 o1) fun b_17 =>
      Option.bind (c_I (f116 [.inr (.inr (some b_17))] q_9.2)) fun q_15 =>
      Option.bind (g_o q_15.2 9 o_13) fun b_21 =>
      Option.bind (c_I (f125 [.inr (.inr (some b_21)), .inl q_9.1, .inl q_15.1] q_15.2)) fun q_19 =>
      Option.bind (g_r q_19.2 10 0 (some a0)) fun o_23 =>
      Option.bind (g_i q_19.2 8 12 o1) fun v_25 =>
      Option.bind (g_o q_19.2 9 o_23) fun b_29 =>
      Option.bind (c_R (f34 [.inr (.inr (some b_29)), .inl (6 : Int32), .inl v_25, .inl (16777212 : Int32), .inl (0 : Int32)] q_19.2)) fun q_27 =>
      Option.bind (g_o q_27.2 2 q_27.1) fun b_33 =>
      Option.bind (c_V (f36 [.inr (.inr (some b_33)), .inl (1 : Int32), .inr (.inl (Int32.toInt64 q_9.1))] q_27.2)) fun q_31 =>
      if q_19.1 = 0 then
        (b128_91 o1 q_27.1 (0 : Int64) (3 : Int32) q_27.1 q_31)
      else
        (Option.bind (g_o q_31 10 (some a0)) fun b_37 =>
        Option.bind (c_I (f127 [.inr (.inr (some b_37)), .inl q_9.1] q_31)) fun q_35 =>
        b128_91 o1 q_27.1 (Int32.toInt64 q_35.1) (3 : Int32) q_27.1 q_35.2))
    else
      (b128_18 a0 q_3.2))
def f128 (as : List aV) (M : hM) : xO := match as with
  | [.inr (.inr (some a0)), .inr (.inr o1), .inr (.inr o2)] => x_out (b128_0 a0 o1 o2 M)
  | _ => none
theorem lb128_18 (G : gX) (l : Launch) (a0 : Nat) (M : hM) {res : xRes} (h : b128_18 a0 M = some res) : h_sz M ≤ r_sz res ∧ h_sl M ≤ r_sl res := by
  unfold b128_18 at h
  obtain ⟨o_42, h43, h⟩ := bd h
  obtain ⟨b_46, h47, h⟩ := bd h
  obtain ⟨q_44, h45, h⟩ := bd h
  have eh45 := (t37 G l (c_V_some h45)).1
  obtain rfl := Option.some.inj h
  show h_sz M ≤ h_sz q_44 ∧ h_sl M ≤ h_sl q_44
  omega
theorem lb128_91 (G : gX) (l : Launch) (o1 : Option Nat) (o5 : Option Nat) (sl0 : Int64) (si1 : Int32) (sr2 : Option Nat) (M : hM) {res : xRes} (h : b128_91 o1 o5 sl0 si1 sr2 M = some res) : h_sz M ≤ r_sz res ∧ h_sl M ≤ r_sl res := by
  unfold b128_91 at h
  obtain ⟨b_50, h51, h⟩ := bd h
  obtain ⟨q_48, h49, h⟩ := bd h
  have eh49 := (t36 G l (c_V_some h49)).1
  obtain ⟨b_54, h55, h⟩ := bd h
  obtain ⟨q_52, h53, h⟩ := bd h
  have eh53 := (t39 G l (c_V_some h53)).1
  obtain rfl := Option.some.inj h
  show h_sz M ≤ h_sz q_52 ∧ h_sl M ≤ h_sl q_52
  omega
theorem lb128_0 (G : gX) (l : Launch) (a0 : Nat) (o1 : Option Nat) (o2 : Option Nat) (M : hM) {res : xRes} (h : b128_0 a0 o1 o2 M = some res) : h_sz M ≤ r_sz res ∧ h_sl M ≤ r_sl res := by
  unfold b128_0 at h
  obtain ⟨v_1, h2, h⟩ := bd h
  by_cases q41 : v_1 = 0
  · rw [if_pos q41] at h
    have e := lb128_18 G l a0 M h
    omega
  · rw [if_neg q41] at h
    obtain ⟨b_5, h6, h⟩ := bd h
    obtain ⟨q_3, h4, h⟩ := bd h
    have eh4 := (t65 G l (c_I_some h4)).1
    obtain ⟨v_7, h8, h⟩ := bd h
    by_cases q40 : q_3.1 = v_7
    · rw [if_pos q40] at h
      obtain ⟨b_11, h12, h⟩ := bd h
      obtain ⟨q_9, h10, h⟩ := bd h
      have eh10 := (t58 G l (c_I_some h10)).1
      obtain ⟨o_13, h14, h⟩ := bd h
      obtain ⟨b_17, h18, h⟩ := bd h
      obtain ⟨q_15, h16, h⟩ := bd h
      have eh16 := (t116 G l (c_I_some h16)).1
      obtain ⟨b_21, h22, h⟩ := bd h
      obtain ⟨q_19, h20, h⟩ := bd h
      have eh20 := (t125 G l (c_I_some h20)).1
      obtain ⟨o_23, h24, h⟩ := bd h
      obtain ⟨v_25, h26, h⟩ := bd h
      obtain ⟨b_29, h30, h⟩ := bd h
      obtain ⟨q_27, h28, h⟩ := bd h
      have eh28 := (t34 G l (c_R_some h28)).1
      obtain ⟨b_33, h34, h⟩ := bd h
      obtain ⟨q_31, h32, h⟩ := bd h
      have eh32 := (t36 G l (c_V_some h32)).1
      by_cases q39 : q_19.1 = 0
      · rw [if_pos q39] at h
        have e := lb128_91 G l o1 q_27.1 (0 : Int64) (3 : Int32) q_27.1 q_31 h
        omega
      · rw [if_neg q39] at h
        obtain ⟨b_37, h38, h⟩ := bd h
        obtain ⟨q_35, h36, h⟩ := bd h
        have eh36 := (t127 G l (c_I_some h36)).1
        have e := lb128_91 G l o1 q_27.1 (Int32.toInt64 q_35.1) (3 : Int32) q_27.1 q_35.2 h
        omega
    · rw [if_neg q40] at h
      have e := lb128_18 G l a0 q_3.2 h
      omega
section
variable {p : Program} {l : Launch} {e : Env} {s : State} {m : MethodId} {args : Array Value} {below : List Frame} {meth : Method} {c : Code} {G : gX} {z0 y0 : Nat} {r : Option aV} {M' : hM}
theorem sb128_18 (E : xE G p (xRm 4 (h_sz M' - z0) (h_sl M' - y0)) s m args c prog_12_method_12_code "ZonedFabric$Switch" z0 y0 (h_sz M') (h_sl M') 6) (B : xB ym128 none meth) (a0 : Nat) (M : hM) {res : xRes} (h : b128_18 a0 M = some res) (hN : xN (fun _ _ _ => False) r M' res) : xV G p l e (xRm 4 (h_sz M' - z0) (h_sl M' - y0)) s m args below meth c z0 y0 (h_sz M') (h_sl M') 6 (MQ below (xQc G r M') args s (h_sz M' - z0) (h_sl M' - y0) (xFr G)) 18 [(0, .inr (.inr (some a0)))] [] M := by
  unfold b128_18 at h
  refine xv_b E [.aload_n 0] (pc' := 19) (lv' := [(0, .inr (.inr (some a0)))]) (st' := [.inr (.inr (some a0))]) (by decide +kernel) rfl rfl ?_
  obtain ⟨o_42, h43, h⟩ := bd h
  refine xg_r E 10 0 h43 mw60 (show decode prog_12_method_12_code 19 = .ok (.getfield 34, 3) by decide +kernel) ?_
  refine xv_b E [.iconst 2] (pc' := 23) (lv' := [(0, .inr (.inr (some a0)))]) (st' := [.inl (2 : Int32), .inr (.inr o_42)]) (by decide +kernel) rfl rfl ?_
  obtain ⟨b_46, h47, h⟩ := bd h
  obtain ⟨eh47, th47⟩ := g_o_some h47
  obtain ⟨q_44, h45, h⟩ := bd h
  refine xv_cvo E eh47 9 (as := [.inl (2 : Int32)]) (t37 G l (c_V_some h45)) cd37 mw676 mw244 mw245 (show decode prog_12_method_12_code 23 = .ok (.invokevirtual 146, 3) by decide +kernel) th47 rfl rfl (Nat.le_of_ble_eq_true rfl) ⟨Nat.le_of_ble_eq_true rfl, Nat.le_of_ble_eq_true rfl⟩ ?_
  obtain rfl := Option.some.inj h
  obtain ⟨rfl, rfl⟩ := Prod.mk.inj (show ((none : Option aV), q_44) = (r, M') from hN)
  exact xv_rv E B.1 B.2.1 (show decode prog_12_method_12_code 26 = .ok (.return_, 1) by decide +kernel) rfl rfl
theorem sb128_91 (E : xE G p (xRm 4 (h_sz M' - z0) (h_sl M' - y0)) s m args c prog_12_method_12_code "ZonedFabric$Switch" z0 y0 (h_sz M') (h_sl M') 6) (B : xB ym128 none meth) (o1 : Option Nat) (o5 : Option Nat) (sl0 : Int64) (si1 : Int32) (sr2 : Option Nat) (M : hM) {res : xRes} (h : b128_91 o1 o5 sl0 si1 sr2 M = some res) (hN : xN (fun _ _ _ => False) r M' res) : xV G p l e (xRm 4 (h_sz M' - z0) (h_sl M' - y0)) s m args below meth c z0 y0 (h_sz M') (h_sl M') 6 (MQ below (xQc G r M') args s (h_sz M' - z0) (h_sl M' - y0) (xFr G)) 91 [(1, .inr (.inr o1)), (5, .inr (.inr o5))] [.inr (.inl sl0), .inl si1, .inr (.inr sr2)] M := by
  unfold b128_91 at h
  obtain ⟨b_50, h51, h⟩ := bd h
  obtain ⟨eh51, th51⟩ := g_o_some h51
  obtain ⟨q_48, h49, h⟩ := bd h
  refine xv_cvo E eh51 2 (as := [.inl si1, .inr (.inl sl0)]) (t36 G l (c_V_some h49)) cd36 mw633 mw254 mw255 (show decode prog_12_method_12_code 91 = .ok (.invokevirtual 125, 3) by decide +kernel) th51 rfl rfl (Nat.le_of_ble_eq_true rfl) ⟨Nat.le_of_ble_eq_true rfl, Nat.le_of_ble_eq_true rfl⟩ ?_
  refine xv_b E [.aload_n 1, .aload 5] (pc' := 97) (lv' := [(1, .inr (.inr o1)), (5, .inr (.inr o5))]) (st' := [.inr (.inr o5), .inr (.inr o1)]) (by decide +kernel) rfl rfl ?_
  obtain ⟨b_54, h55, h⟩ := bd h
  obtain ⟨eh55, th55⟩ := g_o_some h55
  obtain ⟨q_52, h53, h⟩ := bd h
  refine xv_cvo E eh55 8 (as := [.inr (.inr o5)]) (t39 G l (c_V_some h53)) cd39 mw557 mw257 mw258 (show decode prog_12_method_12_code 97 = .ok (.invokevirtual 95, 3) by decide +kernel) th55 rfl rfl (Nat.le_of_ble_eq_true rfl) ⟨Nat.le_of_ble_eq_true rfl, Nat.le_of_ble_eq_true rfl⟩ ?_
  obtain rfl := Option.some.inj h
  obtain ⟨rfl, rfl⟩ := Prod.mk.inj (show ((none : Option aV), q_52) = (r, M') from hN)
  exact xv_rv E B.1 B.2.1 (show decode prog_12_method_12_code 100 = .ok (.return_, 1) by decide +kernel) rfl rfl
theorem sb128_0 (E : xE G p (xRm 4 (h_sz M' - z0) (h_sl M' - y0)) s m args c prog_12_method_12_code "ZonedFabric$Switch" z0 y0 (h_sz M') (h_sl M') 6) (B : xB ym128 none meth) (a0 : Nat) (o1 : Option Nat) (o2 : Option Nat) (M : hM) {res : xRes} (h : b128_0 a0 o1 o2 M = some res) (hN : xN (fun _ _ _ => False) r M' res) : xV G p l e (xRm 4 (h_sz M' - z0) (h_sl M' - y0)) s m args below meth c z0 y0 (h_sz M') (h_sl M') 6 (MQ below (xQc G r M') args s (h_sz M' - z0) (h_sl M' - y0) (xFr G)) 0 [(0, .inr (.inr (some a0))), (1, .inr (.inr o1)), (2, .inr (.inr o2))] [] M := by
  unfold b128_0 at h
  refine xv_b E [.aload_n 1] (pc' := 1) (lv' := [(0, .inr (.inr (some a0))), (1, .inr (.inr o1)), (2, .inr (.inr o2))]) (st' := [.inr (.inr o1)]) (by decide +kernel) rfl rfl ?_
  obtain ⟨v_1, h2, h⟩ := bd h
  refine xg_i E 8 12 h2 mw554 (show decode prog_12_method_12_code 1 = .ok (.getfield 84, 3) by decide +kernel) ?_
  by_cases q41 : v_1 = 0
  · rw [if_pos q41] at h
    refine xv_if_eq E 18 (show decode prog_12_method_12_code 4 = .ok (.ifCond .eq (14), 3) by decide +kernel) rfl (fun _ => ?_) (fun z => absurd q41 z)
    exact xv_w (sb128_18 E B a0 M h hN) rfl
  · rw [if_neg q41] at h
    refine xv_if_eq E 18 (show decode prog_12_method_12_code 4 = .ok (.ifCond .eq (14), 3) by decide +kernel) rfl (fun z => absurd z q41) (fun _ => ?_)
    refine xv_b E [.aload_n 2] (pc' := 8) (lv' := [(0, .inr (.inr (some a0))), (1, .inr (.inr o1)), (2, .inr (.inr o2))]) (st' := [.inr (.inr o2)]) (by decide +kernel) rfl rfl ?_
    obtain ⟨b_5, h6, h⟩ := bd h
    obtain ⟨eh6, th6⟩ := g_o_some h6
    obtain ⟨q_3, h4, h⟩ := bd h
    refine xv_cvo E eh6 2 (as := []) (t65 G l (c_I_some h4)) cd65 mw689 mw370 mw371 (show decode prog_12_method_12_code 8 = .ok (.invokevirtual 221, 3) by decide +kernel) th6 rfl rfl (Nat.le_of_ble_eq_true rfl) ⟨Nat.le_of_ble_eq_true rfl, Nat.le_of_ble_eq_true rfl⟩ ?_
    refine xv_b E [.aload_n 1] (pc' := 12) (lv' := [(0, .inr (.inr (some a0))), (1, .inr (.inr o1)), (2, .inr (.inr o2))]) (st' := [.inr (.inr o1), .inl q_3.1]) (by decide +kernel) rfl rfl ?_
    obtain ⟨v_7, h8, h⟩ := bd h
    refine xg_i E 8 12 h8 mw554 (show decode prog_12_method_12_code 12 = .ok (.getfield 84, 3) by decide +kernel) ?_
    by_cases q40 : q_3.1 = v_7
    · rw [if_pos q40] at h
      refine xv_icmp_eq E 27 (show decode prog_12_method_12_code 15 = .ok (.if_icmp .eq (12), 3) by decide +kernel) rfl (fun _ => ?_) (fun z => absurd q40 z)
      refine xv_b E [.aload_n 2, .iconst 0] (pc' := 29) (lv' := [(0, .inr (.inr (some a0))), (1, .inr (.inr o1)), (2, .inr (.inr o2))]) (st' := [.inl (0 : Int32), .inr (.inr o2)]) (by decide +kernel) rfl rfl ?_
      obtain ⟨b_11, h12, h⟩ := bd h
      obtain ⟨eh12, th12⟩ := g_o_some h12
      obtain ⟨q_9, h10, h⟩ := bd h
      refine xv_cvo E eh12 2 (as := [.inl (0 : Int32)]) (t58 G l (c_I_some h10)) cd58 mw690 mw342 mw343 (show decode prog_12_method_12_code 29 = .ok (.invokevirtual 224, 3) by decide +kernel) th12 rfl rfl (Nat.le_of_ble_eq_true rfl) ⟨Nat.le_of_ble_eq_true rfl, Nat.le_of_ble_eq_true rfl⟩ ?_
      refine xv_b E [.istore_n 3, .aload_n 0] (pc' := 34) (lv' := [(3, .inl q_9.1), (0, .inr (.inr (some a0))), (1, .inr (.inr o1)), (2, .inr (.inr o2))]) (st' := [.inr (.inr (some a0))]) (by decide +kernel) rfl rfl ?_
      obtain ⟨o_13, h14, h⟩ := bd h
      refine xg_r E 10 0 h14 mw60 (show decode prog_12_method_12_code 34 = .ok (.getfield 34, 3) by decide +kernel) ?_
      refine xv_b E [.iload_n 3, .aload_n 1] (pc' := 39) (lv' := [(3, .inl q_9.1), (0, .inr (.inr (some a0))), (1, .inr (.inr o1)), (2, .inr (.inr o2))]) (st' := [.inr (.inr o1), .inl q_9.1, .inr (.inr o_13)]) (by decide +kernel) rfl rfl ?_
      obtain ⟨b_17, h18, h⟩ := bd h
      obtain ⟨eh18, th18⟩ := g_o_some h18
      obtain ⟨q_15, h16, h⟩ := bd h
      refine xv_cvo E eh18 8 (as := []) (t116 G l (c_I_some h16)) cd116 mw646 mw647 mw648 (show decode prog_12_method_12_code 39 = .ok (.invokevirtual 159, 3) by decide +kernel) th18 rfl rfl (Nat.le_of_ble_eq_true rfl) ⟨Nat.le_of_ble_eq_true rfl, Nat.le_of_ble_eq_true rfl⟩ ?_
      obtain ⟨b_21, h22, h⟩ := bd h
      obtain ⟨eh22, th22⟩ := g_o_some h22
      obtain ⟨q_19, h20, h⟩ := bd h
      refine xv_cvo E eh22 9 (as := [.inl q_9.1, .inl q_15.1]) (t125 G l (c_I_some h20)) cd125 mw691 mw692 mw693 (show decode prog_12_method_12_code 42 = .ok (.invokevirtual 228, 3) by decide +kernel) th22 rfl rfl (Nat.le_of_ble_eq_true rfl) ⟨Nat.le_of_ble_eq_true rfl, Nat.le_of_ble_eq_true rfl⟩ ?_
      refine xv_b E [.istore 4, .aload_n 0] (pc' := 48) (lv' := [(4, .inl q_19.1), (3, .inl q_9.1), (0, .inr (.inr (some a0))), (1, .inr (.inr o1)), (2, .inr (.inr o2))]) (st' := [.inr (.inr (some a0))]) (by decide +kernel) rfl rfl ?_
      obtain ⟨o_23, h24, h⟩ := bd h
      refine xg_r E 10 0 h24 mw60 (show decode prog_12_method_12_code 48 = .ok (.getfield 34, 3) by decide +kernel) ?_
      refine xv_b E [.bipush 6, .aload_n 1] (pc' := 54) (lv' := [(4, .inl q_19.1), (3, .inl q_9.1), (0, .inr (.inr (some a0))), (1, .inr (.inr o1)), (2, .inr (.inr o2))]) (st' := [.inr (.inr o1), .inl (6 : Int32), .inr (.inr o_23)]) (by decide +kernel) rfl rfl ?_
      obtain ⟨v_25, h26, h⟩ := bd h
      refine xg_i E 8 12 h26 mw554 (show decode prog_12_method_12_code 54 = .ok (.getfield 84, 3) by decide +kernel) ?_
      refine xv_ldc E (16777212 : Int32) mw697 (show decode prog_12_method_12_code 57 = .ok (.ldc 193, 2) by decide +kernel) ?_
      refine xv_b E [.iconst 0] (pc' := 60) (lv' := [(4, .inl q_19.1), (3, .inl q_9.1), (0, .inr (.inr (some a0))), (1, .inr (.inr o1)), (2, .inr (.inr o2))]) (st' := [.inl (0 : Int32), .inl (16777212 : Int32), .inl v_25, .inl (6 : Int32), .inr (.inr o_23)]) (by decide +kernel) rfl rfl ?_
      obtain ⟨b_29, h30, h⟩ := bd h
      obtain ⟨eh30, th30⟩ := g_o_some h30
      obtain ⟨q_27, h28, h⟩ := bd h
      refine xv_cvo E eh30 9 (as := [.inl (6 : Int32), .inl v_25, .inl (16777212 : Int32), .inl (0 : Int32)]) (t34 G l (c_R_some h28)) cd34 mw556 mw251 mw252 (show decode prog_12_method_12_code 60 = .ok (.invokevirtual 92, 3) by decide +kernel) th30 rfl rfl (Nat.le_of_ble_eq_true rfl) ⟨Nat.le_of_ble_eq_true rfl, Nat.le_of_ble_eq_true rfl⟩ ?_
      refine xv_b E [.astore 5, .aload 5, .iconst 1, .iload_n 3, .i2l] (pc' := 70) (lv' := [(5, .inr (.inr q_27.1)), (4, .inl q_19.1), (3, .inl q_9.1), (0, .inr (.inr (some a0))), (1, .inr (.inr o1)), (2, .inr (.inr o2))]) (st' := [.inr (.inl (Int32.toInt64 q_9.1)), .inl (1 : Int32), .inr (.inr q_27.1)]) (by decide +kernel) rfl rfl ?_
      obtain ⟨b_33, h34, h⟩ := bd h
      obtain ⟨eh34, th34⟩ := g_o_some h34
      obtain ⟨q_31, h32, h⟩ := bd h
      refine xv_cvo E eh34 2 (as := [.inl (1 : Int32), .inr (.inl (Int32.toInt64 q_9.1))]) (t36 G l (c_V_some h32)) cd36 mw633 mw254 mw255 (show decode prog_12_method_12_code 70 = .ok (.invokevirtual 125, 3) by decide +kernel) th34 rfl rfl (Nat.le_of_ble_eq_true rfl) ⟨Nat.le_of_ble_eq_true rfl, Nat.le_of_ble_eq_true rfl⟩ ?_
      refine xv_b E [.aload 5, .iconst 3, .iload 4] (pc' := 78) (lv' := [(5, .inr (.inr q_27.1)), (4, .inl q_19.1), (3, .inl q_9.1), (0, .inr (.inr (some a0))), (1, .inr (.inr o1)), (2, .inr (.inr o2))]) (st' := [.inl q_19.1, .inl (3 : Int32), .inr (.inr q_27.1)]) (by decide +kernel) rfl rfl ?_
      by_cases q39 : q_19.1 = 0
      · rw [if_pos q39] at h
        refine xv_if_eq E 90 (show decode prog_12_method_12_code 78 = .ok (.ifCond .eq (12), 3) by decide +kernel) rfl (fun _ => ?_) (fun z => absurd q39 z)
        refine xv_b E [.lconst 0] (pc' := 91) (lv' := [(5, .inr (.inr q_27.1)), (4, .inl q_19.1), (3, .inl q_9.1), (0, .inr (.inr (some a0))), (1, .inr (.inr o1)), (2, .inr (.inr o2))]) (st' := [.inr (.inl (0 : Int64)), .inl (3 : Int32), .inr (.inr q_27.1)]) (by decide +kernel) rfl rfl ?_
        exact xv_w (sb128_91 E B o1 q_27.1 (0 : Int64) (3 : Int32) q_27.1 q_31 h hN) rfl
      · rw [if_neg q39] at h
        refine xv_if_eq E 90 (show decode prog_12_method_12_code 78 = .ok (.ifCond .eq (12), 3) by decide +kernel) rfl (fun z => absurd z q39) (fun _ => ?_)
        refine xv_b E [.aload_n 0, .iload_n 3] (pc' := 83) (lv' := [(5, .inr (.inr q_27.1)), (4, .inl q_19.1), (3, .inl q_9.1), (0, .inr (.inr (some a0))), (1, .inr (.inr o1)), (2, .inr (.inr o2))]) (st' := [.inl q_9.1, .inr (.inr (some a0)), .inl (3 : Int32), .inr (.inr q_27.1)]) (by decide +kernel) rfl rfl ?_
        obtain ⟨b_37, h38, h⟩ := bd h
        obtain ⟨eh38, th38⟩ := g_o_some h38
        obtain ⟨q_35, h36, h⟩ := bd h
        refine xv_cvo E eh38 10 (as := [.inl q_9.1]) (t127 G l (c_I_some h36)) cd127 mw694 mw695 mw696 (show decode prog_12_method_12_code 83 = .ok (.invokevirtual 232, 3) by decide +kernel) th38 rfl rfl (Nat.le_of_ble_eq_true rfl) ⟨Nat.le_of_ble_eq_true rfl, Nat.le_of_ble_eq_true rfl⟩ ?_
        refine xv_b E [.i2l] (pc' := 87) (lv' := [(5, .inr (.inr q_27.1)), (4, .inl q_19.1), (3, .inl q_9.1), (0, .inr (.inr (some a0))), (1, .inr (.inr o1)), (2, .inr (.inr o2))]) (st' := [.inr (.inl (Int32.toInt64 q_35.1)), .inl (3 : Int32), .inr (.inr q_27.1)]) (by decide +kernel) rfl rfl ?_
        refine xv_goto E 91 (show decode prog_12_method_12_code 87 = .ok (.goto (4), 3) by decide +kernel) rfl ?_
        exact xv_w (sb128_91 E B o1 q_27.1 (Int32.toInt64 q_35.1) (3 : Int32) q_27.1 q_35.2 h hN) rfl
    · rw [if_neg q40] at h
      refine xv_icmp_eq E 27 (show decode prog_12_method_12_code 15 = .ok (.if_icmp .eq (12), 3) by decide +kernel) rfl (fun z => absurd z q40) (fun _ => ?_)
      exact xv_w (sb128_18 E B a0 q_3.2 h hN) rfl
end
theorem t128 (G : gX) (l : Launch) {as : List aV} {M : hM} {r : Option aV} {M' : hM} (h : f128 as M = some (r, M')) : xM G l ym128 prog_12_method_12_code 6 none 4 as M r M' := by
  unfold f128 at h
  split at h
  · have h := x_out_ok h
    refine xM_of (by decide) (Nat.le_of_ble_eq_true rfl) (lb128_0 G l _ _ _ M h) ?_
    intro p e s m args below meth c E B
    exact sb128_0 E B _ _ _ M h rfl
  · cases h
/-! ZF.Switch.takeFlogi(LZF$Port;)V -/
def ym129 : MethodName := ⟨"ZonedFabric$Switch", "takeFlogi", "(LZonedFabric$Port;)V"⟩
theorem cd129 : xCd ym129 prog_12_method_11_code 2 none 1 := ⟨mw698, mw51, by decide, by decide, by decide +kernel⟩
def b129_52  (M : hM) : Option xRes :=
  some (.inl (none, M))
def b129_0 (a0 : Nat) (o1 : Option Nat) (M : hM) : Option xRes :=
  Option.bind (g_i M 10 10 (some a0)) fun v_1 =>
  if v_1 = 0 then
    (Option.bind (g_i M 10 3 (some a0)) fun v_3 =>
    Option.bind (g_i M 8 2 o1) fun v_5 =>
    Option.bind (g_o M 8 o1) fun b_9 =>
    Option.bind (c_I (f116 [.inr (.inr (some b_9))] M)) fun q_7 =>
    Option.bind (p_i q_7.2 8 12 o1 (((v_3 <<< ((16 : Int32) &&& 31)) ||| (v_5 <<< ((8 : Int32) &&& 31))) ||| (q_7.1 + (1 : Int32)))) fun M11 =>
    Option.bind (g_r M11 10 0 (some a0)) fun o_13 =>
    Option.bind (g_i M11 8 12 o1) fun v_15 =>
    Option.bind (g_o M11 9 o_13) fun b_19 =>
    Option.bind (c_R (f34 [.inr (.inr (some b_19)), .inl (4 : Int32), .inl v_15, .inl (16777214 : Int32), .inl (0 : Int32)] M11)) fun q_17 =>
    Option.bind (g_o q_17.2 8 o1) fun b_23 =>
    Option.bind (c_V (f39 [.inr (.inr (some b_23)), .inr (.inr q_17.1)] q_17.2)) fun q_21 =>
    b129_52  q_21)
  else
    (b129_52  M)
def f129 (as : List aV) (M : hM) : xO := match as with
  | [.inr (.inr (some a0)), .inr (.inr o1)] => x_out (b129_0 a0 o1 M)
  | _ => none
theorem lb129_52 (G : gX) (l : Launch)  (M : hM) {res : xRes} (h : b129_52  M = some res) : h_sz M ≤ r_sz res ∧ h_sl M ≤ r_sl res := by
  unfold b129_52 at h
  obtain rfl := Option.some.inj h
  show h_sz M ≤ h_sz M ∧ h_sl M ≤ h_sl M
  omega
theorem lb129_0 (G : gX) (l : Launch) (a0 : Nat) (o1 : Option Nat) (M : hM) {res : xRes} (h : b129_0 a0 o1 M = some res) : h_sz M ≤ r_sz res ∧ h_sl M ≤ r_sl res := by
  unfold b129_0 at h
  obtain ⟨v_1, h2, h⟩ := bd h
  by_cases q25 : v_1 = 0
  · rw [if_pos q25] at h
    obtain ⟨v_3, h4, h⟩ := bd h
    obtain ⟨v_5, h6, h⟩ := bd h
    obtain ⟨b_9, h10, h⟩ := bd h
    obtain ⟨q_7, h8, h⟩ := bd h
    have eh8 := (t116 G l (c_I_some h8)).1
    obtain ⟨M11, h12, h⟩ := bd h
    have eh12 := p_i_sz h12
    obtain ⟨o_13, h14, h⟩ := bd h
    obtain ⟨v_15, h16, h⟩ := bd h
    obtain ⟨b_19, h20, h⟩ := bd h
    obtain ⟨q_17, h18, h⟩ := bd h
    have eh18 := (t34 G l (c_R_some h18)).1
    obtain ⟨b_23, h24, h⟩ := bd h
    obtain ⟨q_21, h22, h⟩ := bd h
    have eh22 := (t39 G l (c_V_some h22)).1
    have e := lb129_52 G l  q_21 h
    omega
  · rw [if_neg q25] at h
    have e := lb129_52 G l  M h
    omega
section
variable {p : Program} {l : Launch} {e : Env} {s : State} {m : MethodId} {args : Array Value} {below : List Frame} {meth : Method} {c : Code} {G : gX} {z0 y0 : Nat} {r : Option aV} {M' : hM}
theorem sb129_52 (E : xE G p (xRm 3 (h_sz M' - z0) (h_sl M' - y0)) s m args c prog_12_method_11_code "ZonedFabric$Switch" z0 y0 (h_sz M') (h_sl M') 2) (B : xB ym129 none meth)  (M : hM) {res : xRes} (h : b129_52  M = some res) (hN : xN (fun _ _ _ => False) r M' res) : xV G p l e (xRm 3 (h_sz M' - z0) (h_sl M' - y0)) s m args below meth c z0 y0 (h_sz M') (h_sl M') 2 (MQ below (xQc G r M') args s (h_sz M' - z0) (h_sl M' - y0) (xFr G)) 52 [] [] M := by
  unfold b129_52 at h
  obtain rfl := Option.some.inj h
  obtain ⟨rfl, rfl⟩ := Prod.mk.inj (show ((none : Option aV), M) = (r, M') from hN)
  exact xv_rv E B.1 B.2.1 (show decode prog_12_method_11_code 52 = .ok (.return_, 1) by decide +kernel) rfl rfl
theorem sb129_0 (E : xE G p (xRm 3 (h_sz M' - z0) (h_sl M' - y0)) s m args c prog_12_method_11_code "ZonedFabric$Switch" z0 y0 (h_sz M') (h_sl M') 2) (B : xB ym129 none meth) (a0 : Nat) (o1 : Option Nat) (M : hM) {res : xRes} (h : b129_0 a0 o1 M = some res) (hN : xN (fun _ _ _ => False) r M' res) : xV G p l e (xRm 3 (h_sz M' - z0) (h_sl M' - y0)) s m args below meth c z0 y0 (h_sz M') (h_sl M') 2 (MQ below (xQc G r M') args s (h_sz M' - z0) (h_sl M' - y0) (xFr G)) 0 [(0, .inr (.inr (some a0))), (1, .inr (.inr o1))] [] M := by
  unfold b129_0 at h
  refine xv_b E [.aload_n 0] (pc' := 1) (lv' := [(0, .inr (.inr (some a0))), (1, .inr (.inr o1))]) (st' := [.inr (.inr (some a0))]) (by decide +kernel) rfl rfl ?_
  obtain ⟨v_1, h2, h⟩ := bd h
  refine xg_i E 10 10 h2 mw555 (show decode prog_12_method_11_code 1 = .ok (.getfield 87, 3) by decide +kernel) ?_
  by_cases q25 : v_1 = 0
  · rw [if_pos q25] at h
    refine xv_if_ne E 52 (show decode prog_12_method_11_code 4 = .ok (.ifCond .ne (48), 3) by decide +kernel) rfl (fun z => absurd q25 z) (fun _ => ?_)
    refine xv_b E [.aload_n 1, .aload_n 0] (pc' := 9) (lv' := [(0, .inr (.inr (some a0))), (1, .inr (.inr o1))]) (st' := [.inr (.inr (some a0)), .inr (.inr o1)]) (by decide +kernel) rfl rfl ?_
    obtain ⟨v_3, h4, h⟩ := bd h
    refine xg_i E 10 3 h4 mw62 (show decode prog_12_method_11_code 9 = .ok (.getfield 41, 3) by decide +kernel) ?_
    refine xv_b E [.bipush 16, .ishl, .aload_n 1] (pc' := 16) (lv' := [(0, .inr (.inr (some a0))), (1, .inr (.inr o1))]) (st' := [.inr (.inr o1), .inl (v_3 <<< ((16 : Int32) &&& 31)), .inr (.inr o1)]) (by decide +kernel) rfl rfl ?_
    obtain ⟨v_5, h6, h⟩ := bd h
    refine xg_i E 8 2 h6 mw699 (show decode prog_12_method_11_code 16 = .ok (.getfield 220, 3) by decide +kernel) ?_
    refine xv_b E [.bipush 8, .ishl, .ior, .aload_n 1] (pc' := 24) (lv' := [(0, .inr (.inr (some a0))), (1, .inr (.inr o1))]) (st' := [.inr (.inr o1), .inl ((v_3 <<< ((16 : Int32) &&& 31)) ||| (v_5 <<< ((8 : Int32) &&& 31))), .inr (.inr o1)]) (by decide +kernel) rfl rfl ?_
    obtain ⟨b_9, h10, h⟩ := bd h
    obtain ⟨eh10, th10⟩ := g_o_some h10
    obtain ⟨q_7, h8, h⟩ := bd h
    refine xv_cvo E eh10 8 (as := []) (t116 G l (c_I_some h8)) cd116 mw646 mw647 mw648 (show decode prog_12_method_11_code 24 = .ok (.invokevirtual 159, 3) by decide +kernel) th10 rfl rfl (Nat.le_of_ble_eq_true rfl) ⟨Nat.le_of_ble_eq_true rfl, Nat.le_of_ble_eq_true rfl⟩ ?_
    refine xv_b E [.iconst 1, .iadd, .ior] (pc' := 30) (lv' := [(0, .inr (.inr (some a0))), (1, .inr (.inr o1))]) (st' := [.inl (((v_3 <<< ((16 : Int32) &&& 31)) ||| (v_5 <<< ((8 : Int32) &&& 31))) ||| (q_7.1 + (1 : Int32))), .inr (.inr o1)]) (by decide +kernel) rfl rfl ?_
    obtain ⟨M11, h12, h⟩ := bd h
    refine xp_i E 8 12 h12 mw554 (show decode prog_12_method_11_code 30 = .ok (.putfield 84, 3) by decide +kernel) (Or.inl rfl) ?_
    refine xv_b E [.aload_n 1, .aload_n 0] (pc' := 35) (lv' := [(0, .inr (.inr (some a0))), (1, .inr (.inr o1))]) (st' := [.inr (.inr (some a0)), .inr (.inr o1)]) (by decide +kernel) rfl rfl ?_
    obtain ⟨o_13, h14, h⟩ := bd h
    refine xg_r E 10 0 h14 mw60 (show decode prog_12_method_11_code 35 = .ok (.getfield 34, 3) by decide +kernel) ?_
    refine xv_b E [.iconst 4, .aload_n 1] (pc' := 40) (lv' := [(0, .inr (.inr (some a0))), (1, .inr (.inr o1))]) (st' := [.inr (.inr o1), .inl (4 : Int32), .inr (.inr o_13), .inr (.inr o1)]) (by decide +kernel) rfl rfl ?_
    obtain ⟨v_15, h16, h⟩ := bd h
    refine xg_i E 8 12 h16 mw554 (show decode prog_12_method_11_code 40 = .ok (.getfield 84, 3) by decide +kernel) ?_
    refine xv_ldc E (16777214 : Int32) mw558 (show decode prog_12_method_11_code 43 = .ok (.ldc 91, 2) by decide +kernel) ?_
    refine xv_b E [.iconst 0] (pc' := 46) (lv' := [(0, .inr (.inr (some a0))), (1, .inr (.inr o1))]) (st' := [.inl (0 : Int32), .inl (16777214 : Int32), .inl v_15, .inl (4 : Int32), .inr (.inr o_13), .inr (.inr o1)]) (by decide +kernel) rfl rfl ?_
    obtain ⟨b_19, h20, h⟩ := bd h
    obtain ⟨eh20, th20⟩ := g_o_some h20
    obtain ⟨q_17, h18, h⟩ := bd h
    refine xv_cvo E eh20 9 (as := [.inl (4 : Int32), .inl v_15, .inl (16777214 : Int32), .inl (0 : Int32)]) (t34 G l (c_R_some h18)) cd34 mw556 mw251 mw252 (show decode prog_12_method_11_code 46 = .ok (.invokevirtual 92, 3) by decide +kernel) th20 rfl rfl (Nat.le_of_ble_eq_true rfl) ⟨Nat.le_of_ble_eq_true rfl, Nat.le_of_ble_eq_true rfl⟩ ?_
    obtain ⟨b_23, h24, h⟩ := bd h
    obtain ⟨eh24, th24⟩ := g_o_some h24
    obtain ⟨q_21, h22, h⟩ := bd h
    refine xv_cvo E eh24 8 (as := [.inr (.inr q_17.1)]) (t39 G l (c_V_some h22)) cd39 mw557 mw257 mw258 (show decode prog_12_method_11_code 49 = .ok (.invokevirtual 95, 3) by decide +kernel) th24 rfl rfl (Nat.le_of_ble_eq_true rfl) ⟨Nat.le_of_ble_eq_true rfl, Nat.le_of_ble_eq_true rfl⟩ ?_
    exact xv_w (sb129_52 E B  q_21 h hN) rfl
  · rw [if_neg q25] at h
    refine xv_if_ne E 52 (show decode prog_12_method_11_code 4 = .ok (.ifCond .ne (48), 3) by decide +kernel) rfl (fun _ => ?_) (fun z => absurd z q25)
    exact xv_w (sb129_52 E B  M h hN) rfl
end
theorem t129 (G : gX) (l : Launch) {as : List aV} {M : hM} {r : Option aV} {M' : hM} (h : f129 as M = some (r, M')) : xM G l ym129 prog_12_method_11_code 2 none 3 as M r M' := by
  unfold f129 at h
  split at h
  · have h := x_out_ok h
    refine xM_of (by decide) (Nat.le_of_ble_eq_true rfl) (lb129_0 G l _ _ M h) ?_
    intro p e s m args below meth c E B
    exact sb129_0 E B _ _ M h rfl
  · cases h
/-! ZF.Switch.takeRecord(LZF$Port;LZF$Frame;)V -/
def ym130 : MethodName := ⟨"ZonedFabric$Switch", "takeRecord", "(LZonedFabric$Port;LZonedFabric$Frame;)V"⟩
theorem cd130 : xCd ym130 prog_12_method_14_code 7 none 2 := ⟨mw700, mw51, by decide, by decide, by decide +kernel⟩
def b130_47  (M : hM) : Option xRes :=
  some (.inl (none, M))
def b130_0 (a0 : Nat) (o1 : Option Nat) (o2 : Option Nat) (M : hM) : Option xRes :=
  Option.bind (g_o M 2 o2) fun b_3 =>
  Option.bind (c_I (f58 [.inr (.inr (some b_3)), .inl (0 : Int32)] M)) fun q_1 =>
  Option.bind (g_o q_1.2 2 o2) fun b_7 =>
  Option.bind (c_L (f56 [.inr (.inr (some b_7)), .inl (14 : Int32), .inl (3 : Int32)] q_1.2)) fun q_5 =>
  Option.bind (g_r q_5.2 10 4 (some a0)) fun o_9 =>
  Option.bind (a_ln q_5.2 36 o_9) fun v_11 =>
  if v_11 ≤ q_1.1 then
    (b130_47  q_5.2)
  else
    (Option.bind (g_i q_5.2 10 1 (some a0)) fun v_13 =>
    if q_1.1 = v_13 then
      (b130_47  q_5.2)
    else
      (Option.bind (g_r q_5.2 10 4 (some a0)) fun o_15 =>
      Option.bind (al_r q_5.2 36 o_15 q_1.1) fun o_17 =>
      Option.bind (g_o q_5.2 6 o_17) fun b_21 =>
      Option.bind (c_I (f118 [.inr (.inr (some b_21))] q_5.2)) fun q_19 =>
      if q_19.1 < (Int64.toInt32 q_5.1) then
        (Option.bind (g_r q_19.2 10 4 (some a0)) fun o_23 =>
        Option.bind (al_r q_19.2 36 o_23 q_1.1) fun o_25 =>
        Option.bind (g_o q_19.2 6 o_25) fun b_29 =>
        Option.bind (c_V (f110 [.inr (.inr (some b_29))] q_19.2)) fun q_27 =>
        some (.inr (64, [.inr (.inr (some a0)), .inr (.inr o1), .inr (.inr o2), .inr (.inr o_25), .inl (0 : Int32)], q_27)))
      else
        (b130_47  q_19.2)))
def b130_64 (a0 : Nat) (o1 : Option Nat) (o2 : Option Nat) (o5 : Option Nat) (v6 : Int32) (M : hM) : Option xRes :=
  Option.bind (g_i M 2 1 o2) fun v_34 =>
  if ((v_34 - (13 : Int32)) - (4 : Int32)) ≤ v6 then
    (Option.bind (g_r M 10 0 (some a0)) fun o_36 =>
    Option.bind (g_i M 9 3 o_36) fun v_38 =>
    Option.bind (p_i M 6 2 o5 v_38) fun M40 =>
    Option.bind (g_o M40 10 (some a0)) fun b_44 =>
    Option.bind (c_V (f109 [.inr (.inr (some b_44))] M40)) fun q_42 =>
    Option.bind (g_i q_42 8 2 o1) fun v_46 =>
    Option.bind (g_o q_42 10 (some a0)) fun b_50 =>
    Option.bind (c_V (f122 [.inr (.inr (some b_50)), .inr (.inr o5), .inl v_46] q_42)) fun q_48 =>
    some (.inl (none, q_48)))
  else
    (Option.bind (g_o M 2 o2) fun b_54 =>
    Option.bind (c_I (f58 [.inr (.inr (some b_54)), .inl v6] M)) fun q_52 =>
    Option.bind (g_o q_52.2 6 o5) fun b_58 =>
    Option.bind (c_V (f114 [.inr (.inr (some b_58)), .inl q_52.1] q_52.2)) fun q_56 =>
    some (.inr (64, [.inr (.inr (some a0)), .inr (.inr o1), .inr (.inr o2), .inr (.inr o5), .inl (v6 + (1 : Int32))], q_56)))
def k130 (h : Nat) (as : List aV) (M : hM) : Option xRes :=
  if h = 64 then (match as with | [.inr (.inr (some a0)), .inr (.inr o1), .inr (.inr o2), .inr (.inr o5), .inl v6] => b130_64 a0 o1 o2 o5 v6 M | _ => none) else
  none
def f130 (as : List aV) (M : hM) : xO := match as with
  | [.inr (.inr (some a0)), .inr (.inr o1), .inr (.inr o2)] => x_go k130 (b130_0 a0 o1 o2 M)
  | _ => none
theorem lb130_47 (G : gX) (l : Launch)  (M : hM) {res : xRes} (h : b130_47  M = some res) : h_sz M ≤ r_sz res ∧ h_sl M ≤ r_sl res := by
  unfold b130_47 at h
  obtain rfl := Option.some.inj h
  show h_sz M ≤ h_sz M ∧ h_sl M ≤ h_sl M
  omega
theorem lb130_0 (G : gX) (l : Launch) (a0 : Nat) (o1 : Option Nat) (o2 : Option Nat) (M : hM) {res : xRes} (h : b130_0 a0 o1 o2 M = some res) : h_sz M ≤ r_sz res ∧ h_sl M ≤ r_sl res := by
  unfold b130_0 at h
  obtain ⟨b_3, h4, h⟩ := bd h
  obtain ⟨q_1, h2, h⟩ := bd h
  have eh2 := (t58 G l (c_I_some h2)).1
  obtain ⟨b_7, h8, h⟩ := bd h
  obtain ⟨q_5, h6, h⟩ := bd h
  have eh6 := (t56 G l (c_L_some h6)).1
  obtain ⟨o_9, h10, h⟩ := bd h
  obtain ⟨v_11, h12, h⟩ := bd h
  by_cases q33 : v_11 ≤ q_1.1
  · rw [if_pos q33] at h
    have e := lb130_47 G l  q_5.2 h
    omega
  · rw [if_neg q33] at h
    obtain ⟨v_13, h14, h⟩ := bd h
    by_cases q32 : q_1.1 = v_13
    · rw [if_pos q32] at h
      have e := lb130_47 G l  q_5.2 h
      omega
    · rw [if_neg q32] at h
      obtain ⟨o_15, h16, h⟩ := bd h
      obtain ⟨o_17, h18, h⟩ := bd h
      obtain ⟨b_21, h22, h⟩ := bd h
      obtain ⟨q_19, h20, h⟩ := bd h
      have eh20 := (t118 G l (c_I_some h20)).1
      by_cases q31 : q_19.1 < (Int64.toInt32 q_5.1)
      · rw [if_pos q31] at h
        obtain ⟨o_23, h24, h⟩ := bd h
        obtain ⟨o_25, h26, h⟩ := bd h
        obtain ⟨b_29, h30, h⟩ := bd h
        obtain ⟨q_27, h28, h⟩ := bd h
        have eh28 := (t110 G l (c_V_some h28)).1
        obtain rfl := Option.some.inj h
        show h_sz M ≤ h_sz q_27 ∧ h_sl M ≤ h_sl q_27
        omega
      · rw [if_neg q31] at h
        have e := lb130_47 G l  q_19.2 h
        omega
theorem lb130_64 (G : gX) (l : Launch) (a0 : Nat) (o1 : Option Nat) (o2 : Option Nat) (o5 : Option Nat) (v6 : Int32) (M : hM) {res : xRes} (h : b130_64 a0 o1 o2 o5 v6 M = some res) : h_sz M ≤ r_sz res ∧ h_sl M ≤ r_sl res := by
  unfold b130_64 at h
  obtain ⟨v_34, h35, h⟩ := bd h
  by_cases q60 : ((v_34 - (13 : Int32)) - (4 : Int32)) ≤ v6
  · rw [if_pos q60] at h
    obtain ⟨o_36, h37, h⟩ := bd h
    obtain ⟨v_38, h39, h⟩ := bd h
    obtain ⟨M40, h41, h⟩ := bd h
    have eh41 := p_i_sz h41
    obtain ⟨b_44, h45, h⟩ := bd h
    obtain ⟨q_42, h43, h⟩ := bd h
    have eh43 := (t109 G l (c_V_some h43)).1
    obtain ⟨v_46, h47, h⟩ := bd h
    obtain ⟨b_50, h51, h⟩ := bd h
    obtain ⟨q_48, h49, h⟩ := bd h
    have eh49 := (t122 G l (c_V_some h49)).1
    obtain rfl := Option.some.inj h
    show h_sz M ≤ h_sz q_48 ∧ h_sl M ≤ h_sl q_48
    omega
  · rw [if_neg q60] at h
    obtain ⟨b_54, h55, h⟩ := bd h
    obtain ⟨q_52, h53, h⟩ := bd h
    have eh53 := (t58 G l (c_I_some h53)).1
    obtain ⟨b_58, h59, h⟩ := bd h
    obtain ⟨q_56, h57, h⟩ := bd h
    have eh57 := (t114 G l (c_V_some h57)).1
    obtain rfl := Option.some.inj h
    show h_sz M ≤ h_sz q_56 ∧ h_sl M ≤ h_sl q_56
    omega
section
variable {p : Program} {l : Launch} {e : Env} {s : State} {m : MethodId} {args : Array Value} {below : List Frame} {meth : Method} {c : Code} {G : gX} {z0 y0 : Nat} {r : Option aV} {M' : hM}
def pg130 (p : Program) (l : Launch) (e : Env) (s : State) (m : MethodId) (args : Array Value) (below : List Frame) (meth : Method) (c : Code) (G : gX) (z0 y0 : Nat) (r : Option aV) (M' : hM) (h : Nat) (as : List aV) (M : hM) : Prop :=
  if h = 64 then (match as with | [.inr (.inr (some a0)), .inr (.inr o1), .inr (.inr o2), .inr (.inr o5), .inl v6] => xV G p l e (xRm 5 (h_sz M' - z0) (h_sl M' - y0)) s m args below meth c z0 y0 (h_sz M') (h_sl M') 7 (MQ below (xQc G r M') args s (h_sz M' - z0) (h_sl M' - y0) (xFr G)) 64 [(0, .inr (.inr (some a0))), (1, .inr (.inr o1)), (2, .inr (.inr o2)), (5, .inr (.inr o5)), (6, .inl v6)] [] M | _ => False) else
  False
theorem sb130_47 (E : xE G p (xRm 5 (h_sz M' - z0) (h_sl M' - y0)) s m args c prog_12_method_14_code "ZonedFabric$Switch" z0 y0 (h_sz M') (h_sl M') 7) (B : xB ym130 none meth)  (M : hM) {res : xRes} (h : b130_47  M = some res) (hN : xN (pg130 p l e s m args below meth c G z0 y0 r M') r M' res) : xV G p l e (xRm 5 (h_sz M' - z0) (h_sl M' - y0)) s m args below meth c z0 y0 (h_sz M') (h_sl M') 7 (MQ below (xQc G r M') args s (h_sz M' - z0) (h_sl M' - y0) (xFr G)) 47 [] [] M := by
  unfold b130_47 at h
  obtain rfl := Option.some.inj h
  obtain ⟨rfl, rfl⟩ := Prod.mk.inj (show ((none : Option aV), M) = (r, M') from hN)
  exact xv_rv E B.1 B.2.1 (show decode prog_12_method_14_code 47 = .ok (.return_, 1) by decide +kernel) rfl rfl
theorem sb130_0 (E : xE G p (xRm 5 (h_sz M' - z0) (h_sl M' - y0)) s m args c prog_12_method_14_code "ZonedFabric$Switch" z0 y0 (h_sz M') (h_sl M') 7) (B : xB ym130 none meth) (a0 : Nat) (o1 : Option Nat) (o2 : Option Nat) (M : hM) {res : xRes} (h : b130_0 a0 o1 o2 M = some res) (hN : xN (pg130 p l e s m args below meth c G z0 y0 r M') r M' res) : xV G p l e (xRm 5 (h_sz M' - z0) (h_sl M' - y0)) s m args below meth c z0 y0 (h_sz M') (h_sl M') 7 (MQ below (xQc G r M') args s (h_sz M' - z0) (h_sl M' - y0) (xFr G)) 0 [(0, .inr (.inr (some a0))), (1, .inr (.inr o1)), (2, .inr (.inr o2))] [] M := by
  unfold b130_0 at h
  refine xv_b E [.aload_n 2, .iconst 0] (pc' := 2) (lv' := [(0, .inr (.inr (some a0))), (1, .inr (.inr o1)), (2, .inr (.inr o2))]) (st' := [.inl (0 : Int32), .inr (.inr o2)]) (by decide +kernel) rfl rfl ?_
  obtain ⟨b_3, h4, h⟩ := bd h
  obtain ⟨eh4, th4⟩ := g_o_some h4
  obtain ⟨q_1, h2, h⟩ := bd h
  refine xv_cvo E eh4 2 (as := [.inl (0 : Int32)]) (t58 G l (c_I_some h2)) cd58 mw690 mw342 mw343 (show decode prog_12_method_14_code 2 = .ok (.invokevirtual 224, 3) by decide +kernel) th4 rfl rfl (Nat.le_of_ble_eq_true rfl) ⟨Nat.le_of_ble_eq_true rfl, Nat.le_of_ble_eq_true rfl⟩ ?_
  refine xv_b E [.istore_n 3, .aload_n 2, .bipush 14, .iconst 3] (pc' := 10) (lv' := [(3, .inl q_1.1), (0, .inr (.inr (some a0))), (1, .inr (.inr o1)), (2, .inr (.inr o2))]) (st' := [.inl (3 : Int32), .inl (14 : Int32), .inr (.inr o2)]) (by decide +kernel) rfl rfl ?_
  obtain ⟨b_7, h8, h⟩ := bd h
  obtain ⟨eh8, th8⟩ := g_o_some h8
  obtain ⟨q_5, h6, h⟩ := bd h
  refine xv_cvo E eh8 2 (as := [.inl (14 : Int32), .inl (3 : Int32)]) (t56 G l (c_L_some h6)) cd56 mw701 mw347 mw348 (show decode prog_12_method_14_code 10 = .ok (.invokevirtual 235, 3) by decide +kernel) th8 rfl rfl (Nat.le_of_ble_eq_true rfl) ⟨Nat.le_of_ble_eq_true rfl, Nat.le_of_ble_eq_true rfl⟩ ?_
  refine xv_b E [.l2i, .istore 4, .iload_n 3, .aload_n 0] (pc' := 18) (lv' := [(4, .inl (Int64.toInt32 q_5.1)), (3, .inl q_1.1), (0, .inr (.inr (some a0))), (1, .inr (.inr o1)), (2, .inr (.inr o2))]) (st' := [.inr (.inr (some a0)), .inl q_1.1]) (by decide +kernel) rfl rfl ?_
  obtain ⟨o_9, h10, h⟩ := bd h
  refine xg_r E 10 4 h10 mw63 (show decode prog_12_method_14_code 18 = .ok (.getfield 44, 3) by decide +kernel) ?_
  obtain ⟨v_11, h12, h⟩ := bd h
  refine xa_n E 36 h12 (show decode prog_12_method_14_code 21 = .ok (.arraylength, 1) by decide +kernel) ?_
  by_cases q33 : v_11 ≤ q_1.1
  · rw [if_pos q33] at h
    refine xv_icmp_ge E 47 (show decode prog_12_method_14_code 22 = .ok (.if_icmp .ge (25), 3) by decide +kernel) rfl (fun _ => ?_) (fun z => absurd q33 z)
    exact xv_w (sb130_47 E B  q_5.2 h hN) rfl
  · rw [if_neg q33] at h
    refine xv_icmp_ge E 47 (show decode prog_12_method_14_code 22 = .ok (.if_icmp .ge (25), 3) by decide +kernel) rfl (fun z => absurd z q33) (fun _ => ?_)
    refine xv_b E [.iload_n 3, .aload_n 0] (pc' := 27) (lv' := [(4, .inl (Int64.toInt32 q_5.1)), (3, .inl q_1.1), (0, .inr (.inr (some a0))), (1, .inr (.inr o1)), (2, .inr (.inr o2))]) (st' := [.inr (.inr (some a0)), .inl q_1.1]) (by decide +kernel) rfl rfl ?_
    obtain ⟨v_13, h14, h⟩ := bd h
    refine xg_i E 10 1 h14 mw61 (show decode prog_12_method_14_code 27 = .ok (.getfield 38, 3) by decide +kernel) ?_
    by_cases q32 : q_1.1 = v_13
    · rw [if_pos q32] at h
      refine xv_icmp_eq E 47 (show decode prog_12_method_14_code 30 = .ok (.if_icmp .eq (17), 3) by decide +kernel) rfl (fun _ => ?_) (fun z => absurd q32 z)
      exact xv_w (sb130_47 E B  q_5.2 h hN) rfl
    · rw [if_neg q32] at h
      refine xv_icmp_eq E 47 (show decode prog_12_method_14_code 30 = .ok (.if_icmp .eq (17), 3) by decide +kernel) rfl (fun z => absurd z q32) (fun _ => ?_)
      refine xv_b E [.iload 4, .aload_n 0] (pc' := 36) (lv' := [(4, .inl (Int64.toInt32 q_5.1)), (3, .inl q_1.1), (0, .inr (.inr (some a0))), (1, .inr (.inr o1)), (2, .inr (.inr o2))]) (st' := [.inr (.inr (some a0)), .inl (Int64.toInt32 q_5.1)]) (by decide +kernel) rfl rfl ?_
      obtain ⟨o_15, h16, h⟩ := bd h
      refine xg_r E 10 4 h16 mw63 (show decode prog_12_method_14_code 36 = .ok (.getfield 44, 3) by decide +kernel) ?_
      refine xv_b E [.iload_n 3] (pc' := 40) (lv' := [(4, .inl (Int64.toInt32 q_5.1)), (3, .inl q_1.1), (0, .inr (.inr (some a0))), (1, .inr (.inr o1)), (2, .inr (.inr o2))]) (st' := [.inl q_1.1, .inr (.inr o_15), .inl (Int64.toInt32 q_5.1)]) (by decide +kernel) rfl rfl ?_
      obtain ⟨o_17, h18, h⟩ := bd h
      refine xa_r E 36 h18 (show decode prog_12_method_14_code 40 = .ok (.aaload, 1) by decide +kernel) ?_
      obtain ⟨b_21, h22, h⟩ := bd h
      obtain ⟨eh22, th22⟩ := g_o_some h22
      obtain ⟨q_19, h20, h⟩ := bd h
      refine xv_cvo E eh22 6 (as := []) (t118 G l (c_I_some h20)) cd118 mw670 mw671 mw672 (show decode prog_12_method_14_code 41 = .ok (.invokevirtual 138, 3) by decide +kernel) th22 rfl rfl (Nat.le_of_ble_eq_true rfl) ⟨Nat.le_of_ble_eq_true rfl, Nat.le_of_ble_eq_true rfl⟩ ?_
      by_cases q31 : q_19.1 < (Int64.toInt32 q_5.1)
      · rw [if_pos q31] at h
        refine xv_icmp_gt E 48 (show decode prog_12_method_14_code 44 = .ok (.if_icmp .gt (4), 3) by decide +kernel) rfl (fun _ => ?_) (fun z => absurd q31 z)
        refine xv_b E [.aload_n 0] (pc' := 49) (lv' := [(4, .inl (Int64.toInt32 q_5.1)), (3, .inl q_1.1), (0, .inr (.inr (some a0))), (1, .inr (.inr o1)), (2, .inr (.inr o2))]) (st' := [.inr (.inr (some a0))]) (by decide +kernel) rfl rfl ?_
        obtain ⟨o_23, h24, h⟩ := bd h
        refine xg_r E 10 4 h24 mw63 (show decode prog_12_method_14_code 49 = .ok (.getfield 44, 3) by decide +kernel) ?_
        refine xv_b E [.iload_n 3] (pc' := 53) (lv' := [(4, .inl (Int64.toInt32 q_5.1)), (3, .inl q_1.1), (0, .inr (.inr (some a0))), (1, .inr (.inr o1)), (2, .inr (.inr o2))]) (st' := [.inl q_1.1, .inr (.inr o_23)]) (by decide +kernel) rfl rfl ?_
        obtain ⟨o_25, h26, h⟩ := bd h
        refine xa_r E 36 h26 (show decode prog_12_method_14_code 53 = .ok (.aaload, 1) by decide +kernel) ?_
        refine xv_b E [.astore 5, .aload 5] (pc' := 58) (lv' := [(5, .inr (.inr o_25)), (4, .inl (Int64.toInt32 q_5.1)), (3, .inl q_1.1), (0, .inr (.inr (some a0))), (1, .inr (.inr o1)), (2, .inr (.inr o2))]) (st' := [.inr (.inr o_25)]) (by decide +kernel) rfl rfl ?_
        obtain ⟨b_29, h30, h⟩ := bd h
        obtain ⟨eh30, th30⟩ := g_o_some h30
        obtain ⟨q_27, h28, h⟩ := bd h
        refine xv_cvo E eh30 6 (as := []) (t110 G l (c_V_some h28)) cd110 mw622 mw623 mw624 (show decode prog_12_method_14_code 58 = .ok (.invokevirtual 106, 3) by decide +kernel) th30 rfl rfl (Nat.le_of_ble_eq_true rfl) ⟨Nat.le_of_ble_eq_true rfl, Nat.le_of_ble_eq_true rfl⟩ ?_
        refine xv_b E [.iconst 0, .istore 6] (pc' := 64) (lv' := [(6, .inl (0 : Int32)), (5, .inr (.inr o_25)), (4, .inl (Int64.toInt32 q_5.1)), (3, .inl q_1.1), (0, .inr (.inr (some a0))), (1, .inr (.inr o1)), (2, .inr (.inr o2))]) (st' := []) (by decide +kernel) rfl rfl ?_
        obtain rfl := Option.some.inj h
        exact xv_w hN rfl
      · rw [if_neg q31] at h
        refine xv_icmp_gt E 48 (show decode prog_12_method_14_code 44 = .ok (.if_icmp .gt (4), 3) by decide +kernel) rfl (fun z => absurd z q31) (fun _ => ?_)
        exact xv_w (sb130_47 E B  q_19.2 h hN) rfl
theorem sb130_64 (E : xE G p (xRm 5 (h_sz M' - z0) (h_sl M' - y0)) s m args c prog_12_method_14_code "ZonedFabric$Switch" z0 y0 (h_sz M') (h_sl M') 7) (B : xB ym130 none meth) (a0 : Nat) (o1 : Option Nat) (o2 : Option Nat) (o5 : Option Nat) (v6 : Int32) (M : hM) {res : xRes} (h : b130_64 a0 o1 o2 o5 v6 M = some res) (hN : xN (pg130 p l e s m args below meth c G z0 y0 r M') r M' res) : xV G p l e (xRm 5 (h_sz M' - z0) (h_sl M' - y0)) s m args below meth c z0 y0 (h_sz M') (h_sl M') 7 (MQ below (xQc G r M') args s (h_sz M' - z0) (h_sl M' - y0) (xFr G)) 64 [(0, .inr (.inr (some a0))), (1, .inr (.inr o1)), (2, .inr (.inr o2)), (5, .inr (.inr o5)), (6, .inl v6)] [] M := by
  unfold b130_64 at h
  refine xv_b E [.iload 6, .aload_n 2] (pc' := 67) (lv' := [(0, .inr (.inr (some a0))), (1, .inr (.inr o1)), (2, .inr (.inr o2)), (5, .inr (.inr o5)), (6, .inl v6)]) (st' := [.inr (.inr o2), .inl v6]) (by decide +kernel) rfl rfl ?_
  obtain ⟨v_34, h35, h⟩ := bd h
  refine xg_i E 2 1 h35 mw702 (show decode prog_12_method_14_code 67 = .ok (.getfield 238, 3) by decide +kernel) ?_
  refine xv_b E [.bipush 13, .isub, .iconst 4, .isub] (pc' := 75) (lv' := [(0, .inr (.inr (some a0))), (1, .inr (.inr o1)), (2, .inr (.inr o2)), (5, .inr (.inr o5)), (6, .inl v6)]) (st' := [.inl ((v_34 - (13 : Int32)) - (4 : Int32)), .inl v6]) (by decide +kernel) rfl rfl ?_
  by_cases q60 : ((v_34 - (13 : Int32)) - (4 : Int32)) ≤ v6
  · rw [if_pos q60] at h
    refine xv_icmp_ge E 95 (show decode prog_12_method_14_code 75 = .ok (.if_icmp .ge (20), 3) by decide +kernel) rfl (fun _ => ?_) (fun z => absurd q60 z)
    refine xv_b E [.aload 5, .aload_n 0] (pc' := 98) (lv' := [(0, .inr (.inr (some a0))), (1, .inr (.inr o1)), (2, .inr (.inr o2)), (5, .inr (.inr o5)), (6, .inl v6)]) (st' := [.inr (.inr (some a0)), .inr (.inr o5)]) (by decide +kernel) rfl rfl ?_
    obtain ⟨o_36, h37, h⟩ := bd h
    refine xg_r E 10 0 h37 mw60 (show decode prog_12_method_14_code 98 = .ok (.getfield 34, 3) by decide +kernel) ?_
    obtain ⟨v_38, h39, h⟩ := bd h
    refine xg_i E 9 3 h39 mw620 (show decode prog_12_method_14_code 101 = .ok (.getfield 74, 3) by decide +kernel) ?_
    obtain ⟨M40, h41, h⟩ := bd h
    refine xp_i E 6 2 h41 mw621 (show decode prog_12_method_14_code 104 = .ok (.putfield 103, 3) by decide +kernel) (Or.inl rfl) ?_
    refine xv_b E [.aload_n 0] (pc' := 108) (lv' := [(0, .inr (.inr (some a0))), (1, .inr (.inr o1)), (2, .inr (.inr o2)), (5, .inr (.inr o5)), (6, .inl v6)]) (st' := [.inr (.inr (some a0))]) (by decide +kernel) rfl rfl ?_
    obtain ⟨b_44, h45, h⟩ := bd h
    obtain ⟨eh45, th45⟩ := g_o_some h45
    obtain ⟨q_42, h43, h⟩ := bd h
    refine xv_cvo E eh45 10 (as := []) (t109 G l (c_V_some h43)) cd109 mw617 mw618 mw619 (show decode prog_12_method_14_code 108 = .ok (.invokevirtual 109, 3) by decide +kernel) th45 rfl rfl (Nat.le_of_ble_eq_true rfl) ⟨Nat.le_of_ble_eq_true rfl, Nat.le_of_ble_eq_true rfl⟩ ?_
    refine xv_b E [.aload_n 0, .aload 5, .aload_n 1] (pc' := 115) (lv' := [(0, .inr (.inr (some a0))), (1, .inr (.inr o1)), (2, .inr (.inr o2)), (5, .inr (.inr o5)), (6, .inl v6)]) (st' := [.inr (.inr o1), .inr (.inr o5), .inr (.inr (some a0))]) (by decide +kernel) rfl rfl ?_
    obtain ⟨v_46, h47, h⟩ := bd h
    refine xg_i E 8 2 h47 mw699 (show decode prog_12_method_14_code 115 = .ok (.getfield 220, 3) by decide +kernel) ?_
    obtain ⟨b_50, h51, h⟩ := bd h
    obtain ⟨eh51, th51⟩ := g_o_some h51
    obtain ⟨q_48, h49, h⟩ := bd h
    refine xv_cvo E eh51 10 (as := [.inr (.inr o5), .inl v_46]) (t122 G l (c_V_some h49)) cd122 mw677 mw678 mw679 (show decode prog_12_method_14_code 118 = .ok (.invokevirtual 149, 3) by decide +kernel) th51 rfl rfl (Nat.le_of_ble_eq_true rfl) ⟨Nat.le_of_ble_eq_true rfl, Nat.le_of_ble_eq_true rfl⟩ ?_
    obtain rfl := Option.some.inj h
    obtain ⟨rfl, rfl⟩ := Prod.mk.inj (show ((none : Option aV), q_48) = (r, M') from hN)
    exact xv_rv E B.1 B.2.1 (show decode prog_12_method_14_code 121 = .ok (.return_, 1) by decide +kernel) rfl rfl
  · rw [if_neg q60] at h
    refine xv_icmp_ge E 95 (show decode prog_12_method_14_code 75 = .ok (.if_icmp .ge (20), 3) by decide +kernel) rfl (fun z => absurd z q60) (fun _ => ?_)
    refine xv_b E [.aload 5, .aload_n 2, .iload 6] (pc' := 83) (lv' := [(0, .inr (.inr (some a0))), (1, .inr (.inr o1)), (2, .inr (.inr o2)), (5, .inr (.inr o5)), (6, .inl v6)]) (st' := [.inl v6, .inr (.inr o2), .inr (.inr o5)]) (by decide +kernel) rfl rfl ?_
    obtain ⟨b_54, h55, h⟩ := bd h
    obtain ⟨eh55, th55⟩ := g_o_some h55
    obtain ⟨q_52, h53, h⟩ := bd h
    refine xv_cvo E eh55 2 (as := [.inl v6]) (t58 G l (c_I_some h53)) cd58 mw690 mw342 mw343 (show decode prog_12_method_14_code 83 = .ok (.invokevirtual 224, 3) by decide +kernel) th55 rfl rfl (Nat.le_of_ble_eq_true rfl) ⟨Nat.le_of_ble_eq_true rfl, Nat.le_of_ble_eq_true rfl⟩ ?_
    obtain ⟨b_58, h59, h⟩ := bd h
    obtain ⟨eh59, th59⟩ := g_o_some h59
    obtain ⟨q_56, h57, h⟩ := bd h
    refine xv_cvo E eh59 6 (as := [.inl q_52.1]) (t114 G l (c_V_some h57)) cd114 mw642 mw643 mw644 (show decode prog_12_method_14_code 86 = .ok (.invokevirtual 153, 3) by decide +kernel) th59 rfl rfl (Nat.le_of_ble_eq_true rfl) ⟨Nat.le_of_ble_eq_true rfl, Nat.le_of_ble_eq_true rfl⟩ ?_
    refine xv_b E [.iinc 6 1] (pc' := 92) (lv' := [(6, .inl (v6 + (1 : Int32))), (0, .inr (.inr (some a0))), (1, .inr (.inr o1)), (2, .inr (.inr o2)), (5, .inr (.inr o5))]) (st' := []) (by decide +kernel) rfl rfl ?_
    refine xv_goto E 64 (show decode prog_12_method_14_code 92 = .ok (.goto (-28), 3) by decide +kernel) rfl ?_
    obtain rfl := Option.some.inj h
    exact xv_w hN rfl
end
theorem t130 (G : gX) (l : Launch) {as : List aV} {M : hM} {r : Option aV} {M' : hM} (h : f130 as M = some (r, M')) : xM G l ym130 prog_12_method_14_code 7 none 5 as M r M' := by
  unfold f130 at h
  split at h
  · have hle : ∀ h as M res, k130 h as M = some res → h_sz M ≤ r_sz res ∧ h_sl M ≤ r_sl res := by
      intro h as M res hb
      unfold k130 at hb
      by_cases e0 : h = 64
      · rw [if_pos e0] at hb
        split at hb
        · exact lb130_64 G l _ _ _ _ _ M hb
        · cases hb
      · rw [if_neg e0] at hb
        cases hb
    obtain ⟨res, hx, hres⟩ := x_go_ok h
    refine xM_of (by decide) (Nat.le_of_ble_eq_true rfl) ?_ ?_
    · have e1 := lb130_0 G l _ _ _ M hx
      have e2 := x_go_le hle hres
      omega
    · intro p e s m args below meth c E B
      refine sb130_0 E B _ _ _ M hx (hres _ ?_)
      intro h as M res hb hN
      unfold k130 at hb
      unfold pg130
      by_cases e0 : h = 64
      · rw [if_pos e0] at hb ⊢
        split at hb
        · exact sb130_64 E B _ _ _ _ _ M hb hN
        · cases hb
      · rw [if_neg e0] at hb ⊢
        cases hb
  · cases h
/-! ZF.Switch.takeHello(LZF$Port;LZF$Frame;)V -/
def ym131 : MethodName := ⟨"ZonedFabric$Switch", "takeHello", "(LZonedFabric$Port;LZonedFabric$Frame;)V"⟩
theorem cd131 : xCd ym131 prog_12_method_13_code 4 none 2 := ⟨mw703, mw51, by decide, by decide, by decide +kernel⟩
def b131_0 (a0 : Nat) (o1 : Option Nat) (o2 : Option Nat) (M : hM) : Option xRes :=
  Option.bind (g_o M 2 o2) fun b_3 =>
  Option.bind (c_I (f58 [.inr (.inr (some b_3)), .inl (0 : Int32)] M)) fun q_1 =>
  Option.bind (p_i q_1.2 8 11 o1 q_1.1) fun M5 =>
  some (.inr (11, [.inr (.inr (some a0)), .inr (.inr o1), .inl (0 : Int32)], M5))
def b131_51 (a0 : Nat) (o1 : Option Nat) (v3 : Int32) (M : hM) : Option xRes :=
  some (.inr (11, [.inr (.inr (some a0)), .inr (.inr o1), .inl (v3 + (1 : Int32))], M))
def b131_11 (a0 : Nat) (o1 : Option Nat) (v3 : Int32) (M : hM) : Option xRes :=
  Option.bind (g_r M 10 4 (some a0)) fun o_7 =>
  Option.bind (a_ln M 36 o_7) fun v_9 =>
  if v_9 ≤ v3 then
    (some (.inl (none, M)))
  else
    (Option.bind (g_i M 10 1 (some a0)) fun v_11 =>
    if v3 = v_11 then
      (b131_51 a0 o1 v3 M)
    else
      (Option.bind (g_r M 10 4 (some a0)) fun o_13 =>
      Option.bind (al_r M 36 o_13 v3) fun o_15 =>
      Option.bind (g_o M 6 o_15) fun b_19 =>
      Option.bind (c_I (f105 [.inr (.inr (some b_19))] M)) fun q_17 =>
      if q_17.1 = 0 then
        (b131_51 a0 o1 v3 q_17.2)
      else
        (Option.bind (g_r q_17.2 10 4 (some a0)) fun o_21 =>
        Option.bind (al_r q_17.2 36 o_21 v3) fun o_23 =>
        Option.bind (g_o q_17.2 10 (some a0)) fun b_27 =>
        Option.bind (c_V (f121 [.inr (.inr (some b_27)), .inr (.inr o1), .inr (.inr o_23)] q_17.2)) fun q_25 =>
        b131_51 a0 o1 v3 q_25)))
def k131 (h : Nat) (as : List aV) (M : hM) : Option xRes :=
  if h = 11 then (match as with | [.inr (.inr (some a0)), .inr (.inr o1), .inl v3] => b131_11 a0 o1 v3 M | _ => none) else
  none
def f131 (as : List aV) (M : hM) : xO := match as with
  | [.inr (.inr (some a0)), .inr (.inr o1), .inr (.inr o2)] => x_go k131 (b131_0 a0 o1 o2 M)
  | _ => none
theorem lb131_0 (G : gX) (l : Launch) (a0 : Nat) (o1 : Option Nat) (o2 : Option Nat) (M : hM) {res : xRes} (h : b131_0 a0 o1 o2 M = some res) : h_sz M ≤ r_sz res ∧ h_sl M ≤ r_sl res := by
  unfold b131_0 at h
  obtain ⟨b_3, h4, h⟩ := bd h
  obtain ⟨q_1, h2, h⟩ := bd h
  have eh2 := (t58 G l (c_I_some h2)).1
  obtain ⟨M5, h6, h⟩ := bd h
  have eh6 := p_i_sz h6
  obtain rfl := Option.some.inj h
  show h_sz M ≤ h_sz M5 ∧ h_sl M ≤ h_sl M5
  omega
theorem lb131_51 (G : gX) (l : Launch) (a0 : Nat) (o1 : Option Nat) (v3 : Int32) (M : hM) {res : xRes} (h : b131_51 a0 o1 v3 M = some res) : h_sz M ≤ r_sz res ∧ h_sl M ≤ r_sl res := by
  unfold b131_51 at h
  obtain rfl := Option.some.inj h
  show h_sz M ≤ h_sz M ∧ h_sl M ≤ h_sl M
  omega
theorem lb131_11 (G : gX) (l : Launch) (a0 : Nat) (o1 : Option Nat) (v3 : Int32) (M : hM) {res : xRes} (h : b131_11 a0 o1 v3 M = some res) : h_sz M ≤ r_sz res ∧ h_sl M ≤ r_sl res := by
  unfold b131_11 at h
  obtain ⟨o_7, h8, h⟩ := bd h
  obtain ⟨v_9, h10, h⟩ := bd h
  by_cases q31 : v_9 ≤ v3
  · rw [if_pos q31] at h
    obtain rfl := Option.some.inj h
    show h_sz M ≤ h_sz M ∧ h_sl M ≤ h_sl M
    omega
  · rw [if_neg q31] at h
    obtain ⟨v_11, h12, h⟩ := bd h
    by_cases q30 : v3 = v_11
    · rw [if_pos q30] at h
      have e := lb131_51 G l a0 o1 v3 M h
      omega
    · rw [if_neg q30] at h
      obtain ⟨o_13, h14, h⟩ := bd h
      obtain ⟨o_15, h16, h⟩ := bd h
      obtain ⟨b_19, h20, h⟩ := bd h
      obtain ⟨q_17, h18, h⟩ := bd h
      have eh18 := (t105 G l (c_I_some h18)).1
      by_cases q29 : q_17.1 = 0
      · rw [if_pos q29] at h
        have e := lb131_51 G l a0 o1 v3 q_17.2 h
        omega
      · rw [if_neg q29] at h
        obtain ⟨o_21, h22, h⟩ := bd h
        obtain ⟨o_23, h24, h⟩ := bd h
        obtain ⟨b_27, h28, h⟩ := bd h
        obtain ⟨q_25, h26, h⟩ := bd h
        have eh26 := (t121 G l (c_V_some h26)).1
        have e := lb131_51 G l a0 o1 v3 q_25 h
        omega
section
variable {p : Program} {l : Launch} {e : Env} {s : State} {m : MethodId} {args : Array Value} {below : List Frame} {meth : Method} {c : Code} {G : gX} {z0 y0 : Nat} {r : Option aV} {M' : hM}
def pg131 (p : Program) (l : Launch) (e : Env) (s : State) (m : MethodId) (args : Array Value) (below : List Frame) (meth : Method) (c : Code) (G : gX) (z0 y0 : Nat) (r : Option aV) (M' : hM) (h : Nat) (as : List aV) (M : hM) : Prop :=
  if h = 11 then (match as with | [.inr (.inr (some a0)), .inr (.inr o1), .inl v3] => xV G p l e (xRm 4 (h_sz M' - z0) (h_sl M' - y0)) s m args below meth c z0 y0 (h_sz M') (h_sl M') 4 (MQ below (xQc G r M') args s (h_sz M' - z0) (h_sl M' - y0) (xFr G)) 11 [(0, .inr (.inr (some a0))), (1, .inr (.inr o1)), (3, .inl v3)] [] M | _ => False) else
  False
theorem sb131_0 (E : xE G p (xRm 4 (h_sz M' - z0) (h_sl M' - y0)) s m args c prog_12_method_13_code "ZonedFabric$Switch" z0 y0 (h_sz M') (h_sl M') 4) (B : xB ym131 none meth) (a0 : Nat) (o1 : Option Nat) (o2 : Option Nat) (M : hM) {res : xRes} (h : b131_0 a0 o1 o2 M = some res) (hN : xN (pg131 p l e s m args below meth c G z0 y0 r M') r M' res) : xV G p l e (xRm 4 (h_sz M' - z0) (h_sl M' - y0)) s m args below meth c z0 y0 (h_sz M') (h_sl M') 4 (MQ below (xQc G r M') args s (h_sz M' - z0) (h_sl M' - y0) (xFr G)) 0 [(0, .inr (.inr (some a0))), (1, .inr (.inr o1)), (2, .inr (.inr o2))] [] M := by
  unfold b131_0 at h
  refine xv_b E [.aload_n 1, .aload_n 2, .iconst 0] (pc' := 3) (lv' := [(0, .inr (.inr (some a0))), (1, .inr (.inr o1)), (2, .inr (.inr o2))]) (st' := [.inl (0 : Int32), .inr (.inr o2), .inr (.inr o1)]) (by decide +kernel) rfl rfl ?_
  obtain ⟨b_3, h4, h⟩ := bd h
  obtain ⟨eh4, th4⟩ := g_o_some h4
  obtain ⟨q_1, h2, h⟩ := bd h
  refine xv_cvo E eh4 2 (as := [.inl (0 : Int32)]) (t58 G l (c_I_some h2)) cd58 mw690 mw342 mw343 (show decode prog_12_method_13_code 3 = .ok (.invokevirtual 224, 3) by decide +kernel) th4 rfl rfl (Nat.le_of_ble_eq_true rfl) ⟨Nat.le_of_ble_eq_true rfl, Nat.le_of_ble_eq_true rfl⟩ ?_
  obtain ⟨M5, h6, h⟩ := bd h
  refine xp_i E 8 11 h6 mw631 (show decode prog_12_method_13_code 6 = .ok (.putfield 118, 3) by decide +kernel) (Or.inl rfl) ?_
  refine xv_b E [.iconst 0, .istore_n 3] (pc' := 11) (lv' := [(3, .inl (0 : Int32)), (0, .inr (.inr (some a0))), (1, .inr (.inr o1)), (2, .inr (.inr o2))]) (st' := []) (by decide +kernel) rfl rfl ?_
  obtain rfl := Option.some.inj h
  exact xv_w hN rfl
theorem sb131_51 (E : xE G p (xRm 4 (h_sz M' - z0) (h_sl M' - y0)) s m args c prog_12_method_13_code "ZonedFabric$Switch" z0 y0 (h_sz M') (h_sl M') 4) (B : xB ym131 none meth) (a0 : Nat) (o1 : Option Nat) (v3 : Int32) (M : hM) {res : xRes} (h : b131_51 a0 o1 v3 M = some res) (hN : xN (pg131 p l e s m args below meth c G z0 y0 r M') r M' res) : xV G p l e (xRm 4 (h_sz M' - z0) (h_sl M' - y0)) s m args below meth c z0 y0 (h_sz M') (h_sl M') 4 (MQ below (xQc G r M') args s (h_sz M' - z0) (h_sl M' - y0) (xFr G)) 51 [(0, .inr (.inr (some a0))), (1, .inr (.inr o1)), (3, .inl v3)] [] M := by
  unfold b131_51 at h
  refine xv_b E [.iinc 3 1] (pc' := 54) (lv' := [(3, .inl (v3 + (1 : Int32))), (0, .inr (.inr (some a0))), (1, .inr (.inr o1))]) (st' := []) (by decide +kernel) rfl rfl ?_
  refine xv_goto E 11 (show decode prog_12_method_13_code 54 = .ok (.goto (-43), 3) by decide +kernel) rfl ?_
  obtain rfl := Option.some.inj h
  exact xv_w hN rfl
theorem sb131_11 (E : xE G p (xRm 4 (h_sz M' - z0) (h_sl M' - y0)) s m args c prog_12_method_13_code "ZonedFabric$Switch" z0 y0 (h_sz M') (h_sl M') 4) (B : xB ym131 none meth) (a0 : Nat) (o1 : Option Nat) (v3 : Int32) (M : hM) {res : xRes} (h : b131_11 a0 o1 v3 M = some res) (hN : xN (pg131 p l e s m args below meth c G z0 y0 r M') r M' res) : xV G p l e (xRm 4 (h_sz M' - z0) (h_sl M' - y0)) s m args below meth c z0 y0 (h_sz M') (h_sl M') 4 (MQ below (xQc G r M') args s (h_sz M' - z0) (h_sl M' - y0) (xFr G)) 11 [(0, .inr (.inr (some a0))), (1, .inr (.inr o1)), (3, .inl v3)] [] M := by
  unfold b131_11 at h
  refine xv_b E [.iload_n 3, .aload_n 0] (pc' := 13) (lv' := [(0, .inr (.inr (some a0))), (1, .inr (.inr o1)), (3, .inl v3)]) (st' := [.inr (.inr (some a0)), .inl v3]) (by decide +kernel) rfl rfl ?_
  obtain ⟨o_7, h8, h⟩ := bd h
  refine xg_r E 10 4 h8 mw63 (show decode prog_12_method_13_code 13 = .ok (.getfield 44, 3) by decide +kernel) ?_
  obtain ⟨v_9, h10, h⟩ := bd h
  refine xa_n E 36 h10 (show decode prog_12_method_13_code 16 = .ok (.arraylength, 1) by decide +kernel) ?_
  by_cases q31 : v_9 ≤ v3
  · rw [if_pos q31] at h
    refine xv_icmp_ge E 57 (show decode prog_12_method_13_code 17 = .ok (.if_icmp .ge (40), 3) by decide +kernel) rfl (fun _ => ?_) (fun z => absurd q31 z)
    obtain rfl := Option.some.inj h
    obtain ⟨rfl, rfl⟩ := Prod.mk.inj (show ((none : Option aV), M) = (r, M') from hN)
    exact xv_rv E B.1 B.2.1 (show decode prog_12_method_13_code 57 = .ok (.return_, 1) by decide +kernel) rfl rfl
  · rw [if_neg q31] at h
    refine xv_icmp_ge E 57 (show decode prog_12_method_13_code 17 = .ok (.if_icmp .ge (40), 3) by decide +kernel) rfl (fun z => absurd z q31) (fun _ => ?_)
    refine xv_b E [.iload_n 3, .aload_n 0] (pc' := 22) (lv' := [(0, .inr (.inr (some a0))), (1, .inr (.inr o1)), (3, .inl v3)]) (st' := [.inr (.inr (some a0)), .inl v3]) (by decide +kernel) rfl rfl ?_
    obtain ⟨v_11, h12, h⟩ := bd h
    refine xg_i E 10 1 h12 mw61 (show decode prog_12_method_13_code 22 = .ok (.getfield 38, 3) by decide +kernel) ?_
    by_cases q30 : v3 = v_11
    · rw [if_pos q30] at h
      refine xv_icmp_eq E 51 (show decode prog_12_method_13_code 25 = .ok (.if_icmp .eq (26), 3) by decide +kernel) rfl (fun _ => ?_) (fun z => absurd q30 z)
      exact xv_w (sb131_51 E B a0 o1 v3 M h hN) rfl
    · rw [if_neg q30] at h
      refine xv_icmp_eq E 51 (show decode prog_12_method_13_code 25 = .ok (.if_icmp .eq (26), 3) by decide +kernel) rfl (fun z => absurd z q30) (fun _ => ?_)
      refine xv_b E [.aload_n 0] (pc' := 29) (lv' := [(0, .inr (.inr (some a0))), (1, .inr (.inr o1)), (3, .inl v3)]) (st' := [.inr (.inr (some a0))]) (by decide +kernel) rfl rfl ?_
      obtain ⟨o_13, h14, h⟩ := bd h
      refine xg_r E 10 4 h14 mw63 (show decode prog_12_method_13_code 29 = .ok (.getfield 44, 3) by decide +kernel) ?_
      refine xv_b E [.iload_n 3] (pc' := 33) (lv' := [(0, .inr (.inr (some a0))), (1, .inr (.inr o1)), (3, .inl v3)]) (st' := [.inl v3, .inr (.inr o_13)]) (by decide +kernel) rfl rfl ?_
      obtain ⟨o_15, h16, h⟩ := bd h
      refine xa_r E 36 h16 (show decode prog_12_method_13_code 33 = .ok (.aaload, 1) by decide +kernel) ?_
      obtain ⟨b_19, h20, h⟩ := bd h
      obtain ⟨eh20, th20⟩ := g_o_some h20
      obtain ⟨q_17, h18, h⟩ := bd h
      refine xv_cvo E eh20 6 (as := []) (t105 G l (c_I_some h18)) cd105 mw606 mw607 mw608 (show decode prog_12_method_13_code 34 = .ok (.invokevirtual 99, 3) by decide +kernel) th20 rfl rfl (Nat.le_of_ble_eq_true rfl) ⟨Nat.le_of_ble_eq_true rfl, Nat.le_of_ble_eq_true rfl⟩ ?_
      by_cases q29 : q_17.1 = 0
      · rw [if_pos q29] at h
        refine xv_if_eq E 51 (show decode prog_12_method_13_code 37 = .ok (.ifCond .eq (14), 3) by decide +kernel) rfl (fun _ => ?_) (fun z => absurd q29 z)
        exact xv_w (sb131_51 E B a0 o1 v3 q_17.2 h hN) rfl
      · rw [if_neg q29] at h
        refine xv_if_eq E 51 (show decode prog_12_method_13_code 37 = .ok (.ifCond .eq (14), 3) by decide +kernel) rfl (fun z => absurd z q29) (fun _ => ?_)
        refine xv_b E [.aload_n 0, .aload_n 1, .aload_n 0] (pc' := 43) (lv' := [(0, .inr (.inr (some a0))), (1, .inr (.inr o1)), (3, .inl v3)]) (st' := [.inr (.inr (some a0)), .inr (.inr o1), .inr (.inr (some a0))]) (by decide +kernel) rfl rfl ?_
        obtain ⟨o_21, h22, h⟩ := bd h
        refine xg_r E 10 4 h22 mw63 (show decode prog_12_method_13_code 43 = .ok (.getfield 44, 3) by decide +kernel) ?_
        refine xv_b E [.iload_n 3] (pc' := 47) (lv' := [(0, .inr (.inr (some a0))), (1, .inr (.inr o1)), (3, .inl v3)]) (st' := [.inl v3, .inr (.inr o_21), .inr (.inr o1), .inr (.inr (some a0))]) (by decide +kernel) rfl rfl ?_
        obtain ⟨o_23, h24, h⟩ := bd h
        refine xa_r E 36 h24 (show decode prog_12_method_13_code 47 = .ok (.aaload, 1) by decide +kernel) ?_
        obtain ⟨b_27, h28, h⟩ := bd h
        obtain ⟨eh28, th28⟩ := g_o_some h28
        obtain ⟨q_25, h26, h⟩ := bd h
        refine xv_cvo E eh28 10 (as := [.inr (.inr o1), .inr (.inr o_23)]) (t121 G l (c_V_some h26)) cd121 mw659 mw660 mw661 (show decode prog_12_method_13_code 48 = .ok (.invokevirtual 162, 3) by decide +kernel) th28 rfl rfl (Nat.le_of_ble_eq_true rfl) ⟨Nat.le_of_ble_eq_true rfl, Nat.le_of_ble_eq_true rfl⟩ ?_
        exact xv_w (sb131_51 E B a0 o1 v3 q_25 h hN) rfl
end
theorem t131 (G : gX) (l : Launch) {as : List aV} {M : hM} {r : Option aV} {M' : hM} (h : f131 as M = some (r, M')) : xM G l ym131 prog_12_method_13_code 4 none 4 as M r M' := by
  unfold f131 at h
  split at h
  · have hle : ∀ h as M res, k131 h as M = some res → h_sz M ≤ r_sz res ∧ h_sl M ≤ r_sl res := by
      intro h as M res hb
      unfold k131 at hb
      by_cases e0 : h = 11
      · rw [if_pos e0] at hb
        split at hb
        · exact lb131_11 G l _ _ _ M hb
        · cases hb
      · rw [if_neg e0] at hb
        cases hb
    obtain ⟨res, hx, hres⟩ := x_go_ok h
    refine xM_of (by decide) (Nat.le_of_ble_eq_true rfl) ?_ ?_
    · have e1 := lb131_0 G l _ _ _ M hx
      have e2 := x_go_le hle hres
      omega
    · intro p e s m args below meth c E B
      refine sb131_0 E B _ _ _ M hx (hres _ ?_)
      intro h as M res hb hN
      unfold k131 at hb
      unfold pg131
      by_cases e0 : h = 11
      · rw [if_pos e0] at hb ⊢
        split at hb
        · exact sb131_11 E B _ _ _ M hb hN
        · cases hb
      · rw [if_neg e0] at hb ⊢
        cases hb
  · cases h
/-! ZF.Switch.wayTo(I)I -/
def ym132 : MethodName := ⟨"ZonedFabric$Switch", "wayTo", "(I)I"⟩
theorem cd132 : xCd ym132 prog_12_method_17_code 3 (some FieldType.int) 1 := ⟨mw704, mw51, by decide, by decide, by decide +kernel⟩
def b132_39 (si0 : Int32) (M : hM) : Option xRes :=
  some (.inl (some (.inl si0), M))
def b132_23 (a0 : Nat) (si0 : Int32) (M : hM) : Option xRes :=
  if si0 = (-1 : Int32) then
    (b132_39 (-1 : Int32) M)
  else
    (Option.bind (g_r M 10 8 (some a0)) fun o_11 =>
    Option.bind (al_i M 20 o_11 si0) fun v_13 =>
    b132_39 v_13 M)
def b132_22 (a0 : Nat) (M : hM) : Option xRes :=
  b132_23 a0 (-1 : Int32) M
def b132_0 (a0 : Nat) (v1 : Int32) (M : hM) : Option xRes :=
  if v1 < 0 then
    (b132_22 a0 M)
  else
    (Option.bind (g_r M 10 9 (some a0)) fun o_1 =>
    Option.bind (a_ln M 20 o_1) fun v_3 =>
    if v_3 ≤ v1 then
      (b132_22 a0 M)
    else
      (Option.bind (g_r M 10 9 (some a0)) fun o_5 =>
      Option.bind (al_i M 20 o_5 v1) fun v_7 =>
      b132_23 a0 v_7 M))
def f132 (as : List aV) (M : hM) : xO := match as with
  | [.inr (.inr (some a0)), .inl v1] => x_out (b132_0 a0 v1 M)
  | _ => none
theorem lb132_39 (G : gX) (l : Launch) (si0 : Int32) (M : hM) {res : xRes} (h : b132_39 si0 M = some res) : h_sz M ≤ r_sz res ∧ h_sl M ≤ r_sl res := by
  unfold b132_39 at h
  obtain rfl := Option.some.inj h
  show h_sz M ≤ h_sz M ∧ h_sl M ≤ h_sl M
  omega
theorem lb132_23 (G : gX) (l : Launch) (a0 : Nat) (si0 : Int32) (M : hM) {res : xRes} (h : b132_23 a0 si0 M = some res) : h_sz M ≤ r_sz res ∧ h_sl M ≤ r_sl res := by
  unfold b132_23 at h
  by_cases q15 : si0 = (-1 : Int32)
  · rw [if_pos q15] at h
    have e := lb132_39 G l (-1 : Int32) M h
    omega
  · rw [if_neg q15] at h
    obtain ⟨o_11, h12, h⟩ := bd h
    obtain ⟨v_13, h14, h⟩ := bd h
    have e := lb132_39 G l v_13 M h
    omega
theorem lb132_22 (G : gX) (l : Launch) (a0 : Nat) (M : hM) {res : xRes} (h : b132_22 a0 M = some res) : h_sz M ≤ r_sz res ∧ h_sl M ≤ r_sl res := by
  unfold b132_22 at h
  have e := lb132_23 G l a0 (-1 : Int32) M h
  omega
theorem lb132_0 (G : gX) (l : Launch) (a0 : Nat) (v1 : Int32) (M : hM) {res : xRes} (h : b132_0 a0 v1 M = some res) : h_sz M ≤ r_sz res ∧ h_sl M ≤ r_sl res := by
  unfold b132_0 at h
  by_cases q10 : v1 < 0
  · rw [if_pos q10] at h
    have e := lb132_22 G l a0 M h
    omega
  · rw [if_neg q10] at h
    obtain ⟨o_1, h2, h⟩ := bd h
    obtain ⟨v_3, h4, h⟩ := bd h
    by_cases q9 : v_3 ≤ v1
    · rw [if_pos q9] at h
      have e := lb132_22 G l a0 M h
      omega
    · rw [if_neg q9] at h
      obtain ⟨o_5, h6, h⟩ := bd h
      obtain ⟨v_7, h8, h⟩ := bd h
      have e := lb132_23 G l a0 v_7 M h
      omega
section
variable {p : Program} {l : Launch} {e : Env} {s : State} {m : MethodId} {args : Array Value} {below : List Frame} {meth : Method} {c : Code} {G : gX} {z0 y0 : Nat} {r : Option aV} {M' : hM}
theorem sb132_39 (E : xE G p (xRm 0 (h_sz M' - z0) (h_sl M' - y0)) s m args c prog_12_method_17_code "ZonedFabric$Switch" z0 y0 (h_sz M') (h_sl M') 3) (B : xB ym132 (some FieldType.int) meth) (si0 : Int32) (M : hM) {res : xRes} (h : b132_39 si0 M = some res) (hN : xN (fun _ _ _ => False) r M' res) : xV G p l e (xRm 0 (h_sz M' - z0) (h_sl M' - y0)) s m args below meth c z0 y0 (h_sz M') (h_sl M') 3 (MQ below (xQc G r M') args s (h_sz M' - z0) (h_sl M' - y0) (xFr G)) 39 [] [.inl si0] M := by
  unfold b132_39 at h
  obtain rfl := Option.some.inj h
  obtain ⟨rfl, rfl⟩ := Prod.mk.inj (show ((some (.inl si0) : Option aV), M) = (r, M') from hN)
  exact xv_ri E B.1 rfl B.2.1 (show decode prog_12_method_17_code 39 = .ok (.ireturn, 1) by decide +kernel) rfl rfl
theorem sb132_23 (E : xE G p (xRm 0 (h_sz M' - z0) (h_sl M' - y0)) s m args c prog_12_method_17_code "ZonedFabric$Switch" z0 y0 (h_sz M') (h_sl M') 3) (B : xB ym132 (some FieldType.int) meth) (a0 : Nat) (si0 : Int32) (M : hM) {res : xRes} (h : b132_23 a0 si0 M = some res) (hN : xN (fun _ _ _ => False) r M' res) : xV G p l e (xRm 0 (h_sz M' - z0) (h_sl M' - y0)) s m args below meth c z0 y0 (h_sz M') (h_sl M') 3 (MQ below (xQc G r M') args s (h_sz M' - z0) (h_sl M' - y0) (xFr G)) 23 [(0, .inr (.inr (some a0)))] [.inl si0] M := by
  unfold b132_23 at h
  refine xv_b E [.istore_n 2, .iload_n 2, .iconst (-1)] (pc' := 26) (lv' := [(2, .inl si0), (0, .inr (.inr (some a0)))]) (st' := [.inl (-1 : Int32), .inl si0]) (by decide +kernel) rfl rfl ?_
  by_cases q15 : si0 = (-1 : Int32)
  · rw [if_pos q15] at h
    refine xv_icmp_ne E 33 (show decode prog_12_method_17_code 26 = .ok (.if_icmp .ne (7), 3) by decide +kernel) rfl (fun z => absurd q15 z) (fun _ => ?_)
    refine xv_b E [.iconst (-1)] (pc' := 30) (lv' := [(2, .inl si0), (0, .inr (.inr (some a0)))]) (st' := [.inl (-1 : Int32)]) (by decide +kernel) rfl rfl ?_
    refine xv_goto E 39 (show decode prog_12_method_17_code 30 = .ok (.goto (9), 3) by decide +kernel) rfl ?_
    exact xv_w (sb132_39 E B (-1 : Int32) M h hN) rfl
  · rw [if_neg q15] at h
    refine xv_icmp_ne E 33 (show decode prog_12_method_17_code 26 = .ok (.if_icmp .ne (7), 3) by decide +kernel) rfl (fun _ => ?_) (fun z => absurd z q15)
    refine xv_b E [.aload_n 0] (pc' := 34) (lv' := [(2, .inl si0), (0, .inr (.inr (some a0)))]) (st' := [.inr (.inr (some a0))]) (by decide +kernel) rfl rfl ?_
    obtain ⟨o_11, h12, h⟩ := bd h
    refine xg_r E 10 8 h12 mw67 (show decode prog_12_method_17_code 34 = .ok (.getfield 56, 3) by decide +kernel) ?_
    refine xv_b E [.iload_n 2] (pc' := 38) (lv' := [(2, .inl si0), (0, .inr (.inr (some a0)))]) (st' := [.inl si0, .inr (.inr o_11)]) (by decide +kernel) rfl rfl ?_
    obtain ⟨v_13, h14, h⟩ := bd h
    refine xa_i E h14 (show decode prog_12_method_17_code 38 = .ok (.iaload, 1) by decide +kernel) ?_
    exact xv_w (sb132_39 E B v_13 M h hN) rfl
theorem sb132_22 (E : xE G p (xRm 0 (h_sz M' - z0) (h_sl M' - y0)) s m args c prog_12_method_17_code "ZonedFabric$Switch" z0 y0 (h_sz M') (h_sl M') 3) (B : xB ym132 (some FieldType.int) meth) (a0 : Nat) (M : hM) {res : xRes} (h : b132_22 a0 M = some res) (hN : xN (fun _ _ _ => False) r M' res) : xV G p l e (xRm 0 (h_sz M' - z0) (h_sl M' - y0)) s m args below meth c z0 y0 (h_sz M') (h_sl M') 3 (MQ below (xQc G r M') args s (h_sz M' - z0) (h_sl M' - y0) (xFr G)) 22 [(0, .inr (.inr (some a0)))] [] M := by
  unfold b132_22 at h
  refine xv_b E [.iconst (-1)] (pc' := 23) (lv' := [(0, .inr (.inr (some a0)))]) (st' := [.inl (-1 : Int32)]) (by decide +kernel) rfl rfl ?_
  exact xv_w (sb132_23 E B a0 (-1 : Int32) M h hN) rfl
theorem sb132_0 (E : xE G p (xRm 0 (h_sz M' - z0) (h_sl M' - y0)) s m args c prog_12_method_17_code "ZonedFabric$Switch" z0 y0 (h_sz M') (h_sl M') 3) (B : xB ym132 (some FieldType.int) meth) (a0 : Nat) (v1 : Int32) (M : hM) {res : xRes} (h : b132_0 a0 v1 M = some res) (hN : xN (fun _ _ _ => False) r M' res) : xV G p l e (xRm 0 (h_sz M' - z0) (h_sl M' - y0)) s m args below meth c z0 y0 (h_sz M') (h_sl M') 3 (MQ below (xQc G r M') args s (h_sz M' - z0) (h_sl M' - y0) (xFr G)) 0 [(0, .inr (.inr (some a0))), (1, .inl v1)] [] M := by
  unfold b132_0 at h
  refine xv_b E [.iload_n 1] (pc' := 1) (lv' := [(0, .inr (.inr (some a0))), (1, .inl v1)]) (st' := [.inl v1]) (by decide +kernel) rfl rfl ?_
  by_cases q10 : v1 < 0
  · rw [if_pos q10] at h
    refine xv_if_lt E 22 (show decode prog_12_method_17_code 1 = .ok (.ifCond .lt (21), 3) by decide +kernel) rfl (fun _ => ?_) (fun z => absurd q10 z)
    exact xv_w (sb132_22 E B a0 M h hN) rfl
  · rw [if_neg q10] at h
    refine xv_if_lt E 22 (show decode prog_12_method_17_code 1 = .ok (.ifCond .lt (21), 3) by decide +kernel) rfl (fun z => absurd z q10) (fun _ => ?_)
    refine xv_b E [.iload_n 1, .aload_n 0] (pc' := 6) (lv' := [(0, .inr (.inr (some a0))), (1, .inl v1)]) (st' := [.inr (.inr (some a0)), .inl v1]) (by decide +kernel) rfl rfl ?_
    obtain ⟨o_1, h2, h⟩ := bd h
    refine xg_r E 10 9 h2 mw58 (show decode prog_12_method_17_code 6 = .ok (.getfield 24, 3) by decide +kernel) ?_
    obtain ⟨v_3, h4, h⟩ := bd h
    refine xa_n E 20 h4 (show decode prog_12_method_17_code 9 = .ok (.arraylength, 1) by decide +kernel) ?_
    by_cases q9 : v_3 ≤ v1
    · rw [if_pos q9] at h
      refine xv_icmp_ge E 22 (show decode prog_12_method_17_code 10 = .ok (.if_icmp .ge (12), 3) by decide +kernel) rfl (fun _ => ?_) (fun z => absurd q9 z)
      exact xv_w (sb132_22 E B a0 M h hN) rfl
    · rw [if_neg q9] at h
      refine xv_icmp_ge E 22 (show decode prog_12_method_17_code 10 = .ok (.if_icmp .ge (12), 3) by decide +kernel) rfl (fun z => absurd z q9) (fun _ => ?_)
      refine xv_b E [.aload_n 0] (pc' := 14) (lv' := [(0, .inr (.inr (some a0))), (1, .inl v1)]) (st' := [.inr (.inr (some a0))]) (by decide +kernel) rfl rfl ?_
      obtain ⟨o_5, h6, h⟩ := bd h
      refine xg_r E 10 9 h6 mw58 (show decode prog_12_method_17_code 14 = .ok (.getfield 24, 3) by decide +kernel) ?_
      refine xv_b E [.iload_n 1] (pc' := 18) (lv' := [(0, .inr (.inr (some a0))), (1, .inl v1)]) (st' := [.inl v1, .inr (.inr o_5)]) (by decide +kernel) rfl rfl ?_
      obtain ⟨v_7, h8, h⟩ := bd h
      refine xa_i E h8 (show decode prog_12_method_17_code 18 = .ok (.iaload, 1) by decide +kernel) ?_
      refine xv_goto E 23 (show decode prog_12_method_17_code 19 = .ok (.goto (4), 3) by decide +kernel) rfl ?_
      exact xv_w (sb132_23 E B a0 v_7 M h hN) rfl
end
theorem t132 (G : gX) (l : Launch) {as : List aV} {M : hM} {r : Option aV} {M' : hM} (h : f132 as M = some (r, M')) : xM G l ym132 prog_12_method_17_code 3 (some FieldType.int) 0 as M r M' := by
  unfold f132 at h
  split at h
  · have h := x_out_ok h
    refine xM_of (by decide) (Nat.le_of_ble_eq_true rfl) (lb132_0 G l _ _ M h) ?_
    intro p e s m args below meth c E B
    exact sb132_0 E B _ _ M h rfl
  · cases h
/-! ZF.Switch.outPort(LZF$Port;II)I -/
def ym133 : MethodName := ⟨"ZonedFabric$Switch", "outPort", "(LZonedFabric$Port;II)I"⟩
theorem cd133 : xCd ym133 prog_12_method_16_code 6 (some FieldType.int) 3 := ⟨mw705, mw51, by decide, by decide, by decide +kernel⟩
def b133_47  (M : hM) : Option xRes :=
  some (.inl (some (.inl (-2 : Int32)), M))
def b133_91 (si0 : Int32) (M : hM) : Option xRes :=
  some (.inl (some (.inl si0), M))
def b133_68 (a0 : Nat) (v3 : Int32) (M : hM) : Option xRes :=
  Option.bind (g_o M 10 (some a0)) fun b_56 =>
  Option.bind (c_I (f132 [.inr (.inr (some b_56)), .inl (v3 >>> ((16 : Int32) &&& 31))] M)) fun q_54 =>
  if q_54.1 = (-1 : Int32) then
    (b133_91 (-3 : Int32) q_54.2)
  else
    (b133_91 q_54.1 q_54.2)
def b133_142  (M : hM) : Option xRes :=
  some (.inl (some (.inl (-3 : Int32)), M))
def b133_171 (si0 : Int32) (M : hM) : Option xRes :=
  some (.inl (some (.inl si0), M))
def b133_50 (a0 : Nat) (v2 : Int32) (v3 : Int32) (v4 : Int32) (M : hM) : Option xRes :=
  Option.bind (g_i M 10 3 (some a0)) fun v_23 =>
  if (v3 >>> ((16 : Int32) &&& 31)) = v_23 then
    (Option.bind (g_i M 10 10 (some a0)) fun v_25 =>
    if v_25 = 0 then
      (if (8 : Int32) ≤ ((v3 >>> ((8 : Int32) &&& 31)) &&& (255 : Int32)) then
        (b133_142  M)
      else
        (Option.bind (g_r M 10 2 (some a0)) fun o_27 =>
        Option.bind (al_r M 38 o_27 ((v3 >>> ((8 : Int32) &&& 31)) &&& (255 : Int32))) fun o_29 =>
        Option.bind (g_i M 8 5 o_29) fun v_31 =>
        if v_31 = 0 then
          (b133_142  M)
        else
          (if v4 < 0 then
            (b133_142  M)
          else
            (Option.bind (g_r M 10 2 (some a0)) fun o_33 =>
            Option.bind (al_r M 38 o_33 ((v3 >>> ((8 : Int32) &&& 31)) &&& (255 : Int32))) fun o_35 =>
            Option.bind (g_o M 8 o_35) fun b_39 =>
            Option.bind (c_I (f116 [.inr (.inr (some b_39))] M)) fun q_37 =>
            if q_37.1 = v4 then
              (Option.bind (g_r q_37.2 10 0 (some a0)) fun o_41 =>
              Option.bind (g_o q_37.2 9 o_41) fun b_45 =>
              Option.bind (c_I (f125 [.inr (.inr (some b_45)), .inl ((v2 &&& (255 : Int32)) - (1 : Int32)), .inl v4] q_37.2)) fun q_43 =>
              if q_43.1 = 0 then
                (b133_171 (-2 : Int32) q_43.2)
              else
                (b133_171 ((v3 >>> ((8 : Int32) &&& 31)) &&& (255 : Int32)) q_43.2))
            else
              (b133_142  q_37.2)))))
    else
      (b133_68 a0 v3 M))
  else
    (b133_68 a0 v3 M)
def b133_0 (a0 : Nat) (o1 : Option Nat) (v2 : Int32) (v3 : Int32) (M : hM) : Option xRes :=
  Option.bind (g_o M 8 o1) fun b_3 =>
  Option.bind (c_I (f115 [.inr (.inr (some b_3))] M)) fun q_1 =>
  if q_1.1 = 0 then
    (b133_50 a0 v2 v3 ((v3 &&& (255 : Int32)) - (1 : Int32)) q_1.2)
  else
    (Option.bind (g_i q_1.2 8 12 o1) fun v_5 =>
    if v_5 = 0 then
      (b133_47  q_1.2)
    else
      (Option.bind (g_i q_1.2 8 12 o1) fun v_7 =>
      if v2 = v_7 then
        (Option.bind (g_r q_1.2 10 0 (some a0)) fun o_9 =>
        Option.bind (g_o q_1.2 8 o1) fun b_13 =>
        Option.bind (c_I (f116 [.inr (.inr (some b_13))] q_1.2)) fun q_11 =>
        Option.bind (g_o q_11.2 9 o_9) fun b_17 =>
        Option.bind (c_I (f125 [.inr (.inr (some b_17)), .inl q_11.1, .inl ((v3 &&& (255 : Int32)) - (1 : Int32))] q_11.2)) fun q_15 =>
        if q_15.1 = 0 then
          (b133_47  q_15.2)
        else
          (b133_50 a0 v2 v3 ((v3 &&& (255 : Int32)) - (1 : Int32)) q_15.2))
      else
        (b133_47  q_1.2)))
def f133 (as : List aV) (M : hM) : xO := match as with
  | [.inr (.inr (some a0)), .inr (.inr o1), .inl v2, .inl v3] => x_out (b133_0 a0 o1 v2 v3 M)
  | _ => none
theorem lb133_47 (G : gX) (l : Launch)  (M : hM) {res : xRes} (h : b133_47  M = some res) : h_sz M ≤ r_sz res ∧ h_sl M ≤ r_sl res := by
  unfold b133_47 at h
  obtain rfl := Option.some.inj h
  show h_sz M ≤ h_sz M ∧ h_sl M ≤ h_sl M
  omega
theorem lb133_91 (G : gX) (l : Launch) (si0 : Int32) (M : hM) {res : xRes} (h : b133_91 si0 M = some res) : h_sz M ≤ r_sz res ∧ h_sl M ≤ r_sl res := by
  unfold b133_91 at h
  obtain rfl := Option.some.inj h
  show h_sz M ≤ h_sz M ∧ h_sl M ≤ h_sl M
  omega
theorem lb133_68 (G : gX) (l : Launch) (a0 : Nat) (v3 : Int32) (M : hM) {res : xRes} (h : b133_68 a0 v3 M = some res) : h_sz M ≤ r_sz res ∧ h_sl M ≤ r_sl res := by
  unfold b133_68 at h
  obtain ⟨b_56, h57, h⟩ := bd h
  obtain ⟨q_54, h55, h⟩ := bd h
  have eh55 := (t132 G l (c_I_some h55)).1
  by_cases q58 : q_54.1 = (-1 : Int32)
  · rw [if_pos q58] at h
    have e := lb133_91 G l (-3 : Int32) q_54.2 h
    omega
  · rw [if_neg q58] at h
    have e := lb133_91 G l q_54.1 q_54.2 h
    omega
theorem lb133_142 (G : gX) (l : Launch)  (M : hM) {res : xRes} (h : b133_142  M = some res) : h_sz M ≤ r_sz res ∧ h_sl M ≤ r_sl res := by
  unfold b133_142 at h
  obtain rfl := Option.some.inj h
  show h_sz M ≤ h_sz M ∧ h_sl M ≤ h_sl M
  omega
theorem lb133_171 (G : gX) (l : Launch) (si0 : Int32) (M : hM) {res : xRes} (h : b133_171 si0 M = some res) : h_sz M ≤ r_sz res ∧ h_sl M ≤ r_sl res := by
  unfold b133_171 at h
  obtain rfl := Option.some.inj h
  show h_sz M ≤ h_sz M ∧ h_sl M ≤ h_sl M
  omega
theorem lb133_50 (G : gX) (l : Launch) (a0 : Nat) (v2 : Int32) (v3 : Int32) (v4 : Int32) (M : hM) {res : xRes} (h : b133_50 a0 v2 v3 v4 M = some res) : h_sz M ≤ r_sz res ∧ h_sl M ≤ r_sl res := by
  unfold b133_50 at h
  obtain ⟨v_23, h24, h⟩ := bd h
  by_cases q53 : (v3 >>> ((16 : Int32) &&& 31)) = v_23
  · rw [if_pos q53] at h
    obtain ⟨v_25, h26, h⟩ := bd h
    by_cases q52 : v_25 = 0
    · rw [if_pos q52] at h
      by_cases q51 : (8 : Int32) ≤ ((v3 >>> ((8 : Int32) &&& 31)) &&& (255 : Int32))
      · rw [if_pos q51] at h
        have e := lb133_142 G l  M h
        omega
      · rw [if_neg q51] at h
        obtain ⟨o_27, h28, h⟩ := bd h
        obtain ⟨o_29, h30, h⟩ := bd h
        obtain ⟨v_31, h32, h⟩ := bd h
        by_cases q50 : v_31 = 0
        · rw [if_pos q50] at h
          have e := lb133_142 G l  M h
          omega
        · rw [if_neg q50] at h
          by_cases q49 : v4 < 0
          · rw [if_pos q49] at h
            have e := lb133_142 G l  M h
            omega
          · rw [if_neg q49] at h
            obtain ⟨o_33, h34, h⟩ := bd h
            obtain ⟨o_35, h36, h⟩ := bd h
            obtain ⟨b_39, h40, h⟩ := bd h
            obtain ⟨q_37, h38, h⟩ := bd h
            have eh38 := (t116 G l (c_I_some h38)).1
            by_cases q48 : q_37.1 = v4
            · rw [if_pos q48] at h
              obtain ⟨o_41, h42, h⟩ := bd h
              obtain ⟨b_45, h46, h⟩ := bd h
              obtain ⟨q_43, h44, h⟩ := bd h
              have eh44 := (t125 G l (c_I_some h44)).1
              by_cases q47 : q_43.1 = 0
              · rw [if_pos q47] at h
                have e := lb133_171 G l (-2 : Int32) q_43.2 h
                omega
              · rw [if_neg q47] at h
                have e := lb133_171 G l ((v3 >>> ((8 : Int32) &&& 31)) &&& (255 : Int32)) q_43.2 h
                omega
            · rw [if_neg q48] at h
              have e := lb133_142 G l  q_37.2 h
              omega
    · rw [if_neg q52] at h
      have e := lb133_68 G l a0 v3 M h
      omega
  · rw [if_neg q53] at h
    have e := lb133_68 G l a0 v3 M h
    omega
theorem lb133_0 (G : gX) (l : Launch) (a0 : Nat) (o1 : Option Nat) (v2 : Int32) (v3 : Int32) (M : hM) {res : xRes} (h : b133_0 a0 o1 v2 v3 M = some res) : h_sz M ≤ r_sz res ∧ h_sl M ≤ r_sl res := by
  unfold b133_0 at h
  obtain ⟨b_3, h4, h⟩ := bd h
  obtain ⟨q_1, h2, h⟩ := bd h
  have eh2 := (t115 G l (c_I_some h2)).1
  by_cases q22 : q_1.1 = 0
  · rw [if_pos q22] at h
    have e := lb133_50 G l a0 v2 v3 ((v3 &&& (255 : Int32)) - (1 : Int32)) q_1.2 h
    omega
  · rw [if_neg q22] at h
    obtain ⟨v_5, h6, h⟩ := bd h
    by_cases q21 : v_5 = 0
    · rw [if_pos q21] at h
      have e := lb133_47 G l  q_1.2 h
      omega
    · rw [if_neg q21] at h
      obtain ⟨v_7, h8, h⟩ := bd h
      by_cases q20 : v2 = v_7
      · rw [if_pos q20] at h
        obtain ⟨o_9, h10, h⟩ := bd h
        obtain ⟨b_13, h14, h⟩ := bd h
        obtain ⟨q_11, h12, h⟩ := bd h
        have eh12 := (t116 G l (c_I_some h12)).1
        obtain ⟨b_17, h18, h⟩ := bd h
        obtain ⟨q_15, h16, h⟩ := bd h
        have eh16 := (t125 G l (c_I_some h16)).1
        by_cases q19 : q_15.1 = 0
        · rw [if_pos q19] at h
          have e := lb133_47 G l  q_15.2 h
          omega
        · rw [if_neg q19] at h
          have e := lb133_50 G l a0 v2 v3 ((v3 &&& (255 : Int32)) - (1 : Int32)) q_15.2 h
          omega
      · rw [if_neg q20] at h
        have e := lb133_47 G l  q_1.2 h
        omega
section
variable {p : Program} {l : Launch} {e : Env} {s : State} {m : MethodId} {args : Array Value} {below : List Frame} {meth : Method} {c : Code} {G : gX} {z0 y0 : Nat} {r : Option aV} {M' : hM}
theorem sb133_47 (E : xE G p (xRm 2 (h_sz M' - z0) (h_sl M' - y0)) s m args c prog_12_method_16_code "ZonedFabric$Switch" z0 y0 (h_sz M') (h_sl M') 6) (B : xB ym133 (some FieldType.int) meth)  (M : hM) {res : xRes} (h : b133_47  M = some res) (hN : xN (fun _ _ _ => False) r M' res) : xV G p l e (xRm 2 (h_sz M' - z0) (h_sl M' - y0)) s m args below meth c z0 y0 (h_sz M') (h_sl M') 6 (MQ below (xQc G r M') args s (h_sz M' - z0) (h_sl M' - y0) (xFr G)) 47 [] [] M := by
  unfold b133_47 at h
  refine xv_b E [.bipush (-2)] (pc' := 49) (lv' := []) (st' := [.inl (-2 : Int32)]) (by decide +kernel) rfl rfl ?_
  obtain rfl := Option.some.inj h
  obtain ⟨rfl, rfl⟩ := Prod.mk.inj (show ((some (.inl (-2 : Int32)) : Option aV), M) = (r, M') from hN)
  exact xv_ri E B.1 rfl B.2.1 (show decode prog_12_method_16_code 49 = .ok (.ireturn, 1) by decide +kernel) rfl rfl
theorem sb133_91 (E : xE G p (xRm 2 (h_sz M' - z0) (h_sl M' - y0)) s m args c prog_12_method_16_code "ZonedFabric$Switch" z0 y0 (h_sz M') (h_sl M') 6) (B : xB ym133 (some FieldType.int) meth) (si0 : Int32) (M : hM) {res : xRes} (h : b133_91 si0 M = some res) (hN : xN (fun _ _ _ => False) r M' res) : xV G p l e (xRm 2 (h_sz M' - z0) (h_sl M' - y0)) s m args below meth c z0 y0 (h_sz M') (h_sl M') 6 (MQ below (xQc G r M') args s (h_sz M' - z0) (h_sl M' - y0) (xFr G)) 91 [] [.inl si0] M := by
  unfold b133_91 at h
  obtain rfl := Option.some.inj h
  obtain ⟨rfl, rfl⟩ := Prod.mk.inj (show ((some (.inl si0) : Option aV), M) = (r, M') from hN)
  exact xv_ri E B.1 rfl B.2.1 (show decode prog_12_method_16_code 91 = .ok (.ireturn, 1) by decide +kernel) rfl rfl
theorem sb133_68 (E : xE G p (xRm 2 (h_sz M' - z0) (h_sl M' - y0)) s m args c prog_12_method_16_code "ZonedFabric$Switch" z0 y0 (h_sz M') (h_sl M') 6) (B : xB ym133 (some FieldType.int) meth) (a0 : Nat) (v3 : Int32) (M : hM) {res : xRes} (h : b133_68 a0 v3 M = some res) (hN : xN (fun _ _ _ => False) r M' res) : xV G p l e (xRm 2 (h_sz M' - z0) (h_sl M' - y0)) s m args below meth c z0 y0 (h_sz M') (h_sl M') 6 (MQ below (xQc G r M') args s (h_sz M' - z0) (h_sl M' - y0) (xFr G)) 68 [(0, .inr (.inr (some a0))), (3, .inl v3)] [] M := by
  unfold b133_68 at h
  refine xv_b E [.aload_n 0, .iload_n 3, .bipush 16, .ishr] (pc' := 73) (lv' := [(0, .inr (.inr (some a0))), (3, .inl v3)]) (st' := [.inl (v3 >>> ((16 : Int32) &&& 31)), .inr (.inr (some a0))]) (by decide +kernel) rfl rfl ?_
  obtain ⟨b_56, h57, h⟩ := bd h
  obtain ⟨eh57, th57⟩ := g_o_some h57
  obtain ⟨q_54, h55, h⟩ := bd h
  refine xv_cvo E eh57 10 (as := [.inl (v3 >>> ((16 : Int32) &&& 31))]) (t132 G l (c_I_some h55)) cd132 mw707 mw708 mw709 (show decode prog_12_method_16_code 73 = .ok (.invokevirtual 260, 3) by decide +kernel) th57 rfl rfl (Nat.le_of_ble_eq_true rfl) ⟨Nat.le_of_ble_eq_true rfl, Nat.le_of_ble_eq_true rfl⟩ ?_
  refine xv_b E [.istore 5, .iload 5, .iconst (-1)] (pc' := 81) (lv' := [(5, .inl q_54.1), (0, .inr (.inr (some a0))), (3, .inl v3)]) (st' := [.inl (-1 : Int32), .inl q_54.1]) (by decide +kernel) rfl rfl ?_
  by_cases q58 : q_54.1 = (-1 : Int32)
  · rw [if_pos q58] at h
    refine xv_icmp_ne E 89 (show decode prog_12_method_16_code 81 = .ok (.if_icmp .ne (8), 3) by decide +kernel) rfl (fun z => absurd q58 z) (fun _ => ?_)
    refine xv_b E [.bipush (-3)] (pc' := 86) (lv' := [(5, .inl q_54.1), (0, .inr (.inr (some a0))), (3, .inl v3)]) (st' := [.inl (-3 : Int32)]) (by decide +kernel) rfl rfl ?_
    refine xv_goto E 91 (show decode prog_12_method_16_code 86 = .ok (.goto (5), 3) by decide +kernel) rfl ?_
    exact xv_w (sb133_91 E B (-3 : Int32) q_54.2 h hN) rfl
  · rw [if_neg q58] at h
    refine xv_icmp_ne E 89 (show decode prog_12_method_16_code 81 = .ok (.if_icmp .ne (8), 3) by decide +kernel) rfl (fun _ => ?_) (fun z => absurd z q58)
    refine xv_b E [.iload 5] (pc' := 91) (lv' := [(5, .inl q_54.1), (0, .inr (.inr (some a0))), (3, .inl v3)]) (st' := [.inl q_54.1]) (by decide +kernel) rfl rfl ?_
    exact xv_w (sb133_91 E B q_54.1 q_54.2 h hN) rfl
theorem sb133_142 (E : xE G p (xRm 2 (h_sz M' - z0) (h_sl M' - y0)) s m args c prog_12_method_16_code "ZonedFabric$Switch" z0 y0 (h_sz M') (h_sl M') 6) (B : xB ym133 (some FieldType.int) meth)  (M : hM) {res : xRes} (h : b133_142  M = some res) (hN : xN (fun _ _ _ => False) r M' res) : xV G p l e (xRm 2 (h_sz M' - z0) (h_sl M' - y0)) s m args below meth c z0 y0 (h_sz M') (h_sl M') 6 (MQ below (xQc G r M') args s (h_sz M' - z0) (h_sl M' - y0) (xFr G)) 142 [] [] M := by
  unfold b133_142 at h
  refine xv_b E [.bipush (-3)] (pc' := 144) (lv' := []) (st' := [.inl (-3 : Int32)]) (by decide +kernel) rfl rfl ?_
  obtain rfl := Option.some.inj h
  obtain ⟨rfl, rfl⟩ := Prod.mk.inj (show ((some (.inl (-3 : Int32)) : Option aV), M) = (r, M') from hN)
  exact xv_ri E B.1 rfl B.2.1 (show decode prog_12_method_16_code 144 = .ok (.ireturn, 1) by decide +kernel) rfl rfl
theorem sb133_171 (E : xE G p (xRm 2 (h_sz M' - z0) (h_sl M' - y0)) s m args c prog_12_method_16_code "ZonedFabric$Switch" z0 y0 (h_sz M') (h_sl M') 6) (B : xB ym133 (some FieldType.int) meth) (si0 : Int32) (M : hM) {res : xRes} (h : b133_171 si0 M = some res) (hN : xN (fun _ _ _ => False) r M' res) : xV G p l e (xRm 2 (h_sz M' - z0) (h_sl M' - y0)) s m args below meth c z0 y0 (h_sz M') (h_sl M') 6 (MQ below (xQc G r M') args s (h_sz M' - z0) (h_sl M' - y0) (xFr G)) 171 [] [.inl si0] M := by
  unfold b133_171 at h
  obtain rfl := Option.some.inj h
  obtain ⟨rfl, rfl⟩ := Prod.mk.inj (show ((some (.inl si0) : Option aV), M) = (r, M') from hN)
  exact xv_ri E B.1 rfl B.2.1 (show decode prog_12_method_16_code 171 = .ok (.ireturn, 1) by decide +kernel) rfl rfl
theorem sb133_50 (E : xE G p (xRm 2 (h_sz M' - z0) (h_sl M' - y0)) s m args c prog_12_method_16_code "ZonedFabric$Switch" z0 y0 (h_sz M') (h_sl M') 6) (B : xB ym133 (some FieldType.int) meth) (a0 : Nat) (v2 : Int32) (v3 : Int32) (v4 : Int32) (M : hM) {res : xRes} (h : b133_50 a0 v2 v3 v4 M = some res) (hN : xN (fun _ _ _ => False) r M' res) : xV G p l e (xRm 2 (h_sz M' - z0) (h_sl M' - y0)) s m args below meth c z0 y0 (h_sz M') (h_sl M') 6 (MQ below (xQc G r M') args s (h_sz M' - z0) (h_sl M' - y0) (xFr G)) 50 [(0, .inr (.inr (some a0))), (2, .inl v2), (3, .inl v3), (4, .inl v4)] [] M := by
  unfold b133_50 at h
  refine xv_b E [.iload_n 3, .bipush 16, .ishr, .aload_n 0] (pc' := 55) (lv' := [(0, .inr (.inr (some a0))), (2, .inl v2), (3, .inl v3), (4, .inl v4)]) (st' := [.inr (.inr (some a0)), .inl (v3 >>> ((16 : Int32) &&& 31))]) (by decide +kernel) rfl rfl ?_
  obtain ⟨v_23, h24, h⟩ := bd h
  refine xg_i E 10 3 h24 mw62 (show decode prog_12_method_16_code 55 = .ok (.getfield 41, 3) by decide +kernel) ?_
  by_cases q53 : (v3 >>> ((16 : Int32) &&& 31)) = v_23
  · rw [if_pos q53] at h
    refine xv_icmp_ne E 68 (show decode prog_12_method_16_code 58 = .ok (.if_icmp .ne (10), 3) by decide +kernel) rfl (fun z => absurd q53 z) (fun _ => ?_)
    refine xv_b E [.aload_n 0] (pc' := 62) (lv' := [(0, .inr (.inr (some a0))), (2, .inl v2), (3, .inl v3), (4, .inl v4)]) (st' := [.inr (.inr (some a0))]) (by decide +kernel) rfl rfl ?_
    obtain ⟨v_25, h26, h⟩ := bd h
    refine xg_i E 10 10 h26 mw555 (show decode prog_12_method_16_code 62 = .ok (.getfield 87, 3) by decide +kernel) ?_
    by_cases q52 : v_25 = 0
    · rw [if_pos q52] at h
      refine xv_if_eq E 92 (show decode prog_12_method_16_code 65 = .ok (.ifCond .eq (27), 3) by decide +kernel) rfl (fun _ => ?_) (fun z => absurd q52 z)
      refine xv_b E [.iload_n 3, .bipush 8, .ishr, .sipush 255, .iand, .istore 5, .iload 5, .bipush 8] (pc' := 106) (lv' := [(5, .inl ((v3 >>> ((8 : Int32) &&& 31)) &&& (255 : Int32))), (0, .inr (.inr (some a0))), (2, .inl v2), (3, .inl v3), (4, .inl v4)]) (st' := [.inl (8 : Int32), .inl ((v3 >>> ((8 : Int32) &&& 31)) &&& (255 : Int32))]) (by decide +kernel) rfl rfl ?_
      by_cases q51 : (8 : Int32) ≤ ((v3 >>> ((8 : Int32) &&& 31)) &&& (255 : Int32))
      · rw [if_pos q51] at h
        refine xv_icmp_ge E 142 (show decode prog_12_method_16_code 106 = .ok (.if_icmp .ge (36), 3) by decide +kernel) rfl (fun _ => ?_) (fun z => absurd q51 z)
        exact xv_w (sb133_142 E B  M h hN) rfl
      · rw [if_neg q51] at h
        refine xv_icmp_ge E 142 (show decode prog_12_method_16_code 106 = .ok (.if_icmp .ge (36), 3) by decide +kernel) rfl (fun z => absurd z q51) (fun _ => ?_)
        refine xv_b E [.aload_n 0] (pc' := 110) (lv' := [(5, .inl ((v3 >>> ((8 : Int32) &&& 31)) &&& (255 : Int32))), (0, .inr (.inr (some a0))), (2, .inl v2), (3, .inl v3), (4, .inl v4)]) (st' := [.inr (.inr (some a0))]) (by decide +kernel) rfl rfl ?_
        obtain ⟨o_27, h28, h⟩ := bd h
        refine xg_r E 10 2 h28 mw53 (show decode prog_12_method_16_code 110 = .ok (.getfield 11, 3) by decide +kernel) ?_
        refine xv_b E [.iload 5] (pc' := 115) (lv' := [(5, .inl ((v3 >>> ((8 : Int32) &&& 31)) &&& (255 : Int32))), (0, .inr (.inr (some a0))), (2, .inl v2), (3, .inl v3), (4, .inl v4)]) (st' := [.inl ((v3 >>> ((8 : Int32) &&& 31)) &&& (255 : Int32)), .inr (.inr o_27)]) (by decide +kernel) rfl rfl ?_
        obtain ⟨o_29, h30, h⟩ := bd h
        refine xa_r E 38 h30 (show decode prog_12_method_16_code 115 = .ok (.aaload, 1) by decide +kernel) ?_
        obtain ⟨v_31, h32, h⟩ := bd h
        refine xg_i E 8 5 h32 mw627 (show decode prog_12_method_16_code 116 = .ok (.getfield 112, 3) by decide +kernel) ?_
        by_cases q50 : v_31 = 0
        · rw [if_pos q50] at h
          refine xv_if_eq E 142 (show decode prog_12_method_16_code 119 = .ok (.ifCond .eq (23), 3) by decide +kernel) rfl (fun _ => ?_) (fun z => absurd q50 z)
          exact xv_w (sb133_142 E B  M h hN) rfl
        · rw [if_neg q50] at h
          refine xv_if_eq E 142 (show decode prog_12_method_16_code 119 = .ok (.ifCond .eq (23), 3) by decide +kernel) rfl (fun z => absurd z q50) (fun _ => ?_)
          refine xv_b E [.iload 4] (pc' := 124) (lv' := [(5, .inl ((v3 >>> ((8 : Int32) &&& 31)) &&& (255 : Int32))), (0, .inr (.inr (some a0))), (2, .inl v2), (3, .inl v3), (4, .inl v4)]) (st' := [.inl v4]) (by decide +kernel) rfl rfl ?_
          by_cases q49 : v4 < 0
          · rw [if_pos q49] at h
            refine xv_if_lt E 142 (show decode prog_12_method_16_code 124 = .ok (.ifCond .lt (18), 3) by decide +kernel) rfl (fun _ => ?_) (fun z => absurd q49 z)
            exact xv_w (sb133_142 E B  M h hN) rfl
          · rw [if_neg q49] at h
            refine xv_if_lt E 142 (show decode prog_12_method_16_code 124 = .ok (.ifCond .lt (18), 3) by decide +kernel) rfl (fun z => absurd z q49) (fun _ => ?_)
            refine xv_b E [.aload_n 0] (pc' := 128) (lv' := [(5, .inl ((v3 >>> ((8 : Int32) &&& 31)) &&& (255 : Int32))), (0, .inr (.inr (some a0))), (2, .inl v2), (3, .inl v3), (4, .inl v4)]) (st' := [.inr (.inr (some a0))]) (by decide +kernel) rfl rfl ?_
            obtain ⟨o_33, h34, h⟩ := bd h
            refine xg_r E 10 2 h34 mw53 (show decode prog_12_method_16_code 128 = .ok (.getfield 11, 3) by decide +kernel) ?_
            refine xv_b E [.iload 5] (pc' := 133) (lv' := [(5, .inl ((v3 >>> ((8 : Int32) &&& 31)) &&& (255 : Int32))), (0, .inr (.inr (some a0))), (2, .inl v2), (3, .inl v3), (4, .inl v4)]) (st' := [.inl ((v3 >>> ((8 : Int32) &&& 31)) &&& (255 : Int32)), .inr (.inr o_33)]) (by decide +kernel) rfl rfl ?_
            obtain ⟨o_35, h36, h⟩ := bd h
            refine xa_r E 38 h36 (show decode prog_12_method_16_code 133 = .ok (.aaload, 1) by decide +kernel) ?_
            obtain ⟨b_39, h40, h⟩ := bd h
            obtain ⟨eh40, th40⟩ := g_o_some h40
            obtain ⟨q_37, h38, h⟩ := bd h
            refine xv_cvo E eh40 8 (as := []) (t116 G l (c_I_some h38)) cd116 mw646 mw647 mw648 (show decode prog_12_method_16_code 134 = .ok (.invokevirtual 159, 3) by decide +kernel) th40 rfl rfl (Nat.le_of_ble_eq_true rfl) ⟨Nat.le_of_ble_eq_true rfl, Nat.le_of_ble_eq_true rfl⟩ ?_
            refine xv_b E [.iload 4] (pc' := 139) (lv' := [(5, .inl ((v3 >>> ((8 : Int32) &&& 31)) &&& (255 : Int32))), (0, .inr (.inr (some a0))), (2, .inl v2), (3, .inl v3), (4, .inl v4)]) (st' := [.inl v4, .inl q_37.1]) (by decide +kernel) rfl rfl ?_
            by_cases q48 : q_37.1 = v4
            · rw [if_pos q48] at h
              refine xv_icmp_eq E 145 (show decode prog_12_method_16_code 139 = .ok (.if_icmp .eq (6), 3) by decide +kernel) rfl (fun _ => ?_) (fun z => absurd q48 z)
              refine xv_b E [.aload_n 0] (pc' := 146) (lv' := [(5, .inl ((v3 >>> ((8 : Int32) &&& 31)) &&& (255 : Int32))), (0, .inr (.inr (some a0))), (2, .inl v2), (3, .inl v3), (4, .inl v4)]) (st' := [.inr (.inr (some a0))]) (by decide +kernel) rfl rfl ?_
              obtain ⟨o_41, h42, h⟩ := bd h
              refine xg_r E 10 0 h42 mw60 (show decode prog_12_method_16_code 146 = .ok (.getfield 34, 3) by decide +kernel) ?_
              refine xv_b E [.iload_n 2, .sipush 255, .iand, .iconst 1, .isub, .iload 4] (pc' := 158) (lv' := [(5, .inl ((v3 >>> ((8 : Int32) &&& 31)) &&& (255 : Int32))), (0, .inr (.inr (some a0))), (2, .inl v2), (3, .inl v3), (4, .inl v4)]) (st' := [.inl v4, .inl ((v2 &&& (255 : Int32)) - (1 : Int32)), .inr (.inr o_41)]) (by decide +kernel) rfl rfl ?_
              obtain ⟨b_45, h46, h⟩ := bd h
              obtain ⟨eh46, th46⟩ := g_o_some h46
              obtain ⟨q_43, h44, h⟩ := bd h
              refine xv_cvo E eh46 9 (as := [.inl ((v2 &&& (255 : Int32)) - (1 : Int32)), .inl v4]) (t125 G l (c_I_some h44)) cd125 mw691 mw692 mw693 (show decode prog_12_method_16_code 158 = .ok (.invokevirtual 228, 3) by decide +kernel) th46 rfl rfl (Nat.le_of_ble_eq_true rfl) ⟨Nat.le_of_ble_eq_true rfl, Nat.le_of_ble_eq_true rfl⟩ ?_
              by_cases q47 : q_43.1 = 0
              · rw [if_pos q47] at h
                refine xv_if_eq E 169 (show decode prog_12_method_16_code 161 = .ok (.ifCond .eq (8), 3) by decide +kernel) rfl (fun _ => ?_) (fun z => absurd q47 z)
                refine xv_b E [.bipush (-2)] (pc' := 171) (lv' := [(5, .inl ((v3 >>> ((8 : Int32) &&& 31)) &&& (255 : Int32))), (0, .inr (.inr (some a0))), (2, .inl v2), (3, .inl v3), (4, .inl v4)]) (st' := [.inl (-2 : Int32)]) (by decide +kernel) rfl rfl ?_
                exact xv_w (sb133_171 E B (-2 : Int32) q_43.2 h hN) rfl
              · rw [if_neg q47] at h
                refine xv_if_eq E 169 (show decode prog_12_method_16_code 161 = .ok (.ifCond .eq (8), 3) by decide +kernel) rfl (fun z => absurd z q47) (fun _ => ?_)
                refine xv_b E [.iload 5] (pc' := 166) (lv' := [(5, .inl ((v3 >>> ((8 : Int32) &&& 31)) &&& (255 : Int32))), (0, .inr (.inr (some a0))), (2, .inl v2), (3, .inl v3), (4, .inl v4)]) (st' := [.inl ((v3 >>> ((8 : Int32) &&& 31)) &&& (255 : Int32))]) (by decide +kernel) rfl rfl ?_
                refine xv_goto E 171 (show decode prog_12_method_16_code 166 = .ok (.goto (5), 3) by decide +kernel) rfl ?_
                exact xv_w (sb133_171 E B ((v3 >>> ((8 : Int32) &&& 31)) &&& (255 : Int32)) q_43.2 h hN) rfl
            · rw [if_neg q48] at h
              refine xv_icmp_eq E 145 (show decode prog_12_method_16_code 139 = .ok (.if_icmp .eq (6), 3) by decide +kernel) rfl (fun z => absurd z q48) (fun _ => ?_)
              exact xv_w (sb133_142 E B  q_37.2 h hN) rfl
    · rw [if_neg q52] at h
      refine xv_if_eq E 92 (show decode prog_12_method_16_code 65 = .ok (.ifCond .eq (27), 3) by decide +kernel) rfl (fun z => absurd z q52) (fun _ => ?_)
      exact xv_w (sb133_68 E B a0 v3 M h hN) rfl
  · rw [if_neg q53] at h
    refine xv_icmp_ne E 68 (show decode prog_12_method_16_code 58 = .ok (.if_icmp .ne (10), 3) by decide +kernel) rfl (fun _ => ?_) (fun z => absurd z q53)
    exact xv_w (sb133_68 E B a0 v3 M h hN) rfl
theorem sb133_0 (E : xE G p (xRm 2 (h_sz M' - z0) (h_sl M' - y0)) s m args c prog_12_method_16_code "ZonedFabric$Switch" z0 y0 (h_sz M') (h_sl M') 6) (B : xB ym133 (some FieldType.int) meth) (a0 : Nat) (o1 : Option Nat) (v2 : Int32) (v3 : Int32) (M : hM) {res : xRes} (h : b133_0 a0 o1 v2 v3 M = some res) (hN : xN (fun _ _ _ => False) r M' res) : xV G p l e (xRm 2 (h_sz M' - z0) (h_sl M' - y0)) s m args below meth c z0 y0 (h_sz M') (h_sl M') 6 (MQ below (xQc G r M') args s (h_sz M' - z0) (h_sl M' - y0) (xFr G)) 0 [(0, .inr (.inr (some a0))), (1, .inr (.inr o1)), (2, .inl v2), (3, .inl v3)] [] M := by
  unfold b133_0 at h
  refine xv_b E [.iload_n 3, .sipush 255, .iand, .iconst 1, .isub, .istore 4, .aload_n 1] (pc' := 10) (lv' := [(4, .inl ((v3 &&& (255 : Int32)) - (1 : Int32))), (0, .inr (.inr (some a0))), (1, .inr (.inr o1)), (2, .inl v2), (3, .inl v3)]) (st' := [.inr (.inr o1)]) (by decide +kernel) rfl rfl ?_
  obtain ⟨b_3, h4, h⟩ := bd h
  obtain ⟨eh4, th4⟩ := g_o_some h4
  obtain ⟨q_1, h2, h⟩ := bd h
  refine xv_cvo E eh4 8 (as := []) (t115 G l (c_I_some h2)) cd115 mw706 mw639 mw640 (show decode prog_12_method_16_code 10 = .ok (.invokevirtual 204, 3) by decide +kernel) th4 rfl rfl (Nat.le_of_ble_eq_true rfl) ⟨Nat.le_of_ble_eq_true rfl, Nat.le_of_ble_eq_true rfl⟩ ?_
  by_cases q22 : q_1.1 = 0
  · rw [if_pos q22] at h
    refine xv_if_eq E 50 (show decode prog_12_method_16_code 13 = .ok (.ifCond .eq (37), 3) by decide +kernel) rfl (fun _ => ?_) (fun z => absurd q22 z)
    exact xv_w (sb133_50 E B a0 v2 v3 ((v3 &&& (255 : Int32)) - (1 : Int32)) q_1.2 h hN) rfl
  · rw [if_neg q22] at h
    refine xv_if_eq E 50 (show decode prog_12_method_16_code 13 = .ok (.ifCond .eq (37), 3) by decide +kernel) rfl (fun z => absurd z q22) (fun _ => ?_)
    refine xv_b E [.aload_n 1] (pc' := 17) (lv' := [(4, .inl ((v3 &&& (255 : Int32)) - (1 : Int32))), (0, .inr (.inr (some a0))), (1, .inr (.inr o1)), (2, .inl v2), (3, .inl v3)]) (st' := [.inr (.inr o1)]) (by decide +kernel) rfl rfl ?_
    obtain ⟨v_5, h6, h⟩ := bd h
    refine xg_i E 8 12 h6 mw554 (show decode prog_12_method_16_code 17 = .ok (.getfield 84, 3) by decide +kernel) ?_
    by_cases q21 : v_5 = 0
    · rw [if_pos q21] at h
      refine xv_if_eq E 47 (show decode prog_12_method_16_code 20 = .ok (.ifCond .eq (27), 3) by decide +kernel) rfl (fun _ => ?_) (fun z => absurd q21 z)
      exact xv_w (sb133_47 E B  q_1.2 h hN) rfl
    · rw [if_neg q21] at h
      refine xv_if_eq E 47 (show decode prog_12_method_16_code 20 = .ok (.ifCond .eq (27), 3) by decide +kernel) rfl (fun z => absurd z q21) (fun _ => ?_)
      refine xv_b E [.iload_n 2, .aload_n 1] (pc' := 25) (lv' := [(4, .inl ((v3 &&& (255 : Int32)) - (1 : Int32))), (0, .inr (.inr (some a0))), (1, .inr (.inr o1)), (2, .inl v2), (3, .inl v3)]) (st' := [.inr (.inr o1), .inl v2]) (by decide +kernel) rfl rfl ?_
      obtain ⟨v_7, h8, h⟩ := bd h
      refine xg_i E 8 12 h8 mw554 (show decode prog_12_method_16_code 25 = .ok (.getfield 84, 3) by decide +kernel) ?_
      by_cases q20 : v2 = v_7
      · rw [if_pos q20] at h
        refine xv_icmp_ne E 47 (show decode prog_12_method_16_code 28 = .ok (.if_icmp .ne (19), 3) by decide +kernel) rfl (fun z => absurd q20 z) (fun _ => ?_)
        refine xv_b E [.aload_n 0] (pc' := 32) (lv' := [(4, .inl ((v3 &&& (255 : Int32)) - (1 : Int32))), (0, .inr (.inr (some a0))), (1, .inr (.inr o1)), (2, .inl v2), (3, .inl v3)]) (st' := [.inr (.inr (some a0))]) (by decide +kernel) rfl rfl ?_
        obtain ⟨o_9, h10, h⟩ := bd h
        refine xg_r E 10 0 h10 mw60 (show decode prog_12_method_16_code 32 = .ok (.getfield 34, 3) by decide +kernel) ?_
        refine xv_b E [.aload_n 1] (pc' := 36) (lv' := [(4, .inl ((v3 &&& (255 : Int32)) - (1 : Int32))), (0, .inr (.inr (some a0))), (1, .inr (.inr o1)), (2, .inl v2), (3, .inl v3)]) (st' := [.inr (.inr o1), .inr (.inr o_9)]) (by decide +kernel) rfl rfl ?_
        obtain ⟨b_13, h14, h⟩ := bd h
        obtain ⟨eh14, th14⟩ := g_o_some h14
        obtain ⟨q_11, h12, h⟩ := bd h
        refine xv_cvo E eh14 8 (as := []) (t116 G l (c_I_some h12)) cd116 mw646 mw647 mw648 (show decode prog_12_method_16_code 36 = .ok (.invokevirtual 159, 3) by decide +kernel) th14 rfl rfl (Nat.le_of_ble_eq_true rfl) ⟨Nat.le_of_ble_eq_true rfl, Nat.le_of_ble_eq_true rfl⟩ ?_
        refine xv_b E [.iload 4] (pc' := 41) (lv' := [(4, .inl ((v3 &&& (255 : Int32)) - (1 : Int32))), (0, .inr (.inr (some a0))), (1, .inr (.inr o1)), (2, .inl v2), (3, .inl v3)]) (st' := [.inl ((v3 &&& (255 : Int32)) - (1 : Int32)), .inl q_11.1, .inr (.inr o_9)]) (by decide +kernel) rfl rfl ?_
        obtain ⟨b_17, h18, h⟩ := bd h
        obtain ⟨eh18, th18⟩ := g_o_some h18
        obtain ⟨q_15, h16, h⟩ := bd h
        refine xv_cvo E eh18 9 (as := [.inl q_11.1, .inl ((v3 &&& (255 : Int32)) - (1 : Int32))]) (t125 G l (c_I_some h16)) cd125 mw691 mw692 mw693 (show decode prog_12_method_16_code 41 = .ok (.invokevirtual 228, 3) by decide +kernel) th18 rfl rfl (Nat.le_of_ble_eq_true rfl) ⟨Nat.le_of_ble_eq_true rfl, Nat.le_of_ble_eq_true rfl⟩ ?_
        by_cases q19 : q_15.1 = 0
        · rw [if_pos q19] at h
          refine xv_if_ne E 50 (show decode prog_12_method_16_code 44 = .ok (.ifCond .ne (6), 3) by decide +kernel) rfl (fun z => absurd q19 z) (fun _ => ?_)
          exact xv_w (sb133_47 E B  q_15.2 h hN) rfl
        · rw [if_neg q19] at h
          refine xv_if_ne E 50 (show decode prog_12_method_16_code 44 = .ok (.ifCond .ne (6), 3) by decide +kernel) rfl (fun _ => ?_) (fun z => absurd z q19)
          exact xv_w (sb133_50 E B a0 v2 v3 ((v3 &&& (255 : Int32)) - (1 : Int32)) q_15.2 h hN) rfl
      · rw [if_neg q20] at h
        refine xv_icmp_ne E 47 (show decode prog_12_method_16_code 28 = .ok (.if_icmp .ne (19), 3) by decide +kernel) rfl (fun _ => ?_) (fun z => absurd z q20)
        exact xv_w (sb133_47 E B  q_1.2 h hN) rfl
end
theorem t133 (G : gX) (l : Launch) {as : List aV} {M : hM} {r : Option aV} {M' : hM} (h : f133 as M = some (r, M')) : xM G l ym133 prog_12_method_16_code 6 (some FieldType.int) 2 as M r M' := by
  unfold f133 at h
  split at h
  · have h := x_out_ok h
    refine xM_of (by decide) (Nat.le_of_ble_eq_true rfl) (lb133_0 G l _ _ _ _ M h) ?_
    intro p e s m args below meth c E B
    exact sb133_0 E B _ _ _ _ M h rfl
  · cases h
/-! ZF.Port.drop(I)V -/
def ym134 : MethodName := ⟨"ZonedFabric$Port", "drop", "(I)V"⟩
theorem cd134 : xCd ym134 prog_10_method_14_code 2 none 1 := ⟨mw710, mw14, by decide, by decide, by decide +kernel⟩
def b134_0 (a0 : Nat) (v1 : Int32) (M : hM) : Option xRes :=
  Option.bind (g_r M 8 0 (some a0)) fun o_1 =>
  Option.bind (g_o M 9 o_1) fun b_5 =>
  Option.bind (c_V (f37 [.inr (.inr (some b_5)), .inl v1] M)) fun q_3 =>
  Option.bind (g_r q_3 8 0 (some a0)) fun o_7 =>
  Option.bind (g_o q_3 8 (some a0)) fun b_11 =>
  Option.bind (c_R (f54 [.inr (.inr (some b_11))] q_3)) fun q_9 =>
  Option.bind (g_o q_9.2 9 o_7) fun b_15 =>
  Option.bind (c_V (f17 [.inr (.inr (some b_15)), .inr (.inr q_9.1)] q_9.2)) fun q_13 =>
  some (.inl (none, q_13))
def f134 (as : List aV) (M : hM) : xO := match as with
  | [.inr (.inr (some a0)), .inl v1] => x_out (b134_0 a0 v1 M)
  | _ => none
theorem lb134_0 (G : gX) (l : Launch) (a0 : Nat) (v1 : Int32) (M : hM) {res : xRes} (h : b134_0 a0 v1 M = some res) : h_sz M ≤ r_sz res ∧ h_sl M ≤ r_sl res := by
  unfold b134_0 at h
  obtain ⟨o_1, h2, h⟩ := bd h
  obtain ⟨b_5, h6, h⟩ := bd h
  obtain ⟨q_3, h4, h⟩ := bd h
  have eh4 := (t37 G l (c_V_some h4)).1
  obtain ⟨o_7, h8, h⟩ := bd h
  obtain ⟨b_11, h12, h⟩ := bd h
  obtain ⟨q_9, h10, h⟩ := bd h
  have eh10 := (t54 G l (c_R_some h10)).1
  obtain ⟨b_15, h16, h⟩ := bd h
  obtain ⟨q_13, h14, h⟩ := bd h
  have eh14 := (t17 G l (c_V_some h14)).1
  obtain rfl := Option.some.inj h
  show h_sz M ≤ h_sz q_13 ∧ h_sl M ≤ h_sl q_13
  omega
section
variable {p : Program} {l : Launch} {e : Env} {s : State} {m : MethodId} {args : Array Value} {below : List Frame} {meth : Method} {c : Code} {G : gX} {z0 y0 : Nat} {r : Option aV} {M' : hM}
theorem sb134_0 (E : xE G p (xRm 2 (h_sz M' - z0) (h_sl M' - y0)) s m args c prog_10_method_14_code "ZonedFabric$Port" z0 y0 (h_sz M') (h_sl M') 2) (B : xB ym134 none meth) (a0 : Nat) (v1 : Int32) (M : hM) {res : xRes} (h : b134_0 a0 v1 M = some res) (hN : xN (fun _ _ _ => False) r M' res) : xV G p l e (xRm 2 (h_sz M' - z0) (h_sl M' - y0)) s m args below meth c z0 y0 (h_sz M') (h_sl M') 2 (MQ below (xQc G r M') args s (h_sz M' - z0) (h_sl M' - y0) (xFr G)) 0 [(0, .inr (.inr (some a0))), (1, .inl v1)] [] M := by
  unfold b134_0 at h
  refine xv_b E [.aload_n 0] (pc' := 1) (lv' := [(0, .inr (.inr (some a0))), (1, .inl v1)]) (st' := [.inr (.inr (some a0))]) (by decide +kernel) rfl rfl ?_
  obtain ⟨o_1, h2, h⟩ := bd h
  refine xg_r E 8 0 h2 mw22 (show decode prog_10_method_14_code 1 = .ok (.getfield 28, 3) by decide +kernel) ?_
  refine xv_b E [.iload_n 1] (pc' := 5) (lv' := [(0, .inr (.inr (some a0))), (1, .inl v1)]) (st' := [.inl v1, .inr (.inr o_1)]) (by decide +kernel) rfl rfl ?_
  obtain ⟨b_5, h6, h⟩ := bd h
  obtain ⟨eh6, th6⟩ := g_o_some h6
  obtain ⟨q_3, h4, h⟩ := bd h
  refine xv_cvo E eh6 9 (as := [.inl v1]) (t37 G l (c_V_some h4)) cd37 mw243 mw244 mw245 (show decode prog_10_method_14_code 5 = .ok (.invokevirtual 89, 3) by decide +kernel) th6 rfl rfl (Nat.le_of_ble_eq_true rfl) ⟨Nat.le_of_ble_eq_true rfl, Nat.le_of_ble_eq_true rfl⟩ ?_
  refine xv_b E [.aload_n 0] (pc' := 9) (lv' := [(0, .inr (.inr (some a0))), (1, .inl v1)]) (st' := [.inr (.inr (some a0))]) (by decide +kernel) rfl rfl ?_
  obtain ⟨o_7, h8, h⟩ := bd h
  refine xg_r E 8 0 h8 mw22 (show decode prog_10_method_14_code 9 = .ok (.getfield 28, 3) by decide +kernel) ?_
  refine xv_b E [.aload_n 0] (pc' := 13) (lv' := [(0, .inr (.inr (some a0))), (1, .inl v1)]) (st' := [.inr (.inr (some a0)), .inr (.inr o_7)]) (by decide +kernel) rfl rfl ?_
  obtain ⟨b_11, h12, h⟩ := bd h
  obtain ⟨eh12, th12⟩ := g_o_some h12
  obtain ⟨q_9, h10, h⟩ := bd h
  refine xv_cvo E eh12 8 (as := []) (t54 G l (c_R_some h10)) cd54 mw711 mw520 mw521 (show decode prog_10_method_14_code 13 = .ok (.invokevirtual 107, 3) by decide +kernel) th12 rfl rfl (Nat.le_of_ble_eq_true rfl) ⟨Nat.le_of_ble_eq_true rfl, Nat.le_of_ble_eq_true rfl⟩ ?_
  obtain ⟨b_15, h16, h⟩ := bd h
  obtain ⟨eh16, th16⟩ := g_o_some h16
  obtain ⟨q_13, h14, h⟩ := bd h
  refine xv_cvo E eh16 9 (as := [.inr (.inr q_9.1)]) (t17 G l (c_V_some h14)) cd17 mw160 mw161 mw162 (show decode prog_10_method_14_code 16 = .ok (.invokevirtual 63, 3) by decide +kernel) th16 rfl rfl (Nat.le_of_ble_eq_true rfl) ⟨Nat.le_of_ble_eq_true rfl, Nat.le_of_ble_eq_true rfl⟩ ?_
  obtain rfl := Option.some.inj h
  obtain ⟨rfl, rfl⟩ := Prod.mk.inj (show ((none : Option aV), q_13) = (r, M') from hN)
  exact xv_rv E B.1 B.2.1 (show decode prog_10_method_14_code 19 = .ok (.return_, 1) by decide +kernel) rfl rfl
end
theorem t134 (G : gX) (l : Launch) {as : List aV} {M : hM} {r : Option aV} {M' : hM} (h : f134 as M = some (r, M')) : xM G l ym134 prog_10_method_14_code 2 none 2 as M r M' := by
  unfold f134 at h
  split at h
  · have h := x_out_ok h
    refine xM_of (by decide) (Nat.le_of_ble_eq_true rfl) (lb134_0 G l _ _ M h) ?_
    intro p e s m args below meth c E B
    exact sb134_0 E B _ _ M h rfl
  · cases h
/-! ZF.Port.stay()V -/
def ym135 : MethodName := ⟨"ZonedFabric$Port", "stay", "()V"⟩
theorem cd135 : xCd ym135 prog_10_method_15_code 1 none 0 := ⟨mw712, mw14, by decide, by decide, by decide +kernel⟩
def b135_24  (M : hM) : Option xRes :=
  some (.inl (none, M))
def b135_0 (a0 : Nat) (M : hM) : Option xRes :=
  Option.bind (g_i M 8 13 (some a0)) fun v_1 =>
  Option.bind (p_i M 8 13 (some a0) (v_1 + (1 : Int32))) fun M3 =>
  Option.bind (g_i M3 8 13 (some a0)) fun v_5 =>
  if v_5 < (25 : Int32) then
    (b135_24  M3)
  else
    (Option.bind (g_o M3 8 (some a0)) fun b_9 =>
    Option.bind (c_V (f134 [.inr (.inr (some b_9)), .inl (4 : Int32)] M3)) fun q_7 =>
    b135_24  q_7)
def f135 (as : List aV) (M : hM) : xO := match as with
  | [.inr (.inr (some a0))] => x_out (b135_0 a0 M)
  | _ => none
theorem lb135_24 (G : gX) (l : Launch)  (M : hM) {res : xRes} (h : b135_24  M = some res) : h_sz M ≤ r_sz res ∧ h_sl M ≤ r_sl res := by
  unfold b135_24 at h
  obtain rfl := Option.some.inj h
  show h_sz M ≤ h_sz M ∧ h_sl M ≤ h_sl M
  omega
theorem lb135_0 (G : gX) (l : Launch) (a0 : Nat) (M : hM) {res : xRes} (h : b135_0 a0 M = some res) : h_sz M ≤ r_sz res ∧ h_sl M ≤ r_sl res := by
  unfold b135_0 at h
  obtain ⟨v_1, h2, h⟩ := bd h
  obtain ⟨M3, h4, h⟩ := bd h
  have eh4 := p_i_sz h4
  obtain ⟨v_5, h6, h⟩ := bd h
  by_cases q11 : v_5 < (25 : Int32)
  · rw [if_pos q11] at h
    have e := lb135_24 G l  M3 h
    omega
  · rw [if_neg q11] at h
    obtain ⟨b_9, h10, h⟩ := bd h
    obtain ⟨q_7, h8, h⟩ := bd h
    have eh8 := (t134 G l (c_V_some h8)).1
    have e := lb135_24 G l  q_7 h
    omega
section
variable {p : Program} {l : Launch} {e : Env} {s : State} {m : MethodId} {args : Array Value} {below : List Frame} {meth : Method} {c : Code} {G : gX} {z0 y0 : Nat} {r : Option aV} {M' : hM}
theorem sb135_24 (E : xE G p (xRm 3 (h_sz M' - z0) (h_sl M' - y0)) s m args c prog_10_method_15_code "ZonedFabric$Port" z0 y0 (h_sz M') (h_sl M') 1) (B : xB ym135 none meth)  (M : hM) {res : xRes} (h : b135_24  M = some res) (hN : xN (fun _ _ _ => False) r M' res) : xV G p l e (xRm 3 (h_sz M' - z0) (h_sl M' - y0)) s m args below meth c z0 y0 (h_sz M') (h_sl M') 1 (MQ below (xQc G r M') args s (h_sz M' - z0) (h_sl M' - y0) (xFr G)) 24 [] [] M := by
  unfold b135_24 at h
  obtain rfl := Option.some.inj h
  obtain ⟨rfl, rfl⟩ := Prod.mk.inj (show ((none : Option aV), M) = (r, M') from hN)
  exact xv_rv E B.1 B.2.1 (show decode prog_10_method_15_code 24 = .ok (.return_, 1) by decide +kernel) rfl rfl
theorem sb135_0 (E : xE G p (xRm 3 (h_sz M' - z0) (h_sl M' - y0)) s m args c prog_10_method_15_code "ZonedFabric$Port" z0 y0 (h_sz M') (h_sl M') 1) (B : xB ym135 none meth) (a0 : Nat) (M : hM) {res : xRes} (h : b135_0 a0 M = some res) (hN : xN (fun _ _ _ => False) r M' res) : xV G p l e (xRm 3 (h_sz M' - z0) (h_sl M' - y0)) s m args below meth c z0 y0 (h_sz M') (h_sl M') 1 (MQ below (xQc G r M') args s (h_sz M' - z0) (h_sl M' - y0) (xFr G)) 0 [(0, .inr (.inr (some a0)))] [] M := by
  unfold b135_0 at h
  refine xv_b E [.aload_n 0, .dup] (pc' := 2) (lv' := [(0, .inr (.inr (some a0)))]) (st' := [.inr (.inr (some a0)), .inr (.inr (some a0))]) (by decide +kernel) rfl rfl ?_
  obtain ⟨v_1, h2, h⟩ := bd h
  refine xg_i E 8 13 h2 mw158 (show decode prog_10_method_15_code 2 = .ok (.getfield 56, 3) by decide +kernel) ?_
  refine xv_b E [.iconst 1, .iadd] (pc' := 7) (lv' := [(0, .inr (.inr (some a0)))]) (st' := [.inl (v_1 + (1 : Int32)), .inr (.inr (some a0))]) (by decide +kernel) rfl rfl ?_
  obtain ⟨M3, h4, h⟩ := bd h
  refine xp_i E 8 13 h4 mw158 (show decode prog_10_method_15_code 7 = .ok (.putfield 56, 3) by decide +kernel) (Or.inl rfl) ?_
  refine xv_b E [.aload_n 0] (pc' := 11) (lv' := [(0, .inr (.inr (some a0)))]) (st' := [.inr (.inr (some a0))]) (by decide +kernel) rfl rfl ?_
  obtain ⟨v_5, h6, h⟩ := bd h
  refine xg_i E 8 13 h6 mw158 (show decode prog_10_method_15_code 11 = .ok (.getfield 56, 3) by decide +kernel) ?_
  refine xv_b E [.bipush 25] (pc' := 16) (lv' := [(0, .inr (.inr (some a0)))]) (st' := [.inl (25 : Int32), .inl v_5]) (by decide +kernel) rfl rfl ?_
  by_cases q11 : v_5 < (25 : Int32)
  · rw [if_pos q11] at h
    refine xv_icmp_lt E 24 (show decode prog_10_method_15_code 16 = .ok (.if_icmp .lt (8), 3) by decide +kernel) rfl (fun _ => ?_) (fun z => absurd q11 z)
    exact xv_w (sb135_24 E B  M3 h hN) rfl
  · rw [if_neg q11] at h
    refine xv_icmp_lt E 24 (show decode prog_10_method_15_code 16 = .ok (.if_icmp .lt (8), 3) by decide +kernel) rfl (fun z => absurd z q11) (fun _ => ?_)
    refine xv_b E [.aload_n 0, .iconst 4] (pc' := 21) (lv' := [(0, .inr (.inr (some a0)))]) (st' := [.inl (4 : Int32), .inr (.inr (some a0))]) (by decide +kernel) rfl rfl ?_
    obtain ⟨b_9, h10, h⟩ := bd h
    obtain ⟨eh10, th10⟩ := g_o_some h10
    obtain ⟨q_7, h8, h⟩ := bd h
    refine xv_cvo E eh10 8 (as := [.inl (4 : Int32)]) (t134 G l (c_V_some h8)) cd134 mw713 mw714 mw715 (show decode prog_10_method_15_code 21 = .ok (.invokevirtual 110, 3) by decide +kernel) th10 rfl rfl (Nat.le_of_ble_eq_true rfl) ⟨Nat.le_of_ble_eq_true rfl, Nat.le_of_ble_eq_true rfl⟩ ?_
    exact xv_w (sb135_24 E B  q_7 h hN) rfl
end
theorem t135 (G : gX) (l : Launch) {as : List aV} {M : hM} {r : Option aV} {M' : hM} (h : f135 as M = some (r, M')) : xM G l ym135 prog_10_method_15_code 1 none 3 as M r M' := by
  unfold f135 at h
  split at h
  · have h := x_out_ok h
    refine xM_of (by decide) (Nat.le_of_ble_eq_true rfl) (lb135_0 G l _ M h) ?_
    intro p e s m args below meth c E B
    exact sb135_0 E B _ M h rfl
  · cases h
/-! ZF.Switch.passOn(LZF$Port;LZF$Frame;)V -/
def ym136 : MethodName := ⟨"ZonedFabric$Switch", "passOn", "(LZonedFabric$Port;LZonedFabric$Frame;)V"⟩
theorem cd136 : xCd ym136 prog_12_method_15_code 5 none 2 := ⟨mw716, mw51, by decide, by decide, by decide +kernel⟩
def b136_24 (o1 : Option Nat) (v3 : Int32) (M : hM) : Option xRes :=
  Option.bind (g_o M 8 o1) fun b_45 =>
  Option.bind (c_V (f134 [.inr (.inr (some b_45)), .inl (-v3)] M)) fun q_43 =>
  some (.inl (none, q_43))
def b136_83  (M : hM) : Option xRes :=
  some (.inl (none, M))
def b136_79 (o1 : Option Nat) (M : hM) : Option xRes :=
  Option.bind (g_o M 8 o1) fun b_49 =>
  Option.bind (c_V (f135 [.inr (.inr (some b_49))] M)) fun q_47 =>
  b136_83  q_47
def b136_0 (a0 : Nat) (o1 : Option Nat) (o2 : Option Nat) (M : hM) : Option xRes :=
  Option.bind (g_o M 2 o2) fun b_3 =>
  Option.bind (c_I (f65 [.inr (.inr (some b_3))] M)) fun q_1 =>
  Option.bind (g_o q_1.2 2 o2) fun b_7 =>
  Option.bind (c_I (f64 [.inr (.inr (some b_7))] q_1.2)) fun q_5 =>
  Option.bind (g_o q_5.2 10 (some a0)) fun b_11 =>
  Option.bind (c_I (f133 [.inr (.inr (some b_11)), .inr (.inr o1), .inl q_1.1, .inl q_5.1] q_5.2)) fun q_9 =>
  if q_9.1 < 0 then
    (b136_24 o1 q_9.1 q_9.2)
  else
    (if q_9.1 < (8 : Int32) then
      (Option.bind (g_r q_9.2 10 2 (some a0)) fun o_13 =>
      Option.bind (al_r q_9.2 38 o_13 q_9.1) fun o_15 =>
      Option.bind (g_r q_9.2 8 9 o_15) fun o_17 =>
      Option.bind (g_i q_9.2 3 2 o_17) fun v_19 =>
      if v_19 = 0 then
        (Option.bind (g_o q_9.2 8 o_15) fun b_23 =>
        Option.bind (c_I (f41 [.inr (.inr (some b_23))] q_9.2)) fun q_21 =>
        if q_21.1 = 0 then
          (b136_79 o1 q_21.2)
        else
          (Option.bind (g_o q_21.2 8 o1) fun b_27 =>
          Option.bind (c_R (f54 [.inr (.inr (some b_27))] q_21.2)) fun q_25 =>
          Option.bind (g_o q_25.2 8 o_15) fun b_31 =>
          Option.bind (c_V (f44 [.inr (.inr (some b_31)), .inr (.inr q_25.1)] q_25.2)) fun q_29 =>
          Option.bind (g_r q_29 10 0 (some a0)) fun o_33 =>
          Option.bind (g_o q_29 9 o_33) fun b_37 =>
          Option.bind (c_V (f37 [.inr (.inr (some b_37)), .inl (7 : Int32)] q_29)) fun q_35 =>
          b136_83  q_35))
      else
        (b136_79 o1 q_9.2))
    else
      (b136_24 o1 q_9.1 q_9.2))
def f136 (as : List aV) (M : hM) : xO := match as with
  | [.inr (.inr (some a0)), .inr (.inr o1), .inr (.inr o2)] => x_out (b136_0 a0 o1 o2 M)
  | _ => none
theorem lb136_24 (G : gX) (l : Launch) (o1 : Option Nat) (v3 : Int32) (M : hM) {res : xRes} (h : b136_24 o1 v3 M = some res) : h_sz M ≤ r_sz res ∧ h_sl M ≤ r_sl res := by
  unfold b136_24 at h
  obtain ⟨b_45, h46, h⟩ := bd h
  obtain ⟨q_43, h44, h⟩ := bd h
  have eh44 := (t134 G l (c_V_some h44)).1
  obtain rfl := Option.some.inj h
  show h_sz M ≤ h_sz q_43 ∧ h_sl M ≤ h_sl q_43
  omega
theorem lb136_83 (G : gX) (l : Launch)  (M : hM) {res : xRes} (h : b136_83  M = some res) : h_sz M ≤ r_sz res ∧ h_sl M ≤ r_sl res := by
  unfold b136_83 at h
  obtain rfl := Option.some.inj h
  show h_sz M ≤ h_sz M ∧ h_sl M ≤ h_sl M
  omega
theorem lb136_79 (G : gX) (l : Launch) (o1 : Option Nat) (M : hM) {res : xRes} (h : b136_79 o1 M = some res) : h_sz M ≤ r_sz res ∧ h_sl M ≤ r_sl res := by
  unfold b136_79 at h
  obtain ⟨b_49, h50, h⟩ := bd h
  obtain ⟨q_47, h48, h⟩ := bd h
  have eh48 := (t135 G l (c_V_some h48)).1
  have e := lb136_83 G l  q_47 h
  omega
theorem lb136_0 (G : gX) (l : Launch) (a0 : Nat) (o1 : Option Nat) (o2 : Option Nat) (M : hM) {res : xRes} (h : b136_0 a0 o1 o2 M = some res) : h_sz M ≤ r_sz res ∧ h_sl M ≤ r_sl res := by
  unfold b136_0 at h
  obtain ⟨b_3, h4, h⟩ := bd h
  obtain ⟨q_1, h2, h⟩ := bd h
  have eh2 := (t65 G l (c_I_some h2)).1
  obtain ⟨b_7, h8, h⟩ := bd h
  obtain ⟨q_5, h6, h⟩ := bd h
  have eh6 := (t64 G l (c_I_some h6)).1
  obtain ⟨b_11, h12, h⟩ := bd h
  obtain ⟨q_9, h10, h⟩ := bd h
  have eh10 := (t133 G l (c_I_some h10)).1
  by_cases q42 : q_9.1 < 0
  · rw [if_pos q42] at h
    have e := lb136_24 G l o1 q_9.1 q_9.2 h
    omega
  · rw [if_neg q42] at h
    by_cases q41 : q_9.1 < (8 : Int32)
    · rw [if_pos q41] at h
      obtain ⟨o_13, h14, h⟩ := bd h
      obtain ⟨o_15, h16, h⟩ := bd h
      obtain ⟨o_17, h18, h⟩ := bd h
      obtain ⟨v_19, h20, h⟩ := bd h
      by_cases q40 : v_19 = 0
      · rw [if_pos q40] at h
        obtain ⟨b_23, h24, h⟩ := bd h
        obtain ⟨q_21, h22, h⟩ := bd h
        have eh22 := (t41 G l (c_I_some h22)).1
        by_cases q39 : q_21.1 = 0
        · rw [if_pos q39] at h
          have e := lb136_79 G l o1 q_21.2 h
          omega
        · rw [if_neg q39] at h
          obtain ⟨b_27, h28, h⟩ := bd h
          obtain ⟨q_25, h26, h⟩ := bd h
          have eh26 := (t54 G l (c_R_some h26)).1
          obtain ⟨b_31, h32, h⟩ := bd h
          obtain ⟨q_29, h30, h⟩ := bd h
          have eh30 := (t44 G l (c_V_some h30)).1
          obtain ⟨o_33, h34, h⟩ := bd h
          obtain ⟨b_37, h38, h⟩ := bd h
          obtain ⟨q_35, h36, h⟩ := bd h
          have eh36 := (t37 G l (c_V_some h36)).1
          have e := lb136_83 G l  q_35 h
          omega
      · rw [if_neg q40] at h
        have e := lb136_79 G l o1 q_9.2 h
        omega
    · rw [if_neg q41] at h
      have e := lb136_24 G l o1 q_9.1 q_9.2 h
      omega
section
variable {p : Program} {l : Launch} {e : Env} {s : State} {m : MethodId} {args : Array Value} {below : List Frame} {meth : Method} {c : Code} {G : gX} {z0 y0 : Nat} {r : Option aV} {M' : hM}
theorem sb136_24 (E : xE G p (xRm 4 (h_sz M' - z0) (h_sl M' - y0)) s m args c prog_12_method_15_code "ZonedFabric$Switch" z0 y0 (h_sz M') (h_sl M') 5) (B : xB ym136 none meth) (o1 : Option Nat) (v3 : Int32) (M : hM) {res : xRes} (h : b136_24 o1 v3 M = some res) (hN : xN (fun _ _ _ => False) r M' res) : xV G p l e (xRm 4 (h_sz M' - z0) (h_sl M' - y0)) s m args below meth c z0 y0 (h_sz M') (h_sl M') 5 (MQ below (xQc G r M') args s (h_sz M' - z0) (h_sl M' - y0) (xFr G)) 24 [(1, .inr (.inr o1)), (3, .inl v3)] [] M := by
  unfold b136_24 at h
  refine xv_b E [.aload_n 1, .iload_n 3, .ineg] (pc' := 27) (lv' := [(1, .inr (.inr o1)), (3, .inl v3)]) (st' := [.inl (-v3), .inr (.inr o1)]) (by decide +kernel) rfl rfl ?_
  obtain ⟨b_45, h46, h⟩ := bd h
  obtain ⟨eh46, th46⟩ := g_o_some h46
  obtain ⟨q_43, h44, h⟩ := bd h
  refine xv_cvo E eh46 8 (as := [.inl (-v3)]) (t134 G l (c_V_some h44)) cd134 mw726 mw714 mw715 (show decode prog_12_method_15_code 27 = .ok (.invokevirtual 184, 3) by decide +kernel) th46 rfl rfl (Nat.le_of_ble_eq_true rfl) ⟨Nat.le_of_ble_eq_true rfl, Nat.le_of_ble_eq_true rfl⟩ ?_
  obtain rfl := Option.some.inj h
  obtain ⟨rfl, rfl⟩ := Prod.mk.inj (show ((none : Option aV), q_43) = (r, M') from hN)
  exact xv_rv E B.1 B.2.1 (show decode prog_12_method_15_code 30 = .ok (.return_, 1) by decide +kernel) rfl rfl
theorem sb136_83 (E : xE G p (xRm 4 (h_sz M' - z0) (h_sl M' - y0)) s m args c prog_12_method_15_code "ZonedFabric$Switch" z0 y0 (h_sz M') (h_sl M') 5) (B : xB ym136 none meth)  (M : hM) {res : xRes} (h : b136_83  M = some res) (hN : xN (fun _ _ _ => False) r M' res) : xV G p l e (xRm 4 (h_sz M' - z0) (h_sl M' - y0)) s m args below meth c z0 y0 (h_sz M') (h_sl M') 5 (MQ below (xQc G r M') args s (h_sz M' - z0) (h_sl M' - y0) (xFr G)) 83 [] [] M := by
  unfold b136_83 at h
  obtain rfl := Option.some.inj h
  obtain ⟨rfl, rfl⟩ := Prod.mk.inj (show ((none : Option aV), M) = (r, M') from hN)
  exact xv_rv E B.1 B.2.1 (show decode prog_12_method_15_code 83 = .ok (.return_, 1) by decide +kernel) rfl rfl
theorem sb136_79 (E : xE G p (xRm 4 (h_sz M' - z0) (h_sl M' - y0)) s m args c prog_12_method_15_code "ZonedFabric$Switch" z0 y0 (h_sz M') (h_sl M') 5) (B : xB ym136 none meth) (o1 : Option Nat) (M : hM) {res : xRes} (h : b136_79 o1 M = some res) (hN : xN (fun _ _ _ => False) r M' res) : xV G p l e (xRm 4 (h_sz M' - z0) (h_sl M' - y0)) s m args below meth c z0 y0 (h_sz M') (h_sl M') 5 (MQ below (xQc G r M') args s (h_sz M' - z0) (h_sl M' - y0) (xFr G)) 79 [(1, .inr (.inr o1))] [] M := by
  unfold b136_79 at h
  refine xv_b E [.aload_n 1] (pc' := 80) (lv' := [(1, .inr (.inr o1))]) (st' := [.inr (.inr o1)]) (by decide +kernel) rfl rfl ?_
  obtain ⟨b_49, h50, h⟩ := bd h
  obtain ⟨eh50, th50⟩ := g_o_some h50
  obtain ⟨q_47, h48, h⟩ := bd h
  refine xv_cvo E eh50 8 (as := []) (t135 G l (c_V_some h48)) cd135 mw727 mw728 mw729 (show decode prog_12_method_15_code 80 = .ok (.invokevirtual 257, 3) by decide +kernel) th50 rfl rfl (Nat.le_of_ble_eq_true rfl) ⟨Nat.le_of_ble_eq_true rfl, Nat.le_of_ble_eq_true rfl⟩ ?_
  exact xv_w (sb136_83 E B  q_47 h hN) rfl
theorem sb136_0 (E : xE G p (xRm 4 (h_sz M' - z0) (h_sl M' - y0)) s m args c prog_12_method_15_code "ZonedFabric$Switch" z0 y0 (h_sz M') (h_sl M') 5) (B : xB ym136 none meth) (a0 : Nat) (o1 : Option Nat) (o2 : Option Nat) (M : hM) {res : xRes} (h : b136_0 a0 o1 o2 M = some res) (hN : xN (fun _ _ _ => False) r M' res) : xV G p l e (xRm 4 (h_sz M' - z0) (h_sl M' - y0)) s m args below meth c z0 y0 (h_sz M') (h_sl M') 5 (MQ below (xQc G r M') args s (h_sz M' - z0) (h_sl M' - y0) (xFr G)) 0 [(0, .inr (.inr (some a0))), (1, .inr (.inr o1)), (2, .inr (.inr o2))] [] M := by
  unfold b136_0 at h
  refine xv_b E [.aload_n 0, .aload_n 1, .aload_n 2] (pc' := 3) (lv' := [(0, .inr (.inr (some a0))), (1, .inr (.inr o1)), (2, .inr (.inr o2))]) (st' := [.inr (.inr o2), .inr (.inr o1), .inr (.inr (some a0))]) (by decide +kernel) rfl rfl ?_
  obtain ⟨b_3, h4, h⟩ := bd h
  obtain ⟨eh4, th4⟩ := g_o_some h4
  obtain ⟨q_1, h2, h⟩ := bd h
  refine xv_cvo E eh4 2 (as := []) (t65 G l (c_I_some h2)) cd65 mw689 mw370 mw371 (show decode prog_12_method_15_code 3 = .ok (.invokevirtual 221, 3) by decide +kernel) th4 rfl rfl (Nat.le_of_ble_eq_true rfl) ⟨Nat.le_of_ble_eq_true rfl, Nat.le_of_ble_eq_true rfl⟩ ?_
  refine xv_b E [.aload_n 2] (pc' := 7) (lv' := [(0, .inr (.inr (some a0))), (1, .inr (.inr o1)), (2, .inr (.inr o2))]) (st' := [.inr (.inr o2), .inl q_1.1, .inr (.inr o1), .inr (.inr (some a0))]) (by decide +kernel) rfl rfl ?_
  obtain ⟨b_7, h8, h⟩ := bd h
  obtain ⟨eh8, th8⟩ := g_o_some h8
  obtain ⟨q_5, h6, h⟩ := bd h
  refine xv_cvo E eh8 2 (as := []) (t64 G l (c_I_some h6)) cd64 mw717 mw528 mw529 (show decode prog_12_method_15_code 7 = .ok (.invokevirtual 187, 3) by decide +kernel) th8 rfl rfl (Nat.le_of_ble_eq_true rfl) ⟨Nat.le_of_ble_eq_true rfl, Nat.le_of_ble_eq_true rfl⟩ ?_
  obtain ⟨b_11, h12, h⟩ := bd h
  obtain ⟨eh12, th12⟩ := g_o_some h12
  obtain ⟨q_9, h10, h⟩ := bd h
  refine xv_cvo E eh12 10 (as := [.inr (.inr o1), .inl q_1.1, .inl q_5.1]) (t133 G l (c_I_some h10)) cd133 mw718 mw719 mw720 (show decode prog_12_method_15_code 10 = .ok (.invokevirtual 241, 3) by decide +kernel) th12 rfl rfl (Nat.le_of_ble_eq_true rfl) ⟨Nat.le_of_ble_eq_true rfl, Nat.le_of_ble_eq_true rfl⟩ ?_
  refine xv_b E [.istore_n 3, .iload_n 3] (pc' := 15) (lv' := [(3, .inl q_9.1), (0, .inr (.inr (some a0))), (1, .inr (.inr o1)), (2, .inr (.inr o2))]) (st' := [.inl q_9.1]) (by decide +kernel) rfl rfl ?_
  by_cases q42 : q_9.1 < 0
  · rw [if_pos q42] at h
    refine xv_if_lt E 24 (show decode prog_12_method_15_code 15 = .ok (.ifCond .lt (9), 3) by decide +kernel) rfl (fun _ => ?_) (fun z => absurd q42 z)
    exact xv_w (sb136_24 E B o1 q_9.1 q_9.2 h hN) rfl
  · rw [if_neg q42] at h
    refine xv_if_lt E 24 (show decode prog_12_method_15_code 15 = .ok (.ifCond .lt (9), 3) by decide +kernel) rfl (fun z => absurd z q42) (fun _ => ?_)
    refine xv_b E [.iload_n 3, .bipush 8] (pc' := 21) (lv' := [(3, .inl q_9.1), (0, .inr (.inr (some a0))), (1, .inr (.inr o1)), (2, .inr (.inr o2))]) (st' := [.inl (8 : Int32), .inl q_9.1]) (by decide +kernel) rfl rfl ?_
    by_cases q41 : q_9.1 < (8 : Int32)
    · rw [if_pos q41] at h
      refine xv_icmp_lt E 31 (show decode prog_12_method_15_code 21 = .ok (.if_icmp .lt (10), 3) by decide +kernel) rfl (fun _ => ?_) (fun z => absurd q41 z)
      refine xv_b E [.aload_n 0] (pc' := 32) (lv' := [(3, .inl q_9.1), (0, .inr (.inr (some a0))), (1, .inr (.inr o1)), (2, .inr (.inr o2))]) (st' := [.inr (.inr (some a0))]) (by decide +kernel) rfl rfl ?_
      obtain ⟨o_13, h14, h⟩ := bd h
      refine xg_r E 10 2 h14 mw53 (show decode prog_12_method_15_code 32 = .ok (.getfield 11, 3) by decide +kernel) ?_
      refine xv_b E [.iload_n 3] (pc' := 36) (lv' := [(3, .inl q_9.1), (0, .inr (.inr (some a0))), (1, .inr (.inr o1)), (2, .inr (.inr o2))]) (st' := [.inl q_9.1, .inr (.inr o_13)]) (by decide +kernel) rfl rfl ?_
      obtain ⟨o_15, h16, h⟩ := bd h
      refine xa_r E 38 h16 (show decode prog_12_method_15_code 36 = .ok (.aaload, 1) by decide +kernel) ?_
      refine xv_b E [.astore 4, .aload 4] (pc' := 41) (lv' := [(4, .inr (.inr o_15)), (3, .inl q_9.1), (0, .inr (.inr (some a0))), (1, .inr (.inr o1)), (2, .inr (.inr o2))]) (st' := [.inr (.inr o_15)]) (by decide +kernel) rfl rfl ?_
      obtain ⟨o_17, h18, h⟩ := bd h
      refine xg_r E 8 9 h18 mw721 (show decode prog_12_method_15_code 41 = .ok (.getfield 245, 3) by decide +kernel) ?_
      obtain ⟨v_19, h20, h⟩ := bd h
      refine xg_i E 3 2 h20 mw722 (show decode prog_12_method_15_code 44 = .ok (.getfield 248, 3) by decide +kernel) ?_
      by_cases q40 : v_19 = 0
      · rw [if_pos q40] at h
        refine xv_if_ne E 79 (show decode prog_12_method_15_code 47 = .ok (.ifCond .ne (32), 3) by decide +kernel) rfl (fun z => absurd q40 z) (fun _ => ?_)
        refine xv_b E [.aload 4] (pc' := 52) (lv' := [(4, .inr (.inr o_15)), (3, .inl q_9.1), (0, .inr (.inr (some a0))), (1, .inr (.inr o1)), (2, .inr (.inr o2))]) (st' := [.inr (.inr o_15)]) (by decide +kernel) rfl rfl ?_
        obtain ⟨b_23, h24, h⟩ := bd h
        obtain ⟨eh24, th24⟩ := g_o_some h24
        obtain ⟨q_21, h22, h⟩ := bd h
        refine xv_cvo E eh24 8 (as := []) (t41 G l (c_I_some h22)) cd41 mw723 mw270 mw271 (show decode prog_12_method_15_code 52 = .ok (.invokevirtual 251, 3) by decide +kernel) th24 rfl rfl (Nat.le_of_ble_eq_true rfl) ⟨Nat.le_of_ble_eq_true rfl, Nat.le_of_ble_eq_true rfl⟩ ?_
        by_cases q39 : q_21.1 = 0
        · rw [if_pos q39] at h
          refine xv_if_eq E 79 (show decode prog_12_method_15_code 55 = .ok (.ifCond .eq (24), 3) by decide +kernel) rfl (fun _ => ?_) (fun z => absurd q39 z)
          exact xv_w (sb136_79 E B o1 q_21.2 h hN) rfl
        · rw [if_neg q39] at h
          refine xv_if_eq E 79 (show decode prog_12_method_15_code 55 = .ok (.ifCond .eq (24), 3) by decide +kernel) rfl (fun z => absurd z q39) (fun _ => ?_)
          refine xv_b E [.aload 4, .aload_n 1] (pc' := 61) (lv' := [(4, .inr (.inr o_15)), (3, .inl q_9.1), (0, .inr (.inr (some a0))), (1, .inr (.inr o1)), (2, .inr (.inr o2))]) (st' := [.inr (.inr o1), .inr (.inr o_15)]) (by decide +kernel) rfl rfl ?_
          obtain ⟨b_27, h28, h⟩ := bd h
          obtain ⟨eh28, th28⟩ := g_o_some h28
          obtain ⟨q_25, h26, h⟩ := bd h
          refine xv_cvo E eh28 8 (as := []) (t54 G l (c_R_some h26)) cd54 mw724 mw520 mw521 (show decode prog_12_method_15_code 61 = .ok (.invokevirtual 213, 3) by decide +kernel) th28 rfl rfl (Nat.le_of_ble_eq_true rfl) ⟨Nat.le_of_ble_eq_true rfl, Nat.le_of_ble_eq_true rfl⟩ ?_
          obtain ⟨b_31, h32, h⟩ := bd h
          obtain ⟨eh32, th32⟩ := g_o_some h32
          obtain ⟨q_29, h30, h⟩ := bd h
          refine xv_cvo E eh32 8 (as := [.inr (.inr q_25.1)]) (t44 G l (c_V_some h30)) cd44 mw725 mw276 mw277 (show decode prog_12_method_15_code 64 = .ok (.invokevirtual 254, 3) by decide +kernel) th32 rfl rfl (Nat.le_of_ble_eq_true rfl) ⟨Nat.le_of_ble_eq_true rfl, Nat.le_of_ble_eq_true rfl⟩ ?_
          refine xv_b E [.aload_n 0] (pc' := 68) (lv' := [(4, .inr (.inr o_15)), (3, .inl q_9.1), (0, .inr (.inr (some a0))), (1, .inr (.inr o1)), (2, .inr (.inr o2))]) (st' := [.inr (.inr (some a0))]) (by decide +kernel) rfl rfl ?_
          obtain ⟨o_33, h34, h⟩ := bd h
          refine xg_r E 10 0 h34 mw60 (show decode prog_12_method_15_code 68 = .ok (.getfield 34, 3) by decide +kernel) ?_
          refine xv_b E [.bipush 7] (pc' := 73) (lv' := [(4, .inr (.inr o_15)), (3, .inl q_9.1), (0, .inr (.inr (some a0))), (1, .inr (.inr o1)), (2, .inr (.inr o2))]) (st' := [.inl (7 : Int32), .inr (.inr o_33)]) (by decide +kernel) rfl rfl ?_
          obtain ⟨b_37, h38, h⟩ := bd h
          obtain ⟨eh38, th38⟩ := g_o_some h38
          obtain ⟨q_35, h36, h⟩ := bd h
          refine xv_cvo E eh38 9 (as := [.inl (7 : Int32)]) (t37 G l (c_V_some h36)) cd37 mw676 mw244 mw245 (show decode prog_12_method_15_code 73 = .ok (.invokevirtual 146, 3) by decide +kernel) th38 rfl rfl (Nat.le_of_ble_eq_true rfl) ⟨Nat.le_of_ble_eq_true rfl, Nat.le_of_ble_eq_true rfl⟩ ?_
          refine xv_goto E 83 (show decode prog_12_method_15_code 76 = .ok (.goto (7), 3) by decide +kernel) rfl ?_
          exact xv_w (sb136_83 E B  q_35 h hN) rfl
      · rw [if_neg q40] at h
        refine xv_if_ne E 79 (show decode prog_12_method_15_code 47 = .ok (.ifCond .ne (32), 3) by decide +kernel) rfl (fun _ => ?_) (fun z => absurd z q40)
        exact xv_w (sb136_79 E B o1 q_9.2 h hN) rfl
    · rw [if_neg q41] at h
      refine xv_icmp_lt E 31 (show decode prog_12_method_15_code 21 = .ok (.if_icmp .lt (10), 3) by decide +kernel) rfl (fun z => absurd z q41) (fun _ => ?_)
      exact xv_w (sb136_24 E B o1 q_9.1 q_9.2 h hN) rfl
end
theorem t136 (G : gX) (l : Launch) {as : List aV} {M : hM} {r : Option aV} {M' : hM} (h : f136 as M = some (r, M')) : xM G l ym136 prog_12_method_15_code 5 none 4 as M r M' := by
  unfold f136 at h
  split at h
  · have h := x_out_ok h
    refine xM_of (by decide) (Nat.le_of_ble_eq_true rfl) (lb136_0 G l _ _ _ M h) ?_
    intro p e s m args below meth c E B
    exact sb136_0 E B _ _ _ M h rfl
  · cases h
/-! ZF.Switch.serve(LZF$Port;)V -/
def ym137 : MethodName := ⟨"ZonedFabric$Switch", "serve", "(LZonedFabric$Port;)V"⟩
theorem cd137 : xCd ym137 prog_12_method_10_code 5 none 1 := ⟨mw730, mw51, by decide, by decide, by decide +kernel⟩
def b137_174 (a0 : Nat) (o1 : Option Nat) (M : hM) : Option xRes :=
  Option.bind (g_r M 10 0 (some a0)) fun o_76 =>
  Option.bind (g_o M 8 o1) fun b_80 =>
  Option.bind (c_R (f54 [.inr (.inr (some b_80))] M)) fun q_78 =>
  Option.bind (g_o q_78.2 9 o_76) fun b_84 =>
  Option.bind (c_V (f17 [.inr (.inr (some b_84)), .inr (.inr q_78.1)] q_78.2)) fun q_82 =>
  some (.inl (none, q_82))
def b137_149 (a0 : Nat) (o1 : Option Nat) (o2 : Option Nat) (v3 : Int32) (v4 : Int32) (M : hM) : Option xRes :=
  if v3 = (16777212 : Int32) then
    (if v4 = (5 : Int32) then
      (Option.bind (g_o M 8 o1) fun b_67 =>
      Option.bind (c_I (f115 [.inr (.inr (some b_67))] M)) fun q_65 =>
      if q_65.1 = 0 then
        (b137_174 a0 o1 q_65.2)
      else
        (Option.bind (g_o q_65.2 10 (some a0)) fun b_71 =>
        Option.bind (c_V (f128 [.inr (.inr (some b_71)), .inr (.inr o1), .inr (.inr o2)] q_65.2)) fun q_69 =>
        b137_174 a0 o1 q_69))
    else
      (b137_174 a0 o1 M))
  else
    (b137_174 a0 o1 M)
def b137_122 (a0 : Nat) (o1 : Option Nat) (o2 : Option Nat) (v3 : Int32) (v4 : Int32) (M : hM) : Option xRes :=
  if v3 = (16777214 : Int32) then
    (if v4 = (3 : Int32) then
      (Option.bind (g_o M 8 o1) fun b_56 =>
      Option.bind (c_I (f115 [.inr (.inr (some b_56))] M)) fun q_54 =>
      if q_54.1 = 0 then
        (b137_149 a0 o1 o2 v3 v4 q_54.2)
      else
        (Option.bind (g_o q_54.2 10 (some a0)) fun b_60 =>
        Option.bind (c_V (f129 [.inr (.inr (some b_60)), .inr (.inr o1)] q_54.2)) fun q_58 =>
        b137_174 a0 o1 q_58))
    else
      (b137_149 a0 o1 o2 v3 v4 M))
  else
    (b137_149 a0 o1 o2 v3 v4 M)
def b137_94 (a0 : Nat) (o1 : Option Nat) (o2 : Option Nat) (v3 : Int32) (v4 : Int32) (M : hM) : Option xRes :=
  if v3 = (16777213 : Int32) then
    (if v4 = (2 : Int32) then
      (Option.bind (g_o M 8 o1) fun b_45 =>
      Option.bind (c_I (f112 [.inr (.inr (some b_45))] M)) fun q_43 =>
      if q_43.1 = 0 then
        (b137_122 a0 o1 o2 v3 v4 q_43.2)
      else
        (Option.bind (g_o q_43.2 10 (some a0)) fun b_49 =>
        Option.bind (c_V (f130 [.inr (.inr (some b_49)), .inr (.inr o1), .inr (.inr o2)] q_43.2)) fun q_47 =>
        b137_174 a0 o1 q_47))
    else
      (b137_122 a0 o1 o2 v3 v4 M))
  else
    (b137_122 a0 o1 o2 v3 v4 M)
def b137_66 (a0 : Nat) (o1 : Option Nat) (o2 : Option Nat) (v3 : Int32) (v4 : Int32) (M : hM) : Option xRes :=
  if v3 = (16777213 : Int32) then
    (if v4 = (1 : Int32) then
      (Option.bind (g_o M 8 o1) fun b_34 =>
      Option.bind (c_I (f112 [.inr (.inr (some b_34))] M)) fun q_32 =>
      if q_32.1 = 0 then
        (b137_94 a0 o1 o2 v3 v4 q_32.2)
      else
        (Option.bind (g_o q_32.2 10 (some a0)) fun b_38 =>
        Option.bind (c_V (f131 [.inr (.inr (some b_38)), .inr (.inr o1), .inr (.inr o2)] q_32.2)) fun q_36 =>
        b137_174 a0 o1 q_36))
    else
      (b137_94 a0 o1 o2 v3 v4 M))
  else
    (b137_94 a0 o1 o2 v3 v4 M)
def b137_0 (a0 : Nat) (o1 : Option Nat) (M : hM) : Option xRes :=
  Option.bind (g_r M 8 10 o1) fun o_1 =>
  Option.bind (g_r M 3 0 o_1) fun o_3 =>
  if o_3 = none then
    (some (.inl (none, M)))
  else
    (Option.bind (g_r M 10 0 (some a0)) fun o_5 =>
    Option.bind (g_o M 2 o_3) fun b_9 =>
    Option.bind (c_I (f63 [.inr (.inr (some b_9)), .inr (.inr o_5)] M)) fun q_7 =>
    if q_7.1 = 0 then
      (Option.bind (g_o q_7.2 8 o1) fun b_28 =>
      Option.bind (c_V (f134 [.inr (.inr (some b_28)), .inl (1 : Int32)] q_7.2)) fun q_26 =>
      some (.inl (none, q_26)))
    else
      (Option.bind (g_o q_7.2 2 o_3) fun b_13 =>
      Option.bind (c_I (f64 [.inr (.inr (some b_13))] q_7.2)) fun q_11 =>
      Option.bind (g_o q_11.2 2 o_3) fun b_17 =>
      Option.bind (c_I (f57 [.inr (.inr (some b_17))] q_11.2)) fun q_15 =>
      if q_11.1 = (16777214 : Int32) then
        (b137_66 a0 o1 o_3 q_11.1 q_15.1 q_15.2)
      else
        (if q_11.1 = (16777212 : Int32) then
          (b137_66 a0 o1 o_3 q_11.1 q_15.1 q_15.2)
        else
          (if q_11.1 = (16777213 : Int32) then
            (b137_66 a0 o1 o_3 q_11.1 q_15.1 q_15.2)
          else
            (Option.bind (g_o q_15.2 10 (some a0)) fun b_21 =>
            Option.bind (c_V (f136 [.inr (.inr (some b_21)), .inr (.inr o1), .inr (.inr o_3)] q_15.2)) fun q_19 =>
            some (.inl (none, q_19)))))))
def f137 (as : List aV) (M : hM) : xO := match as with
  | [.inr (.inr (some a0)), .inr (.inr o1)] => x_out (b137_0 a0 o1 M)
  | _ => none
theorem lb137_174 (G : gX) (l : Launch) (a0 : Nat) (o1 : Option Nat) (M : hM) {res : xRes} (h : b137_174 a0 o1 M = some res) : h_sz M ≤ r_sz res ∧ h_sl M ≤ r_sl res := by
  unfold b137_174 at h
  obtain ⟨o_76, h77, h⟩ := bd h
  obtain ⟨b_80, h81, h⟩ := bd h
  obtain ⟨q_78, h79, h⟩ := bd h
  have eh79 := (t54 G l (c_R_some h79)).1
  obtain ⟨b_84, h85, h⟩ := bd h
  obtain ⟨q_82, h83, h⟩ := bd h
  have eh83 := (t17 G l (c_V_some h83)).1
  obtain rfl := Option.some.inj h
  show h_sz M ≤ h_sz q_82 ∧ h_sl M ≤ h_sl q_82
  omega
theorem lb137_149 (G : gX) (l : Launch) (a0 : Nat) (o1 : Option Nat) (o2 : Option Nat) (v3 : Int32) (v4 : Int32) (M : hM) {res : xRes} (h : b137_149 a0 o1 o2 v3 v4 M = some res) : h_sz M ≤ r_sz res ∧ h_sl M ≤ r_sl res := by
  unfold b137_149 at h
  by_cases q75 : v3 = (16777212 : Int32)
  · rw [if_pos q75] at h
    by_cases q74 : v4 = (5 : Int32)
    · rw [if_pos q74] at h
      obtain ⟨b_67, h68, h⟩ := bd h
      obtain ⟨q_65, h66, h⟩ := bd h
      have eh66 := (t115 G l (c_I_some h66)).1
      by_cases q73 : q_65.1 = 0
      · rw [if_pos q73] at h
        have e := lb137_174 G l a0 o1 q_65.2 h
        omega
      · rw [if_neg q73] at h
        obtain ⟨b_71, h72, h⟩ := bd h
        obtain ⟨q_69, h70, h⟩ := bd h
        have eh70 := (t128 G l (c_V_some h70)).1
        have e := lb137_174 G l a0 o1 q_69 h
        omega
    · rw [if_neg q74] at h
      have e := lb137_174 G l a0 o1 M h
      omega
  · rw [if_neg q75] at h
    have e := lb137_174 G l a0 o1 M h
    omega
theorem lb137_122 (G : gX) (l : Launch) (a0 : Nat) (o1 : Option Nat) (o2 : Option Nat) (v3 : Int32) (v4 : Int32) (M : hM) {res : xRes} (h : b137_122 a0 o1 o2 v3 v4 M = some res) : h_sz M ≤ r_sz res ∧ h_sl M ≤ r_sl res := by
  unfold b137_122 at h
  by_cases q64 : v3 = (16777214 : Int32)
  · rw [if_pos q64] at h
    by_cases q63 : v4 = (3 : Int32)
    · rw [if_pos q63] at h
      obtain ⟨b_56, h57, h⟩ := bd h
      obtain ⟨q_54, h55, h⟩ := bd h
      have eh55 := (t115 G l (c_I_some h55)).1
      by_cases q62 : q_54.1 = 0
      · rw [if_pos q62] at h
        have e := lb137_149 G l a0 o1 o2 v3 v4 q_54.2 h
        omega
      · rw [if_neg q62] at h
        obtain ⟨b_60, h61, h⟩ := bd h
        obtain ⟨q_58, h59, h⟩ := bd h
        have eh59 := (t129 G l (c_V_some h59)).1
        have e := lb137_174 G l a0 o1 q_58 h
        omega
    · rw [if_neg q63] at h
      have e := lb137_149 G l a0 o1 o2 v3 v4 M h
      omega
  · rw [if_neg q64] at h
    have e := lb137_149 G l a0 o1 o2 v3 v4 M h
    omega
theorem lb137_94 (G : gX) (l : Launch) (a0 : Nat) (o1 : Option Nat) (o2 : Option Nat) (v3 : Int32) (v4 : Int32) (M : hM) {res : xRes} (h : b137_94 a0 o1 o2 v3 v4 M = some res) : h_sz M ≤ r_sz res ∧ h_sl M ≤ r_sl res := by
  unfold b137_94 at h
  by_cases q53 : v3 = (16777213 : Int32)
  · rw [if_pos q53] at h
    by_cases q52 : v4 = (2 : Int32)
    · rw [if_pos q52] at h
      obtain ⟨b_45, h46, h⟩ := bd h
      obtain ⟨q_43, h44, h⟩ := bd h
      have eh44 := (t112 G l (c_I_some h44)).1
      by_cases q51 : q_43.1 = 0
      · rw [if_pos q51] at h
        have e := lb137_122 G l a0 o1 o2 v3 v4 q_43.2 h
        omega
      · rw [if_neg q51] at h
        obtain ⟨b_49, h50, h⟩ := bd h
        obtain ⟨q_47, h48, h⟩ := bd h
        have eh48 := (t130 G l (c_V_some h48)).1
        have e := lb137_174 G l a0 o1 q_47 h
        omega
    · rw [if_neg q52] at h
      have e := lb137_122 G l a0 o1 o2 v3 v4 M h
      omega
  · rw [if_neg q53] at h
    have e := lb137_122 G l a0 o1 o2 v3 v4 M h
    omega
theorem lb137_66 (G : gX) (l : Launch) (a0 : Nat) (o1 : Option Nat) (o2 : Option Nat) (v3 : Int32) (v4 : Int32) (M : hM) {res : xRes} (h : b137_66 a0 o1 o2 v3 v4 M = some res) : h_sz M ≤ r_sz res ∧ h_sl M ≤ r_sl res := by
  unfold b137_66 at h
  by_cases q42 : v3 = (16777213 : Int32)
  · rw [if_pos q42] at h
    by_cases q41 : v4 = (1 : Int32)
    · rw [if_pos q41] at h
      obtain ⟨b_34, h35, h⟩ := bd h
      obtain ⟨q_32, h33, h⟩ := bd h
      have eh33 := (t112 G l (c_I_some h33)).1
      by_cases q40 : q_32.1 = 0
      · rw [if_pos q40] at h
        have e := lb137_94 G l a0 o1 o2 v3 v4 q_32.2 h
        omega
      · rw [if_neg q40] at h
        obtain ⟨b_38, h39, h⟩ := bd h
        obtain ⟨q_36, h37, h⟩ := bd h
        have eh37 := (t131 G l (c_V_some h37)).1
        have e := lb137_174 G l a0 o1 q_36 h
        omega
    · rw [if_neg q41] at h
      have e := lb137_94 G l a0 o1 o2 v3 v4 M h
      omega
  · rw [if_neg q42] at h
    have e := lb137_94 G l a0 o1 o2 v3 v4 M h
    omega
theorem lb137_0 (G : gX) (l : Launch) (a0 : Nat) (o1 : Option Nat) (M : hM) {res : xRes} (h : b137_0 a0 o1 M = some res) : h_sz M ≤ r_sz res ∧ h_sl M ≤ r_sl res := by
  unfold b137_0 at h
  obtain ⟨o_1, h2, h⟩ := bd h
  obtain ⟨o_3, h4, h⟩ := bd h
  by_cases q31 : o_3 = none
  · rw [if_pos q31] at h
    obtain rfl := Option.some.inj h
    show h_sz M ≤ h_sz M ∧ h_sl M ≤ h_sl M
    omega
  · rw [if_neg q31] at h
    obtain ⟨o_5, h6, h⟩ := bd h
    obtain ⟨b_9, h10, h⟩ := bd h
    obtain ⟨q_7, h8, h⟩ := bd h
    have eh8 := (t63 G l (c_I_some h8)).1
    by_cases q30 : q_7.1 = 0
    · rw [if_pos q30] at h
      obtain ⟨b_28, h29, h⟩ := bd h
      obtain ⟨q_26, h27, h⟩ := bd h
      have eh27 := (t134 G l (c_V_some h27)).1
      obtain rfl := Option.some.inj h
      show h_sz M ≤ h_sz q_26 ∧ h_sl M ≤ h_sl q_26
      omega
    · rw [if_neg q30] at h
      obtain ⟨b_13, h14, h⟩ := bd h
      obtain ⟨q_11, h12, h⟩ := bd h
      have eh12 := (t64 G l (c_I_some h12)).1
      obtain ⟨b_17, h18, h⟩ := bd h
      obtain ⟨q_15, h16, h⟩ := bd h
      have eh16 := (t57 G l (c_I_some h16)).1
      by_cases q25 : q_11.1 = (16777214 : Int32)
      · rw [if_pos q25] at h
        have e := lb137_66 G l a0 o1 o_3 q_11.1 q_15.1 q_15.2 h
        omega
      · rw [if_neg q25] at h
        by_cases q24 : q_11.1 = (16777212 : Int32)
        · rw [if_pos q24] at h
          have e := lb137_66 G l a0 o1 o_3 q_11.1 q_15.1 q_15.2 h
          omega
        · rw [if_neg q24] at h
          by_cases q23 : q_11.1 = (16777213 : Int32)
          · rw [if_pos q23] at h
            have e := lb137_66 G l a0 o1 o_3 q_11.1 q_15.1 q_15.2 h
            omega
          · rw [if_neg q23] at h
            obtain ⟨b_21, h22, h⟩ := bd h
            obtain ⟨q_19, h20, h⟩ := bd h
            have eh20 := (t136 G l (c_V_some h20)).1
            obtain rfl := Option.some.inj h
            show h_sz M ≤ h_sz q_19 ∧ h_sl M ≤ h_sl q_19
            omega
section
variable {p : Program} {l : Launch} {e : Env} {s : State} {m : MethodId} {args : Array Value} {below : List Frame} {meth : Method} {c : Code} {G : gX} {z0 y0 : Nat} {r : Option aV} {M' : hM}
theorem sb137_174 (E : xE G p (xRm 6 (h_sz M' - z0) (h_sl M' - y0)) s m args c prog_12_method_10_code "ZonedFabric$Switch" z0 y0 (h_sz M') (h_sl M') 5) (B : xB ym137 none meth) (a0 : Nat) (o1 : Option Nat) (M : hM) {res : xRes} (h : b137_174 a0 o1 M = some res) (hN : xN (fun _ _ _ => False) r M' res) : xV G p l e (xRm 6 (h_sz M' - z0) (h_sl M' - y0)) s m args below meth c z0 y0 (h_sz M') (h_sl M') 5 (MQ below (xQc G r M') args s (h_sz M' - z0) (h_sl M' - y0) (xFr G)) 174 [(0, .inr (.inr (some a0))), (1, .inr (.inr o1))] [] M := by
  unfold b137_174 at h
  refine xv_b E [.aload_n 0] (pc' := 175) (lv' := [(0, .inr (.inr (some a0))), (1, .inr (.inr o1))]) (st' := [.inr (.inr (some a0))]) (by decide +kernel) rfl rfl ?_
  obtain ⟨o_76, h77, h⟩ := bd h
  refine xg_r E 10 0 h77 mw60 (show decode prog_12_method_10_code 175 = .ok (.getfield 34, 3) by decide +kernel) ?_
  refine xv_b E [.aload_n 1] (pc' := 179) (lv' := [(0, .inr (.inr (some a0))), (1, .inr (.inr o1))]) (st' := [.inr (.inr o1), .inr (.inr o_76)]) (by decide +kernel) rfl rfl ?_
  obtain ⟨b_80, h81, h⟩ := bd h
  obtain ⟨eh81, th81⟩ := g_o_some h81
  obtain ⟨q_78, h79, h⟩ := bd h
  refine xv_cvo E eh81 8 (as := []) (t54 G l (c_R_some h79)) cd54 mw724 mw520 mw521 (show decode prog_12_method_10_code 179 = .ok (.invokevirtual 213, 3) by decide +kernel) th81 rfl rfl (Nat.le_of_ble_eq_true rfl) ⟨Nat.le_of_ble_eq_true rfl, Nat.le_of_ble_eq_true rfl⟩ ?_
  obtain ⟨b_84, h85, h⟩ := bd h
  obtain ⟨eh85, th85⟩ := g_o_some h85
  obtain ⟨q_82, h83, h⟩ := bd h
  refine xv_cvo E eh85 9 (as := [.inr (.inr q_78.1)]) (t17 G l (c_V_some h83)) cd17 mw750 mw161 mw162 (show decode prog_12_method_10_code 182 = .ok (.invokevirtual 217, 3) by decide +kernel) th85 rfl rfl (Nat.le_of_ble_eq_true rfl) ⟨Nat.le_of_ble_eq_true rfl, Nat.le_of_ble_eq_true rfl⟩ ?_
  obtain rfl := Option.some.inj h
  obtain ⟨rfl, rfl⟩ := Prod.mk.inj (show ((none : Option aV), q_82) = (r, M') from hN)
  exact xv_rv E B.1 B.2.1 (show decode prog_12_method_10_code 185 = .ok (.return_, 1) by decide +kernel) rfl rfl
theorem sb137_149 (E : xE G p (xRm 6 (h_sz M' - z0) (h_sl M' - y0)) s m args c prog_12_method_10_code "ZonedFabric$Switch" z0 y0 (h_sz M') (h_sl M') 5) (B : xB ym137 none meth) (a0 : Nat) (o1 : Option Nat) (o2 : Option Nat) (v3 : Int32) (v4 : Int32) (M : hM) {res : xRes} (h : b137_149 a0 o1 o2 v3 v4 M = some res) (hN : xN (fun _ _ _ => False) r M' res) : xV G p l e (xRm 6 (h_sz M' - z0) (h_sl M' - y0)) s m args below meth c z0 y0 (h_sz M') (h_sl M') 5 (MQ below (xQc G r M') args s (h_sz M' - z0) (h_sl M' - y0) (xFr G)) 149 [(0, .inr (.inr (some a0))), (1, .inr (.inr o1)), (2, .inr (.inr o2)), (3, .inl v3), (4, .inl v4)] [] M := by
  unfold b137_149 at h
  refine xv_b E [.iload_n 3] (pc' := 150) (lv' := [(0, .inr (.inr (some a0))), (1, .inr (.inr o1)), (2, .inr (.inr o2)), (3, .inl v3), (4, .inl v4)]) (st' := [.inl v3]) (by decide +kernel) rfl rfl ?_
  refine xv_ldc E (16777212 : Int32) mw697 (show decode prog_12_method_10_code 150 = .ok (.ldc 193, 2) by decide +kernel) ?_
  by_cases q75 : v3 = (16777212 : Int32)
  · rw [if_pos q75] at h
    refine xv_icmp_ne E 174 (show decode prog_12_method_10_code 152 = .ok (.if_icmp .ne (22), 3) by decide +kernel) rfl (fun z => absurd q75 z) (fun _ => ?_)
    refine xv_b E [.iload 4, .iconst 5] (pc' := 158) (lv' := [(0, .inr (.inr (some a0))), (1, .inr (.inr o1)), (2, .inr (.inr o2)), (3, .inl v3), (4, .inl v4)]) (st' := [.inl (5 : Int32), .inl v4]) (by decide +kernel) rfl rfl ?_
    by_cases q74 : v4 = (5 : Int32)
    · rw [if_pos q74] at h
      refine xv_icmp_ne E 174 (show decode prog_12_method_10_code 158 = .ok (.if_icmp .ne (16), 3) by decide +kernel) rfl (fun z => absurd q74 z) (fun _ => ?_)
      refine xv_b E [.aload_n 1] (pc' := 162) (lv' := [(0, .inr (.inr (some a0))), (1, .inr (.inr o1)), (2, .inr (.inr o2)), (3, .inl v3), (4, .inl v4)]) (st' := [.inr (.inr o1)]) (by decide +kernel) rfl rfl ?_
      obtain ⟨b_67, h68, h⟩ := bd h
      obtain ⟨eh68, th68⟩ := g_o_some h68
      obtain ⟨q_65, h66, h⟩ := bd h
      refine xv_cvo E eh68 8 (as := []) (t115 G l (c_I_some h66)) cd115 mw706 mw639 mw640 (show decode prog_12_method_10_code 162 = .ok (.invokevirtual 204, 3) by decide +kernel) th68 rfl rfl (Nat.le_of_ble_eq_true rfl) ⟨Nat.le_of_ble_eq_true rfl, Nat.le_of_ble_eq_true rfl⟩ ?_
      by_cases q73 : q_65.1 = 0
      · rw [if_pos q73] at h
        refine xv_if_eq E 174 (show decode prog_12_method_10_code 165 = .ok (.ifCond .eq (9), 3) by decide +kernel) rfl (fun _ => ?_) (fun z => absurd q73 z)
        exact xv_w (sb137_174 E B a0 o1 q_65.2 h hN) rfl
      · rw [if_neg q73] at h
        refine xv_if_eq E 174 (show decode prog_12_method_10_code 165 = .ok (.ifCond .eq (9), 3) by decide +kernel) rfl (fun z => absurd z q73) (fun _ => ?_)
        refine xv_b E [.aload_n 0, .aload_n 1, .aload_n 2] (pc' := 171) (lv' := [(0, .inr (.inr (some a0))), (1, .inr (.inr o1)), (2, .inr (.inr o2)), (3, .inl v3), (4, .inl v4)]) (st' := [.inr (.inr o2), .inr (.inr o1), .inr (.inr (some a0))]) (by decide +kernel) rfl rfl ?_
        obtain ⟨b_71, h72, h⟩ := bd h
        obtain ⟨eh72, th72⟩ := g_o_some h72
        obtain ⟨q_69, h70, h⟩ := bd h
        refine xv_cvo E eh72 10 (as := [.inr (.inr o1), .inr (.inr o2)]) (t128 G l (c_V_some h70)) cd128 mw747 mw748 mw749 (show decode prog_12_method_10_code 171 = .ok (.invokevirtual 210, 3) by decide +kernel) th72 rfl rfl (Nat.le_of_ble_eq_true rfl) ⟨Nat.le_of_ble_eq_true rfl, Nat.le_of_ble_eq_true rfl⟩ ?_
        exact xv_w (sb137_174 E B a0 o1 q_69 h hN) rfl
    · rw [if_neg q74] at h
      refine xv_icmp_ne E 174 (show decode prog_12_method_10_code 158 = .ok (.if_icmp .ne (16), 3) by decide +kernel) rfl (fun _ => ?_) (fun z => absurd z q74)
      exact xv_w (sb137_174 E B a0 o1 M h hN) rfl
  · rw [if_neg q75] at h
    refine xv_icmp_ne E 174 (show decode prog_12_method_10_code 152 = .ok (.if_icmp .ne (22), 3) by decide +kernel) rfl (fun _ => ?_) (fun z => absurd z q75)
    exact xv_w (sb137_174 E B a0 o1 M h hN) rfl
theorem sb137_122 (E : xE G p (xRm 6 (h_sz M' - z0) (h_sl M' - y0)) s m args c prog_12_method_10_code "ZonedFabric$Switch" z0 y0 (h_sz M') (h_sl M') 5) (B : xB ym137 none meth) (a0 : Nat) (o1 : Option Nat) (o2 : Option Nat) (v3 : Int32) (v4 : Int32) (M : hM) {res : xRes} (h : b137_122 a0 o1 o2 v3 v4 M = some res) (hN : xN (fun _ _ _ => False) r M' res) : xV G p l e (xRm 6 (h_sz M' - z0) (h_sl M' - y0)) s m args below meth c z0 y0 (h_sz M') (h_sl M') 5 (MQ below (xQc G r M') args s (h_sz M' - z0) (h_sl M' - y0) (xFr G)) 122 [(0, .inr (.inr (some a0))), (1, .inr (.inr o1)), (2, .inr (.inr o2)), (3, .inl v3), (4, .inl v4)] [] M := by
  unfold b137_122 at h
  refine xv_b E [.iload_n 3] (pc' := 123) (lv' := [(0, .inr (.inr (some a0))), (1, .inr (.inr o1)), (2, .inr (.inr o2)), (3, .inl v3), (4, .inl v4)]) (st' := [.inl v3]) (by decide +kernel) rfl rfl ?_
  refine xv_ldc E (16777214 : Int32) mw558 (show decode prog_12_method_10_code 123 = .ok (.ldc 91, 2) by decide +kernel) ?_
  by_cases q64 : v3 = (16777214 : Int32)
  · rw [if_pos q64] at h
    refine xv_icmp_ne E 149 (show decode prog_12_method_10_code 125 = .ok (.if_icmp .ne (24), 3) by decide +kernel) rfl (fun z => absurd q64 z) (fun _ => ?_)
    refine xv_b E [.iload 4, .iconst 3] (pc' := 131) (lv' := [(0, .inr (.inr (some a0))), (1, .inr (.inr o1)), (2, .inr (.inr o2)), (3, .inl v3), (4, .inl v4)]) (st' := [.inl (3 : Int32), .inl v4]) (by decide +kernel) rfl rfl ?_
    by_cases q63 : v4 = (3 : Int32)
    · rw [if_pos q63] at h
      refine xv_icmp_ne E 149 (show decode prog_12_method_10_code 131 = .ok (.if_icmp .ne (18), 3) by decide +kernel) rfl (fun z => absurd q63 z) (fun _ => ?_)
      refine xv_b E [.aload_n 1] (pc' := 135) (lv' := [(0, .inr (.inr (some a0))), (1, .inr (.inr o1)), (2, .inr (.inr o2)), (3, .inl v3), (4, .inl v4)]) (st' := [.inr (.inr o1)]) (by decide +kernel) rfl rfl ?_
      obtain ⟨b_56, h57, h⟩ := bd h
      obtain ⟨eh57, th57⟩ := g_o_some h57
      obtain ⟨q_54, h55, h⟩ := bd h
      refine xv_cvo E eh57 8 (as := []) (t115 G l (c_I_some h55)) cd115 mw706 mw639 mw640 (show decode prog_12_method_10_code 135 = .ok (.invokevirtual 204, 3) by decide +kernel) th57 rfl rfl (Nat.le_of_ble_eq_true rfl) ⟨Nat.le_of_ble_eq_true rfl, Nat.le_of_ble_eq_true rfl⟩ ?_
      by_cases q62 : q_54.1 = 0
      · rw [if_pos q62] at h
        refine xv_if_eq E 149 (show decode prog_12_method_10_code 138 = .ok (.ifCond .eq (11), 3) by decide +kernel) rfl (fun _ => ?_) (fun z => absurd q62 z)
        exact xv_w (sb137_149 E B a0 o1 o2 v3 v4 q_54.2 h hN) rfl
      · rw [if_neg q62] at h
        refine xv_if_eq E 149 (show decode prog_12_method_10_code 138 = .ok (.ifCond .eq (11), 3) by decide +kernel) rfl (fun z => absurd z q62) (fun _ => ?_)
        refine xv_b E [.aload_n 0, .aload_n 1] (pc' := 143) (lv' := [(0, .inr (.inr (some a0))), (1, .inr (.inr o1)), (2, .inr (.inr o2)), (3, .inl v3), (4, .inl v4)]) (st' := [.inr (.inr o1), .inr (.inr (some a0))]) (by decide +kernel) rfl rfl ?_
        obtain ⟨b_60, h61, h⟩ := bd h
        obtain ⟨eh61, th61⟩ := g_o_some h61
        obtain ⟨q_58, h59, h⟩ := bd h
        refine xv_cvo E eh61 10 (as := [.inr (.inr o1)]) (t129 G l (c_V_some h59)) cd129 mw744 mw745 mw746 (show decode prog_12_method_10_code 143 = .ok (.invokevirtual 207, 3) by decide +kernel) th61 rfl rfl (Nat.le_of_ble_eq_true rfl) ⟨Nat.le_of_ble_eq_true rfl, Nat.le_of_ble_eq_true rfl⟩ ?_
        refine xv_goto E 174 (show decode prog_12_method_10_code 146 = .ok (.goto (28), 3) by decide +kernel) rfl ?_
        exact xv_w (sb137_174 E B a0 o1 q_58 h hN) rfl
    · rw [if_neg q63] at h
      refine xv_icmp_ne E 149 (show decode prog_12_method_10_code 131 = .ok (.if_icmp .ne (18), 3) by decide +kernel) rfl (fun _ => ?_) (fun z => absurd z q63)
      exact xv_w (sb137_149 E B a0 o1 o2 v3 v4 M h hN) rfl
  · rw [if_neg q64] at h
    refine xv_icmp_ne E 149 (show decode prog_12_method_10_code 125 = .ok (.if_icmp .ne (24), 3) by decide +kernel) rfl (fun _ => ?_) (fun z => absurd z q64)
    exact xv_w (sb137_149 E B a0 o1 o2 v3 v4 M h hN) rfl
theorem sb137_94 (E : xE G p (xRm 6 (h_sz M' - z0) (h_sl M' - y0)) s m args c prog_12_method_10_code "ZonedFabric$Switch" z0 y0 (h_sz M') (h_sl M') 5) (B : xB ym137 none meth) (a0 : Nat) (o1 : Option Nat) (o2 : Option Nat) (v3 : Int32) (v4 : Int32) (M : hM) {res : xRes} (h : b137_94 a0 o1 o2 v3 v4 M = some res) (hN : xN (fun _ _ _ => False) r M' res) : xV G p l e (xRm 6 (h_sz M' - z0) (h_sl M' - y0)) s m args below meth c z0 y0 (h_sz M') (h_sl M') 5 (MQ below (xQc G r M') args s (h_sz M' - z0) (h_sl M' - y0) (xFr G)) 94 [(0, .inr (.inr (some a0))), (1, .inr (.inr o1)), (2, .inr (.inr o2)), (3, .inl v3), (4, .inl v4)] [] M := by
  unfold b137_94 at h
  refine xv_b E [.iload_n 3] (pc' := 95) (lv' := [(0, .inr (.inr (some a0))), (1, .inr (.inr o1)), (2, .inr (.inr o2)), (3, .inl v3), (4, .inl v4)]) (st' := [.inl v3]) (by decide +kernel) rfl rfl ?_
  refine xv_ldc E (16777213 : Int32) mw634 (show decode prog_12_method_10_code 95 = .ok (.ldc 124, 2) by decide +kernel) ?_
  by_cases q53 : v3 = (16777213 : Int32)
  · rw [if_pos q53] at h
    refine xv_icmp_ne E 122 (show decode prog_12_method_10_code 97 = .ok (.if_icmp .ne (25), 3) by decide +kernel) rfl (fun z => absurd q53 z) (fun _ => ?_)
    refine xv_b E [.iload 4, .iconst 2] (pc' := 103) (lv' := [(0, .inr (.inr (some a0))), (1, .inr (.inr o1)), (2, .inr (.inr o2)), (3, .inl v3), (4, .inl v4)]) (st' := [.inl (2 : Int32), .inl v4]) (by decide +kernel) rfl rfl ?_
    by_cases q52 : v4 = (2 : Int32)
    · rw [if_pos q52] at h
      refine xv_icmp_ne E 122 (show decode prog_12_method_10_code 103 = .ok (.if_icmp .ne (19), 3) by decide +kernel) rfl (fun z => absurd q52 z) (fun _ => ?_)
      refine xv_b E [.aload_n 1] (pc' := 107) (lv' := [(0, .inr (.inr (some a0))), (1, .inr (.inr o1)), (2, .inr (.inr o2)), (3, .inl v3), (4, .inl v4)]) (st' := [.inr (.inr o1)]) (by decide +kernel) rfl rfl ?_
      obtain ⟨b_45, h46, h⟩ := bd h
      obtain ⟨eh46, th46⟩ := g_o_some h46
      obtain ⟨q_43, h44, h⟩ := bd h
      refine xv_cvo E eh46 8 (as := []) (t112 G l (c_I_some h44)) cd112 mw628 mw629 mw630 (show decode prog_12_method_10_code 107 = .ok (.invokevirtual 115, 3) by decide +kernel) th46 rfl rfl (Nat.le_of_ble_eq_true rfl) ⟨Nat.le_of_ble_eq_true rfl, Nat.le_of_ble_eq_true rfl⟩ ?_
      by_cases q51 : q_43.1 = 0
      · rw [if_pos q51] at h
        refine xv_if_eq E 122 (show decode prog_12_method_10_code 110 = .ok (.ifCond .eq (12), 3) by decide +kernel) rfl (fun _ => ?_) (fun z => absurd q51 z)
        exact xv_w (sb137_122 E B a0 o1 o2 v3 v4 q_43.2 h hN) rfl
      · rw [if_neg q51] at h
        refine xv_if_eq E 122 (show decode prog_12_method_10_code 110 = .ok (.ifCond .eq (12), 3) by decide +kernel) rfl (fun z => absurd z q51) (fun _ => ?_)
        refine xv_b E [.aload_n 0, .aload_n 1, .aload_n 2] (pc' := 116) (lv' := [(0, .inr (.inr (some a0))), (1, .inr (.inr o1)), (2, .inr (.inr o2)), (3, .inl v3), (4, .inl v4)]) (st' := [.inr (.inr o2), .inr (.inr o1), .inr (.inr (some a0))]) (by decide +kernel) rfl rfl ?_
        obtain ⟨b_49, h50, h⟩ := bd h
        obtain ⟨eh50, th50⟩ := g_o_some h50
        obtain ⟨q_47, h48, h⟩ := bd h
        refine xv_cvo E eh50 10 (as := [.inr (.inr o1), .inr (.inr o2)]) (t130 G l (c_V_some h48)) cd130 mw741 mw742 mw743 (show decode prog_12_method_10_code 116 = .ok (.invokevirtual 201, 3) by decide +kernel) th50 rfl rfl (Nat.le_of_ble_eq_true rfl) ⟨Nat.le_of_ble_eq_true rfl, Nat.le_of_ble_eq_true rfl⟩ ?_
        refine xv_goto E 174 (show decode prog_12_method_10_code 119 = .ok (.goto (55), 3) by decide +kernel) rfl ?_
        exact xv_w (sb137_174 E B a0 o1 q_47 h hN) rfl
    · rw [if_neg q52] at h
      refine xv_icmp_ne E 122 (show decode prog_12_method_10_code 103 = .ok (.if_icmp .ne (19), 3) by decide +kernel) rfl (fun _ => ?_) (fun z => absurd z q52)
      exact xv_w (sb137_122 E B a0 o1 o2 v3 v4 M h hN) rfl
  · rw [if_neg q53] at h
    refine xv_icmp_ne E 122 (show decode prog_12_method_10_code 97 = .ok (.if_icmp .ne (25), 3) by decide +kernel) rfl (fun _ => ?_) (fun z => absurd z q53)
    exact xv_w (sb137_122 E B a0 o1 o2 v3 v4 M h hN) rfl
theorem sb137_66 (E : xE G p (xRm 6 (h_sz M' - z0) (h_sl M' - y0)) s m args c prog_12_method_10_code "ZonedFabric$Switch" z0 y0 (h_sz M') (h_sl M') 5) (B : xB ym137 none meth) (a0 : Nat) (o1 : Option Nat) (o2 : Option Nat) (v3 : Int32) (v4 : Int32) (M : hM) {res : xRes} (h : b137_66 a0 o1 o2 v3 v4 M = some res) (hN : xN (fun _ _ _ => False) r M' res) : xV G p l e (xRm 6 (h_sz M' - z0) (h_sl M' - y0)) s m args below meth c z0 y0 (h_sz M') (h_sl M') 5 (MQ below (xQc G r M') args s (h_sz M' - z0) (h_sl M' - y0) (xFr G)) 66 [(0, .inr (.inr (some a0))), (1, .inr (.inr o1)), (2, .inr (.inr o2)), (3, .inl v3), (4, .inl v4)] [] M := by
  unfold b137_66 at h
  refine xv_b E [.iload_n 3] (pc' := 67) (lv' := [(0, .inr (.inr (some a0))), (1, .inr (.inr o1)), (2, .inr (.inr o2)), (3, .inl v3), (4, .inl v4)]) (st' := [.inl v3]) (by decide +kernel) rfl rfl ?_
  refine xv_ldc E (16777213 : Int32) mw634 (show decode prog_12_method_10_code 67 = .ok (.ldc 124, 2) by decide +kernel) ?_
  by_cases q42 : v3 = (16777213 : Int32)
  · rw [if_pos q42] at h
    refine xv_icmp_ne E 94 (show decode prog_12_method_10_code 69 = .ok (.if_icmp .ne (25), 3) by decide +kernel) rfl (fun z => absurd q42 z) (fun _ => ?_)
    refine xv_b E [.iload 4, .iconst 1] (pc' := 75) (lv' := [(0, .inr (.inr (some a0))), (1, .inr (.inr o1)), (2, .inr (.inr o2)), (3, .inl v3), (4, .inl v4)]) (st' := [.inl (1 : Int32), .inl v4]) (by decide +kernel) rfl rfl ?_
    by_cases q41 : v4 = (1 : Int32)
    · rw [if_pos q41] at h
      refine xv_icmp_ne E 94 (show decode prog_12_method_10_code 75 = .ok (.if_icmp .ne (19), 3) by decide +kernel) rfl (fun z => absurd q41 z) (fun _ => ?_)
      refine xv_b E [.aload_n 1] (pc' := 79) (lv' := [(0, .inr (.inr (some a0))), (1, .inr (.inr o1)), (2, .inr (.inr o2)), (3, .inl v3), (4, .inl v4)]) (st' := [.inr (.inr o1)]) (by decide +kernel) rfl rfl ?_
      obtain ⟨b_34, h35, h⟩ := bd h
      obtain ⟨eh35, th35⟩ := g_o_some h35
      obtain ⟨q_32, h33, h⟩ := bd h
      refine xv_cvo E eh35 8 (as := []) (t112 G l (c_I_some h33)) cd112 mw628 mw629 mw630 (show decode prog_12_method_10_code 79 = .ok (.invokevirtual 115, 3) by decide +kernel) th35 rfl rfl (Nat.le_of_ble_eq_true rfl) ⟨Nat.le_of_ble_eq_true rfl, Nat.le_of_ble_eq_true rfl⟩ ?_
      by_cases q40 : q_32.1 = 0
      · rw [if_pos q40] at h
        refine xv_if_eq E 94 (show decode prog_12_method_10_code 82 = .ok (.ifCond .eq (12), 3) by decide +kernel) rfl (fun _ => ?_) (fun z => absurd q40 z)
        exact xv_w (sb137_94 E B a0 o1 o2 v3 v4 q_32.2 h hN) rfl
      · rw [if_neg q40] at h
        refine xv_if_eq E 94 (show decode prog_12_method_10_code 82 = .ok (.ifCond .eq (12), 3) by decide +kernel) rfl (fun z => absurd z q40) (fun _ => ?_)
        refine xv_b E [.aload_n 0, .aload_n 1, .aload_n 2] (pc' := 88) (lv' := [(0, .inr (.inr (some a0))), (1, .inr (.inr o1)), (2, .inr (.inr o2)), (3, .inl v3), (4, .inl v4)]) (st' := [.inr (.inr o2), .inr (.inr o1), .inr (.inr (some a0))]) (by decide +kernel) rfl rfl ?_
        obtain ⟨b_38, h39, h⟩ := bd h
        obtain ⟨eh39, th39⟩ := g_o_some h39
        obtain ⟨q_36, h37, h⟩ := bd h
        refine xv_cvo E eh39 10 (as := [.inr (.inr o1), .inr (.inr o2)]) (t131 G l (c_V_some h37)) cd131 mw738 mw739 mw740 (show decode prog_12_method_10_code 88 = .ok (.invokevirtual 198, 3) by decide +kernel) th39 rfl rfl (Nat.le_of_ble_eq_true rfl) ⟨Nat.le_of_ble_eq_true rfl, Nat.le_of_ble_eq_true rfl⟩ ?_
        refine xv_goto E 174 (show decode prog_12_method_10_code 91 = .ok (.goto (83), 3) by decide +kernel) rfl ?_
        exact xv_w (sb137_174 E B a0 o1 q_36 h hN) rfl
    · rw [if_neg q41] at h
      refine xv_icmp_ne E 94 (show decode prog_12_method_10_code 75 = .ok (.if_icmp .ne (19), 3) by decide +kernel) rfl (fun _ => ?_) (fun z => absurd z q41)
      exact xv_w (sb137_94 E B a0 o1 o2 v3 v4 M h hN) rfl
  · rw [if_neg q42] at h
    refine xv_icmp_ne E 94 (show decode prog_12_method_10_code 69 = .ok (.if_icmp .ne (25), 3) by decide +kernel) rfl (fun _ => ?_) (fun z => absurd z q42)
    exact xv_w (sb137_94 E B a0 o1 o2 v3 v4 M h hN) rfl
theorem sb137_0 (E : xE G p (xRm 6 (h_sz M' - z0) (h_sl M' - y0)) s m args c prog_12_method_10_code "ZonedFabric$Switch" z0 y0 (h_sz M') (h_sl M') 5) (B : xB ym137 none meth) (a0 : Nat) (o1 : Option Nat) (M : hM) {res : xRes} (h : b137_0 a0 o1 M = some res) (hN : xN (fun _ _ _ => False) r M' res) : xV G p l e (xRm 6 (h_sz M' - z0) (h_sl M' - y0)) s m args below meth c z0 y0 (h_sz M') (h_sl M') 5 (MQ below (xQc G r M') args s (h_sz M' - z0) (h_sl M' - y0) (xFr G)) 0 [(0, .inr (.inr (some a0))), (1, .inr (.inr o1))] [] M := by
  unfold b137_0 at h
  refine xv_b E [.aload_n 1] (pc' := 1) (lv' := [(0, .inr (.inr (some a0))), (1, .inr (.inr o1))]) (st' := [.inr (.inr o1)]) (by decide +kernel) rfl rfl ?_
  obtain ⟨o_1, h2, h⟩ := bd h
  refine xg_r E 8 10 h2 mw731 (show decode prog_12_method_10_code 1 = .ok (.getfield 170, 3) by decide +kernel) ?_
  obtain ⟨o_3, h4, h⟩ := bd h
  refine xg_r E 3 0 h4 mw732 (show decode prog_12_method_10_code 4 = .ok (.getfield 174, 3) by decide +kernel) ?_
  refine xv_b E [.astore_n 2, .aload_n 2] (pc' := 9) (lv' := [(2, .inr (.inr o_3)), (0, .inr (.inr (some a0))), (1, .inr (.inr o1))]) (st' := [.inr (.inr o_3)]) (by decide +kernel) rfl rfl ?_
  by_cases q31 : o_3 = none
  · rw [if_pos q31] at h
    refine xi_nonnull E 13 (show decode prog_12_method_10_code 9 = .ok (.ifnonnull (4), 3) by decide +kernel) rfl (fun z => absurd q31 z) (fun _ => ?_)
    obtain rfl := Option.some.inj h
    obtain ⟨rfl, rfl⟩ := Prod.mk.inj (show ((none : Option aV), M) = (r, M') from hN)
    exact xv_rv E B.1 B.2.1 (show decode prog_12_method_10_code 12 = .ok (.return_, 1) by decide +kernel) rfl rfl
  · rw [if_neg q31] at h
    refine xi_nonnull E 13 (show decode prog_12_method_10_code 9 = .ok (.ifnonnull (4), 3) by decide +kernel) rfl (fun _ => ?_) (fun z => absurd z q31)
    refine xv_b E [.aload_n 2, .aload_n 0] (pc' := 15) (lv' := [(2, .inr (.inr o_3)), (0, .inr (.inr (some a0))), (1, .inr (.inr o1))]) (st' := [.inr (.inr (some a0)), .inr (.inr o_3)]) (by decide +kernel) rfl rfl ?_
    obtain ⟨o_5, h6, h⟩ := bd h
    refine xg_r E 10 0 h6 mw60 (show decode prog_12_method_10_code 15 = .ok (.getfield 34, 3) by decide +kernel) ?_
    obtain ⟨b_9, h10, h⟩ := bd h
    obtain ⟨eh10, th10⟩ := g_o_some h10
    obtain ⟨q_7, h8, h⟩ := bd h
    refine xv_cvo E eh10 2 (as := [.inr (.inr o_5)]) (t63 G l (c_I_some h8)) cd63 mw733 mw523 mw524 (show decode prog_12_method_10_code 18 = .ok (.invokevirtual 180, 3) by decide +kernel) th10 rfl rfl (Nat.le_of_ble_eq_true rfl) ⟨Nat.le_of_ble_eq_true rfl, Nat.le_of_ble_eq_true rfl⟩ ?_
    by_cases q30 : q_7.1 = 0
    · rw [if_pos q30] at h
      refine xv_if_ne E 30 (show decode prog_12_method_10_code 21 = .ok (.ifCond .ne (9), 3) by decide +kernel) rfl (fun z => absurd q30 z) (fun _ => ?_)
      refine xv_b E [.aload_n 1, .iconst 1] (pc' := 26) (lv' := [(2, .inr (.inr o_3)), (0, .inr (.inr (some a0))), (1, .inr (.inr o1))]) (st' := [.inl (1 : Int32), .inr (.inr o1)]) (by decide +kernel) rfl rfl ?_
      obtain ⟨b_28, h29, h⟩ := bd h
      obtain ⟨eh29, th29⟩ := g_o_some h29
      obtain ⟨q_26, h27, h⟩ := bd h
      refine xv_cvo E eh29 8 (as := [.inl (1 : Int32)]) (t134 G l (c_V_some h27)) cd134 mw726 mw714 mw715 (show decode prog_12_method_10_code 26 = .ok (.invokevirtual 184, 3) by decide +kernel) th29 rfl rfl (Nat.le_of_ble_eq_true rfl) ⟨Nat.le_of_ble_eq_true rfl, Nat.le_of_ble_eq_true rfl⟩ ?_
      obtain rfl := Option.some.inj h
      obtain ⟨rfl, rfl⟩ := Prod.mk.inj (show ((none : Option aV), q_26) = (r, M') from hN)
      exact xv_rv E B.1 B.2.1 (show decode prog_12_method_10_code 29 = .ok (.return_, 1) by decide +kernel) rfl rfl
    · rw [if_neg q30] at h
      refine xv_if_ne E 30 (show decode prog_12_method_10_code 21 = .ok (.ifCond .ne (9), 3) by decide +kernel) rfl (fun _ => ?_) (fun z => absurd z q30)
      refine xv_b E [.aload_n 2] (pc' := 31) (lv' := [(2, .inr (.inr o_3)), (0, .inr (.inr (some a0))), (1, .inr (.inr o1))]) (st' := [.inr (.inr o_3)]) (by decide +kernel) rfl rfl ?_
      obtain ⟨b_13, h14, h⟩ := bd h
      obtain ⟨eh14, th14⟩ := g_o_some h14
      obtain ⟨q_11, h12, h⟩ := bd h
      refine xv_cvo E eh14 2 (as := []) (t64 G l (c_I_some h12)) cd64 mw717 mw528 mw529 (show decode prog_12_method_10_code 31 = .ok (.invokevirtual 187, 3) by decide +kernel) th14 rfl rfl (Nat.le_of_ble_eq_true rfl) ⟨Nat.le_of_ble_eq_true rfl, Nat.le_of_ble_eq_true rfl⟩ ?_
      refine xv_b E [.istore_n 3, .aload_n 2] (pc' := 36) (lv' := [(3, .inl q_11.1), (2, .inr (.inr o_3)), (0, .inr (.inr (some a0))), (1, .inr (.inr o1))]) (st' := [.inr (.inr o_3)]) (by decide +kernel) rfl rfl ?_
      obtain ⟨b_17, h18, h⟩ := bd h
      obtain ⟨eh18, th18⟩ := g_o_some h18
      obtain ⟨q_15, h16, h⟩ := bd h
      refine xv_cvo E eh18 2 (as := []) (t57 G l (c_I_some h16)) cd57 mw734 mw339 mw340 (show decode prog_12_method_10_code 36 = .ok (.invokevirtual 190, 3) by decide +kernel) th18 rfl rfl (Nat.le_of_ble_eq_true rfl) ⟨Nat.le_of_ble_eq_true rfl, Nat.le_of_ble_eq_true rfl⟩ ?_
      refine xv_b E [.istore 4, .iload_n 3] (pc' := 42) (lv' := [(4, .inl q_15.1), (3, .inl q_11.1), (2, .inr (.inr o_3)), (0, .inr (.inr (some a0))), (1, .inr (.inr o1))]) (st' := [.inl q_11.1]) (by decide +kernel) rfl rfl ?_
      refine xv_ldc E (16777214 : Int32) mw558 (show decode prog_12_method_10_code 42 = .ok (.ldc 91, 2) by decide +kernel) ?_
      by_cases q25 : q_11.1 = (16777214 : Int32)
      · rw [if_pos q25] at h
        refine xv_icmp_eq E 66 (show decode prog_12_method_10_code 44 = .ok (.if_icmp .eq (22), 3) by decide +kernel) rfl (fun _ => ?_) (fun z => absurd q25 z)
        exact xv_w (sb137_66 E B a0 o1 o_3 q_11.1 q_15.1 q_15.2 h hN) rfl
      · rw [if_neg q25] at h
        refine xv_icmp_eq E 66 (show decode prog_12_method_10_code 44 = .ok (.if_icmp .eq (22), 3) by decide +kernel) rfl (fun z => absurd z q25) (fun _ => ?_)
        refine xv_b E [.iload_n 3] (pc' := 48) (lv' := [(4, .inl q_15.1), (3, .inl q_11.1), (2, .inr (.inr o_3)), (0, .inr (.inr (some a0))), (1, .inr (.inr o1))]) (st' := [.inl q_11.1]) (by decide +kernel) rfl rfl ?_
        refine xv_ldc E (16777212 : Int32) mw697 (show decode prog_12_method_10_code 48 = .ok (.ldc 193, 2) by decide +kernel) ?_
        by_cases q24 : q_11.1 = (16777212 : Int32)
        · rw [if_pos q24] at h
          refine xv_icmp_eq E 66 (show decode prog_12_method_10_code 50 = .ok (.if_icmp .eq (16), 3) by decide +kernel) rfl (fun _ => ?_) (fun z => absurd q24 z)
          exact xv_w (sb137_66 E B a0 o1 o_3 q_11.1 q_15.1 q_15.2 h hN) rfl
        · rw [if_neg q24] at h
          refine xv_icmp_eq E 66 (show decode prog_12_method_10_code 50 = .ok (.if_icmp .eq (16), 3) by decide +kernel) rfl (fun z => absurd z q24) (fun _ => ?_)
          refine xv_b E [.iload_n 3] (pc' := 54) (lv' := [(4, .inl q_15.1), (3, .inl q_11.1), (2, .inr (.inr o_3)), (0, .inr (.inr (some a0))), (1, .inr (.inr o1))]) (st' := [.inl q_11.1]) (by decide +kernel) rfl rfl ?_
          refine xv_ldc E (16777213 : Int32) mw634 (show decode prog_12_method_10_code 54 = .ok (.ldc 124, 2) by decide +kernel) ?_
          by_cases q23 : q_11.1 = (16777213 : Int32)
          · rw [if_pos q23] at h
            refine xv_icmp_eq E 66 (show decode prog_12_method_10_code 56 = .ok (.if_icmp .eq (10), 3) by decide +kernel) rfl (fun _ => ?_) (fun z => absurd q23 z)
            exact xv_w (sb137_66 E B a0 o1 o_3 q_11.1 q_15.1 q_15.2 h hN) rfl
          · rw [if_neg q23] at h
            refine xv_icmp_eq E 66 (show decode prog_12_method_10_code 56 = .ok (.if_icmp .eq (10), 3) by decide +kernel) rfl (fun z => absurd z q23) (fun _ => ?_)
            refine xv_b E [.aload_n 0, .aload_n 1, .aload_n 2] (pc' := 62) (lv' := [(4, .inl q_15.1), (3, .inl q_11.1), (2, .inr (.inr o_3)), (0, .inr (.inr (some a0))), (1, .inr (.inr o1))]) (st' := [.inr (.inr o_3), .inr (.inr o1), .inr (.inr (some a0))]) (by decide +kernel) rfl rfl ?_
            obtain ⟨b_21, h22, h⟩ := bd h
            obtain ⟨eh22, th22⟩ := g_o_some h22
            obtain ⟨q_19, h20, h⟩ := bd h
            refine xv_cvo E eh22 10 (as := [.inr (.inr o1), .inr (.inr o_3)]) (t136 G l (c_V_some h20)) cd136 mw735 mw736 mw737 (show decode prog_12_method_10_code 62 = .ok (.invokevirtual 194, 3) by decide +kernel) th22 rfl rfl (Nat.le_of_ble_eq_true rfl) ⟨Nat.le_of_ble_eq_true rfl, Nat.le_of_ble_eq_true rfl⟩ ?_
            obtain rfl := Option.some.inj h
            obtain ⟨rfl, rfl⟩ := Prod.mk.inj (show ((none : Option aV), q_19) = (r, M') from hN)
            exact xv_rv E B.1 B.2.1 (show decode prog_12_method_10_code 65 = .ok (.return_, 1) by decide +kernel) rfl rfl
end
theorem t137 (G : gX) (l : Launch) {as : List aV} {M : hM} {r : Option aV} {M' : hM} (h : f137 as M = some (r, M')) : xM G l ym137 prog_12_method_10_code 5 none 6 as M r M' := by
  unfold f137 at h
  split at h
  · have h := x_out_ok h
    refine xM_of (by decide) (Nat.le_of_ble_eq_true rfl) (lb137_0 G l _ _ M h) ?_
    intro p e s m args below meth c E B
    exact sb137_0 E B _ _ M h rfl
  · cases h
