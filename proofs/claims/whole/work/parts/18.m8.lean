theorem mw751 : Cond.code ⟨"ZonedFabric$Switch", "turn", "()V"⟩ prog_12_method_2_code 3 none ∈ xTs := xTs_in (tk3 (List.mem_of_getElem? (i := 13) (by decide +kernel))) rfl
theorem mw752 : Cond.methodLink "ZonedFabric$Switch" 62 ⟨"ZonedFabric$Switch", "takeBackAddresses", "()V"⟩ ∈ xTs := xTs_in (tk3 (List.mem_of_getElem? (i := 14) (by decide +kernel))) rfl
theorem mw753 : Cond.instanceMethod ⟨"ZonedFabric$Switch", "takeBackAddresses", "()V"⟩ ∈ xTs := xTs_in (tk3 (List.mem_of_getElem? (i := 16) (by decide +kernel))) rfl
theorem mw754 : Cond.selects "ZonedFabric$Switch" ⟨"ZonedFabric$Switch", "takeBackAddresses", "()V"⟩ ⟨"ZonedFabric$Switch", "takeBackAddresses", "()V"⟩ ∈ xTs := xTs_in (List.mem_append_left _ (List.mem_of_getElem? (i := 5) (by decide +kernel))) rfl
theorem mw755 : Cond.methodLink "ZonedFabric$Switch" 65 ⟨"ZonedFabric$Switch", "forgetOldRecords", "()V"⟩ ∈ xTs := xTs_in (tk3 (List.mem_of_getElem? (i := 57) (by decide +kernel))) rfl
theorem mw756 : Cond.instanceMethod ⟨"ZonedFabric$Switch", "forgetOldRecords", "()V"⟩ ∈ xTs := xTs_in (tk3 (List.mem_of_getElem? (i := 59) (by decide +kernel))) rfl
theorem mw757 : Cond.selects "ZonedFabric$Switch" ⟨"ZonedFabric$Switch", "forgetOldRecords", "()V"⟩ ⟨"ZonedFabric$Switch", "forgetOldRecords", "()V"⟩ ∈ xTs := xTs_in (List.mem_append_left _ (List.mem_of_getElem? (i := 6) (by decide +kernel))) rfl
theorem mw758 : Cond.methodLink "ZonedFabric$Switch" 68 ⟨"ZonedFabric$Switch", "sayHello", "()V"⟩ ∈ xTs := xTs_in (tk3 (List.mem_of_getElem? (i := 125) (by decide +kernel))) rfl
theorem mw759 : Cond.instanceMethod ⟨"ZonedFabric$Switch", "sayHello", "()V"⟩ ∈ xTs := xTs_in (tk3 (List.mem_of_getElem? (i := 127) (by decide +kernel))) rfl
theorem mw760 : Cond.selects "ZonedFabric$Switch" ⟨"ZonedFabric$Switch", "sayHello", "()V"⟩ ⟨"ZonedFabric$Switch", "sayHello", "()V"⟩ ∈ xTs := xTs_in (List.mem_append_left _ (List.mem_of_getElem? (i := 14) (by decide +kernel))) rfl
theorem mw761 : Cond.methodLink "ZonedFabric$Switch" 71 ⟨"ZonedFabric$Switch", "tellOwnRecord", "()V"⟩ ∈ xTs := xTs_in (tk3 (List.mem_of_getElem? (i := 143) (by decide +kernel))) rfl
theorem mw762 : Cond.instanceMethod ⟨"ZonedFabric$Switch", "tellOwnRecord", "()V"⟩ ∈ xTs := xTs_in (tk3 (List.mem_of_getElem? (i := 145) (by decide +kernel))) rfl
theorem mw763 : Cond.selects "ZonedFabric$Switch" ⟨"ZonedFabric$Switch", "tellOwnRecord", "()V"⟩ ⟨"ZonedFabric$Switch", "tellOwnRecord", "()V"⟩ ∈ xTs := xTs_in (List.mem_append_left _ (List.mem_of_getElem? (i := 15) (by decide +kernel))) rfl
theorem mw764 : Cond.methodLink "ZonedFabric$Switch" 77 ⟨"ZonedFabric$Port", "sendFirst", "()V"⟩ ∈ xTs := xTs_in (tk3 (List.mem_of_getElem? (i := 189) (by decide +kernel))) rfl
theorem mw765 : Cond.methodLink "ZonedFabric$Switch" 80 ⟨"ZonedFabric$Switch", "serve", "(LZonedFabric$Port;)V"⟩ ∈ xTs := xTs_in (tk3 (List.mem_of_getElem? (i := 211) (by decide +kernel))) rfl
theorem mw766 : Cond.instanceMethod ⟨"ZonedFabric$Switch", "serve", "(LZonedFabric$Port;)V"⟩ ∈ xTs := xTs_in (tk3 (List.mem_of_getElem? (i := 213) (by decide +kernel))) rfl
theorem mw767 : Cond.selects "ZonedFabric$Switch" ⟨"ZonedFabric$Switch", "serve", "(LZonedFabric$Port;)V"⟩ ⟨"ZonedFabric$Switch", "serve", "(LZonedFabric$Port;)V"⟩ ∈ xTs := xTs_in (List.mem_append_left _ (List.mem_of_getElem? (i := 20) (by decide +kernel))) rfl
theorem mw768 : Cond.code ⟨"ZonedFabric$Port", "deliver", "()I"⟩ prog_10_method_8_code 1 (some FieldType.int) ∈ xTs := xTs_in (tk3 (List.mem_of_getElem? (i := 5) (by decide +kernel))) rfl
theorem mw769 : Cond.code ⟨"ZonedFabric", "tick", "(I)I"⟩ prog_1_method_10_code 5 (some FieldType.int) ∈ xTs := xTs_in (tk3 (List.mem_of_getElem? (i := 1) (by decide +kernel))) rfl
theorem mw770 : Cond.fieldLink "ZonedFabric" 135 "ZonedFabric$Shared" "time" "I" ∈ xTs := xTs_in (tk1 (List.mem_of_getElem? (i := 45) (by decide +kernel))) rfl
theorem mw771 : Cond.methodLink "ZonedFabric" 138 ⟨"ZonedFabric$Port", "deliver", "()I"⟩ ∈ xTs := xTs_in (tk3 (List.mem_of_getElem? (i := 2) (by decide +kernel))) rfl
theorem mw772 : Cond.instanceMethod ⟨"ZonedFabric$Port", "deliver", "()I"⟩ ∈ xTs := xTs_in (tk3 (List.mem_of_getElem? (i := 3) (by decide +kernel))) rfl
theorem mw773 : Cond.selects "ZonedFabric$Port" ⟨"ZonedFabric$Port", "deliver", "()I"⟩ ⟨"ZonedFabric$Port", "deliver", "()I"⟩ ∈ xTs := xTs_in (tk3 (List.mem_of_getElem? (i := 4) (by decide +kernel))) rfl
theorem mw774 : Cond.methodLink "ZonedFabric" 142 ⟨"ZonedFabric$Switch", "turn", "()V"⟩ ∈ xTs := xTs_in (tk3 (List.mem_of_getElem? (i := 10) (by decide +kernel))) rfl
theorem mw775 : Cond.instanceMethod ⟨"ZonedFabric$Switch", "turn", "()V"⟩ ∈ xTs := xTs_in (tk3 (List.mem_of_getElem? (i := 11) (by decide +kernel))) rfl
theorem mw776 : Cond.selects "ZonedFabric$Switch" ⟨"ZonedFabric$Switch", "turn", "()V"⟩ ⟨"ZonedFabric$Switch", "turn", "()V"⟩ ∈ xTs := xTs_in (tk3 (List.mem_of_getElem? (i := 12) (by decide +kernel))) rfl
theorem mw777 : Cond.methodLink "ZonedFabric" 145 ⟨"ZonedFabric$Node", "turn", "()V"⟩ ∈ xTs := xTs_in (tk4 (List.mem_of_getElem? (i := 83) (by decide +kernel))) rfl
theorem mw778 : Cond.instanceMethod ⟨"ZonedFabric$Node", "turn", "()V"⟩ ∈ xTs := xTs_in (tk4 (List.mem_of_getElem? (i := 84) (by decide +kernel))) rfl
theorem mw779 : Cond.selects "ZonedFabric$Node" ⟨"ZonedFabric$Node", "turn", "()V"⟩ ⟨"ZonedFabric$Node", "turn", "()V"⟩ ∈ xTs := xTs_in (tk4 (List.mem_of_getElem? (i := 85) (by decide +kernel))) rfl
theorem mw780 : Cond.code ⟨"ZonedFabric", "isHost", "(I)Z"⟩ prog_1_method_28_code 2 (some FieldType.boolean) ∈ xTs := xTs_in (tk5 (List.mem_of_getElem? (i := 47) (by decide +kernel))) rfl
theorem mw781 : Cond.code ⟨"ZonedFabric", "isDisc", "(I)Z"⟩ prog_1_method_27_code 2 (some FieldType.boolean) ∈ xTs := xTs_in (tk5 (List.mem_of_getElem? (i := 51) (by decide +kernel))) rfl
theorem mw782 : Cond.code ⟨"ZonedFabric$Host", "hasRoom", "()Z"⟩ prog_6_method_2_code 3 (some FieldType.boolean) ∈ xTs := xTs_in (tk5 (List.mem_of_getElem? (i := 55) (by decide +kernel))) rfl
theorem mw783 : Cond.code ⟨"ZonedFabric", "canBegin", "(IIIII)Z"⟩ prog_1_method_31_code 6 (some FieldType.boolean) ∈ xTs := xTs_in (tk5 (List.mem_of_getElem? (i := 43) (by decide +kernel))) rfl
theorem mw784 : Cond.methodLink "ZonedFabric" 256 ⟨"ZonedFabric", "isHost", "(I)Z"⟩ ∈ xTs := xTs_in (tk5 (List.mem_of_getElem? (i := 44) (by decide +kernel))) rfl
theorem mw785 : Cond.instanceMethod ⟨"ZonedFabric", "isHost", "(I)Z"⟩ ∈ xTs := xTs_in (tk5 (List.mem_of_getElem? (i := 46) (by decide +kernel))) rfl
theorem mw786 : Cond.selects "ZonedFabric" ⟨"ZonedFabric", "isHost", "(I)Z"⟩ ⟨"ZonedFabric", "isHost", "(I)Z"⟩ ∈ xTs := xTs_in (List.mem_append_left _ (List.mem_of_getElem? (i := 54) (by decide +kernel))) rfl
theorem mw787 : Cond.methodLink "ZonedFabric" 179 ⟨"ZonedFabric", "isDisc", "(I)Z"⟩ ∈ xTs := xTs_in (tk5 (List.mem_of_getElem? (i := 48) (by decide +kernel))) rfl
theorem mw788 : Cond.instanceMethod ⟨"ZonedFabric", "isDisc", "(I)Z"⟩ ∈ xTs := xTs_in (tk5 (List.mem_of_getElem? (i := 50) (by decide +kernel))) rfl
theorem mw789 : Cond.selects "ZonedFabric" ⟨"ZonedFabric", "isDisc", "(I)Z"⟩ ⟨"ZonedFabric", "isDisc", "(I)Z"⟩ ∈ xTs := xTs_in (List.mem_append_left _ (List.mem_of_getElem? (i := 55) (by decide +kernel))) rfl
theorem mw790 : Cond.fieldLink "ZonedFabric" 243 "ZonedFabric" "commandsBegun" "I" ∈ xTs := xTs_in (tk2 (List.mem_of_getElem? (i := 61) (by decide +kernel))) rfl
theorem mw791 : Cond.methodLink "ZonedFabric" 259 ⟨"ZonedFabric$Host", "hasRoom", "()Z"⟩ ∈ xTs := xTs_in (tk5 (List.mem_of_getElem? (i := 52) (by decide +kernel))) rfl
theorem mw792 : Cond.instanceMethod ⟨"ZonedFabric$Host", "hasRoom", "()Z"⟩ ∈ xTs := xTs_in (tk5 (List.mem_of_getElem? (i := 53) (by decide +kernel))) rfl
theorem mw793 : Cond.selects "ZonedFabric$Host" ⟨"ZonedFabric$Host", "hasRoom", "()Z"⟩ ⟨"ZonedFabric$Host", "hasRoom", "()Z"⟩ ∈ xTs := xTs_in (tk5 (List.mem_of_getElem? (i := 54) (by decide +kernel))) rfl
theorem mw794 : Cond.code ⟨"ZonedFabric$Command", "<init>", "(ZIIIJ)V"⟩ prog_2_method_1_code 7 none ∈ xTs := xTs_in (tk5 (List.mem_of_getElem? (i := 59) (by decide +kernel))) rfl
theorem mw795 : Cond.fieldLink "ZonedFabric$Command" 32 "ZonedFabric$Command" "first" "J" ∈ xTs := xTs_in (tk5 (List.mem_of_getElem? (i := 68) (by decide +kernel))) rfl
theorem mw796 : Cond.methodLink "ZonedFabric$Command" 3 ⟨"java/lang/Object", "<init>", "()V"⟩ ∈ xTs := xTs_in (tk5 (List.mem_of_getElem? (i := 60) (by decide +kernel))) rfl
theorem mw797 : Cond.code ⟨"ZonedFabric$Host", "begin", "(LZonedFabric$Command;)V"⟩ prog_6_method_3_code 2 none ∈ xTs := xTs_in (tk5 (List.mem_of_getElem? (i := 123) (by decide +kernel))) rfl
theorem mw798 : Cond.fieldLink "ZonedFabric$Host" 42 "ZonedFabric$Host" "hadCommand" "Z" ∈ xTs := xTs_in (tk2 (List.mem_of_getElem? (i := 37) (by decide +kernel))) rfl
theorem mw799 : Cond.code ⟨"ZonedFabric", "begin", "(IILZonedFabric$Command;)I"⟩ prog_1_method_32_code 4 (some FieldType.int) ∈ xTs := xTs_in (tk5 (List.mem_of_getElem? (i := 119) (by decide +kernel))) rfl
theorem mw800 : Cond.fieldLink "ZonedFabric" 262 "ZonedFabric$Command" "number" "I" ∈ xTs := xTs_in (tk5 (List.mem_of_getElem? (i := 74) (by decide +kernel))) rfl
theorem mw801 : Cond.fieldLink "ZonedFabric" 265 "ZonedFabric$Command" "disc" "I" ∈ xTs := xTs_in (tk5 (List.mem_of_getElem? (i := 76) (by decide +kernel))) rfl
theorem mw802 : Cond.methodLink "ZonedFabric" 267 ⟨"ZonedFabric$Host", "begin", "(LZonedFabric$Command;)V"⟩ ∈ xTs := xTs_in (tk5 (List.mem_of_getElem? (i := 120) (by decide +kernel))) rfl
theorem mw803 : Cond.instanceMethod ⟨"ZonedFabric$Host", "begin", "(LZonedFabric$Command;)V"⟩ ∈ xTs := xTs_in (tk5 (List.mem_of_getElem? (i := 121) (by decide +kernel))) rfl
theorem mw804 : Cond.selects "ZonedFabric$Host" ⟨"ZonedFabric$Host", "begin", "(LZonedFabric$Command;)V"⟩ ⟨"ZonedFabric$Host", "begin", "(LZonedFabric$Command;)V"⟩ ∈ xTs := xTs_in (tk5 (List.mem_of_getElem? (i := 122) (by decide +kernel))) rfl
theorem mw805 : Cond.code ⟨"ZonedFabric", "read", "(IIIII)I"⟩ prog_1_method_11_code 6 (some FieldType.int) ∈ xTs := xTs_in (tk5 (List.mem_of_getElem? (i := 39) (by decide +kernel))) rfl
theorem mw806 : Cond.methodLink "ZonedFabric" 146 ⟨"ZonedFabric", "canBegin", "(IIIII)Z"⟩ ∈ xTs := xTs_in (tk5 (List.mem_of_getElem? (i := 40) (by decide +kernel))) rfl
theorem mw807 : Cond.instanceMethod ⟨"ZonedFabric", "canBegin", "(IIIII)Z"⟩ ∈ xTs := xTs_in (tk5 (List.mem_of_getElem? (i := 42) (by decide +kernel))) rfl
theorem mw808 : Cond.selects "ZonedFabric" ⟨"ZonedFabric", "canBegin", "(IIIII)Z"⟩ ⟨"ZonedFabric", "canBegin", "(IIIII)Z"⟩ ∈ xTs := xTs_in (List.mem_append_left _ (List.mem_of_getElem? (i := 53) (by decide +kernel))) rfl
theorem mw809 : Cond.instantiable "ZonedFabric$Command" 14 ∈ xTs := xTs_in (tk5 (List.mem_of_getElem? (i := 56) (by decide +kernel))) rfl
theorem mw810 : Cond.methodLink "ZonedFabric" 150 ⟨"ZonedFabric$Command", "<init>", "(ZIIIJ)V"⟩ ∈ xTs := xTs_in (tk5 (List.mem_of_getElem? (i := 57) (by decide +kernel))) rfl
theorem mw811 : Cond.instanceMethod ⟨"ZonedFabric$Command", "<init>", "(ZIIIJ)V"⟩ ∈ xTs := xTs_in (tk5 (List.mem_of_getElem? (i := 58) (by decide +kernel))) rfl
theorem mw812 : Cond.methodLink "ZonedFabric" 153 ⟨"ZonedFabric", "begin", "(IILZonedFabric$Command;)I"⟩ ∈ xTs := xTs_in (tk5 (List.mem_of_getElem? (i := 116) (by decide +kernel))) rfl
theorem mw813 : Cond.instanceMethod ⟨"ZonedFabric", "begin", "(IILZonedFabric$Command;)I"⟩ ∈ xTs := xTs_in (tk5 (List.mem_of_getElem? (i := 118) (by decide +kernel))) rfl
theorem mw814 : Cond.selects "ZonedFabric" ⟨"ZonedFabric", "begin", "(IILZonedFabric$Command;)I"⟩ ⟨"ZonedFabric", "begin", "(IILZonedFabric$Command;)I"⟩ ∈ xTs := xTs_in (List.mem_append_left _ (List.mem_of_getElem? (i := 56) (by decide +kernel))) rfl
theorem mw815 : Cond.code ⟨"ZonedFabric", "write", "(IIIIIJ)I"⟩ prog_1_method_12_code 8 (some FieldType.int) ∈ xTs := xTs_in (tk5 (List.mem_of_getElem? (i := 127) (by decide +kernel))) rfl
theorem mw816 : Cond.code ⟨"ZonedFabric", "isCommand", "(I)Z"⟩ prog_1_method_26_code 2 (some FieldType.boolean) ∈ xTs := xTs_in (tk5 (List.mem_of_getElem? (i := 135) (by decide +kernel))) rfl
theorem mw817 : Cond.code ⟨"ZonedFabric", "status", "(I)I"⟩ prog_1_method_13_code 2 (some FieldType.int) ∈ xTs := xTs_in (tk5 (List.mem_of_getElem? (i := 131) (by decide +kernel))) rfl
theorem mw818 : Cond.methodLink "ZonedFabric" 157 ⟨"ZonedFabric", "isCommand", "(I)Z"⟩ ∈ xTs := xTs_in (tk5 (List.mem_of_getElem? (i := 132) (by decide +kernel))) rfl
theorem mw819 : Cond.instanceMethod ⟨"ZonedFabric", "isCommand", "(I)Z"⟩ ∈ xTs := xTs_in (tk5 (List.mem_of_getElem? (i := 134) (by decide +kernel))) rfl
theorem mw820 : Cond.selects "ZonedFabric" ⟨"ZonedFabric", "isCommand", "(I)Z"⟩ ⟨"ZonedFabric", "isCommand", "(I)Z"⟩ ∈ xTs := xTs_in (List.mem_append_left _ (List.mem_of_getElem? (i := 57) (by decide +kernel))) rfl
theorem mw821 : Cond.fieldLink "ZonedFabric" 160 "ZonedFabric$Command" "state" "I" ∈ xTs := xTs_in (tk5 (List.mem_of_getElem? (i := 80) (by decide +kernel))) rfl
theorem mw822 : Cond.code ⟨"ZonedFabric", "got", "(II)J"⟩ prog_1_method_14_code 3 (some FieldType.long) ∈ xTs := xTs_in (tk5 (List.mem_of_getElem? (i := 139) (by decide +kernel))) rfl
theorem mw823 : Cond.fieldLink "ZonedFabric" 163 "ZonedFabric$Command" "writes" "Z" ∈ xTs := xTs_in (tk5 (List.mem_of_getElem? (i := 63) (by decide +kernel))) rfl
theorem mw824 : Cond.fieldLink "ZonedFabric" 166 "ZonedFabric$Command" "came" "[J" ∈ xTs := xTs_in (tk5 (List.mem_of_getElem? (i := 71) (by decide +kernel))) rfl
theorem mw825 : Cond.code ⟨"ZonedFabric", "when", "(II)I"⟩ prog_1_method_15_code 3 (some FieldType.int) ∈ xTs := xTs_in (tk5 (List.mem_of_getElem? (i := 143) (by decide +kernel))) rfl
theorem mw826 : Cond.fieldLink "ZonedFabric" 170 "ZonedFabric$Command" "beganAt" "I" ∈ xTs := xTs_in (tk5 (List.mem_of_getElem? (i := 82) (by decide +kernel))) rfl
theorem mw827 : Cond.fieldLink "ZonedFabric" 173 "ZonedFabric$Command" "endedAt" "I" ∈ xTs := xTs_in (tk5 (List.mem_of_getElem? (i := 86) (by decide +kernel))) rfl
theorem mw828 : Cond.fieldLink "ZonedFabric" 176 "ZonedFabric$Command" "phaseAt" "I" ∈ xTs := xTs_in (tk5 (List.mem_of_getElem? (i := 84) (by decide +kernel))) rfl
theorem mw829 : Cond.code ⟨"ZonedFabric", "block", "(III)J"⟩ prog_1_method_16_code 4 (some FieldType.long) ∈ xTs := xTs_in (tk5 (List.mem_of_getElem? (i := 147) (by decide +kernel))) rfl
theorem mw830 : Cond.fieldLink "ZonedFabric" 184 "ZonedFabric$Disc" "blocks" "[J" ∈ xTs := xTs_in (tk2 (List.mem_of_getElem? (i := 138) (by decide +kernel))) rfl
theorem mw831 : Cond.constantLong "ZonedFabric" 182 (-9223372036854775808) ∈ xTs := xTs_in (tk5 (List.mem_of_getElem? (i := 148) (by decide +kernel))) rfl
theorem mw832 : Cond.code ⟨"ZonedFabric", "way", "(II)I"⟩ prog_1_method_17_code 4 (some FieldType.int) ∈ xTs := xTs_in (tk5 (List.mem_of_getElem? (i := 152) (by decide +kernel))) rfl
theorem mw833 : Cond.fieldLink "ZonedFabric" 187 "ZonedFabric$Switch" "off" "Z" ∈ xTs := xTs_in (tk1 (List.mem_of_getElem? (i := 206) (by decide +kernel))) rfl
theorem mw834 : Cond.methodLink "ZonedFabric" 190 ⟨"ZonedFabric$Switch", "wayTo", "(I)I"⟩ ∈ xTs := xTs_in (tk5 (List.mem_of_getElem? (i := 153) (by decide +kernel))) rfl
theorem mw835 : Cond.code ⟨"ZonedFabric$Notice", "nodesTold", "()I"⟩ prog_8_method_13_code 1 (some FieldType.int) ∈ xTs := xTs_in (tk5 (List.mem_of_getElem? (i := 165) (by decide +kernel))) rfl
theorem mw836 : Cond.code ⟨"ZonedFabric", "record", "(III)I"⟩ prog_1_method_18_code 5 (some FieldType.int) ∈ xTs := xTs_in (tk5 (List.mem_of_getElem? (i := 157) (by decide +kernel))) rfl
theorem mw837 : Cond.fieldLink "ZonedFabric" 194 "ZonedFabric$Switch" "notices" "[LZonedFabric$Notice;" ∈ xTs := xTs_in (tk1 (List.mem_of_getElem? (i := 199) (by decide +kernel))) rfl
theorem mw838 : Cond.methodLink "ZonedFabric" 198 ⟨"ZonedFabric$Notice", "isKept", "()Z"⟩ ∈ xTs := xTs_in (tk5 (List.mem_of_getElem? (i := 158) (by decide +kernel))) rfl
theorem mw839 : Cond.methodLink "ZonedFabric" 204 ⟨"ZonedFabric$Notice", "issue", "()I"⟩ ∈ xTs := xTs_in (tk5 (List.mem_of_getElem? (i := 159) (by decide +kernel))) rfl
theorem mw840 : Cond.methodLink "ZonedFabric" 207 ⟨"ZonedFabric$Notice", "domainTold", "()I"⟩ ∈ xTs := xTs_in (tk5 (List.mem_of_getElem? (i := 160) (by decide +kernel))) rfl
theorem mw841 : Cond.methodLink "ZonedFabric" 210 ⟨"ZonedFabric$Notice", "neighbours", "()I"⟩ ∈ xTs := xTs_in (tk5 (List.mem_of_getElem? (i := 161) (by decide +kernel))) rfl
theorem mw842 : Cond.methodLink "ZonedFabric" 213 ⟨"ZonedFabric$Notice", "nodesTold", "()I"⟩ ∈ xTs := xTs_in (tk5 (List.mem_of_getElem? (i := 162) (by decide +kernel))) rfl
theorem mw843 : Cond.instanceMethod ⟨"ZonedFabric$Notice", "nodesTold", "()I"⟩ ∈ xTs := xTs_in (tk5 (List.mem_of_getElem? (i := 163) (by decide +kernel))) rfl
theorem mw844 : Cond.selects "ZonedFabric$Notice" ⟨"ZonedFabric$Notice", "nodesTold", "()I"⟩ ⟨"ZonedFabric$Notice", "nodesTold", "()I"⟩ ∈ xTs := xTs_in (tk5 (List.mem_of_getElem? (i := 164) (by decide +kernel))) rfl
theorem mw845 : Cond.fieldLink "ZonedFabric" 216 "ZonedFabric$Notice" "keptAt" "I" ∈ xTs := xTs_in (tk1 (List.mem_of_getElem? (i := 89) (by decide +kernel))) rfl
theorem mw846 : Cond.code ⟨"ZonedFabric$Port", "whoIsThere", "()I"⟩ prog_10_method_7_code 1 (some FieldType.int) ∈ xTs := xTs_in (tk5 (List.mem_of_getElem? (i := 173) (by decide +kernel))) rfl
theorem mw847 : Cond.methodLink "ZonedFabric$Port" 82 ⟨"ZonedFabric$Port", "nodeThere", "()I"⟩ ∈ xTs := xTs_in (tk5 (List.mem_of_getElem? (i := 174) (by decide +kernel))) rfl
theorem mw848 : Cond.code ⟨"ZonedFabric", "port", "(III)I"⟩ prog_1_method_19_code 5 (some FieldType.int) ∈ xTs := xTs_in (tk5 (List.mem_of_getElem? (i := 169) (by decide +kernel))) rfl
theorem mw849 : Cond.fieldLink "ZonedFabric" 219 "ZonedFabric$Port" "credits" "I" ∈ xTs := xTs_in (tk1 (List.mem_of_getElem? (i := 142) (by decide +kernel))) rfl
theorem mw850 : Cond.fieldLink "ZonedFabric" 222 "ZonedFabric$Port" "buffers" "LZonedFabric$FrameLine;" ∈ xTs := xTs_in (tk1 (List.mem_of_getElem? (i := 152) (by decide +kernel))) rfl
theorem mw851 : Cond.fieldLink "ZonedFabric" 226 "ZonedFabric$FrameLine" "size" "I" ∈ xTs := xTs_in (tk1 (List.mem_of_getElem? (i := 120) (by decide +kernel))) rfl
theorem mw852 : Cond.fieldLink "ZonedFabric" 231 "ZonedFabric$Port" "queue" "LZonedFabric$FrameLine;" ∈ xTs := xTs_in (tk1 (List.mem_of_getElem? (i := 148) (by decide +kernel))) rfl
theorem mw853 : Cond.methodLink "ZonedFabric" 234 ⟨"ZonedFabric$Port", "whoIsThere", "()I"⟩ ∈ xTs := xTs_in (tk5 (List.mem_of_getElem? (i := 170) (by decide +kernel))) rfl
theorem mw854 : Cond.instanceMethod ⟨"ZonedFabric$Port", "whoIsThere", "()I"⟩ ∈ xTs := xTs_in (tk5 (List.mem_of_getElem? (i := 171) (by decide +kernel))) rfl
theorem mw855 : Cond.selects "ZonedFabric$Port" ⟨"ZonedFabric$Port", "whoIsThere", "()I"⟩ ⟨"ZonedFabric$Port", "whoIsThere", "()I"⟩ ∈ xTs := xTs_in (tk5 (List.mem_of_getElem? (i := 172) (by decide +kernel))) rfl
/-! ZF.Switch.turn()V -/
def ym138 : MethodName := ⟨"ZonedFabric$Switch", "turn", "()V"⟩
theorem cd138 : xCd ym138 prog_12_method_2_code 3 none 0 := ⟨mw751, mw51, by decide, by decide, by decide +kernel⟩
def b138_0 (a0 : Nat) (M : hM) : Option xRes :=
  Option.bind (g_o M 10 (some a0)) fun b_3 =>
  Option.bind (c_V (f95 [.inr (.inr (some b_3))] M)) fun q_1 =>
  Option.bind (g_o q_1 10 (some a0)) fun b_7 =>
  Option.bind (c_V (f111 [.inr (.inr (some b_7))] q_1)) fun q_5 =>
  Option.bind (g_o q_5 10 (some a0)) fun b_11 =>
  Option.bind (c_V (f113 [.inr (.inr (some b_11))] q_5)) fun q_9 =>
  Option.bind (g_o q_9 10 (some a0)) fun b_15 =>
  Option.bind (c_V (f124 [.inr (.inr (some b_15))] q_9)) fun q_13 =>
  Option.bind (g_r q_13 10 0 (some a0)) fun o_17 =>
  Option.bind (g_i q_13 9 3 o_17) fun v_19 =>
  some (.inr (29, [.inr (.inr (some a0)), .inl (v_19 &&& (7 : Int32)), .inl (0 : Int32)], q_13))
def b138_29 (a0 : Nat) (v1 : Int32) (v2 : Int32) (M : hM) : Option xRes :=
  if (8 : Int32) ≤ v2 then
    (some (.inr (57, [.inr (.inr (some a0)), .inl v1, .inl (0 : Int32)], M)))
  else
    (Option.bind (g_r M 10 2 (some a0)) fun o_21 =>
    Option.bind (d_m (v1 + v2) (8 : Int32)) fun v_23 =>
    Option.bind (al_r M 38 o_21 v_23) fun o_25 =>
    Option.bind (g_o M 8 o_25) fun b_29 =>
    Option.bind (c_V (f45 [.inr (.inr (some b_29))] M)) fun q_27 =>
    some (.inr (29, [.inr (.inr (some a0)), .inl v1, .inl (v2 + (1 : Int32))], q_27)))
def b138_57 (a0 : Nat) (v1 : Int32) (v2 : Int32) (M : hM) : Option xRes :=
  if (8 : Int32) ≤ v2 then
    (some (.inl (none, M)))
  else
    (Option.bind (g_r M 10 2 (some a0)) fun o_32 =>
    Option.bind (d_m (v1 + v2) (8 : Int32)) fun v_34 =>
    Option.bind (al_r M 38 o_32 v_34) fun o_36 =>
    Option.bind (g_o M 10 (some a0)) fun b_40 =>
    Option.bind (c_V (f137 [.inr (.inr (some b_40)), .inr (.inr o_36)] M)) fun q_38 =>
    some (.inr (57, [.inr (.inr (some a0)), .inl v1, .inl (v2 + (1 : Int32))], q_38)))
def k138 (h : Nat) (as : List aV) (M : hM) : Option xRes :=
  if h = 29 then (match as with | [.inr (.inr (some a0)), .inl v1, .inl v2] => b138_29 a0 v1 v2 M | _ => none) else
  if h = 57 then (match as with | [.inr (.inr (some a0)), .inl v1, .inl v2] => b138_57 a0 v1 v2 M | _ => none) else
  none
def f138 (as : List aV) (M : hM) : xO := match as with
  | [.inr (.inr (some a0))] => x_go k138 (b138_0 a0 M)
  | _ => none
theorem lb138_0 (G : gX) (l : Launch) (a0 : Nat) (M : hM) {res : xRes} (h : b138_0 a0 M = some res) : h_sz M ≤ r_sz res ∧ h_sl M ≤ r_sl res := by
  unfold b138_0 at h
  obtain ⟨b_3, h4, h⟩ := bd h
  obtain ⟨q_1, h2, h⟩ := bd h
  have eh2 := (t95 G l (c_V_some h2)).1
  obtain ⟨b_7, h8, h⟩ := bd h
  obtain ⟨q_5, h6, h⟩ := bd h
  have eh6 := (t111 G l (c_V_some h6)).1
  obtain ⟨b_11, h12, h⟩ := bd h
  obtain ⟨q_9, h10, h⟩ := bd h
  have eh10 := (t113 G l (c_V_some h10)).1
  obtain ⟨b_15, h16, h⟩ := bd h
  obtain ⟨q_13, h14, h⟩ := bd h
  have eh14 := (t124 G l (c_V_some h14)).1
  obtain ⟨o_17, h18, h⟩ := bd h
  obtain ⟨v_19, h20, h⟩ := bd h
  obtain rfl := Option.some.inj h
  show h_sz M ≤ h_sz q_13 ∧ h_sl M ≤ h_sl q_13
  omega
theorem lb138_29 (G : gX) (l : Launch) (a0 : Nat) (v1 : Int32) (v2 : Int32) (M : hM) {res : xRes} (h : b138_29 a0 v1 v2 M = some res) : h_sz M ≤ r_sz res ∧ h_sl M ≤ r_sl res := by
  unfold b138_29 at h
  by_cases q31 : (8 : Int32) ≤ v2
  · rw [if_pos q31] at h
    obtain rfl := Option.some.inj h
    show h_sz M ≤ h_sz M ∧ h_sl M ≤ h_sl M
    omega
  · rw [if_neg q31] at h
    obtain ⟨o_21, h22, h⟩ := bd h
    obtain ⟨v_23, h24, h⟩ := bd h
    obtain ⟨o_25, h26, h⟩ := bd h
    obtain ⟨b_29, h30, h⟩ := bd h
    obtain ⟨q_27, h28, h⟩ := bd h
    have eh28 := (t45 G l (c_V_some h28)).1
    obtain rfl := Option.some.inj h
    show h_sz M ≤ h_sz q_27 ∧ h_sl M ≤ h_sl q_27
    omega
theorem lb138_57 (G : gX) (l : Launch) (a0 : Nat) (v1 : Int32) (v2 : Int32) (M : hM) {res : xRes} (h : b138_57 a0 v1 v2 M = some res) : h_sz M ≤ r_sz res ∧ h_sl M ≤ r_sl res := by
  unfold b138_57 at h
  by_cases q42 : (8 : Int32) ≤ v2
  · rw [if_pos q42] at h
    obtain rfl := Option.some.inj h
    show h_sz M ≤ h_sz M ∧ h_sl M ≤ h_sl M
    omega
  · rw [if_neg q42] at h
    obtain ⟨o_32, h33, h⟩ := bd h
    obtain ⟨v_34, h35, h⟩ := bd h
    obtain ⟨o_36, h37, h⟩ := bd h
    obtain ⟨b_40, h41, h⟩ := bd h
    obtain ⟨q_38, h39, h⟩ := bd h
    have eh39 := (t137 G l (c_V_some h39)).1
    obtain rfl := Option.some.inj h
    show h_sz M ≤ h_sz q_38 ∧ h_sl M ≤ h_sl q_38
    omega
section
variable {p : Program} {l : Launch} {e : Env} {s : State} {m : MethodId} {args : Array Value} {below : List Frame} {meth : Method} {c : Code} {G : gX} {z0 y0 : Nat} {r : Option aV} {M' : hM}
def pg138 (p : Program) (l : Launch) (e : Env) (s : State) (m : MethodId) (args : Array Value) (below : List Frame) (meth : Method) (c : Code) (G : gX) (z0 y0 : Nat) (r : Option aV) (M' : hM) (h : Nat) (as : List aV) (M : hM) : Prop :=
  if h = 29 then (match as with | [.inr (.inr (some a0)), .inl v1, .inl v2] => xV G p l e (xRm 7 (h_sz M' - z0) (h_sl M' - y0)) s m args below meth c z0 y0 (h_sz M') (h_sl M') 3 (MQ below (xQc G r M') args s (h_sz M' - z0) (h_sl M' - y0) (xFr G)) 29 [(0, .inr (.inr (some a0))), (1, .inl v1), (2, .inl v2)] [] M | _ => False) else
  if h = 57 then (match as with | [.inr (.inr (some a0)), .inl v1, .inl v2] => xV G p l e (xRm 7 (h_sz M' - z0) (h_sl M' - y0)) s m args below meth c z0 y0 (h_sz M') (h_sl M') 3 (MQ below (xQc G r M') args s (h_sz M' - z0) (h_sl M' - y0) (xFr G)) 57 [(0, .inr (.inr (some a0))), (1, .inl v1), (2, .inl v2)] [] M | _ => False) else
  False
theorem sb138_0 (E : xE G p (xRm 7 (h_sz M' - z0) (h_sl M' - y0)) s m args c prog_12_method_2_code "ZonedFabric$Switch" z0 y0 (h_sz M') (h_sl M') 3) (B : xB ym138 none meth) (a0 : Nat) (M : hM) {res : xRes} (h : b138_0 a0 M = some res) (hN : xN (pg138 p l e s m args below meth c G z0 y0 r M') r M' res) : xV G p l e (xRm 7 (h_sz M' - z0) (h_sl M' - y0)) s m args below meth c z0 y0 (h_sz M') (h_sl M') 3 (MQ below (xQc G r M') args s (h_sz M' - z0) (h_sl M' - y0) (xFr G)) 0 [(0, .inr (.inr (some a0)))] [] M := by
  unfold b138_0 at h
  refine xv_b E [.aload_n 0] (pc' := 1) (lv' := [(0, .inr (.inr (some a0)))]) (st' := [.inr (.inr (some a0))]) (by decide +kernel) rfl rfl ?_
  obtain ⟨b_3, h4, h⟩ := bd h
  obtain ⟨eh4, th4⟩ := g_o_some h4
  obtain ⟨q_1, h2, h⟩ := bd h
  refine xv_cvo E eh4 10 (as := []) (t95 G l (c_V_some h2)) cd95 mw752 mw753 mw754 (show decode prog_12_method_2_code 1 = .ok (.invokevirtual 62, 3) by decide +kernel) th4 rfl rfl (Nat.le_of_ble_eq_true rfl) ⟨Nat.le_of_ble_eq_true rfl, Nat.le_of_ble_eq_true rfl⟩ ?_
  refine xv_b E [.aload_n 0] (pc' := 5) (lv' := [(0, .inr (.inr (some a0)))]) (st' := [.inr (.inr (some a0))]) (by decide +kernel) rfl rfl ?_
  obtain ⟨b_7, h8, h⟩ := bd h
  obtain ⟨eh8, th8⟩ := g_o_some h8
  obtain ⟨q_5, h6, h⟩ := bd h
  refine xv_cvo E eh8 10 (as := []) (t111 G l (c_V_some h6)) cd111 mw755 mw756 mw757 (show decode prog_12_method_2_code 5 = .ok (.invokevirtual 65, 3) by decide +kernel) th8 rfl rfl (Nat.le_of_ble_eq_true rfl) ⟨Nat.le_of_ble_eq_true rfl, Nat.le_of_ble_eq_true rfl⟩ ?_
  refine xv_b E [.aload_n 0] (pc' := 9) (lv' := [(0, .inr (.inr (some a0)))]) (st' := [.inr (.inr (some a0))]) (by decide +kernel) rfl rfl ?_
  obtain ⟨b_11, h12, h⟩ := bd h
  obtain ⟨eh12, th12⟩ := g_o_some h12
  obtain ⟨q_9, h10, h⟩ := bd h
  refine xv_cvo E eh12 10 (as := []) (t113 G l (c_V_some h10)) cd113 mw758 mw759 mw760 (show decode prog_12_method_2_code 9 = .ok (.invokevirtual 68, 3) by decide +kernel) th12 rfl rfl (Nat.le_of_ble_eq_true rfl) ⟨Nat.le_of_ble_eq_true rfl, Nat.le_of_ble_eq_true rfl⟩ ?_
  refine xv_b E [.aload_n 0] (pc' := 13) (lv' := [(0, .inr (.inr (some a0)))]) (st' := [.inr (.inr (some a0))]) (by decide +kernel) rfl rfl ?_
  obtain ⟨b_15, h16, h⟩ := bd h
  obtain ⟨eh16, th16⟩ := g_o_some h16
  obtain ⟨q_13, h14, h⟩ := bd h
  refine xv_cvo E eh16 10 (as := []) (t124 G l (c_V_some h14)) cd124 mw761 mw762 mw763 (show decode prog_12_method_2_code 13 = .ok (.invokevirtual 71, 3) by decide +kernel) th16 rfl rfl (Nat.le_of_ble_eq_true rfl) ⟨Nat.le_of_ble_eq_true rfl, Nat.le_of_ble_eq_true rfl⟩ ?_
  refine xv_b E [.aload_n 0] (pc' := 17) (lv' := [(0, .inr (.inr (some a0)))]) (st' := [.inr (.inr (some a0))]) (by decide +kernel) rfl rfl ?_
  obtain ⟨o_17, h18, h⟩ := bd h
  refine xg_r E 10 0 h18 mw60 (show decode prog_12_method_2_code 17 = .ok (.getfield 34, 3) by decide +kernel) ?_
  obtain ⟨v_19, h20, h⟩ := bd h
  refine xg_i E 9 3 h20 mw620 (show decode prog_12_method_2_code 20 = .ok (.getfield 74, 3) by decide +kernel) ?_
  refine xv_b E [.bipush 7, .iand, .istore_n 1, .iconst 0, .istore_n 2] (pc' := 29) (lv' := [(2, .inl (0 : Int32)), (1, .inl (v_19 &&& (7 : Int32))), (0, .inr (.inr (some a0)))]) (st' := []) (by decide +kernel) rfl rfl ?_
  obtain rfl := Option.some.inj h
  exact xv_w hN rfl
theorem sb138_29 (E : xE G p (xRm 7 (h_sz M' - z0) (h_sl M' - y0)) s m args c prog_12_method_2_code "ZonedFabric$Switch" z0 y0 (h_sz M') (h_sl M') 3) (B : xB ym138 none meth) (a0 : Nat) (v1 : Int32) (v2 : Int32) (M : hM) {res : xRes} (h : b138_29 a0 v1 v2 M = some res) (hN : xN (pg138 p l e s m args below meth c G z0 y0 r M') r M' res) : xV G p l e (xRm 7 (h_sz M' - z0) (h_sl M' - y0)) s m args below meth c z0 y0 (h_sz M') (h_sl M') 3 (MQ below (xQc G r M') args s (h_sz M' - z0) (h_sl M' - y0) (xFr G)) 29 [(0, .inr (.inr (some a0))), (1, .inl v1), (2, .inl v2)] [] M := by
  unfold b138_29 at h
  refine xv_b E [.iload_n 2, .bipush 8] (pc' := 32) (lv' := [(0, .inr (.inr (some a0))), (1, .inl v1), (2, .inl v2)]) (st' := [.inl (8 : Int32), .inl v2]) (by decide +kernel) rfl rfl ?_
  by_cases q31 : (8 : Int32) ≤ v2
  · rw [if_pos q31] at h
    refine xv_icmp_ge E 55 (show decode prog_12_method_2_code 32 = .ok (.if_icmp .ge (23), 3) by decide +kernel) rfl (fun _ => ?_) (fun z => absurd q31 z)
    refine xv_b E [.iconst 0, .istore_n 2] (pc' := 57) (lv' := [(2, .inl (0 : Int32)), (0, .inr (.inr (some a0))), (1, .inl v1)]) (st' := []) (by decide +kernel) rfl rfl ?_
    obtain rfl := Option.some.inj h
    exact xv_w hN rfl
  · rw [if_neg q31] at h
    refine xv_icmp_ge E 55 (show decode prog_12_method_2_code 32 = .ok (.if_icmp .ge (23), 3) by decide +kernel) rfl (fun z => absurd z q31) (fun _ => ?_)
    refine xv_b E [.aload_n 0] (pc' := 36) (lv' := [(0, .inr (.inr (some a0))), (1, .inl v1), (2, .inl v2)]) (st' := [.inr (.inr (some a0))]) (by decide +kernel) rfl rfl ?_
    obtain ⟨o_21, h22, h⟩ := bd h
    refine xg_r E 10 2 h22 mw53 (show decode prog_12_method_2_code 36 = .ok (.getfield 11, 3) by decide +kernel) ?_
    refine xv_b E [.iload_n 1, .iload_n 2, .iadd, .bipush 8] (pc' := 44) (lv' := [(0, .inr (.inr (some a0))), (1, .inl v1), (2, .inl v2)]) (st' := [.inl (8 : Int32), .inl (v1 + v2), .inr (.inr o_21)]) (by decide +kernel) rfl rfl ?_
    obtain ⟨v_23, h24, h⟩ := bd h
    refine xd_m E h24 (show decode prog_12_method_2_code 44 = .ok (.irem, 1) by decide +kernel) ?_
    obtain ⟨o_25, h26, h⟩ := bd h
    refine xa_r E 38 h26 (show decode prog_12_method_2_code 45 = .ok (.aaload, 1) by decide +kernel) ?_
    obtain ⟨b_29, h30, h⟩ := bd h
    obtain ⟨eh30, th30⟩ := g_o_some h30
    obtain ⟨q_27, h28, h⟩ := bd h
    refine xv_cvo E eh30 8 (as := []) (t45 G l (c_V_some h28)) cd45 mw764 mw551 mw552 (show decode prog_12_method_2_code 46 = .ok (.invokevirtual 77, 3) by decide +kernel) th30 rfl rfl (Nat.le_of_ble_eq_true rfl) ⟨Nat.le_of_ble_eq_true rfl, Nat.le_of_ble_eq_true rfl⟩ ?_
    refine xv_b E [.iinc 2 1] (pc' := 52) (lv' := [(2, .inl (v2 + (1 : Int32))), (0, .inr (.inr (some a0))), (1, .inl v1)]) (st' := []) (by decide +kernel) rfl rfl ?_
    refine xv_goto E 29 (show decode prog_12_method_2_code 52 = .ok (.goto (-23), 3) by decide +kernel) rfl ?_
    obtain rfl := Option.some.inj h
    exact xv_w hN rfl
theorem sb138_57 (E : xE G p (xRm 7 (h_sz M' - z0) (h_sl M' - y0)) s m args c prog_12_method_2_code "ZonedFabric$Switch" z0 y0 (h_sz M') (h_sl M') 3) (B : xB ym138 none meth) (a0 : Nat) (v1 : Int32) (v2 : Int32) (M : hM) {res : xRes} (h : b138_57 a0 v1 v2 M = some res) (hN : xN (pg138 p l e s m args below meth c G z0 y0 r M') r M' res) : xV G p l e (xRm 7 (h_sz M' - z0) (h_sl M' - y0)) s m args below meth c z0 y0 (h_sz M') (h_sl M') 3 (MQ below (xQc G r M') args s (h_sz M' - z0) (h_sl M' - y0) (xFr G)) 57 [(0, .inr (.inr (some a0))), (1, .inl v1), (2, .inl v2)] [] M := by
  unfold b138_57 at h
  refine xv_b E [.iload_n 2, .bipush 8] (pc' := 60) (lv' := [(0, .inr (.inr (some a0))), (1, .inl v1), (2, .inl v2)]) (st' := [.inl (8 : Int32), .inl v2]) (by decide +kernel) rfl rfl ?_
  by_cases q42 : (8 : Int32) ≤ v2
  · rw [if_pos q42] at h
    refine xv_icmp_ge E 84 (show decode prog_12_method_2_code 60 = .ok (.if_icmp .ge (24), 3) by decide +kernel) rfl (fun _ => ?_) (fun z => absurd q42 z)
    obtain rfl := Option.some.inj h
    obtain ⟨rfl, rfl⟩ := Prod.mk.inj (show ((none : Option aV), M) = (r, M') from hN)
    exact xv_rv E B.1 B.2.1 (show decode prog_12_method_2_code 84 = .ok (.return_, 1) by decide +kernel) rfl rfl
  · rw [if_neg q42] at h
    refine xv_icmp_ge E 84 (show decode prog_12_method_2_code 60 = .ok (.if_icmp .ge (24), 3) by decide +kernel) rfl (fun z => absurd z q42) (fun _ => ?_)
    refine xv_b E [.aload_n 0, .aload_n 0] (pc' := 65) (lv' := [(0, .inr (.inr (some a0))), (1, .inl v1), (2, .inl v2)]) (st' := [.inr (.inr (some a0)), .inr (.inr (some a0))]) (by decide +kernel) rfl rfl ?_
    obtain ⟨o_32, h33, h⟩ := bd h
    refine xg_r E 10 2 h33 mw53 (show decode prog_12_method_2_code 65 = .ok (.getfield 11, 3) by decide +kernel) ?_
    refine xv_b E [.iload_n 1, .iload_n 2, .iadd, .bipush 8] (pc' := 73) (lv' := [(0, .inr (.inr (some a0))), (1, .inl v1), (2, .inl v2)]) (st' := [.inl (8 : Int32), .inl (v1 + v2), .inr (.inr o_32), .inr (.inr (some a0))]) (by decide +kernel) rfl rfl ?_
    obtain ⟨v_34, h35, h⟩ := bd h
    refine xd_m E h35 (show decode prog_12_method_2_code 73 = .ok (.irem, 1) by decide +kernel) ?_
    obtain ⟨o_36, h37, h⟩ := bd h
    refine xa_r E 38 h37 (show decode prog_12_method_2_code 74 = .ok (.aaload, 1) by decide +kernel) ?_
    obtain ⟨b_40, h41, h⟩ := bd h
    obtain ⟨eh41, th41⟩ := g_o_some h41
    obtain ⟨q_38, h39, h⟩ := bd h
    refine xv_cvo E eh41 10 (as := [.inr (.inr o_36)]) (t137 G l (c_V_some h39)) cd137 mw765 mw766 mw767 (show decode prog_12_method_2_code 75 = .ok (.invokevirtual 80, 3) by decide +kernel) th41 rfl rfl (Nat.le_of_ble_eq_true rfl) ⟨Nat.le_of_ble_eq_true rfl, Nat.le_of_ble_eq_true rfl⟩ ?_
    refine xv_b E [.iinc 2 1] (pc' := 81) (lv' := [(2, .inl (v2 + (1 : Int32))), (0, .inr (.inr (some a0))), (1, .inl v1)]) (st' := []) (by decide +kernel) rfl rfl ?_
    refine xv_goto E 57 (show decode prog_12_method_2_code 81 = .ok (.goto (-24), 3) by decide +kernel) rfl ?_
    obtain rfl := Option.some.inj h
    exact xv_w hN rfl
end
theorem t138 (G : gX) (l : Launch) {as : List aV} {M : hM} {r : Option aV} {M' : hM} (h : f138 as M = some (r, M')) : xM G l ym138 prog_12_method_2_code 3 none 7 as M r M' := by
  unfold f138 at h
  split at h
  · have hle : ∀ h as M res, k138 h as M = some res → h_sz M ≤ r_sz res ∧ h_sl M ≤ r_sl res := by
      intro h as M res hb
      unfold k138 at hb
      by_cases e0 : h = 29
      · rw [if_pos e0] at hb
        split at hb
        · exact lb138_29 G l _ _ _ M hb
        · cases hb
      · rw [if_neg e0] at hb
        by_cases e1 : h = 57
        · rw [if_pos e1] at hb
          split at hb
          · exact lb138_57 G l _ _ _ M hb
          · cases hb
        · rw [if_neg e1] at hb
          cases hb
    obtain ⟨res, hx, hres⟩ := x_go_ok h
    refine xM_of (by decide) (Nat.le_of_ble_eq_true rfl) ?_ ?_
    · have e1 := lb138_0 G l _ M hx
      have e2 := x_go_le hle hres
      omega
    · intro p e s m args below meth c E B
      refine sb138_0 E B _ M hx (hres _ ?_)
      intro h as M res hb hN
      unfold k138 at hb
      unfold pg138
      by_cases e0 : h = 29
      · rw [if_pos e0] at hb ⊢
        split at hb
        · exact sb138_29 E B _ _ _ M hb hN
        · cases hb
      · rw [if_neg e0] at hb ⊢
        by_cases e1 : h = 57
        · rw [if_pos e1] at hb ⊢
          split at hb
          · exact sb138_57 E B _ _ _ M hb hN
          · cases hb
        · rw [if_neg e1] at hb ⊢
          cases hb
  · cases h
/-! ZF.Port.deliver()I -/
def ym139 : MethodName := ⟨"ZonedFabric$Port", "deliver", "()I"⟩
theorem cd139 : xCd ym139 prog_10_method_8_code 1 (some FieldType.int) 0 := ⟨mw768, mw14, by decide, by decide, by decide +kernel⟩
def b139_32  (M : hM) : Option xRes :=
  some (.inl (some (.inl (0 : Int32)), M))
def b139_0 (a0 : Nat) (M : hM) : Option xRes :=
  Option.bind (g_i M 8 6 (some a0)) fun v_1 =>
  Option.bind (g_i M 8 7 (some a0)) fun v_3 =>
  Option.bind (p_i M 8 6 (some a0) (v_1 + v_3)) fun M5 =>
  Option.bind (p_i M5 8 7 (some a0) (0 : Int32)) fun M7 =>
  Option.bind (g_r M7 8 8 (some a0)) fun o_9 =>
  if o_9 = none then
    (b139_32  M7)
  else
    (Option.bind (g_r M7 8 3 (some a0)) fun o_11 =>
    if o_11 = none then
      (b139_32  M7)
    else
      (Option.bind (g_r M7 8 3 (some a0)) fun o_13 =>
      Option.bind (g_r M7 8 10 o_13) fun o_15 =>
      Option.bind (g_r M7 8 8 (some a0)) fun o_17 =>
      Option.bind (g_o M7 3 o_15) fun b_21 =>
      Option.bind (c_V (f38 [.inr (.inr (some b_21)), .inr (.inr o_17)] M7)) fun q_19 =>
      Option.bind (p_r q_19 8 8 (some a0) none) fun M23 =>
      some (.inl (some (.inl (1 : Int32)), M23))))
def f139 (as : List aV) (M : hM) : xO := match as with
  | [.inr (.inr (some a0))] => x_out (b139_0 a0 M)
  | _ => none
theorem lb139_32 (G : gX) (l : Launch)  (M : hM) {res : xRes} (h : b139_32  M = some res) : h_sz M ≤ r_sz res ∧ h_sl M ≤ r_sl res := by
  unfold b139_32 at h
  obtain rfl := Option.some.inj h
  show h_sz M ≤ h_sz M ∧ h_sl M ≤ h_sl M
  omega
theorem lb139_0 (G : gX) (l : Launch) (a0 : Nat) (M : hM) {res : xRes} (h : b139_0 a0 M = some res) : h_sz M ≤ r_sz res ∧ h_sl M ≤ r_sl res := by
  unfold b139_0 at h
  obtain ⟨v_1, h2, h⟩ := bd h
  obtain ⟨v_3, h4, h⟩ := bd h
  obtain ⟨M5, h6, h⟩ := bd h
  have eh6 := p_i_sz h6
  obtain ⟨M7, h8, h⟩ := bd h
  have eh8 := p_i_sz h8
  obtain ⟨o_9, h10, h⟩ := bd h
  by_cases q26 : o_9 = none
  · rw [if_pos q26] at h
    have e := lb139_32 G l  M7 h
    omega
  · rw [if_neg q26] at h
    obtain ⟨o_11, h12, h⟩ := bd h
    by_cases q25 : o_11 = none
    · rw [if_pos q25] at h
      have e := lb139_32 G l  M7 h
      omega
    · rw [if_neg q25] at h
      obtain ⟨o_13, h14, h⟩ := bd h
      obtain ⟨o_15, h16, h⟩ := bd h
      obtain ⟨o_17, h18, h⟩ := bd h
      obtain ⟨b_21, h22, h⟩ := bd h
      obtain ⟨q_19, h20, h⟩ := bd h
      have eh20 := (t38 G l (c_V_some h20)).1
      obtain ⟨M23, h24, h⟩ := bd h
      have eh24 := p_r_sz h24
      obtain rfl := Option.some.inj h
      show h_sz M ≤ h_sz M23 ∧ h_sl M ≤ h_sl M23
      omega
section
variable {p : Program} {l : Launch} {e : Env} {s : State} {m : MethodId} {args : Array Value} {below : List Frame} {meth : Method} {c : Code} {G : gX} {z0 y0 : Nat} {r : Option aV} {M' : hM}
theorem sb139_32 (E : xE G p (xRm 1 (h_sz M' - z0) (h_sl M' - y0)) s m args c prog_10_method_8_code "ZonedFabric$Port" z0 y0 (h_sz M') (h_sl M') 1) (B : xB ym139 (some FieldType.int) meth)  (M : hM) {res : xRes} (h : b139_32  M = some res) (hN : xN (fun _ _ _ => False) r M' res) : xV G p l e (xRm 1 (h_sz M' - z0) (h_sl M' - y0)) s m args below meth c z0 y0 (h_sz M') (h_sl M') 1 (MQ below (xQc G r M') args s (h_sz M' - z0) (h_sl M' - y0) (xFr G)) 32 [] [] M := by
  unfold b139_32 at h
  refine xv_b E [.iconst 0] (pc' := 33) (lv' := []) (st' := [.inl (0 : Int32)]) (by decide +kernel) rfl rfl ?_
  obtain rfl := Option.some.inj h
  obtain ⟨rfl, rfl⟩ := Prod.mk.inj (show ((some (.inl (0 : Int32)) : Option aV), M) = (r, M') from hN)
  exact xv_ri E B.1 rfl B.2.1 (show decode prog_10_method_8_code 33 = .ok (.ireturn, 1) by decide +kernel) rfl rfl
theorem sb139_0 (E : xE G p (xRm 1 (h_sz M' - z0) (h_sl M' - y0)) s m args c prog_10_method_8_code "ZonedFabric$Port" z0 y0 (h_sz M') (h_sl M') 1) (B : xB ym139 (some FieldType.int) meth) (a0 : Nat) (M : hM) {res : xRes} (h : b139_0 a0 M = some res) (hN : xN (fun _ _ _ => False) r M' res) : xV G p l e (xRm 1 (h_sz M' - z0) (h_sl M' - y0)) s m args below meth c z0 y0 (h_sz M') (h_sl M') 1 (MQ below (xQc G r M') args s (h_sz M' - z0) (h_sl M' - y0) (xFr G)) 0 [(0, .inr (.inr (some a0)))] [] M := by
  unfold b139_0 at h
  refine xv_b E [.aload_n 0, .dup] (pc' := 2) (lv' := [(0, .inr (.inr (some a0)))]) (st' := [.inr (.inr (some a0)), .inr (.inr (some a0))]) (by decide +kernel) rfl rfl ?_
  obtain ⟨v_1, h2, h⟩ := bd h
  refine xg_i E 8 6 h2 mw136 (show decode prog_10_method_8_code 2 = .ok (.getfield 47, 3) by decide +kernel) ?_
  refine xv_b E [.aload_n 0] (pc' := 6) (lv' := [(0, .inr (.inr (some a0)))]) (st' := [.inr (.inr (some a0)), .inl v_1, .inr (.inr (some a0))]) (by decide +kernel) rfl rfl ?_
  obtain ⟨v_3, h4, h⟩ := bd h
  refine xg_i E 8 7 h4 mw156 (show decode prog_10_method_8_code 6 = .ok (.getfield 50, 3) by decide +kernel) ?_
  refine xv_b E [.iadd] (pc' := 10) (lv' := [(0, .inr (.inr (some a0)))]) (st' := [.inl (v_1 + v_3), .inr (.inr (some a0))]) (by decide +kernel) rfl rfl ?_
  obtain ⟨M5, h6, h⟩ := bd h
  refine xp_i E 8 6 h6 mw136 (show decode prog_10_method_8_code 10 = .ok (.putfield 47, 3) by decide +kernel) (Or.inl rfl) ?_
  refine xv_b E [.aload_n 0, .iconst 0] (pc' := 15) (lv' := [(0, .inr (.inr (some a0)))]) (st' := [.inl (0 : Int32), .inr (.inr (some a0))]) (by decide +kernel) rfl rfl ?_
  obtain ⟨M7, h8, h⟩ := bd h
  refine xp_i E 8 7 h8 mw156 (show decode prog_10_method_8_code 15 = .ok (.putfield 50, 3) by decide +kernel) (Or.inl rfl) ?_
  refine xv_b E [.aload_n 0] (pc' := 19) (lv' := [(0, .inr (.inr (some a0)))]) (st' := [.inr (.inr (some a0))]) (by decide +kernel) rfl rfl ?_
  obtain ⟨o_9, h10, h⟩ := bd h
  refine xg_r E 8 8 h10 mw159 (show decode prog_10_method_8_code 19 = .ok (.getfield 59, 3) by decide +kernel) ?_
  by_cases q26 : o_9 = none
  · rw [if_pos q26] at h
    refine xi_null E 32 (show decode prog_10_method_8_code 22 = .ok (.ifnull (10), 3) by decide +kernel) rfl (fun _ => ?_) (fun z => absurd q26 z)
    exact xv_w (sb139_32 E B  M7 h hN) rfl
  · rw [if_neg q26] at h
    refine xi_null E 32 (show decode prog_10_method_8_code 22 = .ok (.ifnull (10), 3) by decide +kernel) rfl (fun z => absurd z q26) (fun _ => ?_)
    refine xv_b E [.aload_n 0] (pc' := 26) (lv' := [(0, .inr (.inr (some a0)))]) (st' := [.inr (.inr (some a0))]) (by decide +kernel) rfl rfl ?_
    obtain ⟨o_11, h12, h⟩ := bd h
    refine xg_r E 8 3 h12 mw329 (show decode prog_10_method_8_code 26 = .ok (.getfield 74, 3) by decide +kernel) ?_
    by_cases q25 : o_11 = none
    · rw [if_pos q25] at h
      refine xi_nonnull E 34 (show decode prog_10_method_8_code 29 = .ok (.ifnonnull (5), 3) by decide +kernel) rfl (fun z => absurd q25 z) (fun _ => ?_)
      exact xv_w (sb139_32 E B  M7 h hN) rfl
    · rw [if_neg q25] at h
      refine xi_nonnull E 34 (show decode prog_10_method_8_code 29 = .ok (.ifnonnull (5), 3) by decide +kernel) rfl (fun _ => ?_) (fun z => absurd z q25)
      refine xv_b E [.aload_n 0] (pc' := 35) (lv' := [(0, .inr (.inr (some a0)))]) (st' := [.inr (.inr (some a0))]) (by decide +kernel) rfl rfl ?_
      obtain ⟨o_13, h14, h⟩ := bd h
      refine xg_r E 8 3 h14 mw329 (show decode prog_10_method_8_code 35 = .ok (.getfield 74, 3) by decide +kernel) ?_
      obtain ⟨o_15, h16, h⟩ := bd h
      refine xg_r E 8 10 h16 mw19 (show decode prog_10_method_8_code 38 = .ok (.getfield 18, 3) by decide +kernel) ?_
      refine xv_b E [.aload_n 0] (pc' := 42) (lv' := [(0, .inr (.inr (some a0)))]) (st' := [.inr (.inr (some a0)), .inr (.inr o_15)]) (by decide +kernel) rfl rfl ?_
      obtain ⟨o_17, h18, h⟩ := bd h
      refine xg_r E 8 8 h18 mw159 (show decode prog_10_method_8_code 42 = .ok (.getfield 59, 3) by decide +kernel) ?_
      obtain ⟨b_21, h22, h⟩ := bd h
      obtain ⟨eh22, th22⟩ := g_o_some h22
      obtain ⟨q_19, h20, h⟩ := bd h
      refine xv_cvo E eh22 3 (as := [.inr (.inr o_17)]) (t38 G l (c_V_some h20)) cd38 mw240 mw241 mw242 (show decode prog_10_method_8_code 45 = .ok (.invokevirtual 86, 3) by decide +kernel) th22 rfl rfl (Nat.le_of_ble_eq_true rfl) ⟨Nat.le_of_ble_eq_true rfl, Nat.le_of_ble_eq_true rfl⟩ ?_
      refine xv_b E [.aload_n 0, .aconst_null] (pc' := 50) (lv' := [(0, .inr (.inr (some a0)))]) (st' := [.inr (.inr none), .inr (.inr (some a0))]) (by decide +kernel) rfl rfl ?_
      obtain ⟨M23, h24, h⟩ := bd h
      refine xp_r E 8 8 h24 mw159 (show decode prog_10_method_8_code 50 = .ok (.putfield 59, 3) by decide +kernel) (Or.inl rfl) ?_
      refine xv_b E [.iconst 1] (pc' := 54) (lv' := [(0, .inr (.inr (some a0)))]) (st' := [.inl (1 : Int32)]) (by decide +kernel) rfl rfl ?_
      obtain rfl := Option.some.inj h
      obtain ⟨rfl, rfl⟩ := Prod.mk.inj (show ((some (.inl (1 : Int32)) : Option aV), M23) = (r, M') from hN)
      exact xv_ri E B.1 rfl B.2.1 (show decode prog_10_method_8_code 54 = .ok (.ireturn, 1) by decide +kernel) rfl rfl
end
theorem t139 (G : gX) (l : Launch) {as : List aV} {M : hM} {r : Option aV} {M' : hM} (h : f139 as M = some (r, M')) : xM G l ym139 prog_10_method_8_code 1 (some FieldType.int) 1 as M r M' := by
  unfold f139 at h
  split at h
  · have h := x_out_ok h
    refine xM_of (by decide) (Nat.le_of_ble_eq_true rfl) (lb139_0 G l _ M h) ?_
    intro p e s m args below meth c E B
    exact sb139_0 E B _ M h rfl
  · cases h
/-! ZF.tick(I)I -/
def ym140 : MethodName := ⟨"ZonedFabric", "tick", "(I)I"⟩
theorem cd140 : xCd ym140 prog_1_method_10_code 5 (some FieldType.int) 1 := ⟨mw769, mw71, by decide, by decide, by decide +kernel⟩
def b140_11  (M : hM) : Option xRes :=
  some (.inl (some (.inl (-1 : Int32)), M))
def b140_0 (a0 : Nat) (v1 : Int32) (M : hM) : Option xRes :=
  if v1 < 0 then
    (b140_11  M)
  else
    (if v1 ≤ (300 : Int32) then
      (some (.inr (17, [.inr (.inr (some a0)), .inl v1, .inl (0 : Int32), .inl (0 : Int32)], M)))
    else
      (b140_11  M))
def b140_17 (a0 : Nat) (v1 : Int32) (v2 : Int32) (v3 : Int32) (M : hM) : Option xRes :=
  if v1 ≤ v3 then
    (some (.inl (some (.inl v2), M)))
  else
    (Option.bind (g_r M 11 0 (some a0)) fun o_3 =>
    Option.bind (g_i M 9 3 o_3) fun v_5 =>
    Option.bind (p_i M 9 3 o_3 (v_5 + (1 : Int32))) fun M7 =>
    some (.inr (38, [.inr (.inr (some a0)), .inl v1, .inl v2, .inl v3, .inl (0 : Int32)], M7)))
def b140_38 (a0 : Nat) (v1 : Int32) (v2 : Int32) (v3 : Int32) (v4 : Int32) (M : hM) : Option xRes :=
  Option.bind (g_i M 11 5 (some a0)) fun v_10 =>
  if v_10 ≤ v4 then
    (some (.inr (80, [.inr (.inr (some a0)), .inl v1, .inl v2, .inl v3, .inl (0 : Int32)], M)))
  else
    (Option.bind (g_r M 11 3 (some a0)) fun o_12 =>
    Option.bind (al_r M 38 o_12 v4) fun o_14 =>
    Option.bind (g_o M 8 o_14) fun b_18 =>
    Option.bind (c_I (f139 [.inr (.inr (some b_18))] M)) fun q_16 =>
    Option.bind (g_r q_16.2 11 4 (some a0)) fun o_20 =>
    Option.bind (al_r q_16.2 38 o_20 v4) fun o_22 =>
    Option.bind (g_o q_16.2 8 o_22) fun b_26 =>
    Option.bind (c_I (f139 [.inr (.inr (some b_26))] q_16.2)) fun q_24 =>
    some (.inr (38, [.inr (.inr (some a0)), .inl v1, .inl (v2 + (q_16.1 + q_24.1)), .inl v3, .inl (v4 + (1 : Int32))], q_24.2)))
def b140_80 (a0 : Nat) (v1 : Int32) (v2 : Int32) (v3 : Int32) (v4 : Int32) (M : hM) : Option xRes :=
  Option.bind (g_r M 11 1 (some a0)) fun o_29 =>
  Option.bind (a_ln M 40 o_29) fun v_31 =>
  if v_31 ≤ v4 then
    (some (.inr (109, [.inr (.inr (some a0)), .inl v1, .inl v2, .inl v3, .inl (0 : Int32)], M)))
  else
    (Option.bind (g_r M 11 1 (some a0)) fun o_33 =>
    Option.bind (al_r M 40 o_33 v4) fun o_35 =>
    Option.bind (g_o M 10 o_35) fun b_39 =>
    Option.bind (c_V (f138 [.inr (.inr (some b_39))] M)) fun q_37 =>
    some (.inr (80, [.inr (.inr (some a0)), .inl v1, .inl v2, .inl v3, .inl (v4 + (1 : Int32))], q_37)))
def b140_109 (a0 : Nat) (v1 : Int32) (v2 : Int32) (v3 : Int32) (v4 : Int32) (M : hM) : Option xRes :=
  Option.bind (g_r M 11 2 (some a0)) fun o_42 =>
  Option.bind (a_ln M 35 o_42) fun v_44 =>
  if v_44 ≤ v4 then
    (some (.inr (17, [.inr (.inr (some a0)), .inl v1, .inl v2, .inl (v3 + (1 : Int32))], M)))
  else
    (Option.bind (g_r M 11 2 (some a0)) fun o_46 =>
    Option.bind (al_r M 35 o_46 v4) fun o_48 =>
    Option.bind (g_o M 5 o_48) fun b_52 =>
    Option.bind (c_V (f94 [.inr (.inr (some b_52))] M)) fun q_50 =>
    some (.inr (109, [.inr (.inr (some a0)), .inl v1, .inl v2, .inl v3, .inl (v4 + (1 : Int32))], q_50)))
def k140 (h : Nat) (as : List aV) (M : hM) : Option xRes :=
  if h = 17 then (match as with | [.inr (.inr (some a0)), .inl v1, .inl v2, .inl v3] => b140_17 a0 v1 v2 v3 M | _ => none) else
  if h = 38 then (match as with | [.inr (.inr (some a0)), .inl v1, .inl v2, .inl v3, .inl v4] => b140_38 a0 v1 v2 v3 v4 M | _ => none) else
  if h = 80 then (match as with | [.inr (.inr (some a0)), .inl v1, .inl v2, .inl v3, .inl v4] => b140_80 a0 v1 v2 v3 v4 M | _ => none) else
  if h = 109 then (match as with | [.inr (.inr (some a0)), .inl v1, .inl v2, .inl v3, .inl v4] => b140_109 a0 v1 v2 v3 v4 M | _ => none) else
  none
def f140 (as : List aV) (M : hM) : xO := match as with
  | [.inr (.inr (some a0)), .inl v1] => x_go k140 (b140_0 a0 v1 M)
  | _ => none
theorem lb140_11 (G : gX) (l : Launch)  (M : hM) {res : xRes} (h : b140_11  M = some res) : h_sz M ≤ r_sz res ∧ h_sl M ≤ r_sl res := by
  unfold b140_11 at h
  obtain rfl := Option.some.inj h
  show h_sz M ≤ h_sz M ∧ h_sl M ≤ h_sl M
  omega
theorem lb140_0 (G : gX) (l : Launch) (a0 : Nat) (v1 : Int32) (M : hM) {res : xRes} (h : b140_0 a0 v1 M = some res) : h_sz M ≤ r_sz res ∧ h_sl M ≤ r_sl res := by
  unfold b140_0 at h
  by_cases q2 : v1 < 0
  · rw [if_pos q2] at h
    have e := lb140_11 G l  M h
    omega
  · rw [if_neg q2] at h
    by_cases q1 : v1 ≤ (300 : Int32)
    · rw [if_pos q1] at h
      obtain rfl := Option.some.inj h
      show h_sz M ≤ h_sz M ∧ h_sl M ≤ h_sl M
      omega
    · rw [if_neg q1] at h
      have e := lb140_11 G l  M h
      omega
theorem lb140_17 (G : gX) (l : Launch) (a0 : Nat) (v1 : Int32) (v2 : Int32) (v3 : Int32) (M : hM) {res : xRes} (h : b140_17 a0 v1 v2 v3 M = some res) : h_sz M ≤ r_sz res ∧ h_sl M ≤ r_sl res := by
  unfold b140_17 at h
  by_cases q9 : v1 ≤ v3
  · rw [if_pos q9] at h
    obtain rfl := Option.some.inj h
    show h_sz M ≤ h_sz M ∧ h_sl M ≤ h_sl M
    omega
  · rw [if_neg q9] at h
    obtain ⟨o_3, h4, h⟩ := bd h
    obtain ⟨v_5, h6, h⟩ := bd h
    obtain ⟨M7, h8, h⟩ := bd h
    have eh8 := p_i_sz h8
    obtain rfl := Option.some.inj h
    show h_sz M ≤ h_sz M7 ∧ h_sl M ≤ h_sl M7
    omega
theorem lb140_38 (G : gX) (l : Launch) (a0 : Nat) (v1 : Int32) (v2 : Int32) (v3 : Int32) (v4 : Int32) (M : hM) {res : xRes} (h : b140_38 a0 v1 v2 v3 v4 M = some res) : h_sz M ≤ r_sz res ∧ h_sl M ≤ r_sl res := by
  unfold b140_38 at h
  obtain ⟨v_10, h11, h⟩ := bd h
  by_cases q28 : v_10 ≤ v4
  · rw [if_pos q28] at h
    obtain rfl := Option.some.inj h
    show h_sz M ≤ h_sz M ∧ h_sl M ≤ h_sl M
    omega
  · rw [if_neg q28] at h
    obtain ⟨o_12, h13, h⟩ := bd h
    obtain ⟨o_14, h15, h⟩ := bd h
    obtain ⟨b_18, h19, h⟩ := bd h
    obtain ⟨q_16, h17, h⟩ := bd h
    have eh17 := (t139 G l (c_I_some h17)).1
    obtain ⟨o_20, h21, h⟩ := bd h
    obtain ⟨o_22, h23, h⟩ := bd h
    obtain ⟨b_26, h27, h⟩ := bd h
    obtain ⟨q_24, h25, h⟩ := bd h
    have eh25 := (t139 G l (c_I_some h25)).1
    obtain rfl := Option.some.inj h
    show h_sz M ≤ h_sz q_24.2 ∧ h_sl M ≤ h_sl q_24.2
    omega
theorem lb140_80 (G : gX) (l : Launch) (a0 : Nat) (v1 : Int32) (v2 : Int32) (v3 : Int32) (v4 : Int32) (M : hM) {res : xRes} (h : b140_80 a0 v1 v2 v3 v4 M = some res) : h_sz M ≤ r_sz res ∧ h_sl M ≤ r_sl res := by
  unfold b140_80 at h
  obtain ⟨o_29, h30, h⟩ := bd h
  obtain ⟨v_31, h32, h⟩ := bd h
  by_cases q41 : v_31 ≤ v4
  · rw [if_pos q41] at h
    obtain rfl := Option.some.inj h
    show h_sz M ≤ h_sz M ∧ h_sl M ≤ h_sl M
    omega
  · rw [if_neg q41] at h
    obtain ⟨o_33, h34, h⟩ := bd h
    obtain ⟨o_35, h36, h⟩ := bd h
    obtain ⟨b_39, h40, h⟩ := bd h
    obtain ⟨q_37, h38, h⟩ := bd h
    have eh38 := (t138 G l (c_V_some h38)).1
    obtain rfl := Option.some.inj h
    show h_sz M ≤ h_sz q_37 ∧ h_sl M ≤ h_sl q_37
    omega
theorem lb140_109 (G : gX) (l : Launch) (a0 : Nat) (v1 : Int32) (v2 : Int32) (v3 : Int32) (v4 : Int32) (M : hM) {res : xRes} (h : b140_109 a0 v1 v2 v3 v4 M = some res) : h_sz M ≤ r_sz res ∧ h_sl M ≤ r_sl res := by
  unfold b140_109 at h
  obtain ⟨o_42, h43, h⟩ := bd h
  obtain ⟨v_44, h45, h⟩ := bd h
  by_cases q54 : v_44 ≤ v4
  · rw [if_pos q54] at h
    obtain rfl := Option.some.inj h
    show h_sz M ≤ h_sz M ∧ h_sl M ≤ h_sl M
    omega
  · rw [if_neg q54] at h
    obtain ⟨o_46, h47, h⟩ := bd h
    obtain ⟨o_48, h49, h⟩ := bd h
    obtain ⟨b_52, h53, h⟩ := bd h
    obtain ⟨q_50, h51, h⟩ := bd h
    have eh51 := (t94 G l (c_V_some h51)).1
    obtain rfl := Option.some.inj h
    show h_sz M ≤ h_sz q_50 ∧ h_sl M ≤ h_sl q_50
    omega
section
variable {p : Program} {l : Launch} {e : Env} {s : State} {m : MethodId} {args : Array Value} {below : List Frame} {meth : Method} {c : Code} {G : gX} {z0 y0 : Nat} {r : Option aV} {M' : hM}
def pg140 (p : Program) (l : Launch) (e : Env) (s : State) (m : MethodId) (args : Array Value) (below : List Frame) (meth : Method) (c : Code) (G : gX) (z0 y0 : Nat) (r : Option aV) (M' : hM) (h : Nat) (as : List aV) (M : hM) : Prop :=
  if h = 17 then (match as with | [.inr (.inr (some a0)), .inl v1, .inl v2, .inl v3] => xV G p l e (xRm 8 (h_sz M' - z0) (h_sl M' - y0)) s m args below meth c z0 y0 (h_sz M') (h_sl M') 5 (MQ below (xQc G r M') args s (h_sz M' - z0) (h_sl M' - y0) (xFr G)) 17 [(0, .inr (.inr (some a0))), (1, .inl v1), (2, .inl v2), (3, .inl v3)] [] M | _ => False) else
  if h = 38 then (match as with | [.inr (.inr (some a0)), .inl v1, .inl v2, .inl v3, .inl v4] => xV G p l e (xRm 8 (h_sz M' - z0) (h_sl M' - y0)) s m args below meth c z0 y0 (h_sz M') (h_sl M') 5 (MQ below (xQc G r M') args s (h_sz M' - z0) (h_sl M' - y0) (xFr G)) 38 [(0, .inr (.inr (some a0))), (1, .inl v1), (2, .inl v2), (3, .inl v3), (4, .inl v4)] [] M | _ => False) else
  if h = 80 then (match as with | [.inr (.inr (some a0)), .inl v1, .inl v2, .inl v3, .inl v4] => xV G p l e (xRm 8 (h_sz M' - z0) (h_sl M' - y0)) s m args below meth c z0 y0 (h_sz M') (h_sl M') 5 (MQ below (xQc G r M') args s (h_sz M' - z0) (h_sl M' - y0) (xFr G)) 80 [(0, .inr (.inr (some a0))), (1, .inl v1), (2, .inl v2), (3, .inl v3), (4, .inl v4)] [] M | _ => False) else
  if h = 109 then (match as with | [.inr (.inr (some a0)), .inl v1, .inl v2, .inl v3, .inl v4] => xV G p l e (xRm 8 (h_sz M' - z0) (h_sl M' - y0)) s m args below meth c z0 y0 (h_sz M') (h_sl M') 5 (MQ below (xQc G r M') args s (h_sz M' - z0) (h_sl M' - y0) (xFr G)) 109 [(0, .inr (.inr (some a0))), (1, .inl v1), (2, .inl v2), (3, .inl v3), (4, .inl v4)] [] M | _ => False) else
  False
theorem sb140_11 (E : xE G p (xRm 8 (h_sz M' - z0) (h_sl M' - y0)) s m args c prog_1_method_10_code "ZonedFabric" z0 y0 (h_sz M') (h_sl M') 5) (B : xB ym140 (some FieldType.int) meth)  (M : hM) {res : xRes} (h : b140_11  M = some res) (hN : xN (pg140 p l e s m args below meth c G z0 y0 r M') r M' res) : xV G p l e (xRm 8 (h_sz M' - z0) (h_sl M' - y0)) s m args below meth c z0 y0 (h_sz M') (h_sl M') 5 (MQ below (xQc G r M') args s (h_sz M' - z0) (h_sl M' - y0) (xFr G)) 11 [] [] M := by
  unfold b140_11 at h
  refine xv_b E [.iconst (-1)] (pc' := 12) (lv' := []) (st' := [.inl (-1 : Int32)]) (by decide +kernel) rfl rfl ?_
  obtain rfl := Option.some.inj h
  obtain ⟨rfl, rfl⟩ := Prod.mk.inj (show ((some (.inl (-1 : Int32)) : Option aV), M) = (r, M') from hN)
  exact xv_ri E B.1 rfl B.2.1 (show decode prog_1_method_10_code 12 = .ok (.ireturn, 1) by decide +kernel) rfl rfl
theorem sb140_0 (E : xE G p (xRm 8 (h_sz M' - z0) (h_sl M' - y0)) s m args c prog_1_method_10_code "ZonedFabric" z0 y0 (h_sz M') (h_sl M') 5) (B : xB ym140 (some FieldType.int) meth) (a0 : Nat) (v1 : Int32) (M : hM) {res : xRes} (h : b140_0 a0 v1 M = some res) (hN : xN (pg140 p l e s m args below meth c G z0 y0 r M') r M' res) : xV G p l e (xRm 8 (h_sz M' - z0) (h_sl M' - y0)) s m args below meth c z0 y0 (h_sz M') (h_sl M') 5 (MQ below (xQc G r M') args s (h_sz M' - z0) (h_sl M' - y0) (xFr G)) 0 [(0, .inr (.inr (some a0))), (1, .inl v1)] [] M := by
  unfold b140_0 at h
  refine xv_b E [.iload_n 1] (pc' := 1) (lv' := [(0, .inr (.inr (some a0))), (1, .inl v1)]) (st' := [.inl v1]) (by decide +kernel) rfl rfl ?_
  by_cases q2 : v1 < 0
  · rw [if_pos q2] at h
    refine xv_if_lt E 11 (show decode prog_1_method_10_code 1 = .ok (.ifCond .lt (10), 3) by decide +kernel) rfl (fun _ => ?_) (fun z => absurd q2 z)
    exact xv_w (sb140_11 E B  M h hN) rfl
  · rw [if_neg q2] at h
    refine xv_if_lt E 11 (show decode prog_1_method_10_code 1 = .ok (.ifCond .lt (10), 3) by decide +kernel) rfl (fun z => absurd z q2) (fun _ => ?_)
    refine xv_b E [.iload_n 1, .sipush 300] (pc' := 8) (lv' := [(0, .inr (.inr (some a0))), (1, .inl v1)]) (st' := [.inl (300 : Int32), .inl v1]) (by decide +kernel) rfl rfl ?_
    by_cases q1 : v1 ≤ (300 : Int32)
    · rw [if_pos q1] at h
      refine xv_icmp_le E 13 (show decode prog_1_method_10_code 8 = .ok (.if_icmp .le (5), 3) by decide +kernel) rfl (fun _ => ?_) (fun z => absurd q1 z)
      refine xv_b E [.iconst 0, .istore_n 2, .iconst 0, .istore_n 3] (pc' := 17) (lv' := [(3, .inl (0 : Int32)), (2, .inl (0 : Int32)), (0, .inr (.inr (some a0))), (1, .inl v1)]) (st' := []) (by decide +kernel) rfl rfl ?_
      obtain rfl := Option.some.inj h
      exact xv_w hN rfl
    · rw [if_neg q1] at h
      refine xv_icmp_le E 13 (show decode prog_1_method_10_code 8 = .ok (.if_icmp .le (5), 3) by decide +kernel) rfl (fun z => absurd z q1) (fun _ => ?_)
      exact xv_w (sb140_11 E B  M h hN) rfl
theorem sb140_17 (E : xE G p (xRm 8 (h_sz M' - z0) (h_sl M' - y0)) s m args c prog_1_method_10_code "ZonedFabric" z0 y0 (h_sz M') (h_sl M') 5) (B : xB ym140 (some FieldType.int) meth) (a0 : Nat) (v1 : Int32) (v2 : Int32) (v3 : Int32) (M : hM) {res : xRes} (h : b140_17 a0 v1 v2 v3 M = some res) (hN : xN (pg140 p l e s m args below meth c G z0 y0 r M') r M' res) : xV G p l e (xRm 8 (h_sz M' - z0) (h_sl M' - y0)) s m args below meth c z0 y0 (h_sz M') (h_sl M') 5 (MQ below (xQc G r M') args s (h_sz M' - z0) (h_sl M' - y0) (xFr G)) 17 [(0, .inr (.inr (some a0))), (1, .inl v1), (2, .inl v2), (3, .inl v3)] [] M := by
  unfold b140_17 at h
  refine xv_b E [.iload_n 3, .iload_n 1] (pc' := 19) (lv' := [(0, .inr (.inr (some a0))), (1, .inl v1), (2, .inl v2), (3, .inl v3)]) (st' := [.inl v1, .inl v3]) (by decide +kernel) rfl rfl ?_
  by_cases q9 : v1 ≤ v3
  · rw [if_pos q9] at h
    refine xv_icmp_ge E 141 (show decode prog_1_method_10_code 19 = .ok (.if_icmp .ge (122), 3) by decide +kernel) rfl (fun _ => ?_) (fun z => absurd q9 z)
    refine xv_b E [.iload_n 2] (pc' := 142) (lv' := [(0, .inr (.inr (some a0))), (1, .inl v1), (2, .inl v2), (3, .inl v3)]) (st' := [.inl v2]) (by decide +kernel) rfl rfl ?_
    obtain rfl := Option.some.inj h
    obtain ⟨rfl, rfl⟩ := Prod.mk.inj (show ((some (.inl v2) : Option aV), M) = (r, M') from hN)
    exact xv_ri E B.1 rfl B.2.1 (show decode prog_1_method_10_code 142 = .ok (.ireturn, 1) by decide +kernel) rfl rfl
  · rw [if_neg q9] at h
    refine xv_icmp_ge E 141 (show decode prog_1_method_10_code 19 = .ok (.if_icmp .ge (122), 3) by decide +kernel) rfl (fun z => absurd z q9) (fun _ => ?_)
    refine xv_b E [.aload_n 0] (pc' := 23) (lv' := [(0, .inr (.inr (some a0))), (1, .inl v1), (2, .inl v2), (3, .inl v3)]) (st' := [.inr (.inr (some a0))]) (by decide +kernel) rfl rfl ?_
    obtain ⟨o_3, h4, h⟩ := bd h
    refine xg_r E 11 0 h4 mw82 (show decode prog_1_method_10_code 23 = .ok (.getfield 29, 3) by decide +kernel) ?_
    refine xv_b E [.dup] (pc' := 27) (lv' := [(0, .inr (.inr (some a0))), (1, .inl v1), (2, .inl v2), (3, .inl v3)]) (st' := [.inr (.inr o_3), .inr (.inr o_3)]) (by decide +kernel) rfl rfl ?_
    obtain ⟨v_5, h6, h⟩ := bd h
    refine xg_i E 9 3 h6 mw770 (show decode prog_1_method_10_code 27 = .ok (.getfield 135, 3) by decide +kernel) ?_
    refine xv_b E [.iconst 1, .iadd] (pc' := 32) (lv' := [(0, .inr (.inr (some a0))), (1, .inl v1), (2, .inl v2), (3, .inl v3)]) (st' := [.inl (v_5 + (1 : Int32)), .inr (.inr o_3)]) (by decide +kernel) rfl rfl ?_
    obtain ⟨M7, h8, h⟩ := bd h
    refine xp_i E 9 3 h8 mw770 (show decode prog_1_method_10_code 32 = .ok (.putfield 135, 3) by decide +kernel) (Or.inl rfl) ?_
    refine xv_b E [.iconst 0, .istore 4] (pc' := 38) (lv' := [(4, .inl (0 : Int32)), (0, .inr (.inr (some a0))), (1, .inl v1), (2, .inl v2), (3, .inl v3)]) (st' := []) (by decide +kernel) rfl rfl ?_
    obtain rfl := Option.some.inj h
    exact xv_w hN rfl
theorem sb140_38 (E : xE G p (xRm 8 (h_sz M' - z0) (h_sl M' - y0)) s m args c prog_1_method_10_code "ZonedFabric" z0 y0 (h_sz M') (h_sl M') 5) (B : xB ym140 (some FieldType.int) meth) (a0 : Nat) (v1 : Int32) (v2 : Int32) (v3 : Int32) (v4 : Int32) (M : hM) {res : xRes} (h : b140_38 a0 v1 v2 v3 v4 M = some res) (hN : xN (pg140 p l e s m args below meth c G z0 y0 r M') r M' res) : xV G p l e (xRm 8 (h_sz M' - z0) (h_sl M' - y0)) s m args below meth c z0 y0 (h_sz M') (h_sl M') 5 (MQ below (xQc G r M') args s (h_sz M' - z0) (h_sl M' - y0) (xFr G)) 38 [(0, .inr (.inr (some a0))), (1, .inl v1), (2, .inl v2), (3, .inl v3), (4, .inl v4)] [] M := by
  unfold b140_38 at h
  refine xv_b E [.iload 4, .aload_n 0] (pc' := 41) (lv' := [(0, .inr (.inr (some a0))), (1, .inl v1), (2, .inl v2), (3, .inl v3), (4, .inl v4)]) (st' := [.inr (.inr (some a0)), .inl v4]) (by decide +kernel) rfl rfl ?_
  obtain ⟨v_10, h11, h⟩ := bd h
  refine xg_i E 11 5 h11 mw138 (show decode prog_1_method_10_code 41 = .ok (.getfield 80, 3) by decide +kernel) ?_
  by_cases q28 : v_10 ≤ v4
  · rw [if_pos q28] at h
    refine xv_icmp_ge E 77 (show decode prog_1_method_10_code 44 = .ok (.if_icmp .ge (33), 3) by decide +kernel) rfl (fun _ => ?_) (fun z => absurd q28 z)
    refine xv_b E [.iconst 0, .istore 4] (pc' := 80) (lv' := [(4, .inl (0 : Int32)), (0, .inr (.inr (some a0))), (1, .inl v1), (2, .inl v2), (3, .inl v3)]) (st' := []) (by decide +kernel) rfl rfl ?_
    obtain rfl := Option.some.inj h
    exact xv_w hN rfl
  · rw [if_neg q28] at h
    refine xv_icmp_ge E 77 (show decode prog_1_method_10_code 44 = .ok (.if_icmp .ge (33), 3) by decide +kernel) rfl (fun z => absurd z q28) (fun _ => ?_)
    refine xv_b E [.iload_n 2, .aload_n 0] (pc' := 49) (lv' := [(0, .inr (.inr (some a0))), (1, .inl v1), (2, .inl v2), (3, .inl v3), (4, .inl v4)]) (st' := [.inr (.inr (some a0)), .inl v2]) (by decide +kernel) rfl rfl ?_
    obtain ⟨o_12, h13, h⟩ := bd h
    refine xg_r E 11 3 h13 mw73 (show decode prog_1_method_10_code 49 = .ok (.getfield 11, 3) by decide +kernel) ?_
    refine xv_b E [.iload 4] (pc' := 54) (lv' := [(0, .inr (.inr (some a0))), (1, .inl v1), (2, .inl v2), (3, .inl v3), (4, .inl v4)]) (st' := [.inl v4, .inr (.inr o_12), .inl v2]) (by decide +kernel) rfl rfl ?_
    obtain ⟨o_14, h15, h⟩ := bd h
    refine xa_r E 38 h15 (show decode prog_1_method_10_code 54 = .ok (.aaload, 1) by decide +kernel) ?_
    obtain ⟨b_18, h19, h⟩ := bd h
    obtain ⟨eh19, th19⟩ := g_o_some h19
    obtain ⟨q_16, h17, h⟩ := bd h
    refine xv_cvo E eh19 8 (as := []) (t139 G l (c_I_some h17)) cd139 mw771 mw772 mw773 (show decode prog_1_method_10_code 55 = .ok (.invokevirtual 138, 3) by decide +kernel) th19 rfl rfl (Nat.le_of_ble_eq_true rfl) ⟨Nat.le_of_ble_eq_true rfl, Nat.le_of_ble_eq_true rfl⟩ ?_
    refine xv_b E [.aload_n 0] (pc' := 59) (lv' := [(0, .inr (.inr (some a0))), (1, .inl v1), (2, .inl v2), (3, .inl v3), (4, .inl v4)]) (st' := [.inr (.inr (some a0)), .inl q_16.1, .inl v2]) (by decide +kernel) rfl rfl ?_
    obtain ⟨o_20, h21, h⟩ := bd h
    refine xg_r E 11 4 h21 mw74 (show decode prog_1_method_10_code 59 = .ok (.getfield 15, 3) by decide +kernel) ?_
    refine xv_b E [.iload 4] (pc' := 64) (lv' := [(0, .inr (.inr (some a0))), (1, .inl v1), (2, .inl v2), (3, .inl v3), (4, .inl v4)]) (st' := [.inl v4, .inr (.inr o_20), .inl q_16.1, .inl v2]) (by decide +kernel) rfl rfl ?_
    obtain ⟨o_22, h23, h⟩ := bd h
    refine xa_r E 38 h23 (show decode prog_1_method_10_code 64 = .ok (.aaload, 1) by decide +kernel) ?_
    obtain ⟨b_26, h27, h⟩ := bd h
    obtain ⟨eh27, th27⟩ := g_o_some h27
    obtain ⟨q_24, h25, h⟩ := bd h
    refine xv_cvo E eh27 8 (as := []) (t139 G l (c_I_some h25)) cd139 mw771 mw772 mw773 (show decode prog_1_method_10_code 65 = .ok (.invokevirtual 138, 3) by decide +kernel) th27 rfl rfl (Nat.le_of_ble_eq_true rfl) ⟨Nat.le_of_ble_eq_true rfl, Nat.le_of_ble_eq_true rfl⟩ ?_
    refine xv_b E [.iadd, .iadd, .istore_n 2, .iinc 4 1] (pc' := 74) (lv' := [(4, .inl (v4 + (1 : Int32))), (2, .inl (v2 + (q_16.1 + q_24.1))), (0, .inr (.inr (some a0))), (1, .inl v1), (3, .inl v3)]) (st' := []) (by decide +kernel) rfl rfl ?_
    refine xv_goto E 38 (show decode prog_1_method_10_code 74 = .ok (.goto (-36), 3) by decide +kernel) rfl ?_
    obtain rfl := Option.some.inj h
    exact xv_w hN rfl
theorem sb140_80 (E : xE G p (xRm 8 (h_sz M' - z0) (h_sl M' - y0)) s m args c prog_1_method_10_code "ZonedFabric" z0 y0 (h_sz M') (h_sl M') 5) (B : xB ym140 (some FieldType.int) meth) (a0 : Nat) (v1 : Int32) (v2 : Int32) (v3 : Int32) (v4 : Int32) (M : hM) {res : xRes} (h : b140_80 a0 v1 v2 v3 v4 M = some res) (hN : xN (pg140 p l e s m args below meth c G z0 y0 r M') r M' res) : xV G p l e (xRm 8 (h_sz M' - z0) (h_sl M' - y0)) s m args below meth c z0 y0 (h_sz M') (h_sl M') 5 (MQ below (xQc G r M') args s (h_sz M' - z0) (h_sl M' - y0) (xFr G)) 80 [(0, .inr (.inr (some a0))), (1, .inl v1), (2, .inl v2), (3, .inl v3), (4, .inl v4)] [] M := by
  unfold b140_80 at h
  refine xv_b E [.iload 4, .aload_n 0] (pc' := 83) (lv' := [(0, .inr (.inr (some a0))), (1, .inl v1), (2, .inl v2), (3, .inl v3), (4, .inl v4)]) (st' := [.inr (.inr (some a0)), .inl v4]) (by decide +kernel) rfl rfl ?_
  obtain ⟨o_29, h30, h⟩ := bd h
  refine xg_r E 11 1 h30 mw84 (show decode prog_1_method_10_code 83 = .ok (.getfield 35, 3) by decide +kernel) ?_
  obtain ⟨v_31, h32, h⟩ := bd h
  refine xa_n E 40 h32 (show decode prog_1_method_10_code 86 = .ok (.arraylength, 1) by decide +kernel) ?_
  by_cases q41 : v_31 ≤ v4
  · rw [if_pos q41] at h
    refine xv_icmp_ge E 106 (show decode prog_1_method_10_code 87 = .ok (.if_icmp .ge (19), 3) by decide +kernel) rfl (fun _ => ?_) (fun z => absurd q41 z)
    refine xv_b E [.iconst 0, .istore 4] (pc' := 109) (lv' := [(4, .inl (0 : Int32)), (0, .inr (.inr (some a0))), (1, .inl v1), (2, .inl v2), (3, .inl v3)]) (st' := []) (by decide +kernel) rfl rfl ?_
    obtain rfl := Option.some.inj h
    exact xv_w hN rfl
  · rw [if_neg q41] at h
    refine xv_icmp_ge E 106 (show decode prog_1_method_10_code 87 = .ok (.if_icmp .ge (19), 3) by decide +kernel) rfl (fun z => absurd z q41) (fun _ => ?_)
    refine xv_b E [.aload_n 0] (pc' := 91) (lv' := [(0, .inr (.inr (some a0))), (1, .inl v1), (2, .inl v2), (3, .inl v3), (4, .inl v4)]) (st' := [.inr (.inr (some a0))]) (by decide +kernel) rfl rfl ?_
    obtain ⟨o_33, h34, h⟩ := bd h
    refine xg_r E 11 1 h34 mw84 (show decode prog_1_method_10_code 91 = .ok (.getfield 35, 3) by decide +kernel) ?_
    refine xv_b E [.iload 4] (pc' := 96) (lv' := [(0, .inr (.inr (some a0))), (1, .inl v1), (2, .inl v2), (3, .inl v3), (4, .inl v4)]) (st' := [.inl v4, .inr (.inr o_33)]) (by decide +kernel) rfl rfl ?_
    obtain ⟨o_35, h36, h⟩ := bd h
    refine xa_r E 40 h36 (show decode prog_1_method_10_code 96 = .ok (.aaload, 1) by decide +kernel) ?_
    obtain ⟨b_39, h40, h⟩ := bd h
    obtain ⟨eh40, th40⟩ := g_o_some h40
    obtain ⟨q_37, h38, h⟩ := bd h
    refine xv_cvo E eh40 10 (as := []) (t138 G l (c_V_some h38)) cd138 mw774 mw775 mw776 (show decode prog_1_method_10_code 97 = .ok (.invokevirtual 142, 3) by decide +kernel) th40 rfl rfl (Nat.le_of_ble_eq_true rfl) ⟨Nat.le_of_ble_eq_true rfl, Nat.le_of_ble_eq_true rfl⟩ ?_
    refine xv_b E [.iinc 4 1] (pc' := 103) (lv' := [(4, .inl (v4 + (1 : Int32))), (0, .inr (.inr (some a0))), (1, .inl v1), (2, .inl v2), (3, .inl v3)]) (st' := []) (by decide +kernel) rfl rfl ?_
    refine xv_goto E 80 (show decode prog_1_method_10_code 103 = .ok (.goto (-23), 3) by decide +kernel) rfl ?_
    obtain rfl := Option.some.inj h
    exact xv_w hN rfl
theorem sb140_109 (E : xE G p (xRm 8 (h_sz M' - z0) (h_sl M' - y0)) s m args c prog_1_method_10_code "ZonedFabric" z0 y0 (h_sz M') (h_sl M') 5) (B : xB ym140 (some FieldType.int) meth) (a0 : Nat) (v1 : Int32) (v2 : Int32) (v3 : Int32) (v4 : Int32) (M : hM) {res : xRes} (h : b140_109 a0 v1 v2 v3 v4 M = some res) (hN : xN (pg140 p l e s m args below meth c G z0 y0 r M') r M' res) : xV G p l e (xRm 8 (h_sz M' - z0) (h_sl M' - y0)) s m args below meth c z0 y0 (h_sz M') (h_sl M') 5 (MQ below (xQc G r M') args s (h_sz M' - z0) (h_sl M' - y0) (xFr G)) 109 [(0, .inr (.inr (some a0))), (1, .inl v1), (2, .inl v2), (3, .inl v3), (4, .inl v4)] [] M := by
  unfold b140_109 at h
  refine xv_b E [.iload 4, .aload_n 0] (pc' := 112) (lv' := [(0, .inr (.inr (some a0))), (1, .inl v1), (2, .inl v2), (3, .inl v3), (4, .inl v4)]) (st' := [.inr (.inr (some a0)), .inl v4]) (by decide +kernel) rfl rfl ?_
  obtain ⟨o_42, h43, h⟩ := bd h
  refine xg_r E 11 2 h43 mw86 (show decode prog_1_method_10_code 112 = .ok (.getfield 44, 3) by decide +kernel) ?_
  obtain ⟨v_44, h45, h⟩ := bd h
  refine xa_n E 35 h45 (show decode prog_1_method_10_code 115 = .ok (.arraylength, 1) by decide +kernel) ?_
  by_cases q54 : v_44 ≤ v4
  · rw [if_pos q54] at h
    refine xv_icmp_ge E 135 (show decode prog_1_method_10_code 116 = .ok (.if_icmp .ge (19), 3) by decide +kernel) rfl (fun _ => ?_) (fun z => absurd q54 z)
    refine xv_b E [.iinc 3 1] (pc' := 138) (lv' := [(3, .inl (v3 + (1 : Int32))), (0, .inr (.inr (some a0))), (1, .inl v1), (2, .inl v2), (4, .inl v4)]) (st' := []) (by decide +kernel) rfl rfl ?_
    refine xv_goto E 17 (show decode prog_1_method_10_code 138 = .ok (.goto (-121), 3) by decide +kernel) rfl ?_
    obtain rfl := Option.some.inj h
    exact xv_w hN rfl
  · rw [if_neg q54] at h
    refine xv_icmp_ge E 135 (show decode prog_1_method_10_code 116 = .ok (.if_icmp .ge (19), 3) by decide +kernel) rfl (fun z => absurd z q54) (fun _ => ?_)
    refine xv_b E [.aload_n 0] (pc' := 120) (lv' := [(0, .inr (.inr (some a0))), (1, .inl v1), (2, .inl v2), (3, .inl v3), (4, .inl v4)]) (st' := [.inr (.inr (some a0))]) (by decide +kernel) rfl rfl ?_
    obtain ⟨o_46, h47, h⟩ := bd h
    refine xg_r E 11 2 h47 mw86 (show decode prog_1_method_10_code 120 = .ok (.getfield 44, 3) by decide +kernel) ?_
    refine xv_b E [.iload 4] (pc' := 125) (lv' := [(0, .inr (.inr (some a0))), (1, .inl v1), (2, .inl v2), (3, .inl v3), (4, .inl v4)]) (st' := [.inl v4, .inr (.inr o_46)]) (by decide +kernel) rfl rfl ?_
    obtain ⟨o_48, h49, h⟩ := bd h
    refine xa_r E 35 h49 (show decode prog_1_method_10_code 125 = .ok (.aaload, 1) by decide +kernel) ?_
    obtain ⟨b_52, h53, h⟩ := bd h
    obtain ⟨eh53, th53⟩ := g_o_some h53
    obtain ⟨q_50, h51, h⟩ := bd h
    refine xv_cvo E eh53 5 (as := []) (t94 G l (c_V_some h51)) cd94 mw777 mw778 mw779 (show decode prog_1_method_10_code 126 = .ok (.invokevirtual 145, 3) by decide +kernel) th53 rfl rfl (Nat.le_of_ble_eq_true rfl) ⟨Nat.le_of_ble_eq_true rfl, Nat.le_of_ble_eq_true rfl⟩ ?_
    refine xv_b E [.iinc 4 1] (pc' := 132) (lv' := [(4, .inl (v4 + (1 : Int32))), (0, .inr (.inr (some a0))), (1, .inl v1), (2, .inl v2), (3, .inl v3)]) (st' := []) (by decide +kernel) rfl rfl ?_
    refine xv_goto E 109 (show decode prog_1_method_10_code 132 = .ok (.goto (-23), 3) by decide +kernel) rfl ?_
    obtain rfl := Option.some.inj h
    exact xv_w hN rfl
end
theorem t140 (G : gX) (l : Launch) {as : List aV} {M : hM} {r : Option aV} {M' : hM} (h : f140 as M = some (r, M')) : xM G l ym140 prog_1_method_10_code 5 (some FieldType.int) 8 as M r M' := by
  unfold f140 at h
  split at h
  · have hle : ∀ h as M res, k140 h as M = some res → h_sz M ≤ r_sz res ∧ h_sl M ≤ r_sl res := by
      intro h as M res hb
      unfold k140 at hb
      by_cases e0 : h = 17
      · rw [if_pos e0] at hb
        split at hb
        · exact lb140_17 G l _ _ _ _ M hb
        · cases hb
      · rw [if_neg e0] at hb
        by_cases e1 : h = 38
        · rw [if_pos e1] at hb
          split at hb
          · exact lb140_38 G l _ _ _ _ _ M hb
          · cases hb
        · rw [if_neg e1] at hb
          by_cases e2 : h = 80
          · rw [if_pos e2] at hb
            split at hb
            · exact lb140_80 G l _ _ _ _ _ M hb
            · cases hb
          · rw [if_neg e2] at hb
            by_cases e3 : h = 109
            · rw [if_pos e3] at hb
              split at hb
              · exact lb140_109 G l _ _ _ _ _ M hb
              · cases hb
            · rw [if_neg e3] at hb
              cases hb
    obtain ⟨res, hx, hres⟩ := x_go_ok h
    refine xM_of (by decide) (Nat.le_of_ble_eq_true rfl) ?_ ?_
    · have e1 := lb140_0 G l _ _ M hx
      have e2 := x_go_le hle hres
      omega
    · intro p e s m args below meth c E B
      refine sb140_0 E B _ _ M hx (hres _ ?_)
      intro h as M res hb hN
      unfold k140 at hb
      unfold pg140
      by_cases e0 : h = 17
      · rw [if_pos e0] at hb ⊢
        split at hb
        · exact sb140_17 E B _ _ _ _ M hb hN
        · cases hb
      · rw [if_neg e0] at hb ⊢
        by_cases e1 : h = 38
        · rw [if_pos e1] at hb ⊢
          split at hb
          · exact sb140_38 E B _ _ _ _ _ M hb hN
          · cases hb
        · rw [if_neg e1] at hb ⊢
          by_cases e2 : h = 80
          · rw [if_pos e2] at hb ⊢
            split at hb
            · exact sb140_80 E B _ _ _ _ _ M hb hN
            · cases hb
          · rw [if_neg e2] at hb ⊢
            by_cases e3 : h = 109
            · rw [if_pos e3] at hb ⊢
              split at hb
              · exact sb140_109 E B _ _ _ _ _ M hb hN
              · cases hb
            · rw [if_neg e3] at hb ⊢
              cases hb
  · cases h
/-! ZF.isHost(I)Z -/
def ym141 : MethodName := ⟨"ZonedFabric", "isHost", "(I)Z"⟩
theorem cd141 : xCd ym141 prog_1_method_28_code 2 (some FieldType.boolean) 1 := ⟨mw780, mw71, by decide, by decide, by decide +kernel⟩
def b141_28 (si0 : Int32) (M : hM) : Option xRes :=
  if si0 = 0 ∨ si0 = 1 then
    (some (.inl (some (.inl si0), M)))
  else
    none
def b141_27  (M : hM) : Option xRes :=
  b141_28 (0 : Int32) M
def b141_0 (a0 : Nat) (v1 : Int32) (M : hM) : Option xRes :=
  Option.bind (g_r M 11 0 (some a0)) fun o_1 =>
  Option.bind (g_o M 9 o_1) fun b_5 =>
  Option.bind (c_I (f8 [.inr (.inr (some b_5)), .inl v1] M)) fun q_3 =>
  if q_3.1 = 0 then
    (b141_27  q_3.2)
  else
    (Option.bind (g_r q_3.2 11 2 (some a0)) fun o_7 =>
    Option.bind (al_r q_3.2 35 o_7 v1) fun o_9 =>
    Option.bind (g_r q_3.2 5 4 o_9) fun o_11 =>
    if o_11 = none then
      (b141_27  q_3.2)
    else
      (b141_28 (1 : Int32) q_3.2))
def f141 (as : List aV) (M : hM) : xO := match as with
  | [.inr (.inr (some a0)), .inl v1] => x_out (b141_0 a0 v1 M)
  | _ => none
theorem lb141_28 (G : gX) (l : Launch) (si0 : Int32) (M : hM) {res : xRes} (h : b141_28 si0 M = some res) : h_sz M ≤ r_sz res ∧ h_sl M ≤ r_sl res := by
  unfold b141_28 at h
  by_cases q15 : si0 = 0 ∨ si0 = 1
  · rw [if_pos q15] at h
    obtain rfl := Option.some.inj h
    show h_sz M ≤ h_sz M ∧ h_sl M ≤ h_sl M
    omega
  · rw [if_neg q15] at h
    cases h
theorem lb141_27 (G : gX) (l : Launch)  (M : hM) {res : xRes} (h : b141_27  M = some res) : h_sz M ≤ r_sz res ∧ h_sl M ≤ r_sl res := by
  unfold b141_27 at h
  have e := lb141_28 G l (0 : Int32) M h
  omega
theorem lb141_0 (G : gX) (l : Launch) (a0 : Nat) (v1 : Int32) (M : hM) {res : xRes} (h : b141_0 a0 v1 M = some res) : h_sz M ≤ r_sz res ∧ h_sl M ≤ r_sl res := by
  unfold b141_0 at h
  obtain ⟨o_1, h2, h⟩ := bd h
  obtain ⟨b_5, h6, h⟩ := bd h
  obtain ⟨q_3, h4, h⟩ := bd h
  have eh4 := (t8 G l (c_I_some h4)).1
  by_cases q14 : q_3.1 = 0
  · rw [if_pos q14] at h
    have e := lb141_27 G l  q_3.2 h
    omega
  · rw [if_neg q14] at h
    obtain ⟨o_7, h8, h⟩ := bd h
    obtain ⟨o_9, h10, h⟩ := bd h
    obtain ⟨o_11, h12, h⟩ := bd h
    by_cases q13 : o_11 = none
    · rw [if_pos q13] at h
      have e := lb141_27 G l  q_3.2 h
      omega
    · rw [if_neg q13] at h
      have e := lb141_28 G l (1 : Int32) q_3.2 h
      omega
section
variable {p : Program} {l : Launch} {e : Env} {s : State} {m : MethodId} {args : Array Value} {below : List Frame} {meth : Method} {c : Code} {G : gX} {z0 y0 : Nat} {r : Option aV} {M' : hM}
theorem sb141_28 (E : xE G p (xRm 1 (h_sz M' - z0) (h_sl M' - y0)) s m args c prog_1_method_28_code "ZonedFabric" z0 y0 (h_sz M') (h_sl M') 2) (B : xB ym141 (some FieldType.boolean) meth) (si0 : Int32) (M : hM) {res : xRes} (h : b141_28 si0 M = some res) (hN : xN (fun _ _ _ => False) r M' res) : xV G p l e (xRm 1 (h_sz M' - z0) (h_sl M' - y0)) s m args below meth c z0 y0 (h_sz M') (h_sl M') 2 (MQ below (xQc G r M') args s (h_sz M' - z0) (h_sl M' - y0) (xFr G)) 28 [] [.inl si0] M := by
  unfold b141_28 at h
  by_cases q15 : si0 = 0 ∨ si0 = 1
  · rw [if_pos q15] at h
    obtain rfl := Option.some.inj h
    obtain ⟨rfl, rfl⟩ := Prod.mk.inj (show ((some (.inl si0) : Option aV), M) = (r, M') from hN)
    exact xv_ri E B.1 (by rcases q15 with z | z <;> rw [z] <;> rfl) B.2.1 (show decode prog_1_method_28_code 28 = .ok (.ireturn, 1) by decide +kernel) rfl rfl
  · rw [if_neg q15] at h
    cases h
theorem sb141_27 (E : xE G p (xRm 1 (h_sz M' - z0) (h_sl M' - y0)) s m args c prog_1_method_28_code "ZonedFabric" z0 y0 (h_sz M') (h_sl M') 2) (B : xB ym141 (some FieldType.boolean) meth)  (M : hM) {res : xRes} (h : b141_27  M = some res) (hN : xN (fun _ _ _ => False) r M' res) : xV G p l e (xRm 1 (h_sz M' - z0) (h_sl M' - y0)) s m args below meth c z0 y0 (h_sz M') (h_sl M') 2 (MQ below (xQc G r M') args s (h_sz M' - z0) (h_sl M' - y0) (xFr G)) 27 [] [] M := by
  unfold b141_27 at h
  refine xv_b E [.iconst 0] (pc' := 28) (lv' := []) (st' := [.inl (0 : Int32)]) (by decide +kernel) rfl rfl ?_
  exact xv_w (sb141_28 E B (0 : Int32) M h hN) rfl
theorem sb141_0 (E : xE G p (xRm 1 (h_sz M' - z0) (h_sl M' - y0)) s m args c prog_1_method_28_code "ZonedFabric" z0 y0 (h_sz M') (h_sl M') 2) (B : xB ym141 (some FieldType.boolean) meth) (a0 : Nat) (v1 : Int32) (M : hM) {res : xRes} (h : b141_0 a0 v1 M = some res) (hN : xN (fun _ _ _ => False) r M' res) : xV G p l e (xRm 1 (h_sz M' - z0) (h_sl M' - y0)) s m args below meth c z0 y0 (h_sz M') (h_sl M') 2 (MQ below (xQc G r M') args s (h_sz M' - z0) (h_sl M' - y0) (xFr G)) 0 [(0, .inr (.inr (some a0))), (1, .inl v1)] [] M := by
  unfold b141_0 at h
  refine xv_b E [.aload_n 0] (pc' := 1) (lv' := [(0, .inr (.inr (some a0))), (1, .inl v1)]) (st' := [.inr (.inr (some a0))]) (by decide +kernel) rfl rfl ?_
  obtain ⟨o_1, h2, h⟩ := bd h
  refine xg_r E 11 0 h2 mw82 (show decode prog_1_method_28_code 1 = .ok (.getfield 29, 3) by decide +kernel) ?_
  refine xv_b E [.iload_n 1] (pc' := 5) (lv' := [(0, .inr (.inr (some a0))), (1, .inl v1)]) (st' := [.inl v1, .inr (.inr o_1)]) (by decide +kernel) rfl rfl ?_
  obtain ⟨b_5, h6, h⟩ := bd h
  obtain ⟨eh6, th6⟩ := g_o_some h6
  obtain ⟨q_3, h4, h⟩ := bd h
  refine xv_cvo E eh6 9 (as := [.inl v1]) (t8 G l (c_I_some h4)) cd8 mw116 mw117 mw118 (show decode prog_1_method_28_code 5 = .ok (.invokevirtual 58, 3) by decide +kernel) th6 rfl rfl (Nat.le_of_ble_eq_true rfl) ⟨Nat.le_of_ble_eq_true rfl, Nat.le_of_ble_eq_true rfl⟩ ?_
  by_cases q14 : q_3.1 = 0
  · rw [if_pos q14] at h
    refine xv_if_eq E 27 (show decode prog_1_method_28_code 8 = .ok (.ifCond .eq (19), 3) by decide +kernel) rfl (fun _ => ?_) (fun z => absurd q14 z)
    exact xv_w (sb141_27 E B  q_3.2 h hN) rfl
  · rw [if_neg q14] at h
    refine xv_if_eq E 27 (show decode prog_1_method_28_code 8 = .ok (.ifCond .eq (19), 3) by decide +kernel) rfl (fun z => absurd z q14) (fun _ => ?_)
    refine xv_b E [.aload_n 0] (pc' := 12) (lv' := [(0, .inr (.inr (some a0))), (1, .inl v1)]) (st' := [.inr (.inr (some a0))]) (by decide +kernel) rfl rfl ?_
    obtain ⟨o_7, h8, h⟩ := bd h
    refine xg_r E 11 2 h8 mw86 (show decode prog_1_method_28_code 12 = .ok (.getfield 44, 3) by decide +kernel) ?_
    refine xv_b E [.iload_n 1] (pc' := 16) (lv' := [(0, .inr (.inr (some a0))), (1, .inl v1)]) (st' := [.inl v1, .inr (.inr o_7)]) (by decide +kernel) rfl rfl ?_
    obtain ⟨o_9, h10, h⟩ := bd h
    refine xa_r E 35 h10 (show decode prog_1_method_28_code 16 = .ok (.aaload, 1) by decide +kernel) ?_
    obtain ⟨o_11, h12, h⟩ := bd h
    refine xg_r E 5 4 h12 mw97 (show decode prog_1_method_28_code 17 = .ok (.getfield 54, 3) by decide +kernel) ?_
    by_cases q13 : o_11 = none
    · rw [if_pos q13] at h
      refine xi_null E 27 (show decode prog_1_method_28_code 20 = .ok (.ifnull (7), 3) by decide +kernel) rfl (fun _ => ?_) (fun z => absurd q13 z)
      exact xv_w (sb141_27 E B  q_3.2 h hN) rfl
    · rw [if_neg q13] at h
      refine xi_null E 27 (show decode prog_1_method_28_code 20 = .ok (.ifnull (7), 3) by decide +kernel) rfl (fun z => absurd z q13) (fun _ => ?_)
      refine xv_b E [.iconst 1] (pc' := 24) (lv' := [(0, .inr (.inr (some a0))), (1, .inl v1)]) (st' := [.inl (1 : Int32)]) (by decide +kernel) rfl rfl ?_
      refine xv_goto E 28 (show decode prog_1_method_28_code 24 = .ok (.goto (4), 3) by decide +kernel) rfl ?_
      exact xv_w (sb141_28 E B (1 : Int32) q_3.2 h hN) rfl
end
theorem t141 (G : gX) (l : Launch) {as : List aV} {M : hM} {r : Option aV} {M' : hM} (h : f141 as M = some (r, M')) : xM G l ym141 prog_1_method_28_code 2 (some FieldType.boolean) 1 as M r M' := by
  unfold f141 at h
  split at h
  · have h := x_out_ok h
    refine xM_of (by decide) (Nat.le_of_ble_eq_true rfl) (lb141_0 G l _ _ M h) ?_
    intro p e s m args below meth c E B
    exact sb141_0 E B _ _ M h rfl
  · cases h
/-! ZF.isDisc(I)Z -/
def ym142 : MethodName := ⟨"ZonedFabric", "isDisc", "(I)Z"⟩
theorem cd142 : xCd ym142 prog_1_method_27_code 2 (some FieldType.boolean) 1 := ⟨mw781, mw71, by decide, by decide, by decide +kernel⟩
def b142_28 (si0 : Int32) (M : hM) : Option xRes :=
  if si0 = 0 ∨ si0 = 1 then
    (some (.inl (some (.inl si0), M)))
  else
    none
def b142_27  (M : hM) : Option xRes :=
  b142_28 (0 : Int32) M
def b142_0 (a0 : Nat) (v1 : Int32) (M : hM) : Option xRes :=
  Option.bind (g_r M 11 0 (some a0)) fun o_1 =>
  Option.bind (g_o M 9 o_1) fun b_5 =>
  Option.bind (c_I (f8 [.inr (.inr (some b_5)), .inl v1] M)) fun q_3 =>
  if q_3.1 = 0 then
    (b142_27  q_3.2)
  else
    (Option.bind (g_r q_3.2 11 2 (some a0)) fun o_7 =>
    Option.bind (al_r q_3.2 35 o_7 v1) fun o_9 =>
    Option.bind (g_r q_3.2 5 5 o_9) fun o_11 =>
    if o_11 = none then
      (b142_27  q_3.2)
    else
      (b142_28 (1 : Int32) q_3.2))
def f142 (as : List aV) (M : hM) : xO := match as with
  | [.inr (.inr (some a0)), .inl v1] => x_out (b142_0 a0 v1 M)
  | _ => none
theorem lb142_28 (G : gX) (l : Launch) (si0 : Int32) (M : hM) {res : xRes} (h : b142_28 si0 M = some res) : h_sz M ≤ r_sz res ∧ h_sl M ≤ r_sl res := by
  unfold b142_28 at h
  by_cases q15 : si0 = 0 ∨ si0 = 1
  · rw [if_pos q15] at h
    obtain rfl := Option.some.inj h
    show h_sz M ≤ h_sz M ∧ h_sl M ≤ h_sl M
    omega
  · rw [if_neg q15] at h
    cases h
theorem lb142_27 (G : gX) (l : Launch)  (M : hM) {res : xRes} (h : b142_27  M = some res) : h_sz M ≤ r_sz res ∧ h_sl M ≤ r_sl res := by
  unfold b142_27 at h
  have e := lb142_28 G l (0 : Int32) M h
  omega
theorem lb142_0 (G : gX) (l : Launch) (a0 : Nat) (v1 : Int32) (M : hM) {res : xRes} (h : b142_0 a0 v1 M = some res) : h_sz M ≤ r_sz res ∧ h_sl M ≤ r_sl res := by
  unfold b142_0 at h
  obtain ⟨o_1, h2, h⟩ := bd h
  obtain ⟨b_5, h6, h⟩ := bd h
  obtain ⟨q_3, h4, h⟩ := bd h
  have eh4 := (t8 G l (c_I_some h4)).1
  by_cases q14 : q_3.1 = 0
  · rw [if_pos q14] at h
    have e := lb142_27 G l  q_3.2 h
    omega
  · rw [if_neg q14] at h
    obtain ⟨o_7, h8, h⟩ := bd h
    obtain ⟨o_9, h10, h⟩ := bd h
    obtain ⟨o_11, h12, h⟩ := bd h
    by_cases q13 : o_11 = none
    · rw [if_pos q13] at h
      have e := lb142_27 G l  q_3.2 h
      omega
    · rw [if_neg q13] at h
      have e := lb142_28 G l (1 : Int32) q_3.2 h
      omega
section
variable {p : Program} {l : Launch} {e : Env} {s : State} {m : MethodId} {args : Array Value} {below : List Frame} {meth : Method} {c : Code} {G : gX} {z0 y0 : Nat} {r : Option aV} {M' : hM}
theorem sb142_28 (E : xE G p (xRm 1 (h_sz M' - z0) (h_sl M' - y0)) s m args c prog_1_method_27_code "ZonedFabric" z0 y0 (h_sz M') (h_sl M') 2) (B : xB ym142 (some FieldType.boolean) meth) (si0 : Int32) (M : hM) {res : xRes} (h : b142_28 si0 M = some res) (hN : xN (fun _ _ _ => False) r M' res) : xV G p l e (xRm 1 (h_sz M' - z0) (h_sl M' - y0)) s m args below meth c z0 y0 (h_sz M') (h_sl M') 2 (MQ below (xQc G r M') args s (h_sz M' - z0) (h_sl M' - y0) (xFr G)) 28 [] [.inl si0] M := by
  unfold b142_28 at h
  by_cases q15 : si0 = 0 ∨ si0 = 1
  · rw [if_pos q15] at h
    obtain rfl := Option.some.inj h
    obtain ⟨rfl, rfl⟩ := Prod.mk.inj (show ((some (.inl si0) : Option aV), M) = (r, M') from hN)
    exact xv_ri E B.1 (by rcases q15 with z | z <;> rw [z] <;> rfl) B.2.1 (show decode prog_1_method_27_code 28 = .ok (.ireturn, 1) by decide +kernel) rfl rfl
  · rw [if_neg q15] at h
    cases h
theorem sb142_27 (E : xE G p (xRm 1 (h_sz M' - z0) (h_sl M' - y0)) s m args c prog_1_method_27_code "ZonedFabric" z0 y0 (h_sz M') (h_sl M') 2) (B : xB ym142 (some FieldType.boolean) meth)  (M : hM) {res : xRes} (h : b142_27  M = some res) (hN : xN (fun _ _ _ => False) r M' res) : xV G p l e (xRm 1 (h_sz M' - z0) (h_sl M' - y0)) s m args below meth c z0 y0 (h_sz M') (h_sl M') 2 (MQ below (xQc G r M') args s (h_sz M' - z0) (h_sl M' - y0) (xFr G)) 27 [] [] M := by
  unfold b142_27 at h
  refine xv_b E [.iconst 0] (pc' := 28) (lv' := []) (st' := [.inl (0 : Int32)]) (by decide +kernel) rfl rfl ?_
  exact xv_w (sb142_28 E B (0 : Int32) M h hN) rfl
theorem sb142_0 (E : xE G p (xRm 1 (h_sz M' - z0) (h_sl M' - y0)) s m args c prog_1_method_27_code "ZonedFabric" z0 y0 (h_sz M') (h_sl M') 2) (B : xB ym142 (some FieldType.boolean) meth) (a0 : Nat) (v1 : Int32) (M : hM) {res : xRes} (h : b142_0 a0 v1 M = some res) (hN : xN (fun _ _ _ => False) r M' res) : xV G p l e (xRm 1 (h_sz M' - z0) (h_sl M' - y0)) s m args below meth c z0 y0 (h_sz M') (h_sl M') 2 (MQ below (xQc G r M') args s (h_sz M' - z0) (h_sl M' - y0) (xFr G)) 0 [(0, .inr (.inr (some a0))), (1, .inl v1)] [] M := by
  unfold b142_0 at h
  refine xv_b E [.aload_n 0] (pc' := 1) (lv' := [(0, .inr (.inr (some a0))), (1, .inl v1)]) (st' := [.inr (.inr (some a0))]) (by decide +kernel) rfl rfl ?_
  obtain ⟨o_1, h2, h⟩ := bd h
  refine xg_r E 11 0 h2 mw82 (show decode prog_1_method_27_code 1 = .ok (.getfield 29, 3) by decide +kernel) ?_
  refine xv_b E [.iload_n 1] (pc' := 5) (lv' := [(0, .inr (.inr (some a0))), (1, .inl v1)]) (st' := [.inl v1, .inr (.inr o_1)]) (by decide +kernel) rfl rfl ?_
  obtain ⟨b_5, h6, h⟩ := bd h
  obtain ⟨eh6, th6⟩ := g_o_some h6
  obtain ⟨q_3, h4, h⟩ := bd h
  refine xv_cvo E eh6 9 (as := [.inl v1]) (t8 G l (c_I_some h4)) cd8 mw116 mw117 mw118 (show decode prog_1_method_27_code 5 = .ok (.invokevirtual 58, 3) by decide +kernel) th6 rfl rfl (Nat.le_of_ble_eq_true rfl) ⟨Nat.le_of_ble_eq_true rfl, Nat.le_of_ble_eq_true rfl⟩ ?_
  by_cases q14 : q_3.1 = 0
  · rw [if_pos q14] at h
    refine xv_if_eq E 27 (show decode prog_1_method_27_code 8 = .ok (.ifCond .eq (19), 3) by decide +kernel) rfl (fun _ => ?_) (fun z => absurd q14 z)
    exact xv_w (sb142_27 E B  q_3.2 h hN) rfl
  · rw [if_neg q14] at h
    refine xv_if_eq E 27 (show decode prog_1_method_27_code 8 = .ok (.ifCond .eq (19), 3) by decide +kernel) rfl (fun z => absurd z q14) (fun _ => ?_)
    refine xv_b E [.aload_n 0] (pc' := 12) (lv' := [(0, .inr (.inr (some a0))), (1, .inl v1)]) (st' := [.inr (.inr (some a0))]) (by decide +kernel) rfl rfl ?_
    obtain ⟨o_7, h8, h⟩ := bd h
    refine xg_r E 11 2 h8 mw86 (show decode prog_1_method_27_code 12 = .ok (.getfield 44, 3) by decide +kernel) ?_
    refine xv_b E [.iload_n 1] (pc' := 16) (lv' := [(0, .inr (.inr (some a0))), (1, .inl v1)]) (st' := [.inl v1, .inr (.inr o_7)]) (by decide +kernel) rfl rfl ?_
    obtain ⟨o_9, h10, h⟩ := bd h
    refine xa_r E 35 h10 (show decode prog_1_method_27_code 16 = .ok (.aaload, 1) by decide +kernel) ?_
    obtain ⟨o_11, h12, h⟩ := bd h
    refine xg_r E 5 5 h12 mw126 (show decode prog_1_method_27_code 17 = .ok (.getfield 76, 3) by decide +kernel) ?_
    by_cases q13 : o_11 = none
    · rw [if_pos q13] at h
      refine xi_null E 27 (show decode prog_1_method_27_code 20 = .ok (.ifnull (7), 3) by decide +kernel) rfl (fun _ => ?_) (fun z => absurd q13 z)
      exact xv_w (sb142_27 E B  q_3.2 h hN) rfl
    · rw [if_neg q13] at h
      refine xi_null E 27 (show decode prog_1_method_27_code 20 = .ok (.ifnull (7), 3) by decide +kernel) rfl (fun z => absurd z q13) (fun _ => ?_)
      refine xv_b E [.iconst 1] (pc' := 24) (lv' := [(0, .inr (.inr (some a0))), (1, .inl v1)]) (st' := [.inl (1 : Int32)]) (by decide +kernel) rfl rfl ?_
      refine xv_goto E 28 (show decode prog_1_method_27_code 24 = .ok (.goto (4), 3) by decide +kernel) rfl ?_
      exact xv_w (sb142_28 E B (1 : Int32) q_3.2 h hN) rfl
end
theorem t142 (G : gX) (l : Launch) {as : List aV} {M : hM} {r : Option aV} {M' : hM} (h : f142 as M = some (r, M')) : xM G l ym142 prog_1_method_27_code 2 (some FieldType.boolean) 1 as M r M' := by
  unfold f142 at h
  split at h
  · have h := x_out_ok h
    refine xM_of (by decide) (Nat.le_of_ble_eq_true rfl) (lb142_0 G l _ _ M h) ?_
    intro p e s m args below meth c E B
    exact sb142_0 E B _ _ M h rfl
  · cases h
/-! ZF.Host.hasRoom()Z -/
def ym143 : MethodName := ⟨"ZonedFabric$Host", "hasRoom", "()Z"⟩
theorem cd143 : xCd ym143 prog_6_method_2_code 3 (some FieldType.boolean) 0 := ⟨mw782, mw37, by decide, by decide, by decide +kernel⟩
def b143_0 (a0 : Nat) (M : hM) : Option xRes :=
  some (.inr (4, [.inr (.inr (some a0)), .inl (0 : Int32), .inl (0 : Int32)], M))
def b143_39 (a0 : Nat) (v1 : Int32) (v2 : Int32) (M : hM) : Option xRes :=
  some (.inr (4, [.inr (.inr (some a0)), .inl v1, .inl (v2 + (1 : Int32))], M))
def b143_63 (si0 : Int32) (M : hM) : Option xRes :=
  if si0 = 0 ∨ si0 = 1 then
    (some (.inl (some (.inl si0), M)))
  else
    none
def b143_4 (a0 : Nat) (v1 : Int32) (v2 : Int32) (M : hM) : Option xRes :=
  Option.bind (g_i M 4 5 (some a0)) fun v_1 =>
  if v_1 ≤ v2 then
    (Option.bind (p_i M 4 5 (some a0) v1) fun M3 =>
    Option.bind (g_i M3 4 5 (some a0)) fun v_5 =>
    if (4 : Int32) ≤ v_5 then
      (b143_63 (0 : Int32) M3)
    else
      (b143_63 (1 : Int32) M3))
  else
    (Option.bind (g_r M 4 4 (some a0)) fun o_8 =>
    Option.bind (al_r M 30 o_8 v2) fun o_10 =>
    Option.bind (g_o M 0 o_10) fun b_14 =>
    Option.bind (c_I (f47 [.inr (.inr (some b_14))] M)) fun q_12 =>
    if q_12.1 = 0 then
      (Option.bind (g_r q_12.2 4 4 (some a0)) fun o_16 =>
      Option.bind (g_r q_12.2 4 4 (some a0)) fun o_18 =>
      Option.bind (al_r q_12.2 30 o_18 v2) fun o_20 =>
      Option.bind (as_r q_12.2 0 o_16 v1 o_20) fun M22 =>
      b143_39 a0 (v1 + (1 : Int32)) v2 M22)
    else
      (b143_39 a0 v1 v2 q_12.2))
def k143 (h : Nat) (as : List aV) (M : hM) : Option xRes :=
  if h = 4 then (match as with | [.inr (.inr (some a0)), .inl v1, .inl v2] => b143_4 a0 v1 v2 M | _ => none) else
  none
def f143 (as : List aV) (M : hM) : xO := match as with
  | [.inr (.inr (some a0))] => x_go k143 (b143_0 a0 M)
  | _ => none
theorem lb143_0 (G : gX) (l : Launch) (a0 : Nat) (M : hM) {res : xRes} (h : b143_0 a0 M = some res) : h_sz M ≤ r_sz res ∧ h_sl M ≤ r_sl res := by
  unfold b143_0 at h
  obtain rfl := Option.some.inj h
  show h_sz M ≤ h_sz M ∧ h_sl M ≤ h_sl M
  omega
theorem lb143_39 (G : gX) (l : Launch) (a0 : Nat) (v1 : Int32) (v2 : Int32) (M : hM) {res : xRes} (h : b143_39 a0 v1 v2 M = some res) : h_sz M ≤ r_sz res ∧ h_sl M ≤ r_sl res := by
  unfold b143_39 at h
  obtain rfl := Option.some.inj h
  show h_sz M ≤ h_sz M ∧ h_sl M ≤ h_sl M
  omega
theorem lb143_63 (G : gX) (l : Launch) (si0 : Int32) (M : hM) {res : xRes} (h : b143_63 si0 M = some res) : h_sz M ≤ r_sz res ∧ h_sl M ≤ r_sl res := by
  unfold b143_63 at h
  by_cases q26 : si0 = 0 ∨ si0 = 1
  · rw [if_pos q26] at h
    obtain rfl := Option.some.inj h
    show h_sz M ≤ h_sz M ∧ h_sl M ≤ h_sl M
    omega
  · rw [if_neg q26] at h
    cases h
theorem lb143_4 (G : gX) (l : Launch) (a0 : Nat) (v1 : Int32) (v2 : Int32) (M : hM) {res : xRes} (h : b143_4 a0 v1 v2 M = some res) : h_sz M ≤ r_sz res ∧ h_sl M ≤ r_sl res := by
  unfold b143_4 at h
  obtain ⟨v_1, h2, h⟩ := bd h
  by_cases q25 : v_1 ≤ v2
  · rw [if_pos q25] at h
    obtain ⟨M3, h4, h⟩ := bd h
    have eh4 := p_i_sz h4
    obtain ⟨v_5, h6, h⟩ := bd h
    by_cases q7 : (4 : Int32) ≤ v_5
    · rw [if_pos q7] at h
      have e := lb143_63 G l (0 : Int32) M3 h
      omega
    · rw [if_neg q7] at h
      have e := lb143_63 G l (1 : Int32) M3 h
      omega
  · rw [if_neg q25] at h
    obtain ⟨o_8, h9, h⟩ := bd h
    obtain ⟨o_10, h11, h⟩ := bd h
    obtain ⟨b_14, h15, h⟩ := bd h
    obtain ⟨q_12, h13, h⟩ := bd h
    have eh13 := (t47 G l (c_I_some h13)).1
    by_cases q24 : q_12.1 = 0
    · rw [if_pos q24] at h
      obtain ⟨o_16, h17, h⟩ := bd h
      obtain ⟨o_18, h19, h⟩ := bd h
      obtain ⟨o_20, h21, h⟩ := bd h
      obtain ⟨M22, h23, h⟩ := bd h
      have eh23 := as_r_sz h23
      have e := lb143_39 G l a0 (v1 + (1 : Int32)) v2 M22 h
      omega
    · rw [if_neg q24] at h
      have e := lb143_39 G l a0 v1 v2 q_12.2 h
      omega
section
variable {p : Program} {l : Launch} {e : Env} {s : State} {m : MethodId} {args : Array Value} {below : List Frame} {meth : Method} {c : Code} {G : gX} {z0 y0 : Nat} {r : Option aV} {M' : hM}
def pg143 (p : Program) (l : Launch) (e : Env) (s : State) (m : MethodId) (args : Array Value) (below : List Frame) (meth : Method) (c : Code) (G : gX) (z0 y0 : Nat) (r : Option aV) (M' : hM) (h : Nat) (as : List aV) (M : hM) : Prop :=
  if h = 4 then (match as with | [.inr (.inr (some a0)), .inl v1, .inl v2] => xV G p l e (xRm 1 (h_sz M' - z0) (h_sl M' - y0)) s m args below meth c z0 y0 (h_sz M') (h_sl M') 3 (MQ below (xQc G r M') args s (h_sz M' - z0) (h_sl M' - y0) (xFr G)) 4 [(0, .inr (.inr (some a0))), (1, .inl v1), (2, .inl v2)] [] M | _ => False) else
  False
theorem sb143_0 (E : xE G p (xRm 1 (h_sz M' - z0) (h_sl M' - y0)) s m args c prog_6_method_2_code "ZonedFabric$Host" z0 y0 (h_sz M') (h_sl M') 3) (B : xB ym143 (some FieldType.boolean) meth) (a0 : Nat) (M : hM) {res : xRes} (h : b143_0 a0 M = some res) (hN : xN (pg143 p l e s m args below meth c G z0 y0 r M') r M' res) : xV G p l e (xRm 1 (h_sz M' - z0) (h_sl M' - y0)) s m args below meth c z0 y0 (h_sz M') (h_sl M') 3 (MQ below (xQc G r M') args s (h_sz M' - z0) (h_sl M' - y0) (xFr G)) 0 [(0, .inr (.inr (some a0)))] [] M := by
  unfold b143_0 at h
  refine xv_b E [.iconst 0, .istore_n 1, .iconst 0, .istore_n 2] (pc' := 4) (lv' := [(2, .inl (0 : Int32)), (1, .inl (0 : Int32)), (0, .inr (.inr (some a0)))]) (st' := []) (by decide +kernel) rfl rfl ?_
  obtain rfl := Option.some.inj h
  exact xv_w hN rfl
theorem sb143_39 (E : xE G p (xRm 1 (h_sz M' - z0) (h_sl M' - y0)) s m args c prog_6_method_2_code "ZonedFabric$Host" z0 y0 (h_sz M') (h_sl M') 3) (B : xB ym143 (some FieldType.boolean) meth) (a0 : Nat) (v1 : Int32) (v2 : Int32) (M : hM) {res : xRes} (h : b143_39 a0 v1 v2 M = some res) (hN : xN (pg143 p l e s m args below meth c G z0 y0 r M') r M' res) : xV G p l e (xRm 1 (h_sz M' - z0) (h_sl M' - y0)) s m args below meth c z0 y0 (h_sz M') (h_sl M') 3 (MQ below (xQc G r M') args s (h_sz M' - z0) (h_sl M' - y0) (xFr G)) 39 [(0, .inr (.inr (some a0))), (1, .inl v1), (2, .inl v2)] [] M := by
  unfold b143_39 at h
  refine xv_b E [.iinc 2 1] (pc' := 42) (lv' := [(2, .inl (v2 + (1 : Int32))), (0, .inr (.inr (some a0))), (1, .inl v1)]) (st' := []) (by decide +kernel) rfl rfl ?_
  refine xv_goto E 4 (show decode prog_6_method_2_code 42 = .ok (.goto (-38), 3) by decide +kernel) rfl ?_
  obtain rfl := Option.some.inj h
  exact xv_w hN rfl
theorem sb143_63 (E : xE G p (xRm 1 (h_sz M' - z0) (h_sl M' - y0)) s m args c prog_6_method_2_code "ZonedFabric$Host" z0 y0 (h_sz M') (h_sl M') 3) (B : xB ym143 (some FieldType.boolean) meth) (si0 : Int32) (M : hM) {res : xRes} (h : b143_63 si0 M = some res) (hN : xN (pg143 p l e s m args below meth c G z0 y0 r M') r M' res) : xV G p l e (xRm 1 (h_sz M' - z0) (h_sl M' - y0)) s m args below meth c z0 y0 (h_sz M') (h_sl M') 3 (MQ below (xQc G r M') args s (h_sz M' - z0) (h_sl M' - y0) (xFr G)) 63 [] [.inl si0] M := by
  unfold b143_63 at h
  by_cases q26 : si0 = 0 ∨ si0 = 1
  · rw [if_pos q26] at h
    obtain rfl := Option.some.inj h
    obtain ⟨rfl, rfl⟩ := Prod.mk.inj (show ((some (.inl si0) : Option aV), M) = (r, M') from hN)
    exact xv_ri E B.1 (by rcases q26 with z | z <;> rw [z] <;> rfl) B.2.1 (show decode prog_6_method_2_code 63 = .ok (.ireturn, 1) by decide +kernel) rfl rfl
  · rw [if_neg q26] at h
    cases h
theorem sb143_4 (E : xE G p (xRm 1 (h_sz M' - z0) (h_sl M' - y0)) s m args c prog_6_method_2_code "ZonedFabric$Host" z0 y0 (h_sz M') (h_sl M') 3) (B : xB ym143 (some FieldType.boolean) meth) (a0 : Nat) (v1 : Int32) (v2 : Int32) (M : hM) {res : xRes} (h : b143_4 a0 v1 v2 M = some res) (hN : xN (pg143 p l e s m args below meth c G z0 y0 r M') r M' res) : xV G p l e (xRm 1 (h_sz M' - z0) (h_sl M' - y0)) s m args below meth c z0 y0 (h_sz M') (h_sl M') 3 (MQ below (xQc G r M') args s (h_sz M' - z0) (h_sl M' - y0) (xFr G)) 4 [(0, .inr (.inr (some a0))), (1, .inl v1), (2, .inl v2)] [] M := by
  unfold b143_4 at h
  refine xv_b E [.iload_n 2, .aload_n 0] (pc' := 6) (lv' := [(0, .inr (.inr (some a0))), (1, .inl v1), (2, .inl v2)]) (st' := [.inr (.inr (some a0)), .inl v2]) (by decide +kernel) rfl rfl ?_
  obtain ⟨v_1, h2, h⟩ := bd h
  refine xg_i E 4 5 h2 mw324 (show decode prog_6_method_2_code 6 = .ok (.getfield 35, 3) by decide +kernel) ?_
  by_cases q25 : v_1 ≤ v2
  · rw [if_pos q25] at h
    refine xv_icmp_ge E 45 (show decode prog_6_method_2_code 9 = .ok (.if_icmp .ge (36), 3) by decide +kernel) rfl (fun _ => ?_) (fun z => absurd q25 z)
    refine xv_b E [.aload_n 0, .iload_n 1] (pc' := 47) (lv' := [(0, .inr (.inr (some a0))), (1, .inl v1), (2, .inl v2)]) (st' := [.inl v1, .inr (.inr (some a0))]) (by decide +kernel) rfl rfl ?_
    obtain ⟨M3, h4, h⟩ := bd h
    refine xp_i E 4 5 h4 mw324 (show decode prog_6_method_2_code 47 = .ok (.putfield 35, 3) by decide +kernel) (Or.inl rfl) ?_
    refine xv_b E [.aload_n 0] (pc' := 51) (lv' := [(0, .inr (.inr (some a0))), (1, .inl v1), (2, .inl v2)]) (st' := [.inr (.inr (some a0))]) (by decide +kernel) rfl rfl ?_
    obtain ⟨v_5, h6, h⟩ := bd h
    refine xg_i E 4 5 h6 mw324 (show decode prog_6_method_2_code 51 = .ok (.getfield 35, 3) by decide +kernel) ?_
    refine xv_b E [.iconst 4] (pc' := 55) (lv' := [(0, .inr (.inr (some a0))), (1, .inl v1), (2, .inl v2)]) (st' := [.inl (4 : Int32), .inl v_5]) (by decide +kernel) rfl rfl ?_
    by_cases q7 : (4 : Int32) ≤ v_5
    · rw [if_pos q7] at h
      refine xv_icmp_ge E 62 (show decode prog_6_method_2_code 55 = .ok (.if_icmp .ge (7), 3) by decide +kernel) rfl (fun _ => ?_) (fun z => absurd q7 z)
      refine xv_b E [.iconst 0] (pc' := 63) (lv' := [(0, .inr (.inr (some a0))), (1, .inl v1), (2, .inl v2)]) (st' := [.inl (0 : Int32)]) (by decide +kernel) rfl rfl ?_
      exact xv_w (sb143_63 E B (0 : Int32) M3 h hN) rfl
    · rw [if_neg q7] at h
      refine xv_icmp_ge E 62 (show decode prog_6_method_2_code 55 = .ok (.if_icmp .ge (7), 3) by decide +kernel) rfl (fun z => absurd z q7) (fun _ => ?_)
      refine xv_b E [.iconst 1] (pc' := 59) (lv' := [(0, .inr (.inr (some a0))), (1, .inl v1), (2, .inl v2)]) (st' := [.inl (1 : Int32)]) (by decide +kernel) rfl rfl ?_
      refine xv_goto E 63 (show decode prog_6_method_2_code 59 = .ok (.goto (4), 3) by decide +kernel) rfl ?_
      exact xv_w (sb143_63 E B (1 : Int32) M3 h hN) rfl
  · rw [if_neg q25] at h
    refine xv_icmp_ge E 45 (show decode prog_6_method_2_code 9 = .ok (.if_icmp .ge (36), 3) by decide +kernel) rfl (fun z => absurd z q25) (fun _ => ?_)
    refine xv_b E [.aload_n 0] (pc' := 13) (lv' := [(0, .inr (.inr (some a0))), (1, .inl v1), (2, .inl v2)]) (st' := [.inr (.inr (some a0))]) (by decide +kernel) rfl rfl ?_
    obtain ⟨o_8, h9, h⟩ := bd h
    refine xg_r E 4 4 h9 mw39 (show decode prog_6_method_2_code 13 = .ok (.getfield 11, 3) by decide +kernel) ?_
    refine xv_b E [.iload_n 2] (pc' := 17) (lv' := [(0, .inr (.inr (some a0))), (1, .inl v1), (2, .inl v2)]) (st' := [.inl v2, .inr (.inr o_8)]) (by decide +kernel) rfl rfl ?_
    obtain ⟨o_10, h11, h⟩ := bd h
    refine xa_r E 30 h11 (show decode prog_6_method_2_code 17 = .ok (.aaload, 1) by decide +kernel) ?_
    obtain ⟨b_14, h15, h⟩ := bd h
    obtain ⟨eh15, th15⟩ := g_o_some h15
    obtain ⟨q_12, h13, h⟩ := bd h
    refine xv_cvo E eh15 0 (as := []) (t47 G l (c_I_some h13)) cd47 mw291 mw292 mw293 (show decode prog_6_method_2_code 18 = .ok (.invokevirtual 38, 3) by decide +kernel) th15 rfl rfl (Nat.le_of_ble_eq_true rfl) ⟨Nat.le_of_ble_eq_true rfl, Nat.le_of_ble_eq_true rfl⟩ ?_
    by_cases q24 : q_12.1 = 0
    · rw [if_pos q24] at h
      refine xv_if_ne E 39 (show decode prog_6_method_2_code 21 = .ok (.ifCond .ne (18), 3) by decide +kernel) rfl (fun z => absurd q24 z) (fun _ => ?_)
      refine xv_b E [.aload_n 0] (pc' := 25) (lv' := [(0, .inr (.inr (some a0))), (1, .inl v1), (2, .inl v2)]) (st' := [.inr (.inr (some a0))]) (by decide +kernel) rfl rfl ?_
      obtain ⟨o_16, h17, h⟩ := bd h
      refine xg_r E 4 4 h17 mw39 (show decode prog_6_method_2_code 25 = .ok (.getfield 11, 3) by decide +kernel) ?_
      refine xv_b E [.iload_n 1, .aload_n 0] (pc' := 30) (lv' := [(0, .inr (.inr (some a0))), (1, .inl v1), (2, .inl v2)]) (st' := [.inr (.inr (some a0)), .inl v1, .inr (.inr o_16)]) (by decide +kernel) rfl rfl ?_
      obtain ⟨o_18, h19, h⟩ := bd h
      refine xg_r E 4 4 h19 mw39 (show decode prog_6_method_2_code 30 = .ok (.getfield 11, 3) by decide +kernel) ?_
      refine xv_b E [.iload_n 2] (pc' := 34) (lv' := [(0, .inr (.inr (some a0))), (1, .inl v1), (2, .inl v2)]) (st' := [.inl v2, .inr (.inr o_18), .inl v1, .inr (.inr o_16)]) (by decide +kernel) rfl rfl ?_
      obtain ⟨o_20, h21, h⟩ := bd h
      refine xa_r E 30 h21 (show decode prog_6_method_2_code 34 = .ok (.aaload, 1) by decide +kernel) ?_
      obtain ⟨M22, h23, h⟩ := bd h
      refine xs_r E 0 h23 (show decode prog_6_method_2_code 35 = .ok (.aastore, 1) by decide +kernel) ?_
      refine xv_b E [.iinc 1 1] (pc' := 39) (lv' := [(1, .inl (v1 + (1 : Int32))), (0, .inr (.inr (some a0))), (2, .inl v2)]) (st' := []) (by decide +kernel) rfl rfl ?_
      exact xv_w (sb143_39 E B a0 (v1 + (1 : Int32)) v2 M22 h hN) rfl
    · rw [if_neg q24] at h
      refine xv_if_ne E 39 (show decode prog_6_method_2_code 21 = .ok (.ifCond .ne (18), 3) by decide +kernel) rfl (fun _ => ?_) (fun z => absurd z q24)
      exact xv_w (sb143_39 E B a0 v1 v2 q_12.2 h hN) rfl
end
theorem t143 (G : gX) (l : Launch) {as : List aV} {M : hM} {r : Option aV} {M' : hM} (h : f143 as M = some (r, M')) : xM G l ym143 prog_6_method_2_code 3 (some FieldType.boolean) 1 as M r M' := by
  unfold f143 at h
  split at h
  · have hle : ∀ h as M res, k143 h as M = some res → h_sz M ≤ r_sz res ∧ h_sl M ≤ r_sl res := by
      intro h as M res hb
      unfold k143 at hb
      by_cases e0 : h = 4
      · rw [if_pos e0] at hb
        split at hb
        · exact lb143_4 G l _ _ _ M hb
        · cases hb
      · rw [if_neg e0] at hb
        cases hb
    obtain ⟨res, hx, hres⟩ := x_go_ok h
    refine xM_of (by decide) (Nat.le_of_ble_eq_true rfl) ?_ ?_
    · have e1 := lb143_0 G l _ M hx
      have e2 := x_go_le hle hres
      omega
    · intro p e s m args below meth c E B
      refine sb143_0 E B _ M hx (hres _ ?_)
      intro h as M res hb hN
      unfold k143 at hb
      unfold pg143
      by_cases e0 : h = 4
      · rw [if_pos e0] at hb ⊢
        split at hb
        · exact sb143_4 E B _ _ _ M hb hN
        · cases hb
      · rw [if_neg e0] at hb ⊢
        cases hb
  · cases h
/-! ZF.canBegin(IIIII)Z -/
def ym144 : MethodName := ⟨"ZonedFabric", "canBegin", "(IIIII)Z"⟩
theorem cd144 : xCd ym144 prog_1_method_31_code 6 (some FieldType.boolean) 5 := ⟨mw783, mw71, by decide, by decide, by decide +kernel⟩
def b144_82 (si0 : Int32) (M : hM) : Option xRes :=
  if si0 = 0 ∨ si0 = 1 then
    (some (.inl (some (.inl si0), M)))
  else
    none
def b144_81  (M : hM) : Option xRes :=
  b144_82 (0 : Int32) M
def b144_0 (a0 : Nat) (v1 : Int32) (v2 : Int32) (v3 : Int32) (v4 : Int32) (v5 : Int32) (M : hM) : Option xRes :=
  Option.bind (g_o M 11 (some a0)) fun b_3 =>
  Option.bind (c_I (f141 [.inr (.inr (some b_3)), .inl v1] M)) fun q_1 =>
  if q_1.1 = 0 then
    (b144_81  q_1.2)
  else
    (Option.bind (g_o q_1.2 11 (some a0)) fun b_7 =>
    Option.bind (c_I (f142 [.inr (.inr (some b_7)), .inl v2] q_1.2)) fun q_5 =>
    if q_5.1 = 0 then
      (b144_81  q_5.2)
    else
      (if v3 < 0 then
        (b144_81  q_5.2)
      else
        (if (2 : Int32) ≤ v3 then
          (b144_81  q_5.2)
        else
          (if v5 < (1 : Int32) then
            (b144_81  q_5.2)
          else
            (if (4 : Int32) < v5 then
              (b144_81  q_5.2)
            else
              (if v4 < 0 then
                (b144_81  q_5.2)
              else
                (if ((16 : Int32) - v5) < v4 then
                  (b144_81  q_5.2)
                else
                  (Option.bind (g_i q_5.2 11 7 (some a0)) fun v_9 =>
                  if (300 : Int32) ≤ v_9 then
                    (b144_81  q_5.2)
                  else
                    (Option.bind (g_r q_5.2 11 2 (some a0)) fun o_11 =>
                    Option.bind (al_r q_5.2 35 o_11 v1) fun o_13 =>
                    Option.bind (g_r q_5.2 5 4 o_13) fun o_15 =>
                    Option.bind (g_o q_5.2 4 o_15) fun b_19 =>
                    Option.bind (c_I (f143 [.inr (.inr (some b_19))] q_5.2)) fun q_17 =>
                    if q_17.1 = 0 then
                      (b144_81  q_17.2)
                    else
                      (b144_82 (1 : Int32) q_17.2))))))))))
def f144 (as : List aV) (M : hM) : xO := match as with
  | [.inr (.inr (some a0)), .inl v1, .inl v2, .inl v3, .inl v4, .inl v5] => x_out (b144_0 a0 v1 v2 v3 v4 v5 M)
  | _ => none
theorem lb144_82 (G : gX) (l : Launch) (si0 : Int32) (M : hM) {res : xRes} (h : b144_82 si0 M = some res) : h_sz M ≤ r_sz res ∧ h_sl M ≤ r_sl res := by
  unfold b144_82 at h
  by_cases q31 : si0 = 0 ∨ si0 = 1
  · rw [if_pos q31] at h
    obtain rfl := Option.some.inj h
    show h_sz M ≤ h_sz M ∧ h_sl M ≤ h_sl M
    omega
  · rw [if_neg q31] at h
    cases h
theorem lb144_81 (G : gX) (l : Launch)  (M : hM) {res : xRes} (h : b144_81  M = some res) : h_sz M ≤ r_sz res ∧ h_sl M ≤ r_sl res := by
  unfold b144_81 at h
  have e := lb144_82 G l (0 : Int32) M h
  omega
theorem lb144_0 (G : gX) (l : Launch) (a0 : Nat) (v1 : Int32) (v2 : Int32) (v3 : Int32) (v4 : Int32) (v5 : Int32) (M : hM) {res : xRes} (h : b144_0 a0 v1 v2 v3 v4 v5 M = some res) : h_sz M ≤ r_sz res ∧ h_sl M ≤ r_sl res := by
  unfold b144_0 at h
  obtain ⟨b_3, h4, h⟩ := bd h
  obtain ⟨q_1, h2, h⟩ := bd h
  have eh2 := (t141 G l (c_I_some h2)).1
  by_cases q30 : q_1.1 = 0
  · rw [if_pos q30] at h
    have e := lb144_81 G l  q_1.2 h
    omega
  · rw [if_neg q30] at h
    obtain ⟨b_7, h8, h⟩ := bd h
    obtain ⟨q_5, h6, h⟩ := bd h
    have eh6 := (t142 G l (c_I_some h6)).1
    by_cases q29 : q_5.1 = 0
    · rw [if_pos q29] at h
      have e := lb144_81 G l  q_5.2 h
      omega
    · rw [if_neg q29] at h
      by_cases q28 : v3 < 0
      · rw [if_pos q28] at h
        have e := lb144_81 G l  q_5.2 h
        omega
      · rw [if_neg q28] at h
        by_cases q27 : (2 : Int32) ≤ v3
        · rw [if_pos q27] at h
          have e := lb144_81 G l  q_5.2 h
          omega
        · rw [if_neg q27] at h
          by_cases q26 : v5 < (1 : Int32)
          · rw [if_pos q26] at h
            have e := lb144_81 G l  q_5.2 h
            omega
          · rw [if_neg q26] at h
            by_cases q25 : (4 : Int32) < v5
            · rw [if_pos q25] at h
              have e := lb144_81 G l  q_5.2 h
              omega
            · rw [if_neg q25] at h
              by_cases q24 : v4 < 0
              · rw [if_pos q24] at h
                have e := lb144_81 G l  q_5.2 h
                omega
              · rw [if_neg q24] at h
                by_cases q23 : ((16 : Int32) - v5) < v4
                · rw [if_pos q23] at h
                  have e := lb144_81 G l  q_5.2 h
                  omega
                · rw [if_neg q23] at h
                  obtain ⟨v_9, h10, h⟩ := bd h
                  by_cases q22 : (300 : Int32) ≤ v_9
                  · rw [if_pos q22] at h
                    have e := lb144_81 G l  q_5.2 h
                    omega
                  · rw [if_neg q22] at h
                    obtain ⟨o_11, h12, h⟩ := bd h
                    obtain ⟨o_13, h14, h⟩ := bd h
                    obtain ⟨o_15, h16, h⟩ := bd h
                    obtain ⟨b_19, h20, h⟩ := bd h
                    obtain ⟨q_17, h18, h⟩ := bd h
                    have eh18 := (t143 G l (c_I_some h18)).1
                    by_cases q21 : q_17.1 = 0
                    · rw [if_pos q21] at h
                      have e := lb144_81 G l  q_17.2 h
                      omega
                    · rw [if_neg q21] at h
                      have e := lb144_82 G l (1 : Int32) q_17.2 h
                      omega
section
variable {p : Program} {l : Launch} {e : Env} {s : State} {m : MethodId} {args : Array Value} {below : List Frame} {meth : Method} {c : Code} {G : gX} {z0 y0 : Nat} {r : Option aV} {M' : hM}
theorem sb144_82 (E : xE G p (xRm 2 (h_sz M' - z0) (h_sl M' - y0)) s m args c prog_1_method_31_code "ZonedFabric" z0 y0 (h_sz M') (h_sl M') 6) (B : xB ym144 (some FieldType.boolean) meth) (si0 : Int32) (M : hM) {res : xRes} (h : b144_82 si0 M = some res) (hN : xN (fun _ _ _ => False) r M' res) : xV G p l e (xRm 2 (h_sz M' - z0) (h_sl M' - y0)) s m args below meth c z0 y0 (h_sz M') (h_sl M') 6 (MQ below (xQc G r M') args s (h_sz M' - z0) (h_sl M' - y0) (xFr G)) 82 [] [.inl si0] M := by
  unfold b144_82 at h
  by_cases q31 : si0 = 0 ∨ si0 = 1
  · rw [if_pos q31] at h
    obtain rfl := Option.some.inj h
    obtain ⟨rfl, rfl⟩ := Prod.mk.inj (show ((some (.inl si0) : Option aV), M) = (r, M') from hN)
    exact xv_ri E B.1 (by rcases q31 with z | z <;> rw [z] <;> rfl) B.2.1 (show decode prog_1_method_31_code 82 = .ok (.ireturn, 1) by decide +kernel) rfl rfl
  · rw [if_neg q31] at h
    cases h
theorem sb144_81 (E : xE G p (xRm 2 (h_sz M' - z0) (h_sl M' - y0)) s m args c prog_1_method_31_code "ZonedFabric" z0 y0 (h_sz M') (h_sl M') 6) (B : xB ym144 (some FieldType.boolean) meth)  (M : hM) {res : xRes} (h : b144_81  M = some res) (hN : xN (fun _ _ _ => False) r M' res) : xV G p l e (xRm 2 (h_sz M' - z0) (h_sl M' - y0)) s m args below meth c z0 y0 (h_sz M') (h_sl M') 6 (MQ below (xQc G r M') args s (h_sz M' - z0) (h_sl M' - y0) (xFr G)) 81 [] [] M := by
  unfold b144_81 at h
  refine xv_b E [.iconst 0] (pc' := 82) (lv' := []) (st' := [.inl (0 : Int32)]) (by decide +kernel) rfl rfl ?_
  exact xv_w (sb144_82 E B (0 : Int32) M h hN) rfl
theorem sb144_0 (E : xE G p (xRm 2 (h_sz M' - z0) (h_sl M' - y0)) s m args c prog_1_method_31_code "ZonedFabric" z0 y0 (h_sz M') (h_sl M') 6) (B : xB ym144 (some FieldType.boolean) meth) (a0 : Nat) (v1 : Int32) (v2 : Int32) (v3 : Int32) (v4 : Int32) (v5 : Int32) (M : hM) {res : xRes} (h : b144_0 a0 v1 v2 v3 v4 v5 M = some res) (hN : xN (fun _ _ _ => False) r M' res) : xV G p l e (xRm 2 (h_sz M' - z0) (h_sl M' - y0)) s m args below meth c z0 y0 (h_sz M') (h_sl M') 6 (MQ below (xQc G r M') args s (h_sz M' - z0) (h_sl M' - y0) (xFr G)) 0 [(0, .inr (.inr (some a0))), (1, .inl v1), (2, .inl v2), (3, .inl v3), (4, .inl v4), (5, .inl v5)] [] M := by
  unfold b144_0 at h
  refine xv_b E [.aload_n 0, .iload_n 1] (pc' := 2) (lv' := [(0, .inr (.inr (some a0))), (1, .inl v1), (2, .inl v2), (3, .inl v3), (4, .inl v4), (5, .inl v5)]) (st' := [.inl v1, .inr (.inr (some a0))]) (by decide +kernel) rfl rfl ?_
  obtain ⟨b_3, h4, h⟩ := bd h
  obtain ⟨eh4, th4⟩ := g_o_some h4
  obtain ⟨q_1, h2, h⟩ := bd h
  refine xv_cvo E eh4 11 (as := [.inl v1]) (t141 G l (c_I_some h2)) cd141 mw784 mw785 mw786 (show decode prog_1_method_31_code 2 = .ok (.invokevirtual 256, 3) by decide +kernel) th4 rfl rfl (Nat.le_of_ble_eq_true rfl) ⟨Nat.le_of_ble_eq_true rfl, Nat.le_of_ble_eq_true rfl⟩ ?_
  by_cases q30 : q_1.1 = 0
  · rw [if_pos q30] at h
    refine xv_if_eq E 81 (show decode prog_1_method_31_code 5 = .ok (.ifCond .eq (76), 3) by decide +kernel) rfl (fun _ => ?_) (fun z => absurd q30 z)
    exact xv_w (sb144_81 E B  q_1.2 h hN) rfl
  · rw [if_neg q30] at h
    refine xv_if_eq E 81 (show decode prog_1_method_31_code 5 = .ok (.ifCond .eq (76), 3) by decide +kernel) rfl (fun z => absurd z q30) (fun _ => ?_)
    refine xv_b E [.aload_n 0, .iload_n 2] (pc' := 10) (lv' := [(0, .inr (.inr (some a0))), (1, .inl v1), (2, .inl v2), (3, .inl v3), (4, .inl v4), (5, .inl v5)]) (st' := [.inl v2, .inr (.inr (some a0))]) (by decide +kernel) rfl rfl ?_
    obtain ⟨b_7, h8, h⟩ := bd h
    obtain ⟨eh8, th8⟩ := g_o_some h8
    obtain ⟨q_5, h6, h⟩ := bd h
    refine xv_cvo E eh8 11 (as := [.inl v2]) (t142 G l (c_I_some h6)) cd142 mw787 mw788 mw789 (show decode prog_1_method_31_code 10 = .ok (.invokevirtual 179, 3) by decide +kernel) th8 rfl rfl (Nat.le_of_ble_eq_true rfl) ⟨Nat.le_of_ble_eq_true rfl, Nat.le_of_ble_eq_true rfl⟩ ?_
    by_cases q29 : q_5.1 = 0
    · rw [if_pos q29] at h
      refine xv_if_eq E 81 (show decode prog_1_method_31_code 13 = .ok (.ifCond .eq (68), 3) by decide +kernel) rfl (fun _ => ?_) (fun z => absurd q29 z)
      exact xv_w (sb144_81 E B  q_5.2 h hN) rfl
    · rw [if_neg q29] at h
      refine xv_if_eq E 81 (show decode prog_1_method_31_code 13 = .ok (.ifCond .eq (68), 3) by decide +kernel) rfl (fun z => absurd z q29) (fun _ => ?_)
      refine xv_b E [.iload_n 3] (pc' := 17) (lv' := [(0, .inr (.inr (some a0))), (1, .inl v1), (2, .inl v2), (3, .inl v3), (4, .inl v4), (5, .inl v5)]) (st' := [.inl v3]) (by decide +kernel) rfl rfl ?_
      by_cases q28 : v3 < 0
      · rw [if_pos q28] at h
        refine xv_if_lt E 81 (show decode prog_1_method_31_code 17 = .ok (.ifCond .lt (64), 3) by decide +kernel) rfl (fun _ => ?_) (fun z => absurd q28 z)
        exact xv_w (sb144_81 E B  q_5.2 h hN) rfl
      · rw [if_neg q28] at h
        refine xv_if_lt E 81 (show decode prog_1_method_31_code 17 = .ok (.ifCond .lt (64), 3) by decide +kernel) rfl (fun z => absurd z q28) (fun _ => ?_)
        refine xv_b E [.iload_n 3, .iconst 2] (pc' := 22) (lv' := [(0, .inr (.inr (some a0))), (1, .inl v1), (2, .inl v2), (3, .inl v3), (4, .inl v4), (5, .inl v5)]) (st' := [.inl (2 : Int32), .inl v3]) (by decide +kernel) rfl rfl ?_
        by_cases q27 : (2 : Int32) ≤ v3
        · rw [if_pos q27] at h
          refine xv_icmp_ge E 81 (show decode prog_1_method_31_code 22 = .ok (.if_icmp .ge (59), 3) by decide +kernel) rfl (fun _ => ?_) (fun z => absurd q27 z)
          exact xv_w (sb144_81 E B  q_5.2 h hN) rfl
        · rw [if_neg q27] at h
          refine xv_icmp_ge E 81 (show decode prog_1_method_31_code 22 = .ok (.if_icmp .ge (59), 3) by decide +kernel) rfl (fun z => absurd z q27) (fun _ => ?_)
          refine xv_b E [.iload 5, .iconst 1] (pc' := 28) (lv' := [(0, .inr (.inr (some a0))), (1, .inl v1), (2, .inl v2), (3, .inl v3), (4, .inl v4), (5, .inl v5)]) (st' := [.inl (1 : Int32), .inl v5]) (by decide +kernel) rfl rfl ?_
          by_cases q26 : v5 < (1 : Int32)
          · rw [if_pos q26] at h
            refine xv_icmp_lt E 81 (show decode prog_1_method_31_code 28 = .ok (.if_icmp .lt (53), 3) by decide +kernel) rfl (fun _ => ?_) (fun z => absurd q26 z)
            exact xv_w (sb144_81 E B  q_5.2 h hN) rfl
          · rw [if_neg q26] at h
            refine xv_icmp_lt E 81 (show decode prog_1_method_31_code 28 = .ok (.if_icmp .lt (53), 3) by decide +kernel) rfl (fun z => absurd z q26) (fun _ => ?_)
            refine xv_b E [.iload 5, .iconst 4] (pc' := 34) (lv' := [(0, .inr (.inr (some a0))), (1, .inl v1), (2, .inl v2), (3, .inl v3), (4, .inl v4), (5, .inl v5)]) (st' := [.inl (4 : Int32), .inl v5]) (by decide +kernel) rfl rfl ?_
            by_cases q25 : (4 : Int32) < v5
            · rw [if_pos q25] at h
              refine xv_icmp_gt E 81 (show decode prog_1_method_31_code 34 = .ok (.if_icmp .gt (47), 3) by decide +kernel) rfl (fun _ => ?_) (fun z => absurd q25 z)
              exact xv_w (sb144_81 E B  q_5.2 h hN) rfl
            · rw [if_neg q25] at h
              refine xv_icmp_gt E 81 (show decode prog_1_method_31_code 34 = .ok (.if_icmp .gt (47), 3) by decide +kernel) rfl (fun z => absurd z q25) (fun _ => ?_)
              refine xv_b E [.iload 4] (pc' := 39) (lv' := [(0, .inr (.inr (some a0))), (1, .inl v1), (2, .inl v2), (3, .inl v3), (4, .inl v4), (5, .inl v5)]) (st' := [.inl v4]) (by decide +kernel) rfl rfl ?_
              by_cases q24 : v4 < 0
              · rw [if_pos q24] at h
                refine xv_if_lt E 81 (show decode prog_1_method_31_code 39 = .ok (.ifCond .lt (42), 3) by decide +kernel) rfl (fun _ => ?_) (fun z => absurd q24 z)
                exact xv_w (sb144_81 E B  q_5.2 h hN) rfl
              · rw [if_neg q24] at h
                refine xv_if_lt E 81 (show decode prog_1_method_31_code 39 = .ok (.ifCond .lt (42), 3) by decide +kernel) rfl (fun z => absurd z q24) (fun _ => ?_)
                refine xv_b E [.iload 4, .bipush 16, .iload 5, .isub] (pc' := 49) (lv' := [(0, .inr (.inr (some a0))), (1, .inl v1), (2, .inl v2), (3, .inl v3), (4, .inl v4), (5, .inl v5)]) (st' := [.inl ((16 : Int32) - v5), .inl v4]) (by decide +kernel) rfl rfl ?_
                by_cases q23 : ((16 : Int32) - v5) < v4
                · rw [if_pos q23] at h
                  refine xv_icmp_gt E 81 (show decode prog_1_method_31_code 49 = .ok (.if_icmp .gt (32), 3) by decide +kernel) rfl (fun _ => ?_) (fun z => absurd q23 z)
                  exact xv_w (sb144_81 E B  q_5.2 h hN) rfl
                · rw [if_neg q23] at h
                  refine xv_icmp_gt E 81 (show decode prog_1_method_31_code 49 = .ok (.if_icmp .gt (32), 3) by decide +kernel) rfl (fun z => absurd z q23) (fun _ => ?_)
                  refine xv_b E [.aload_n 0] (pc' := 53) (lv' := [(0, .inr (.inr (some a0))), (1, .inl v1), (2, .inl v2), (3, .inl v3), (4, .inl v4), (5, .inl v5)]) (st' := [.inr (.inr (some a0))]) (by decide +kernel) rfl rfl ?_
                  obtain ⟨v_9, h10, h⟩ := bd h
                  refine xg_i E 11 7 h10 mw790 (show decode prog_1_method_31_code 53 = .ok (.getfield 243, 3) by decide +kernel) ?_
                  refine xv_b E [.sipush 300] (pc' := 59) (lv' := [(0, .inr (.inr (some a0))), (1, .inl v1), (2, .inl v2), (3, .inl v3), (4, .inl v4), (5, .inl v5)]) (st' := [.inl (300 : Int32), .inl v_9]) (by decide +kernel) rfl rfl ?_
                  by_cases q22 : (300 : Int32) ≤ v_9
                  · rw [if_pos q22] at h
                    refine xv_icmp_ge E 81 (show decode prog_1_method_31_code 59 = .ok (.if_icmp .ge (22), 3) by decide +kernel) rfl (fun _ => ?_) (fun z => absurd q22 z)
                    exact xv_w (sb144_81 E B  q_5.2 h hN) rfl
                  · rw [if_neg q22] at h
                    refine xv_icmp_ge E 81 (show decode prog_1_method_31_code 59 = .ok (.if_icmp .ge (22), 3) by decide +kernel) rfl (fun z => absurd z q22) (fun _ => ?_)
                    refine xv_b E [.aload_n 0] (pc' := 63) (lv' := [(0, .inr (.inr (some a0))), (1, .inl v1), (2, .inl v2), (3, .inl v3), (4, .inl v4), (5, .inl v5)]) (st' := [.inr (.inr (some a0))]) (by decide +kernel) rfl rfl ?_
                    obtain ⟨o_11, h12, h⟩ := bd h
                    refine xg_r E 11 2 h12 mw86 (show decode prog_1_method_31_code 63 = .ok (.getfield 44, 3) by decide +kernel) ?_
                    refine xv_b E [.iload_n 1] (pc' := 67) (lv' := [(0, .inr (.inr (some a0))), (1, .inl v1), (2, .inl v2), (3, .inl v3), (4, .inl v4), (5, .inl v5)]) (st' := [.inl v1, .inr (.inr o_11)]) (by decide +kernel) rfl rfl ?_
                    obtain ⟨o_13, h14, h⟩ := bd h
                    refine xa_r E 35 h14 (show decode prog_1_method_31_code 67 = .ok (.aaload, 1) by decide +kernel) ?_
                    obtain ⟨o_15, h16, h⟩ := bd h
                    refine xg_r E 5 4 h16 mw97 (show decode prog_1_method_31_code 68 = .ok (.getfield 54, 3) by decide +kernel) ?_
                    obtain ⟨b_19, h20, h⟩ := bd h
                    obtain ⟨eh20, th20⟩ := g_o_some h20
                    obtain ⟨q_17, h18, h⟩ := bd h
                    refine xv_cvo E eh20 4 (as := []) (t143 G l (c_I_some h18)) cd143 mw791 mw792 mw793 (show decode prog_1_method_31_code 71 = .ok (.invokevirtual 259, 3) by decide +kernel) th20 rfl rfl (Nat.le_of_ble_eq_true rfl) ⟨Nat.le_of_ble_eq_true rfl, Nat.le_of_ble_eq_true rfl⟩ ?_
                    by_cases q21 : q_17.1 = 0
                    · rw [if_pos q21] at h
                      refine xv_if_eq E 81 (show decode prog_1_method_31_code 74 = .ok (.ifCond .eq (7), 3) by decide +kernel) rfl (fun _ => ?_) (fun z => absurd q21 z)
                      exact xv_w (sb144_81 E B  q_17.2 h hN) rfl
                    · rw [if_neg q21] at h
                      refine xv_if_eq E 81 (show decode prog_1_method_31_code 74 = .ok (.ifCond .eq (7), 3) by decide +kernel) rfl (fun z => absurd z q21) (fun _ => ?_)
                      refine xv_b E [.iconst 1] (pc' := 78) (lv' := [(0, .inr (.inr (some a0))), (1, .inl v1), (2, .inl v2), (3, .inl v3), (4, .inl v4), (5, .inl v5)]) (st' := [.inl (1 : Int32)]) (by decide +kernel) rfl rfl ?_
                      refine xv_goto E 82 (show decode prog_1_method_31_code 78 = .ok (.goto (4), 3) by decide +kernel) rfl ?_
                      exact xv_w (sb144_82 E B (1 : Int32) q_17.2 h hN) rfl
end
theorem t144 (G : gX) (l : Launch) {as : List aV} {M : hM} {r : Option aV} {M' : hM} (h : f144 as M = some (r, M')) : xM G l ym144 prog_1_method_31_code 6 (some FieldType.boolean) 2 as M r M' := by
  unfold f144 at h
  split at h
  · have h := x_out_ok h
    refine xM_of (by decide) (Nat.le_of_ble_eq_true rfl) (lb144_0 G l _ _ _ _ _ _ M h) ?_
    intro p e s m args below meth c E B
    exact sb144_0 E B _ _ _ _ _ _ M h rfl
  · cases h
/-! ZF.Command.init(ZIIIJ)V -/
def ym145 : MethodName := ⟨"ZonedFabric$Command", "<init>", "(ZIIIJ)V"⟩
theorem cd145 : xCd ym145 prog_2_method_1_code 7 none 5 := ⟨mw794, mw282, by decide, by decide, by decide +kernel⟩
def b145_0 (a0 : Nat) (v1 : Int32) (v2 : Int32) (v3 : Int32) (v4 : Int32) (w5 : Int64) (M : hM) : Option xRes :=
  Option.bind (n_a M 23 (4 : Int32)) fun M1 =>
  Option.bind (p_r M1 0 5 (some a0) (some (h_sz M))) fun M3 =>
  Option.bind (p_i M3 0 13 (some a0) (-1 : Int32)) fun M5 =>
  Option.bind (p_z M5 0 0 (some a0) v1) fun M7 =>
  Option.bind (p_i M7 0 1 (some a0) v2) fun M9 =>
  Option.bind (p_i M9 0 2 (some a0) v3) fun M11 =>
  Option.bind (p_i M11 0 3 (some a0) v4) fun M13 =>
  Option.bind (p_l M13 0 4 (some a0) w5) fun M15 =>
  some (.inl (none, M15))
def f145 (as : List aV) (M : hM) : xO := match as with
  | [.inr (.inr (some a0)), .inl v1, .inl v2, .inl v3, .inl v4, .inr (.inl w5)] => x_out (b145_0 a0 v1 v2 v3 v4 w5 M)
  | _ => none
theorem lb145_0 (G : gX) (l : Launch) (a0 : Nat) (v1 : Int32) (v2 : Int32) (v3 : Int32) (v4 : Int32) (w5 : Int64) (M : hM) {res : xRes} (h : b145_0 a0 v1 v2 v3 v4 w5 M = some res) : h_sz M ≤ r_sz res ∧ h_sl M ≤ r_sl res := by
  unfold b145_0 at h
  obtain ⟨M1, h2, h⟩ := bd h
  have eh2 := n_a_sz h2
  obtain ⟨M3, h4, h⟩ := bd h
  have eh4 := p_r_sz h4
  obtain ⟨M5, h6, h⟩ := bd h
  have eh6 := p_i_sz h6
  obtain ⟨M7, h8, h⟩ := bd h
  have eh8 := p_z_sz h8
  obtain ⟨M9, h10, h⟩ := bd h
  have eh10 := p_i_sz h10
  obtain ⟨M11, h12, h⟩ := bd h
  have eh12 := p_i_sz h12
  obtain ⟨M13, h14, h⟩ := bd h
  have eh14 := p_i_sz h14
  obtain ⟨M15, h16, h⟩ := bd h
  have eh16 := p_l_sz h16
  obtain rfl := Option.some.inj h
  show h_sz M ≤ h_sz M15 ∧ h_sl M ≤ h_sl M15
  omega
section
variable {p : Program} {l : Launch} {e : Env} {s : State} {m : MethodId} {args : Array Value} {below : List Frame} {meth : Method} {c : Code} {G : gX} {z0 y0 : Nat} {r : Option aV} {M' : hM}
theorem sb145_0 (E : xE G p (xRm 1 (h_sz M' - z0) (h_sl M' - y0)) s m args c prog_2_method_1_code "ZonedFabric$Command" z0 y0 (h_sz M') (h_sl M') 7) (B : xB ym145 none meth) (a0 : Nat) (v1 : Int32) (v2 : Int32) (v3 : Int32) (v4 : Int32) (w5 : Int64) (M : hM) {res : xRes} (h : b145_0 a0 v1 v2 v3 v4 w5 M = some res) (hN : xN (fun _ _ _ => False) r M' res) : xV G p l e (xRm 1 (h_sz M' - z0) (h_sl M' - y0)) s m args below meth c z0 y0 (h_sz M') (h_sl M') 7 (MQ below (xQc G r M') args s (h_sz M' - z0) (h_sl M' - y0) (xFr G)) 0 [(0, .inr (.inr (some a0))), (1, .inl v1), (2, .inl v2), (3, .inl v3), (4, .inl v4), (5, .inr (.inl w5))] [] M := by
  unfold b145_0 at h
  refine xv_b E [.aload_n 0] (pc' := 1) (lv' := [(0, .inr (.inr (some a0))), (1, .inl v1), (2, .inl v2), (3, .inl v3), (4, .inl v4), (5, .inr (.inl w5))]) (st' := [.inr (.inr (some a0))]) (by decide +kernel) rfl rfl ?_
  refine xv_co E mw796 mw9 mwObj (show decode prog_2_method_1_code 1 = .ok (.invokespecial 3, 3) by decide +kernel) (Nat.le_of_ble_eq_true rfl) ⟨Nat.le_of_ble_eq_true rfl, Nat.le_of_ble_eq_true rfl⟩ ?_
  refine xv_b E [.aload_n 0, .iconst 4] (pc' := 6) (lv' := [(0, .inr (.inr (some a0))), (1, .inl v1), (2, .inl v2), (3, .inl v3), (4, .inl v4), (5, .inr (.inl w5))]) (st' := [.inl (4 : Int32), .inr (.inr (some a0))]) (by decide +kernel) rfl rfl ?_
  obtain ⟨M1, h2, h⟩ := bd h
  refine xn_a E 23 h2 mw101 (show decode prog_2_method_1_code 6 = .ok (.newarray .long, 2) by decide +kernel) ?_
  obtain ⟨M3, h4, h⟩ := bd h
  refine xp_r E 0 5 h4 mw481 (show decode prog_2_method_1_code 8 = .ok (.putfield 9, 3) by decide +kernel) (Or.inr ⟨rfl, B.2.2, rfl⟩) ?_
  refine xv_b E [.aload_n 0, .iconst (-1)] (pc' := 13) (lv' := [(0, .inr (.inr (some a0))), (1, .inl v1), (2, .inl v2), (3, .inl v3), (4, .inl v4), (5, .inr (.inl w5))]) (st' := [.inl (-1 : Int32), .inr (.inr (some a0))]) (by decide +kernel) rfl rfl ?_
  obtain ⟨M5, h6, h⟩ := bd h
  refine xp_i E 0 13 h6 mw308 (show decode prog_2_method_1_code 13 = .ok (.putfield 15, 3) by decide +kernel) (Or.inl rfl) ?_
  refine xv_b E [.aload_n 0, .iload_n 1] (pc' := 18) (lv' := [(0, .inr (.inr (some a0))), (1, .inl v1), (2, .inl v2), (3, .inl v3), (4, .inl v4), (5, .inr (.inl w5))]) (st' := [.inl v1, .inr (.inr (some a0))]) (by decide +kernel) rfl rfl ?_
  obtain ⟨M7, h8, h⟩ := bd h
  refine xp_z E 0 0 h8 mw286 (show decode prog_2_method_1_code 18 = .ok (.putfield 19, 3) by decide +kernel) (Or.inr ⟨rfl, B.2.2, rfl⟩) ?_
  refine xv_b E [.aload_n 0, .iload_n 2] (pc' := 23) (lv' := [(0, .inr (.inr (some a0))), (1, .inl v1), (2, .inl v2), (3, .inl v3), (4, .inl v4), (5, .inr (.inl w5))]) (st' := [.inl v2, .inr (.inr (some a0))]) (by decide +kernel) rfl rfl ?_
  obtain ⟨M9, h10, h⟩ := bd h
  refine xp_i E 0 1 h10 mw285 (show decode prog_2_method_1_code 23 = .ok (.putfield 23, 3) by decide +kernel) (Or.inr ⟨rfl, B.2.2, rfl⟩) ?_
  refine xv_b E [.aload_n 0, .iload_n 3] (pc' := 28) (lv' := [(0, .inr (.inr (some a0))), (1, .inl v1), (2, .inl v2), (3, .inl v3), (4, .inl v4), (5, .inr (.inl w5))]) (st' := [.inl v3, .inr (.inr (some a0))]) (by decide +kernel) rfl rfl ?_
  obtain ⟨M11, h12, h⟩ := bd h
  refine xp_i E 0 2 h12 mw287 (show decode prog_2_method_1_code 28 = .ok (.putfield 26, 3) by decide +kernel) (Or.inr ⟨rfl, B.2.2, rfl⟩) ?_
  refine xv_b E [.aload_n 0, .iload 4] (pc' := 34) (lv' := [(0, .inr (.inr (some a0))), (1, .inl v1), (2, .inl v2), (3, .inl v3), (4, .inl v4), (5, .inr (.inl w5))]) (st' := [.inl v4, .inr (.inr (some a0))]) (by decide +kernel) rfl rfl ?_
  obtain ⟨M13, h14, h⟩ := bd h
  refine xp_i E 0 3 h14 mw288 (show decode prog_2_method_1_code 34 = .ok (.putfield 29, 3) by decide +kernel) (Or.inr ⟨rfl, B.2.2, rfl⟩) ?_
  refine xv_b E [.aload_n 0, .lload 5] (pc' := 40) (lv' := [(0, .inr (.inr (some a0))), (1, .inl v1), (2, .inl v2), (3, .inl v3), (4, .inl v4), (5, .inr (.inl w5))]) (st' := [.inr (.inl w5), .inr (.inr (some a0))]) (by decide +kernel) rfl rfl ?_
  obtain ⟨M15, h16, h⟩ := bd h
  refine xp_l E 0 4 h16 mw795 (show decode prog_2_method_1_code 40 = .ok (.putfield 32, 3) by decide +kernel) (Or.inr ⟨rfl, B.2.2, rfl⟩) ?_
  obtain rfl := Option.some.inj h
  obtain ⟨rfl, rfl⟩ := Prod.mk.inj (show ((none : Option aV), M15) = (r, M') from hN)
  exact xv_rv E B.1 B.2.1 (show decode prog_2_method_1_code 43 = .ok (.return_, 1) by decide +kernel) rfl rfl
end
theorem t145 (G : gX) (l : Launch) {as : List aV} {M : hM} {r : Option aV} {M' : hM} (h : f145 as M = some (r, M')) : xM G l ym145 prog_2_method_1_code 7 none 1 as M r M' := by
  unfold f145 at h
  split at h
  · have h := x_out_ok h
    refine xM_of (by decide) (Nat.le_of_ble_eq_true rfl) (lb145_0 G l _ _ _ _ _ _ M h) ?_
    intro p e s m args below meth c E B
    exact sb145_0 E B _ _ _ _ _ _ M h rfl
  · cases h
/-! ZF.Host.begin(LZF$Command;)V -/
def ym146 : MethodName := ⟨"ZonedFabric$Host", "begin", "(LZonedFabric$Command;)V"⟩
theorem cd146 : xCd ym146 prog_6_method_3_code 2 none 1 := ⟨mw797, mw37, by decide, by decide, by decide +kernel⟩
def b146_50  (M : hM) : Option xRes :=
  some (.inl (none, M))
def b146_0 (a0 : Nat) (o1 : Option Nat) (M : hM) : Option xRes :=
  Option.bind (g_i M 4 5 (some a0)) fun v_1 =>
  if (4 : Int32) ≤ v_1 then
    (b146_50  M)
  else
    (Option.bind (p_z M 4 2 (some a0) (1 : Int32)) fun M3 =>
    Option.bind (g_r M3 4 4 (some a0)) fun o_5 =>
    Option.bind (g_i M3 4 5 (some a0)) fun v_7 =>
    Option.bind (as_r M3 0 o_5 v_7 o1) fun M9 =>
    Option.bind (g_i M9 4 5 (some a0)) fun v_11 =>
    Option.bind (p_i M9 4 5 (some a0) (v_11 + (1 : Int32))) fun M13 =>
    Option.bind (g_r M13 4 0 (some a0)) fun o_15 =>
    Option.bind (g_i M13 9 3 o_15) fun v_17 =>
    Option.bind (p_i M13 0 11 o1 v_17) fun M19 =>
    Option.bind (g_o M19 4 (some a0)) fun b_23 =>
    Option.bind (c_V (f51 [.inr (.inr (some b_23)), .inr (.inr o1), .inl (0 : Int32)] M19)) fun q_21 =>
    b146_50  q_21)
def f146 (as : List aV) (M : hM) : xO := match as with
  | [.inr (.inr (some a0)), .inr (.inr o1)] => x_out (b146_0 a0 o1 M)
  | _ => none
theorem lb146_50 (G : gX) (l : Launch)  (M : hM) {res : xRes} (h : b146_50  M = some res) : h_sz M ≤ r_sz res ∧ h_sl M ≤ r_sl res := by
  unfold b146_50 at h
  obtain rfl := Option.some.inj h
  show h_sz M ≤ h_sz M ∧ h_sl M ≤ h_sl M
  omega
theorem lb146_0 (G : gX) (l : Launch) (a0 : Nat) (o1 : Option Nat) (M : hM) {res : xRes} (h : b146_0 a0 o1 M = some res) : h_sz M ≤ r_sz res ∧ h_sl M ≤ r_sl res := by
  unfold b146_0 at h
  obtain ⟨v_1, h2, h⟩ := bd h
  by_cases q25 : (4 : Int32) ≤ v_1
  · rw [if_pos q25] at h
    have e := lb146_50 G l  M h
    omega
  · rw [if_neg q25] at h
    obtain ⟨M3, h4, h⟩ := bd h
    have eh4 := p_z_sz h4
    obtain ⟨o_5, h6, h⟩ := bd h
    obtain ⟨v_7, h8, h⟩ := bd h
    obtain ⟨M9, h10, h⟩ := bd h
    have eh10 := as_r_sz h10
    obtain ⟨v_11, h12, h⟩ := bd h
    obtain ⟨M13, h14, h⟩ := bd h
    have eh14 := p_i_sz h14
    obtain ⟨o_15, h16, h⟩ := bd h
    obtain ⟨v_17, h18, h⟩ := bd h
    obtain ⟨M19, h20, h⟩ := bd h
    have eh20 := p_i_sz h20
    obtain ⟨b_23, h24, h⟩ := bd h
    obtain ⟨q_21, h22, h⟩ := bd h
    have eh22 := (t51 G l (c_V_some h22)).1
    have e := lb146_50 G l  q_21 h
    omega
section
variable {p : Program} {l : Launch} {e : Env} {s : State} {m : MethodId} {args : Array Value} {below : List Frame} {meth : Method} {c : Code} {G : gX} {z0 y0 : Nat} {r : Option aV} {M' : hM}
theorem sb146_50 (E : xE G p (xRm 5 (h_sz M' - z0) (h_sl M' - y0)) s m args c prog_6_method_3_code "ZonedFabric$Host" z0 y0 (h_sz M') (h_sl M') 2) (B : xB ym146 none meth)  (M : hM) {res : xRes} (h : b146_50  M = some res) (hN : xN (fun _ _ _ => False) r M' res) : xV G p l e (xRm 5 (h_sz M' - z0) (h_sl M' - y0)) s m args below meth c z0 y0 (h_sz M') (h_sl M') 2 (MQ below (xQc G r M') args s (h_sz M' - z0) (h_sl M' - y0) (xFr G)) 50 [] [] M := by
  unfold b146_50 at h
  obtain rfl := Option.some.inj h
  obtain ⟨rfl, rfl⟩ := Prod.mk.inj (show ((none : Option aV), M) = (r, M') from hN)
  exact xv_rv E B.1 B.2.1 (show decode prog_6_method_3_code 50 = .ok (.return_, 1) by decide +kernel) rfl rfl
theorem sb146_0 (E : xE G p (xRm 5 (h_sz M' - z0) (h_sl M' - y0)) s m args c prog_6_method_3_code "ZonedFabric$Host" z0 y0 (h_sz M') (h_sl M') 2) (B : xB ym146 none meth) (a0 : Nat) (o1 : Option Nat) (M : hM) {res : xRes} (h : b146_0 a0 o1 M = some res) (hN : xN (fun _ _ _ => False) r M' res) : xV G p l e (xRm 5 (h_sz M' - z0) (h_sl M' - y0)) s m args below meth c z0 y0 (h_sz M') (h_sl M') 2 (MQ below (xQc G r M') args s (h_sz M' - z0) (h_sl M' - y0) (xFr G)) 0 [(0, .inr (.inr (some a0))), (1, .inr (.inr o1))] [] M := by
  unfold b146_0 at h
  refine xv_b E [.aload_n 0] (pc' := 1) (lv' := [(0, .inr (.inr (some a0))), (1, .inr (.inr o1))]) (st' := [.inr (.inr (some a0))]) (by decide +kernel) rfl rfl ?_
  obtain ⟨v_1, h2, h⟩ := bd h
  refine xg_i E 4 5 h2 mw324 (show decode prog_6_method_3_code 1 = .ok (.getfield 35, 3) by decide +kernel) ?_
  refine xv_b E [.iconst 4] (pc' := 5) (lv' := [(0, .inr (.inr (some a0))), (1, .inr (.inr o1))]) (st' := [.inl (4 : Int32), .inl v_1]) (by decide +kernel) rfl rfl ?_
  by_cases q25 : (4 : Int32) ≤ v_1
  · rw [if_pos q25] at h
    refine xv_icmp_ge E 50 (show decode prog_6_method_3_code 5 = .ok (.if_icmp .ge (45), 3) by decide +kernel) rfl (fun _ => ?_) (fun z => absurd q25 z)
    exact xv_w (sb146_50 E B  M h hN) rfl
  · rw [if_neg q25] at h
    refine xv_icmp_ge E 50 (show decode prog_6_method_3_code 5 = .ok (.if_icmp .ge (45), 3) by decide +kernel) rfl (fun z => absurd z q25) (fun _ => ?_)
    refine xv_b E [.aload_n 0, .iconst 1] (pc' := 10) (lv' := [(0, .inr (.inr (some a0))), (1, .inr (.inr o1))]) (st' := [.inl (1 : Int32), .inr (.inr (some a0))]) (by decide +kernel) rfl rfl ?_
    obtain ⟨M3, h4, h⟩ := bd h
    refine xp_z E 4 2 h4 mw798 (show decode prog_6_method_3_code 10 = .ok (.putfield 42, 3) by decide +kernel) (Or.inl rfl) ?_
    refine xv_b E [.aload_n 0] (pc' := 14) (lv' := [(0, .inr (.inr (some a0))), (1, .inr (.inr o1))]) (st' := [.inr (.inr (some a0))]) (by decide +kernel) rfl rfl ?_
    obtain ⟨o_5, h6, h⟩ := bd h
    refine xg_r E 4 4 h6 mw39 (show decode prog_6_method_3_code 14 = .ok (.getfield 11, 3) by decide +kernel) ?_
    refine xv_b E [.aload_n 0] (pc' := 18) (lv' := [(0, .inr (.inr (some a0))), (1, .inr (.inr o1))]) (st' := [.inr (.inr (some a0)), .inr (.inr o_5)]) (by decide +kernel) rfl rfl ?_
    obtain ⟨v_7, h8, h⟩ := bd h
    refine xg_i E 4 5 h8 mw324 (show decode prog_6_method_3_code 18 = .ok (.getfield 35, 3) by decide +kernel) ?_
    refine xv_b E [.aload_n 1] (pc' := 22) (lv' := [(0, .inr (.inr (some a0))), (1, .inr (.inr o1))]) (st' := [.inr (.inr o1), .inl v_7, .inr (.inr o_5)]) (by decide +kernel) rfl rfl ?_
    obtain ⟨M9, h10, h⟩ := bd h
    refine xs_r E 0 h10 (show decode prog_6_method_3_code 22 = .ok (.aastore, 1) by decide +kernel) ?_
    refine xv_b E [.aload_n 0, .dup] (pc' := 25) (lv' := [(0, .inr (.inr (some a0))), (1, .inr (.inr o1))]) (st' := [.inr (.inr (some a0)), .inr (.inr (some a0))]) (by decide +kernel) rfl rfl ?_
    obtain ⟨v_11, h12, h⟩ := bd h
    refine xg_i E 4 5 h12 mw324 (show decode prog_6_method_3_code 25 = .ok (.getfield 35, 3) by decide +kernel) ?_
    refine xv_b E [.iconst 1, .iadd] (pc' := 30) (lv' := [(0, .inr (.inr (some a0))), (1, .inr (.inr o1))]) (st' := [.inl (v_11 + (1 : Int32)), .inr (.inr (some a0))]) (by decide +kernel) rfl rfl ?_
    obtain ⟨M13, h14, h⟩ := bd h
    refine xp_i E 4 5 h14 mw324 (show decode prog_6_method_3_code 30 = .ok (.putfield 35, 3) by decide +kernel) (Or.inl rfl) ?_
    refine xv_b E [.aload_n 1, .aload_n 0] (pc' := 35) (lv' := [(0, .inr (.inr (some a0))), (1, .inr (.inr o1))]) (st' := [.inr (.inr (some a0)), .inr (.inr o1)]) (by decide +kernel) rfl rfl ?_
    obtain ⟨o_15, h16, h⟩ := bd h
    refine xg_r E 4 0 h16 mw40 (show decode prog_6_method_3_code 35 = .ok (.getfield 17, 3) by decide +kernel) ?_
    obtain ⟨v_17, h18, h⟩ := bd h
    refine xg_i E 9 3 h18 mw310 (show decode prog_6_method_3_code 38 = .ok (.getfield 46, 3) by decide +kernel) ?_
    obtain ⟨M19, h20, h⟩ := bd h
    refine xp_i E 0 11 h20 mw316 (show decode prog_6_method_3_code 41 = .ok (.putfield 49, 3) by decide +kernel) (Or.inl rfl) ?_
    refine xv_b E [.aload_n 0, .aload_n 1, .iconst 0] (pc' := 47) (lv' := [(0, .inr (.inr (some a0))), (1, .inr (.inr o1))]) (st' := [.inl (0 : Int32), .inr (.inr o1), .inr (.inr (some a0))]) (by decide +kernel) rfl rfl ?_
    obtain ⟨b_23, h24, h⟩ := bd h
    obtain ⟨eh24, th24⟩ := g_o_some h24
    obtain ⟨q_21, h22, h⟩ := bd h
    refine xv_cvo E eh24 4 (as := [.inr (.inr o1), .inl (0 : Int32)]) (t51 G l (c_V_some h22)) cd51 mw320 mw321 mw322 (show decode prog_6_method_3_code 47 = .ok (.invokevirtual 52, 3) by decide +kernel) th24 rfl rfl (Nat.le_of_ble_eq_true rfl) ⟨Nat.le_of_ble_eq_true rfl, Nat.le_of_ble_eq_true rfl⟩ ?_
    exact xv_w (sb146_50 E B  q_21 h hN) rfl
end
theorem t146 (G : gX) (l : Launch) {as : List aV} {M : hM} {r : Option aV} {M' : hM} (h : f146 as M = some (r, M')) : xM G l ym146 prog_6_method_3_code 2 none 5 as M r M' := by
  unfold f146 at h
  split at h
  · have h := x_out_ok h
    refine xM_of (by decide) (Nat.le_of_ble_eq_true rfl) (lb146_0 G l _ _ M h) ?_
    intro p e s m args below meth c E B
    exact sb146_0 E B _ _ M h rfl
  · cases h
/-! ZF.begin(IILZF$Command;)I -/
def ym147 : MethodName := ⟨"ZonedFabric", "begin", "(IILZonedFabric$Command;)I"⟩
theorem cd147 : xCd ym147 prog_1_method_32_code 4 (some FieldType.int) 3 := ⟨mw799, mw71, by decide, by decide, by decide +kernel⟩
def b147_0 (a0 : Nat) (v1 : Int32) (v2 : Int32) (o3 : Option Nat) (M : hM) : Option xRes :=
  Option.bind (g_i M 11 7 (some a0)) fun v_1 =>
  Option.bind (p_i M 0 7 o3 v_1) fun M3 =>
  Option.bind (p_i M3 0 8 o3 v2) fun M5 =>
  Option.bind (g_r M5 11 6 (some a0)) fun o_7 =>
  Option.bind (g_i M5 11 7 (some a0)) fun v_9 =>
  Option.bind (as_r M5 0 o_7 v_9 o3) fun M11 =>
  Option.bind (g_i M11 11 7 (some a0)) fun v_13 =>
  Option.bind (p_i M11 11 7 (some a0) (v_13 + (1 : Int32))) fun M15 =>
  Option.bind (g_r M15 11 2 (some a0)) fun o_17 =>
  Option.bind (al_r M15 35 o_17 v1) fun o_19 =>
  Option.bind (g_r M15 5 4 o_19) fun o_21 =>
  Option.bind (g_o M15 4 o_21) fun b_25 =>
  Option.bind (c_V (f146 [.inr (.inr (some b_25)), .inr (.inr o3)] M15)) fun q_23 =>
  Option.bind (g_i q_23 0 7 o3) fun v_27 =>
  some (.inl (some (.inl v_27), q_23))
def f147 (as : List aV) (M : hM) : xO := match as with
  | [.inr (.inr (some a0)), .inl v1, .inl v2, .inr (.inr o3)] => x_out (b147_0 a0 v1 v2 o3 M)
  | _ => none
theorem lb147_0 (G : gX) (l : Launch) (a0 : Nat) (v1 : Int32) (v2 : Int32) (o3 : Option Nat) (M : hM) {res : xRes} (h : b147_0 a0 v1 v2 o3 M = some res) : h_sz M ≤ r_sz res ∧ h_sl M ≤ r_sl res := by
  unfold b147_0 at h
  obtain ⟨v_1, h2, h⟩ := bd h
  obtain ⟨M3, h4, h⟩ := bd h
  have eh4 := p_i_sz h4
  obtain ⟨M5, h6, h⟩ := bd h
  have eh6 := p_i_sz h6
  obtain ⟨o_7, h8, h⟩ := bd h
  obtain ⟨v_9, h10, h⟩ := bd h
  obtain ⟨M11, h12, h⟩ := bd h
  have eh12 := as_r_sz h12
  obtain ⟨v_13, h14, h⟩ := bd h
  obtain ⟨M15, h16, h⟩ := bd h
  have eh16 := p_i_sz h16
  obtain ⟨o_17, h18, h⟩ := bd h
  obtain ⟨o_19, h20, h⟩ := bd h
  obtain ⟨o_21, h22, h⟩ := bd h
  obtain ⟨b_25, h26, h⟩ := bd h
  obtain ⟨q_23, h24, h⟩ := bd h
  have eh24 := (t146 G l (c_V_some h24)).1
  obtain ⟨v_27, h28, h⟩ := bd h
  obtain rfl := Option.some.inj h
  show h_sz M ≤ h_sz q_23 ∧ h_sl M ≤ h_sl q_23
  omega
section
variable {p : Program} {l : Launch} {e : Env} {s : State} {m : MethodId} {args : Array Value} {below : List Frame} {meth : Method} {c : Code} {G : gX} {z0 y0 : Nat} {r : Option aV} {M' : hM}
theorem sb147_0 (E : xE G p (xRm 6 (h_sz M' - z0) (h_sl M' - y0)) s m args c prog_1_method_32_code "ZonedFabric" z0 y0 (h_sz M') (h_sl M') 4) (B : xB ym147 (some FieldType.int) meth) (a0 : Nat) (v1 : Int32) (v2 : Int32) (o3 : Option Nat) (M : hM) {res : xRes} (h : b147_0 a0 v1 v2 o3 M = some res) (hN : xN (fun _ _ _ => False) r M' res) : xV G p l e (xRm 6 (h_sz M' - z0) (h_sl M' - y0)) s m args below meth c z0 y0 (h_sz M') (h_sl M') 4 (MQ below (xQc G r M') args s (h_sz M' - z0) (h_sl M' - y0) (xFr G)) 0 [(0, .inr (.inr (some a0))), (1, .inl v1), (2, .inl v2), (3, .inr (.inr o3))] [] M := by
  unfold b147_0 at h
  refine xv_b E [.aload_n 3, .aload_n 0] (pc' := 2) (lv' := [(0, .inr (.inr (some a0))), (1, .inl v1), (2, .inl v2), (3, .inr (.inr o3))]) (st' := [.inr (.inr (some a0)), .inr (.inr o3)]) (by decide +kernel) rfl rfl ?_
  obtain ⟨v_1, h2, h⟩ := bd h
  refine xg_i E 11 7 h2 mw790 (show decode prog_1_method_32_code 2 = .ok (.getfield 243, 3) by decide +kernel) ?_
  obtain ⟨M3, h4, h⟩ := bd h
  refine xp_i E 0 7 h4 mw800 (show decode prog_1_method_32_code 5 = .ok (.putfield 262, 3) by decide +kernel) (Or.inl rfl) ?_
  refine xv_b E [.aload_n 3, .iload_n 2] (pc' := 10) (lv' := [(0, .inr (.inr (some a0))), (1, .inl v1), (2, .inl v2), (3, .inr (.inr o3))]) (st' := [.inl v2, .inr (.inr o3)]) (by decide +kernel) rfl rfl ?_
  obtain ⟨M5, h6, h⟩ := bd h
  refine xp_i E 0 8 h6 mw801 (show decode prog_1_method_32_code 10 = .ok (.putfield 265, 3) by decide +kernel) (Or.inl rfl) ?_
  refine xv_b E [.aload_n 0] (pc' := 14) (lv' := [(0, .inr (.inr (some a0))), (1, .inl v1), (2, .inl v2), (3, .inr (.inr o3))]) (st' := [.inr (.inr (some a0))]) (by decide +kernel) rfl rfl ?_
  obtain ⟨o_7, h8, h⟩ := bd h
  refine xg_r E 11 6 h8 mw76 (show decode prog_1_method_32_code 14 = .ok (.getfield 20, 3) by decide +kernel) ?_
  refine xv_b E [.aload_n 0] (pc' := 18) (lv' := [(0, .inr (.inr (some a0))), (1, .inl v1), (2, .inl v2), (3, .inr (.inr o3))]) (st' := [.inr (.inr (some a0)), .inr (.inr o_7)]) (by decide +kernel) rfl rfl ?_
  obtain ⟨v_9, h10, h⟩ := bd h
  refine xg_i E 11 7 h10 mw790 (show decode prog_1_method_32_code 18 = .ok (.getfield 243, 3) by decide +kernel) ?_
  refine xv_b E [.aload_n 3] (pc' := 22) (lv' := [(0, .inr (.inr (some a0))), (1, .inl v1), (2, .inl v2), (3, .inr (.inr o3))]) (st' := [.inr (.inr o3), .inl v_9, .inr (.inr o_7)]) (by decide +kernel) rfl rfl ?_
  obtain ⟨M11, h12, h⟩ := bd h
  refine xs_r E 0 h12 (show decode prog_1_method_32_code 22 = .ok (.aastore, 1) by decide +kernel) ?_
  refine xv_b E [.aload_n 0, .dup] (pc' := 25) (lv' := [(0, .inr (.inr (some a0))), (1, .inl v1), (2, .inl v2), (3, .inr (.inr o3))]) (st' := [.inr (.inr (some a0)), .inr (.inr (some a0))]) (by decide +kernel) rfl rfl ?_
  obtain ⟨v_13, h14, h⟩ := bd h
  refine xg_i E 11 7 h14 mw790 (show decode prog_1_method_32_code 25 = .ok (.getfield 243, 3) by decide +kernel) ?_
  refine xv_b E [.iconst 1, .iadd] (pc' := 30) (lv' := [(0, .inr (.inr (some a0))), (1, .inl v1), (2, .inl v2), (3, .inr (.inr o3))]) (st' := [.inl (v_13 + (1 : Int32)), .inr (.inr (some a0))]) (by decide +kernel) rfl rfl ?_
  obtain ⟨M15, h16, h⟩ := bd h
  refine xp_i E 11 7 h16 mw790 (show decode prog_1_method_32_code 30 = .ok (.putfield 243, 3) by decide +kernel) (Or.inl rfl) ?_
  refine xv_b E [.aload_n 0] (pc' := 34) (lv' := [(0, .inr (.inr (some a0))), (1, .inl v1), (2, .inl v2), (3, .inr (.inr o3))]) (st' := [.inr (.inr (some a0))]) (by decide +kernel) rfl rfl ?_
  obtain ⟨o_17, h18, h⟩ := bd h
  refine xg_r E 11 2 h18 mw86 (show decode prog_1_method_32_code 34 = .ok (.getfield 44, 3) by decide +kernel) ?_
  refine xv_b E [.iload_n 1] (pc' := 38) (lv' := [(0, .inr (.inr (some a0))), (1, .inl v1), (2, .inl v2), (3, .inr (.inr o3))]) (st' := [.inl v1, .inr (.inr o_17)]) (by decide +kernel) rfl rfl ?_
  obtain ⟨o_19, h20, h⟩ := bd h
  refine xa_r E 35 h20 (show decode prog_1_method_32_code 38 = .ok (.aaload, 1) by decide +kernel) ?_
  obtain ⟨o_21, h22, h⟩ := bd h
  refine xg_r E 5 4 h22 mw97 (show decode prog_1_method_32_code 39 = .ok (.getfield 54, 3) by decide +kernel) ?_
  refine xv_b E [.aload_n 3] (pc' := 43) (lv' := [(0, .inr (.inr (some a0))), (1, .inl v1), (2, .inl v2), (3, .inr (.inr o3))]) (st' := [.inr (.inr o3), .inr (.inr o_21)]) (by decide +kernel) rfl rfl ?_
  obtain ⟨b_25, h26, h⟩ := bd h
  obtain ⟨eh26, th26⟩ := g_o_some h26
  obtain ⟨q_23, h24, h⟩ := bd h
  refine xv_cvo E eh26 4 (as := [.inr (.inr o3)]) (t146 G l (c_V_some h24)) cd146 mw802 mw803 mw804 (show decode prog_1_method_32_code 43 = .ok (.invokevirtual 267, 3) by decide +kernel) th26 rfl rfl (Nat.le_of_ble_eq_true rfl) ⟨Nat.le_of_ble_eq_true rfl, Nat.le_of_ble_eq_true rfl⟩ ?_
  refine xv_b E [.aload_n 3] (pc' := 47) (lv' := [(0, .inr (.inr (some a0))), (1, .inl v1), (2, .inl v2), (3, .inr (.inr o3))]) (st' := [.inr (.inr o3)]) (by decide +kernel) rfl rfl ?_
  obtain ⟨v_27, h28, h⟩ := bd h
  refine xg_i E 0 7 h28 mw800 (show decode prog_1_method_32_code 47 = .ok (.getfield 262, 3) by decide +kernel) ?_
  obtain rfl := Option.some.inj h
  obtain ⟨rfl, rfl⟩ := Prod.mk.inj (show ((some (.inl v_27) : Option aV), q_23) = (r, M') from hN)
  exact xv_ri E B.1 rfl B.2.1 (show decode prog_1_method_32_code 50 = .ok (.ireturn, 1) by decide +kernel) rfl rfl
end
theorem t147 (G : gX) (l : Launch) {as : List aV} {M : hM} {r : Option aV} {M' : hM} (h : f147 as M = some (r, M')) : xM G l ym147 prog_1_method_32_code 4 (some FieldType.int) 6 as M r M' := by
  unfold f147 at h
  split at h
  · have h := x_out_ok h
    refine xM_of (by decide) (Nat.le_of_ble_eq_true rfl) (lb147_0 G l _ _ _ _ M h) ?_
    intro p e s m args below meth c E B
    exact sb147_0 E B _ _ _ _ M h rfl
  · cases h
/-! ZF.read(IIIII)I -/
def ym148 : MethodName := ⟨"ZonedFabric", "read", "(IIIII)I"⟩
theorem cd148 : xCd ym148 prog_1_method_11_code 6 (some FieldType.int) 5 := ⟨mw805, mw71, by decide, by decide, by decide +kernel⟩
def b148_0 (a0 : Nat) (v1 : Int32) (v2 : Int32) (v3 : Int32) (v4 : Int32) (v5 : Int32) (M : hM) : Option xRes :=
  Option.bind (g_o M 11 (some a0)) fun b_3 =>
  Option.bind (c_I (f144 [.inr (.inr (some b_3)), .inl v1, .inl v2, .inl v3, .inl v4, .inl v5] M)) fun q_1 =>
  if q_1.1 = 0 then
    (some (.inl (some (.inl (-1 : Int32)), q_1.2)))
  else
    (Option.bind (n_o q_1.2 0 14) fun M5 =>
    Option.bind (c_V (f145 [.inr (.inr (some (h_sz q_1.2))), .inl (0 : Int32), .inl v3, .inl v4, .inl v5, .inr (.inl (0 : Int64))] M5)) fun q_7 =>
    Option.bind (g_o q_7 11 (some a0)) fun b_11 =>
    Option.bind (c_I (f147 [.inr (.inr (some b_11)), .inl v1, .inl v2, .inr (.inr (some (h_sz q_1.2)))] q_7)) fun q_9 =>
    some (.inl (some (.inl q_9.1), q_9.2)))
def f148 (as : List aV) (M : hM) : xO := match as with
  | [.inr (.inr (some a0)), .inl v1, .inl v2, .inl v3, .inl v4, .inl v5] => x_out (b148_0 a0 v1 v2 v3 v4 v5 M)
  | _ => none
theorem lb148_0 (G : gX) (l : Launch) (a0 : Nat) (v1 : Int32) (v2 : Int32) (v3 : Int32) (v4 : Int32) (v5 : Int32) (M : hM) {res : xRes} (h : b148_0 a0 v1 v2 v3 v4 v5 M = some res) : h_sz M ≤ r_sz res ∧ h_sl M ≤ r_sl res := by
  unfold b148_0 at h
  obtain ⟨b_3, h4, h⟩ := bd h
  obtain ⟨q_1, h2, h⟩ := bd h
  have eh2 := (t144 G l (c_I_some h2)).1
  by_cases q13 : q_1.1 = 0
  · rw [if_pos q13] at h
    obtain rfl := Option.some.inj h
    show h_sz M ≤ h_sz q_1.2 ∧ h_sl M ≤ h_sl q_1.2
    omega
  · rw [if_neg q13] at h
    obtain ⟨M5, h6, h⟩ := bd h
    have eh6 := n_o_sz h6
    obtain ⟨q_7, h8, h⟩ := bd h
    have eh8 := (t145 G l (c_V_some h8)).1
    obtain ⟨b_11, h12, h⟩ := bd h
    obtain ⟨q_9, h10, h⟩ := bd h
    have eh10 := (t147 G l (c_I_some h10)).1
    obtain rfl := Option.some.inj h
    show h_sz M ≤ h_sz q_9.2 ∧ h_sl M ≤ h_sl q_9.2
    omega
section
variable {p : Program} {l : Launch} {e : Env} {s : State} {m : MethodId} {args : Array Value} {below : List Frame} {meth : Method} {c : Code} {G : gX} {z0 y0 : Nat} {r : Option aV} {M' : hM}
theorem sb148_0 (E : xE G p (xRm 7 (h_sz M' - z0) (h_sl M' - y0)) s m args c prog_1_method_11_code "ZonedFabric" z0 y0 (h_sz M') (h_sl M') 6) (B : xB ym148 (some FieldType.int) meth) (a0 : Nat) (v1 : Int32) (v2 : Int32) (v3 : Int32) (v4 : Int32) (v5 : Int32) (M : hM) {res : xRes} (h : b148_0 a0 v1 v2 v3 v4 v5 M = some res) (hN : xN (fun _ _ _ => False) r M' res) : xV G p l e (xRm 7 (h_sz M' - z0) (h_sl M' - y0)) s m args below meth c z0 y0 (h_sz M') (h_sl M') 6 (MQ below (xQc G r M') args s (h_sz M' - z0) (h_sl M' - y0) (xFr G)) 0 [(0, .inr (.inr (some a0))), (1, .inl v1), (2, .inl v2), (3, .inl v3), (4, .inl v4), (5, .inl v5)] [] M := by
  unfold b148_0 at h
  refine xv_b E [.aload_n 0, .iload_n 1, .iload_n 2, .iload_n 3, .iload 4, .iload 5] (pc' := 8) (lv' := [(0, .inr (.inr (some a0))), (1, .inl v1), (2, .inl v2), (3, .inl v3), (4, .inl v4), (5, .inl v5)]) (st' := [.inl v5, .inl v4, .inl v3, .inl v2, .inl v1, .inr (.inr (some a0))]) (by decide +kernel) rfl rfl ?_
  obtain ⟨b_3, h4, h⟩ := bd h
  obtain ⟨eh4, th4⟩ := g_o_some h4
  obtain ⟨q_1, h2, h⟩ := bd h
  refine xv_cvo E eh4 11 (as := [.inl v1, .inl v2, .inl v3, .inl v4, .inl v5]) (t144 G l (c_I_some h2)) cd144 mw806 mw807 mw808 (show decode prog_1_method_11_code 8 = .ok (.invokevirtual 146, 3) by decide +kernel) th4 rfl rfl (Nat.le_of_ble_eq_true rfl) ⟨Nat.le_of_ble_eq_true rfl, Nat.le_of_ble_eq_true rfl⟩ ?_
  by_cases q13 : q_1.1 = 0
  · rw [if_pos q13] at h
    refine xv_if_ne E 16 (show decode prog_1_method_11_code 11 = .ok (.ifCond .ne (5), 3) by decide +kernel) rfl (fun z => absurd q13 z) (fun _ => ?_)
    refine xv_b E [.iconst (-1)] (pc' := 15) (lv' := [(0, .inr (.inr (some a0))), (1, .inl v1), (2, .inl v2), (3, .inl v3), (4, .inl v4), (5, .inl v5)]) (st' := [.inl (-1 : Int32)]) (by decide +kernel) rfl rfl ?_
    obtain rfl := Option.some.inj h
    obtain ⟨rfl, rfl⟩ := Prod.mk.inj (show ((some (.inl (-1 : Int32)) : Option aV), q_1.2) = (r, M') from hN)
    exact xv_ri E B.1 rfl B.2.1 (show decode prog_1_method_11_code 15 = .ok (.ireturn, 1) by decide +kernel) rfl rfl
  · rw [if_neg q13] at h
    refine xv_if_ne E 16 (show decode prog_1_method_11_code 11 = .ok (.ifCond .ne (5), 3) by decide +kernel) rfl (fun _ => ?_) (fun z => absurd z q13)
    refine xv_b E [.aload_n 0, .iload_n 1, .iload_n 2] (pc' := 19) (lv' := [(0, .inr (.inr (some a0))), (1, .inl v1), (2, .inl v2), (3, .inl v3), (4, .inl v4), (5, .inl v5)]) (st' := [.inl v2, .inl v1, .inr (.inr (some a0))]) (by decide +kernel) rfl rfl ?_
    obtain ⟨M5, h6, h⟩ := bd h
    refine xn_o E 0 h6 rfl mw75 mw809 mw282 (show decode prog_1_method_11_code 19 = .ok (.new 18, 3) by decide +kernel) ?_
    refine xv_b E [.dup, .iconst 0, .iload_n 3, .iload 4, .iload 5, .lconst 0] (pc' := 30) (lv' := [(0, .inr (.inr (some a0))), (1, .inl v1), (2, .inl v2), (3, .inl v3), (4, .inl v4), (5, .inl v5)]) (st' := [.inr (.inl (0 : Int64)), .inl v5, .inl v4, .inl v3, .inl (0 : Int32), .inr (.inr (some (h_sz q_1.2))), .inr (.inr (some (h_sz q_1.2))), .inl v2, .inl v1, .inr (.inr (some a0))]) (by decide +kernel) rfl rfl ?_
    obtain ⟨q_7, h8, h⟩ := bd h
    refine xv_ci E (as := [.inl (0 : Int32), .inl v3, .inl v4, .inl v5, .inr (.inl (0 : Int64))]) (t145 G l (c_V_some h8)) cd145 (Or.inl mw810) mw811 rfl (show decode prog_1_method_11_code 30 = .ok (.invokespecial 150, 3) by decide +kernel) rfl rfl (Nat.le_of_ble_eq_true rfl) ⟨Nat.le_of_ble_eq_true rfl, Nat.le_of_ble_eq_true rfl⟩ ?_
    obtain ⟨b_11, h12, h⟩ := bd h
    obtain ⟨eh12, th12⟩ := g_o_some h12
    obtain ⟨q_9, h10, h⟩ := bd h
    refine xv_cvo E eh12 11 (as := [.inl v1, .inl v2, .inr (.inr (some (h_sz q_1.2)))]) (t147 G l (c_I_some h10)) cd147 mw812 mw813 mw814 (show decode prog_1_method_11_code 33 = .ok (.invokevirtual 153, 3) by decide +kernel) th12 rfl rfl (Nat.le_of_ble_eq_true rfl) ⟨Nat.le_of_ble_eq_true rfl, Nat.le_of_ble_eq_true rfl⟩ ?_
    obtain rfl := Option.some.inj h
    obtain ⟨rfl, rfl⟩ := Prod.mk.inj (show ((some (.inl q_9.1) : Option aV), q_9.2) = (r, M') from hN)
    exact xv_ri E B.1 rfl B.2.1 (show decode prog_1_method_11_code 36 = .ok (.ireturn, 1) by decide +kernel) rfl rfl
end
theorem t148 (G : gX) (l : Launch) {as : List aV} {M : hM} {r : Option aV} {M' : hM} (h : f148 as M = some (r, M')) : xM G l ym148 prog_1_method_11_code 6 (some FieldType.int) 7 as M r M' := by
  unfold f148 at h
  split at h
  · have h := x_out_ok h
    refine xM_of (by decide) (Nat.le_of_ble_eq_true rfl) (lb148_0 G l _ _ _ _ _ _ M h) ?_
    intro p e s m args below meth c E B
    exact sb148_0 E B _ _ _ _ _ _ M h rfl
  · cases h
/-! ZF.write(IIIIIJ)I -/
def ym149 : MethodName := ⟨"ZonedFabric", "write", "(IIIIIJ)I"⟩
theorem cd149 : xCd ym149 prog_1_method_12_code 8 (some FieldType.int) 6 := ⟨mw815, mw71, by decide, by decide, by decide +kernel⟩
def b149_0 (a0 : Nat) (v1 : Int32) (v2 : Int32) (v3 : Int32) (v4 : Int32) (v5 : Int32) (w6 : Int64) (M : hM) : Option xRes :=
  Option.bind (g_o M 11 (some a0)) fun b_3 =>
  Option.bind (c_I (f144 [.inr (.inr (some b_3)), .inl v1, .inl v2, .inl v3, .inl v4, .inl v5] M)) fun q_1 =>
  if q_1.1 = 0 then
    (some (.inl (some (.inl (-1 : Int32)), q_1.2)))
  else
    (Option.bind (n_o q_1.2 0 14) fun M5 =>
    Option.bind (c_V (f145 [.inr (.inr (some (h_sz q_1.2))), .inl (1 : Int32), .inl v3, .inl v4, .inl v5, .inr (.inl w6)] M5)) fun q_7 =>
    Option.bind (g_o q_7 11 (some a0)) fun b_11 =>
    Option.bind (c_I (f147 [.inr (.inr (some b_11)), .inl v1, .inl v2, .inr (.inr (some (h_sz q_1.2)))] q_7)) fun q_9 =>
    some (.inl (some (.inl q_9.1), q_9.2)))
def f149 (as : List aV) (M : hM) : xO := match as with
  | [.inr (.inr (some a0)), .inl v1, .inl v2, .inl v3, .inl v4, .inl v5, .inr (.inl w6)] => x_out (b149_0 a0 v1 v2 v3 v4 v5 w6 M)
  | _ => none
theorem lb149_0 (G : gX) (l : Launch) (a0 : Nat) (v1 : Int32) (v2 : Int32) (v3 : Int32) (v4 : Int32) (v5 : Int32) (w6 : Int64) (M : hM) {res : xRes} (h : b149_0 a0 v1 v2 v3 v4 v5 w6 M = some res) : h_sz M ≤ r_sz res ∧ h_sl M ≤ r_sl res := by
  unfold b149_0 at h
  obtain ⟨b_3, h4, h⟩ := bd h
  obtain ⟨q_1, h2, h⟩ := bd h
  have eh2 := (t144 G l (c_I_some h2)).1
  by_cases q13 : q_1.1 = 0
  · rw [if_pos q13] at h
    obtain rfl := Option.some.inj h
    show h_sz M ≤ h_sz q_1.2 ∧ h_sl M ≤ h_sl q_1.2
    omega
  · rw [if_neg q13] at h
    obtain ⟨M5, h6, h⟩ := bd h
    have eh6 := n_o_sz h6
    obtain ⟨q_7, h8, h⟩ := bd h
    have eh8 := (t145 G l (c_V_some h8)).1
    obtain ⟨b_11, h12, h⟩ := bd h
    obtain ⟨q_9, h10, h⟩ := bd h
    have eh10 := (t147 G l (c_I_some h10)).1
    obtain rfl := Option.some.inj h
    show h_sz M ≤ h_sz q_9.2 ∧ h_sl M ≤ h_sl q_9.2
    omega
section
variable {p : Program} {l : Launch} {e : Env} {s : State} {m : MethodId} {args : Array Value} {below : List Frame} {meth : Method} {c : Code} {G : gX} {z0 y0 : Nat} {r : Option aV} {M' : hM}
theorem sb149_0 (E : xE G p (xRm 7 (h_sz M' - z0) (h_sl M' - y0)) s m args c prog_1_method_12_code "ZonedFabric" z0 y0 (h_sz M') (h_sl M') 8) (B : xB ym149 (some FieldType.int) meth) (a0 : Nat) (v1 : Int32) (v2 : Int32) (v3 : Int32) (v4 : Int32) (v5 : Int32) (w6 : Int64) (M : hM) {res : xRes} (h : b149_0 a0 v1 v2 v3 v4 v5 w6 M = some res) (hN : xN (fun _ _ _ => False) r M' res) : xV G p l e (xRm 7 (h_sz M' - z0) (h_sl M' - y0)) s m args below meth c z0 y0 (h_sz M') (h_sl M') 8 (MQ below (xQc G r M') args s (h_sz M' - z0) (h_sl M' - y0) (xFr G)) 0 [(0, .inr (.inr (some a0))), (1, .inl v1), (2, .inl v2), (3, .inl v3), (4, .inl v4), (5, .inl v5), (6, .inr (.inl w6))] [] M := by
  unfold b149_0 at h
  refine xv_b E [.aload_n 0, .iload_n 1, .iload_n 2, .iload_n 3, .iload 4, .iload 5] (pc' := 8) (lv' := [(0, .inr (.inr (some a0))), (1, .inl v1), (2, .inl v2), (3, .inl v3), (4, .inl v4), (5, .inl v5), (6, .inr (.inl w6))]) (st' := [.inl v5, .inl v4, .inl v3, .inl v2, .inl v1, .inr (.inr (some a0))]) (by decide +kernel) rfl rfl ?_
  obtain ⟨b_3, h4, h⟩ := bd h
  obtain ⟨eh4, th4⟩ := g_o_some h4
  obtain ⟨q_1, h2, h⟩ := bd h
  refine xv_cvo E eh4 11 (as := [.inl v1, .inl v2, .inl v3, .inl v4, .inl v5]) (t144 G l (c_I_some h2)) cd144 mw806 mw807 mw808 (show decode prog_1_method_12_code 8 = .ok (.invokevirtual 146, 3) by decide +kernel) th4 rfl rfl (Nat.le_of_ble_eq_true rfl) ⟨Nat.le_of_ble_eq_true rfl, Nat.le_of_ble_eq_true rfl⟩ ?_
  by_cases q13 : q_1.1 = 0
  · rw [if_pos q13] at h
    refine xv_if_ne E 16 (show decode prog_1_method_12_code 11 = .ok (.ifCond .ne (5), 3) by decide +kernel) rfl (fun z => absurd q13 z) (fun _ => ?_)
    refine xv_b E [.iconst (-1)] (pc' := 15) (lv' := [(0, .inr (.inr (some a0))), (1, .inl v1), (2, .inl v2), (3, .inl v3), (4, .inl v4), (5, .inl v5), (6, .inr (.inl w6))]) (st' := [.inl (-1 : Int32)]) (by decide +kernel) rfl rfl ?_
    obtain rfl := Option.some.inj h
    obtain ⟨rfl, rfl⟩ := Prod.mk.inj (show ((some (.inl (-1 : Int32)) : Option aV), q_1.2) = (r, M') from hN)
    exact xv_ri E B.1 rfl B.2.1 (show decode prog_1_method_12_code 15 = .ok (.ireturn, 1) by decide +kernel) rfl rfl
  · rw [if_neg q13] at h
    refine xv_if_ne E 16 (show decode prog_1_method_12_code 11 = .ok (.ifCond .ne (5), 3) by decide +kernel) rfl (fun _ => ?_) (fun z => absurd z q13)
    refine xv_b E [.aload_n 0, .iload_n 1, .iload_n 2] (pc' := 19) (lv' := [(0, .inr (.inr (some a0))), (1, .inl v1), (2, .inl v2), (3, .inl v3), (4, .inl v4), (5, .inl v5), (6, .inr (.inl w6))]) (st' := [.inl v2, .inl v1, .inr (.inr (some a0))]) (by decide +kernel) rfl rfl ?_
    obtain ⟨M5, h6, h⟩ := bd h
    refine xn_o E 0 h6 rfl mw75 mw809 mw282 (show decode prog_1_method_12_code 19 = .ok (.new 18, 3) by decide +kernel) ?_
    refine xv_b E [.dup, .iconst 1, .iload_n 3, .iload 4, .iload 5, .lload 6] (pc' := 31) (lv' := [(0, .inr (.inr (some a0))), (1, .inl v1), (2, .inl v2), (3, .inl v3), (4, .inl v4), (5, .inl v5), (6, .inr (.inl w6))]) (st' := [.inr (.inl w6), .inl v5, .inl v4, .inl v3, .inl (1 : Int32), .inr (.inr (some (h_sz q_1.2))), .inr (.inr (some (h_sz q_1.2))), .inl v2, .inl v1, .inr (.inr (some a0))]) (by decide +kernel) rfl rfl ?_
    obtain ⟨q_7, h8, h⟩ := bd h
    refine xv_ci E (as := [.inl (1 : Int32), .inl v3, .inl v4, .inl v5, .inr (.inl w6)]) (t145 G l (c_V_some h8)) cd145 (Or.inl mw810) mw811 rfl (show decode prog_1_method_12_code 31 = .ok (.invokespecial 150, 3) by decide +kernel) rfl rfl (Nat.le_of_ble_eq_true rfl) ⟨Nat.le_of_ble_eq_true rfl, Nat.le_of_ble_eq_true rfl⟩ ?_
    obtain ⟨b_11, h12, h⟩ := bd h
    obtain ⟨eh12, th12⟩ := g_o_some h12
    obtain ⟨q_9, h10, h⟩ := bd h
    refine xv_cvo E eh12 11 (as := [.inl v1, .inl v2, .inr (.inr (some (h_sz q_1.2)))]) (t147 G l (c_I_some h10)) cd147 mw812 mw813 mw814 (show decode prog_1_method_12_code 34 = .ok (.invokevirtual 153, 3) by decide +kernel) th12 rfl rfl (Nat.le_of_ble_eq_true rfl) ⟨Nat.le_of_ble_eq_true rfl, Nat.le_of_ble_eq_true rfl⟩ ?_
    obtain rfl := Option.some.inj h
    obtain ⟨rfl, rfl⟩ := Prod.mk.inj (show ((some (.inl q_9.1) : Option aV), q_9.2) = (r, M') from hN)
    exact xv_ri E B.1 rfl B.2.1 (show decode prog_1_method_12_code 37 = .ok (.ireturn, 1) by decide +kernel) rfl rfl
end
theorem t149 (G : gX) (l : Launch) {as : List aV} {M : hM} {r : Option aV} {M' : hM} (h : f149 as M = some (r, M')) : xM G l ym149 prog_1_method_12_code 8 (some FieldType.int) 7 as M r M' := by
  unfold f149 at h
  split at h
  · have h := x_out_ok h
    refine xM_of (by decide) (Nat.le_of_ble_eq_true rfl) (lb149_0 G l _ _ _ _ _ _ _ M h) ?_
    intro p e s m args below meth c E B
    exact sb149_0 E B _ _ _ _ _ _ _ M h rfl
  · cases h
/-! ZF.isCommand(I)Z -/
def ym150 : MethodName := ⟨"ZonedFabric", "isCommand", "(I)Z"⟩
theorem cd150 : xCd ym150 prog_1_method_26_code 2 (some FieldType.boolean) 1 := ⟨mw816, mw71, by decide, by decide, by decide +kernel⟩
def b150_17 (si0 : Int32) (M : hM) : Option xRes :=
  if si0 = 0 ∨ si0 = 1 then
    (some (.inl (some (.inl si0), M)))
  else
    none
def b150_16  (M : hM) : Option xRes :=
  b150_17 (0 : Int32) M
def b150_0 (a0 : Nat) (v1 : Int32) (M : hM) : Option xRes :=
  if v1 < 0 then
    (b150_16  M)
  else
    (Option.bind (g_i M 11 7 (some a0)) fun v_1 =>
    if v_1 ≤ v1 then
      (b150_16  M)
    else
      (b150_17 (1 : Int32) M))
def f150 (as : List aV) (M : hM) : xO := match as with
  | [.inr (.inr (some a0)), .inl v1] => x_out (b150_0 a0 v1 M)
  | _ => none
theorem lb150_17 (G : gX) (l : Launch) (si0 : Int32) (M : hM) {res : xRes} (h : b150_17 si0 M = some res) : h_sz M ≤ r_sz res ∧ h_sl M ≤ r_sl res := by
  unfold b150_17 at h
  by_cases q5 : si0 = 0 ∨ si0 = 1
  · rw [if_pos q5] at h
    obtain rfl := Option.some.inj h
    show h_sz M ≤ h_sz M ∧ h_sl M ≤ h_sl M
    omega
  · rw [if_neg q5] at h
    cases h
theorem lb150_16 (G : gX) (l : Launch)  (M : hM) {res : xRes} (h : b150_16  M = some res) : h_sz M ≤ r_sz res ∧ h_sl M ≤ r_sl res := by
  unfold b150_16 at h
  have e := lb150_17 G l (0 : Int32) M h
  omega
theorem lb150_0 (G : gX) (l : Launch) (a0 : Nat) (v1 : Int32) (M : hM) {res : xRes} (h : b150_0 a0 v1 M = some res) : h_sz M ≤ r_sz res ∧ h_sl M ≤ r_sl res := by
  unfold b150_0 at h
  by_cases q4 : v1 < 0
  · rw [if_pos q4] at h
    have e := lb150_16 G l  M h
    omega
  · rw [if_neg q4] at h
    obtain ⟨v_1, h2, h⟩ := bd h
    by_cases q3 : v_1 ≤ v1
    · rw [if_pos q3] at h
      have e := lb150_16 G l  M h
      omega
    · rw [if_neg q3] at h
      have e := lb150_17 G l (1 : Int32) M h
      omega
section
variable {p : Program} {l : Launch} {e : Env} {s : State} {m : MethodId} {args : Array Value} {below : List Frame} {meth : Method} {c : Code} {G : gX} {z0 y0 : Nat} {r : Option aV} {M' : hM}
theorem sb150_17 (E : xE G p (xRm 0 (h_sz M' - z0) (h_sl M' - y0)) s m args c prog_1_method_26_code "ZonedFabric" z0 y0 (h_sz M') (h_sl M') 2) (B : xB ym150 (some FieldType.boolean) meth) (si0 : Int32) (M : hM) {res : xRes} (h : b150_17 si0 M = some res) (hN : xN (fun _ _ _ => False) r M' res) : xV G p l e (xRm 0 (h_sz M' - z0) (h_sl M' - y0)) s m args below meth c z0 y0 (h_sz M') (h_sl M') 2 (MQ below (xQc G r M') args s (h_sz M' - z0) (h_sl M' - y0) (xFr G)) 17 [] [.inl si0] M := by
  unfold b150_17 at h
  by_cases q5 : si0 = 0 ∨ si0 = 1
  · rw [if_pos q5] at h
    obtain rfl := Option.some.inj h
    obtain ⟨rfl, rfl⟩ := Prod.mk.inj (show ((some (.inl si0) : Option aV), M) = (r, M') from hN)
    exact xv_ri E B.1 (by rcases q5 with z | z <;> rw [z] <;> rfl) B.2.1 (show decode prog_1_method_26_code 17 = .ok (.ireturn, 1) by decide +kernel) rfl rfl
  · rw [if_neg q5] at h
    cases h
theorem sb150_16 (E : xE G p (xRm 0 (h_sz M' - z0) (h_sl M' - y0)) s m args c prog_1_method_26_code "ZonedFabric" z0 y0 (h_sz M') (h_sl M') 2) (B : xB ym150 (some FieldType.boolean) meth)  (M : hM) {res : xRes} (h : b150_16  M = some res) (hN : xN (fun _ _ _ => False) r M' res) : xV G p l e (xRm 0 (h_sz M' - z0) (h_sl M' - y0)) s m args below meth c z0 y0 (h_sz M') (h_sl M') 2 (MQ below (xQc G r M') args s (h_sz M' - z0) (h_sl M' - y0) (xFr G)) 16 [] [] M := by
  unfold b150_16 at h
  refine xv_b E [.iconst 0] (pc' := 17) (lv' := []) (st' := [.inl (0 : Int32)]) (by decide +kernel) rfl rfl ?_
  exact xv_w (sb150_17 E B (0 : Int32) M h hN) rfl
theorem sb150_0 (E : xE G p (xRm 0 (h_sz M' - z0) (h_sl M' - y0)) s m args c prog_1_method_26_code "ZonedFabric" z0 y0 (h_sz M') (h_sl M') 2) (B : xB ym150 (some FieldType.boolean) meth) (a0 : Nat) (v1 : Int32) (M : hM) {res : xRes} (h : b150_0 a0 v1 M = some res) (hN : xN (fun _ _ _ => False) r M' res) : xV G p l e (xRm 0 (h_sz M' - z0) (h_sl M' - y0)) s m args below meth c z0 y0 (h_sz M') (h_sl M') 2 (MQ below (xQc G r M') args s (h_sz M' - z0) (h_sl M' - y0) (xFr G)) 0 [(0, .inr (.inr (some a0))), (1, .inl v1)] [] M := by
  unfold b150_0 at h
  refine xv_b E [.iload_n 1] (pc' := 1) (lv' := [(0, .inr (.inr (some a0))), (1, .inl v1)]) (st' := [.inl v1]) (by decide +kernel) rfl rfl ?_
  by_cases q4 : v1 < 0
  · rw [if_pos q4] at h
    refine xv_if_lt E 16 (show decode prog_1_method_26_code 1 = .ok (.ifCond .lt (15), 3) by decide +kernel) rfl (fun _ => ?_) (fun z => absurd q4 z)
    exact xv_w (sb150_16 E B  M h hN) rfl
  · rw [if_neg q4] at h
    refine xv_if_lt E 16 (show decode prog_1_method_26_code 1 = .ok (.ifCond .lt (15), 3) by decide +kernel) rfl (fun z => absurd z q4) (fun _ => ?_)
    refine xv_b E [.iload_n 1, .aload_n 0] (pc' := 6) (lv' := [(0, .inr (.inr (some a0))), (1, .inl v1)]) (st' := [.inr (.inr (some a0)), .inl v1]) (by decide +kernel) rfl rfl ?_
    obtain ⟨v_1, h2, h⟩ := bd h
    refine xg_i E 11 7 h2 mw790 (show decode prog_1_method_26_code 6 = .ok (.getfield 243, 3) by decide +kernel) ?_
    by_cases q3 : v_1 ≤ v1
    · rw [if_pos q3] at h
      refine xv_icmp_ge E 16 (show decode prog_1_method_26_code 9 = .ok (.if_icmp .ge (7), 3) by decide +kernel) rfl (fun _ => ?_) (fun z => absurd q3 z)
      exact xv_w (sb150_16 E B  M h hN) rfl
    · rw [if_neg q3] at h
      refine xv_icmp_ge E 16 (show decode prog_1_method_26_code 9 = .ok (.if_icmp .ge (7), 3) by decide +kernel) rfl (fun z => absurd z q3) (fun _ => ?_)
      refine xv_b E [.iconst 1] (pc' := 13) (lv' := [(0, .inr (.inr (some a0))), (1, .inl v1)]) (st' := [.inl (1 : Int32)]) (by decide +kernel) rfl rfl ?_
      refine xv_goto E 17 (show decode prog_1_method_26_code 13 = .ok (.goto (4), 3) by decide +kernel) rfl ?_
      exact xv_w (sb150_17 E B (1 : Int32) M h hN) rfl
end
theorem t150 (G : gX) (l : Launch) {as : List aV} {M : hM} {r : Option aV} {M' : hM} (h : f150 as M = some (r, M')) : xM G l ym150 prog_1_method_26_code 2 (some FieldType.boolean) 0 as M r M' := by
  unfold f150 at h
  split at h
  · have h := x_out_ok h
    refine xM_of (by decide) (Nat.le_of_ble_eq_true rfl) (lb150_0 G l _ _ M h) ?_
    intro p e s m args below meth c E B
    exact sb150_0 E B _ _ M h rfl
  · cases h
/-! ZF.status(I)I -/
def ym151 : MethodName := ⟨"ZonedFabric", "status", "(I)I"⟩
theorem cd151 : xCd ym151 prog_1_method_13_code 2 (some FieldType.int) 1 := ⟨mw817, mw71, by decide, by decide, by decide +kernel⟩
def b151_21 (si0 : Int32) (M : hM) : Option xRes :=
  some (.inl (some (.inl si0), M))
def b151_0 (a0 : Nat) (v1 : Int32) (M : hM) : Option xRes :=
  Option.bind (g_o M 11 (some a0)) fun b_3 =>
  Option.bind (c_I (f150 [.inr (.inr (some b_3)), .inl v1] M)) fun q_1 =>
  if q_1.1 = 0 then
    (b151_21 (-1 : Int32) q_1.2)
  else
    (Option.bind (g_r q_1.2 11 6 (some a0)) fun o_5 =>
    Option.bind (al_r q_1.2 30 o_5 v1) fun o_7 =>
    Option.bind (g_i q_1.2 0 10 o_7) fun v_9 =>
    b151_21 v_9 q_1.2)
def f151 (as : List aV) (M : hM) : xO := match as with
  | [.inr (.inr (some a0)), .inl v1] => x_out (b151_0 a0 v1 M)
  | _ => none
theorem lb151_21 (G : gX) (l : Launch) (si0 : Int32) (M : hM) {res : xRes} (h : b151_21 si0 M = some res) : h_sz M ≤ r_sz res ∧ h_sl M ≤ r_sl res := by
  unfold b151_21 at h
  obtain rfl := Option.some.inj h
  show h_sz M ≤ h_sz M ∧ h_sl M ≤ h_sl M
  omega
theorem lb151_0 (G : gX) (l : Launch) (a0 : Nat) (v1 : Int32) (M : hM) {res : xRes} (h : b151_0 a0 v1 M = some res) : h_sz M ≤ r_sz res ∧ h_sl M ≤ r_sl res := by
  unfold b151_0 at h
  obtain ⟨b_3, h4, h⟩ := bd h
  obtain ⟨q_1, h2, h⟩ := bd h
  have eh2 := (t150 G l (c_I_some h2)).1
  by_cases q11 : q_1.1 = 0
  · rw [if_pos q11] at h
    have e := lb151_21 G l (-1 : Int32) q_1.2 h
    omega
  · rw [if_neg q11] at h
    obtain ⟨o_5, h6, h⟩ := bd h
    obtain ⟨o_7, h8, h⟩ := bd h
    obtain ⟨v_9, h10, h⟩ := bd h
    have e := lb151_21 G l v_9 q_1.2 h
    omega
section
variable {p : Program} {l : Launch} {e : Env} {s : State} {m : MethodId} {args : Array Value} {below : List Frame} {meth : Method} {c : Code} {G : gX} {z0 y0 : Nat} {r : Option aV} {M' : hM}
theorem sb151_21 (E : xE G p (xRm 1 (h_sz M' - z0) (h_sl M' - y0)) s m args c prog_1_method_13_code "ZonedFabric" z0 y0 (h_sz M') (h_sl M') 2) (B : xB ym151 (some FieldType.int) meth) (si0 : Int32) (M : hM) {res : xRes} (h : b151_21 si0 M = some res) (hN : xN (fun _ _ _ => False) r M' res) : xV G p l e (xRm 1 (h_sz M' - z0) (h_sl M' - y0)) s m args below meth c z0 y0 (h_sz M') (h_sl M') 2 (MQ below (xQc G r M') args s (h_sz M' - z0) (h_sl M' - y0) (xFr G)) 21 [] [.inl si0] M := by
  unfold b151_21 at h
  obtain rfl := Option.some.inj h
  obtain ⟨rfl, rfl⟩ := Prod.mk.inj (show ((some (.inl si0) : Option aV), M) = (r, M') from hN)
  exact xv_ri E B.1 rfl B.2.1 (show decode prog_1_method_13_code 21 = .ok (.ireturn, 1) by decide +kernel) rfl rfl
theorem sb151_0 (E : xE G p (xRm 1 (h_sz M' - z0) (h_sl M' - y0)) s m args c prog_1_method_13_code "ZonedFabric" z0 y0 (h_sz M') (h_sl M') 2) (B : xB ym151 (some FieldType.int) meth) (a0 : Nat) (v1 : Int32) (M : hM) {res : xRes} (h : b151_0 a0 v1 M = some res) (hN : xN (fun _ _ _ => False) r M' res) : xV G p l e (xRm 1 (h_sz M' - z0) (h_sl M' - y0)) s m args below meth c z0 y0 (h_sz M') (h_sl M') 2 (MQ below (xQc G r M') args s (h_sz M' - z0) (h_sl M' - y0) (xFr G)) 0 [(0, .inr (.inr (some a0))), (1, .inl v1)] [] M := by
  unfold b151_0 at h
  refine xv_b E [.aload_n 0, .iload_n 1] (pc' := 2) (lv' := [(0, .inr (.inr (some a0))), (1, .inl v1)]) (st' := [.inl v1, .inr (.inr (some a0))]) (by decide +kernel) rfl rfl ?_
  obtain ⟨b_3, h4, h⟩ := bd h
  obtain ⟨eh4, th4⟩ := g_o_some h4
  obtain ⟨q_1, h2, h⟩ := bd h
  refine xv_cvo E eh4 11 (as := [.inl v1]) (t150 G l (c_I_some h2)) cd150 mw818 mw819 mw820 (show decode prog_1_method_13_code 2 = .ok (.invokevirtual 157, 3) by decide +kernel) th4 rfl rfl (Nat.le_of_ble_eq_true rfl) ⟨Nat.le_of_ble_eq_true rfl, Nat.le_of_ble_eq_true rfl⟩ ?_
  by_cases q11 : q_1.1 = 0
  · rw [if_pos q11] at h
    refine xv_if_eq E 20 (show decode prog_1_method_13_code 5 = .ok (.ifCond .eq (15), 3) by decide +kernel) rfl (fun _ => ?_) (fun z => absurd q11 z)
    refine xv_b E [.iconst (-1)] (pc' := 21) (lv' := [(0, .inr (.inr (some a0))), (1, .inl v1)]) (st' := [.inl (-1 : Int32)]) (by decide +kernel) rfl rfl ?_
    exact xv_w (sb151_21 E B (-1 : Int32) q_1.2 h hN) rfl
  · rw [if_neg q11] at h
    refine xv_if_eq E 20 (show decode prog_1_method_13_code 5 = .ok (.ifCond .eq (15), 3) by decide +kernel) rfl (fun z => absurd z q11) (fun _ => ?_)
    refine xv_b E [.aload_n 0] (pc' := 9) (lv' := [(0, .inr (.inr (some a0))), (1, .inl v1)]) (st' := [.inr (.inr (some a0))]) (by decide +kernel) rfl rfl ?_
    obtain ⟨o_5, h6, h⟩ := bd h
    refine xg_r E 11 6 h6 mw76 (show decode prog_1_method_13_code 9 = .ok (.getfield 20, 3) by decide +kernel) ?_
    refine xv_b E [.iload_n 1] (pc' := 13) (lv' := [(0, .inr (.inr (some a0))), (1, .inl v1)]) (st' := [.inl v1, .inr (.inr o_5)]) (by decide +kernel) rfl rfl ?_
    obtain ⟨o_7, h8, h⟩ := bd h
    refine xa_r E 30 h8 (show decode prog_1_method_13_code 13 = .ok (.aaload, 1) by decide +kernel) ?_
    obtain ⟨v_9, h10, h⟩ := bd h
    refine xg_i E 0 10 h10 mw821 (show decode prog_1_method_13_code 14 = .ok (.getfield 160, 3) by decide +kernel) ?_
    refine xv_goto E 21 (show decode prog_1_method_13_code 17 = .ok (.goto (4), 3) by decide +kernel) rfl ?_
    exact xv_w (sb151_21 E B v_9 q_1.2 h hN) rfl
end
theorem t151 (G : gX) (l : Launch) {as : List aV} {M : hM} {r : Option aV} {M' : hM} (h : f151 as M = some (r, M')) : xM G l ym151 prog_1_method_13_code 2 (some FieldType.int) 1 as M r M' := by
  unfold f151 at h
  split at h
  · have h := x_out_ok h
    refine xM_of (by decide) (Nat.le_of_ble_eq_true rfl) (lb151_0 G l _ _ M h) ?_
    intro p e s m args below meth c E B
    exact sb151_0 E B _ _ M h rfl
  · cases h
/-! ZF.got(II)J -/
def ym152 : MethodName := ⟨"ZonedFabric", "got", "(II)J"⟩
theorem cd152 : xCd ym152 prog_1_method_14_code 3 (some FieldType.long) 2 := ⟨mw822, mw71, by decide, by decide, by decide +kernel⟩
def b152_29  (M : hM) : Option xRes :=
  some (.inl (some (.inr (.inl (0 : Int64))), M))
def b152_0 (a0 : Nat) (v1 : Int32) (v2 : Int32) (M : hM) : Option xRes :=
  Option.bind (g_o M 11 (some a0)) fun b_3 =>
  Option.bind (c_I (f150 [.inr (.inr (some b_3)), .inl v1] M)) fun q_1 =>
  if q_1.1 = 0 then
    (b152_29  q_1.2)
  else
    (Option.bind (g_r q_1.2 11 6 (some a0)) fun o_5 =>
    Option.bind (al_r q_1.2 30 o_5 v1) fun o_7 =>
    Option.bind (g_i q_1.2 0 0 o_7) fun v_9 =>
    if v_9 = 0 then
      (if v2 < 0 then
        (b152_29  q_1.2)
      else
        (if v2 < (4 : Int32) then
          (Option.bind (g_r q_1.2 11 6 (some a0)) fun o_11 =>
          Option.bind (al_r q_1.2 30 o_11 v1) fun o_13 =>
          Option.bind (g_r q_1.2 0 5 o_13) fun o_15 =>
          Option.bind (al_l q_1.2 23 o_15 v2) fun w_17 =>
          some (.inl (some (.inr (.inl w_17)), q_1.2)))
        else
          (b152_29  q_1.2)))
    else
      (b152_29  q_1.2))
def f152 (as : List aV) (M : hM) : xO := match as with
  | [.inr (.inr (some a0)), .inl v1, .inl v2] => x_out (b152_0 a0 v1 v2 M)
  | _ => none
theorem lb152_29 (G : gX) (l : Launch)  (M : hM) {res : xRes} (h : b152_29  M = some res) : h_sz M ≤ r_sz res ∧ h_sl M ≤ r_sl res := by
  unfold b152_29 at h
  obtain rfl := Option.some.inj h
  show h_sz M ≤ h_sz M ∧ h_sl M ≤ h_sl M
  omega
theorem lb152_0 (G : gX) (l : Launch) (a0 : Nat) (v1 : Int32) (v2 : Int32) (M : hM) {res : xRes} (h : b152_0 a0 v1 v2 M = some res) : h_sz M ≤ r_sz res ∧ h_sl M ≤ r_sl res := by
  unfold b152_0 at h
  obtain ⟨b_3, h4, h⟩ := bd h
  obtain ⟨q_1, h2, h⟩ := bd h
  have eh2 := (t150 G l (c_I_some h2)).1
  by_cases q22 : q_1.1 = 0
  · rw [if_pos q22] at h
    have e := lb152_29 G l  q_1.2 h
    omega
  · rw [if_neg q22] at h
    obtain ⟨o_5, h6, h⟩ := bd h
    obtain ⟨o_7, h8, h⟩ := bd h
    obtain ⟨v_9, h10, h⟩ := bd h
    by_cases q21 : v_9 = 0
    · rw [if_pos q21] at h
      by_cases q20 : v2 < 0
      · rw [if_pos q20] at h
        have e := lb152_29 G l  q_1.2 h
        omega
      · rw [if_neg q20] at h
        by_cases q19 : v2 < (4 : Int32)
        · rw [if_pos q19] at h
          obtain ⟨o_11, h12, h⟩ := bd h
          obtain ⟨o_13, h14, h⟩ := bd h
          obtain ⟨o_15, h16, h⟩ := bd h
          obtain ⟨w_17, h18, h⟩ := bd h
          obtain rfl := Option.some.inj h
          show h_sz M ≤ h_sz q_1.2 ∧ h_sl M ≤ h_sl q_1.2
          omega
        · rw [if_neg q19] at h
          have e := lb152_29 G l  q_1.2 h
          omega
    · rw [if_neg q21] at h
      have e := lb152_29 G l  q_1.2 h
      omega
section
variable {p : Program} {l : Launch} {e : Env} {s : State} {m : MethodId} {args : Array Value} {below : List Frame} {meth : Method} {c : Code} {G : gX} {z0 y0 : Nat} {r : Option aV} {M' : hM}
theorem sb152_29 (E : xE G p (xRm 1 (h_sz M' - z0) (h_sl M' - y0)) s m args c prog_1_method_14_code "ZonedFabric" z0 y0 (h_sz M') (h_sl M') 3) (B : xB ym152 (some FieldType.long) meth)  (M : hM) {res : xRes} (h : b152_29  M = some res) (hN : xN (fun _ _ _ => False) r M' res) : xV G p l e (xRm 1 (h_sz M' - z0) (h_sl M' - y0)) s m args below meth c z0 y0 (h_sz M') (h_sl M') 3 (MQ below (xQc G r M') args s (h_sz M' - z0) (h_sl M' - y0) (xFr G)) 29 [] [] M := by
  unfold b152_29 at h
  refine xv_b E [.lconst 0] (pc' := 30) (lv' := []) (st' := [.inr (.inl (0 : Int64))]) (by decide +kernel) rfl rfl ?_
  obtain rfl := Option.some.inj h
  obtain ⟨rfl, rfl⟩ := Prod.mk.inj (show ((some (.inr (.inl (0 : Int64))) : Option aV), M) = (r, M') from hN)
  exact xv_rl E B.1 B.2.1 (show decode prog_1_method_14_code 30 = .ok (.lreturn, 1) by decide +kernel) rfl rfl
theorem sb152_0 (E : xE G p (xRm 1 (h_sz M' - z0) (h_sl M' - y0)) s m args c prog_1_method_14_code "ZonedFabric" z0 y0 (h_sz M') (h_sl M') 3) (B : xB ym152 (some FieldType.long) meth) (a0 : Nat) (v1 : Int32) (v2 : Int32) (M : hM) {res : xRes} (h : b152_0 a0 v1 v2 M = some res) (hN : xN (fun _ _ _ => False) r M' res) : xV G p l e (xRm 1 (h_sz M' - z0) (h_sl M' - y0)) s m args below meth c z0 y0 (h_sz M') (h_sl M') 3 (MQ below (xQc G r M') args s (h_sz M' - z0) (h_sl M' - y0) (xFr G)) 0 [(0, .inr (.inr (some a0))), (1, .inl v1), (2, .inl v2)] [] M := by
  unfold b152_0 at h
  refine xv_b E [.aload_n 0, .iload_n 1] (pc' := 2) (lv' := [(0, .inr (.inr (some a0))), (1, .inl v1), (2, .inl v2)]) (st' := [.inl v1, .inr (.inr (some a0))]) (by decide +kernel) rfl rfl ?_
  obtain ⟨b_3, h4, h⟩ := bd h
  obtain ⟨eh4, th4⟩ := g_o_some h4
  obtain ⟨q_1, h2, h⟩ := bd h
  refine xv_cvo E eh4 11 (as := [.inl v1]) (t150 G l (c_I_some h2)) cd150 mw818 mw819 mw820 (show decode prog_1_method_14_code 2 = .ok (.invokevirtual 157, 3) by decide +kernel) th4 rfl rfl (Nat.le_of_ble_eq_true rfl) ⟨Nat.le_of_ble_eq_true rfl, Nat.le_of_ble_eq_true rfl⟩ ?_
  by_cases q22 : q_1.1 = 0
  · rw [if_pos q22] at h
    refine xv_if_eq E 29 (show decode prog_1_method_14_code 5 = .ok (.ifCond .eq (24), 3) by decide +kernel) rfl (fun _ => ?_) (fun z => absurd q22 z)
    exact xv_w (sb152_29 E B  q_1.2 h hN) rfl
  · rw [if_neg q22] at h
    refine xv_if_eq E 29 (show decode prog_1_method_14_code 5 = .ok (.ifCond .eq (24), 3) by decide +kernel) rfl (fun z => absurd z q22) (fun _ => ?_)
    refine xv_b E [.aload_n 0] (pc' := 9) (lv' := [(0, .inr (.inr (some a0))), (1, .inl v1), (2, .inl v2)]) (st' := [.inr (.inr (some a0))]) (by decide +kernel) rfl rfl ?_
    obtain ⟨o_5, h6, h⟩ := bd h
    refine xg_r E 11 6 h6 mw76 (show decode prog_1_method_14_code 9 = .ok (.getfield 20, 3) by decide +kernel) ?_
    refine xv_b E [.iload_n 1] (pc' := 13) (lv' := [(0, .inr (.inr (some a0))), (1, .inl v1), (2, .inl v2)]) (st' := [.inl v1, .inr (.inr o_5)]) (by decide +kernel) rfl rfl ?_
    obtain ⟨o_7, h8, h⟩ := bd h
    refine xa_r E 30 h8 (show decode prog_1_method_14_code 13 = .ok (.aaload, 1) by decide +kernel) ?_
    obtain ⟨v_9, h10, h⟩ := bd h
    refine xg_i E 0 0 h10 mw823 (show decode prog_1_method_14_code 14 = .ok (.getfield 163, 3) by decide +kernel) ?_
    by_cases q21 : v_9 = 0
    · rw [if_pos q21] at h
      refine xv_if_ne E 29 (show decode prog_1_method_14_code 17 = .ok (.ifCond .ne (12), 3) by decide +kernel) rfl (fun z => absurd q21 z) (fun _ => ?_)
      refine xv_b E [.iload_n 2] (pc' := 21) (lv' := [(0, .inr (.inr (some a0))), (1, .inl v1), (2, .inl v2)]) (st' := [.inl v2]) (by decide +kernel) rfl rfl ?_
      by_cases q20 : v2 < 0
      · rw [if_pos q20] at h
        refine xv_if_lt E 29 (show decode prog_1_method_14_code 21 = .ok (.ifCond .lt (8), 3) by decide +kernel) rfl (fun _ => ?_) (fun z => absurd q20 z)
        exact xv_w (sb152_29 E B  q_1.2 h hN) rfl
      · rw [if_neg q20] at h
        refine xv_if_lt E 29 (show decode prog_1_method_14_code 21 = .ok (.ifCond .lt (8), 3) by decide +kernel) rfl (fun z => absurd z q20) (fun _ => ?_)
        refine xv_b E [.iload_n 2, .iconst 4] (pc' := 26) (lv' := [(0, .inr (.inr (some a0))), (1, .inl v1), (2, .inl v2)]) (st' := [.inl (4 : Int32), .inl v2]) (by decide +kernel) rfl rfl ?_
        by_cases q19 : v2 < (4 : Int32)
        · rw [if_pos q19] at h
          refine xv_icmp_lt E 31 (show decode prog_1_method_14_code 26 = .ok (.if_icmp .lt (5), 3) by decide +kernel) rfl (fun _ => ?_) (fun z => absurd q19 z)
          refine xv_b E [.aload_n 0] (pc' := 32) (lv' := [(0, .inr (.inr (some a0))), (1, .inl v1), (2, .inl v2)]) (st' := [.inr (.inr (some a0))]) (by decide +kernel) rfl rfl ?_
          obtain ⟨o_11, h12, h⟩ := bd h
          refine xg_r E 11 6 h12 mw76 (show decode prog_1_method_14_code 32 = .ok (.getfield 20, 3) by decide +kernel) ?_
          refine xv_b E [.iload_n 1] (pc' := 36) (lv' := [(0, .inr (.inr (some a0))), (1, .inl v1), (2, .inl v2)]) (st' := [.inl v1, .inr (.inr o_11)]) (by decide +kernel) rfl rfl ?_
          obtain ⟨o_13, h14, h⟩ := bd h
          refine xa_r E 30 h14 (show decode prog_1_method_14_code 36 = .ok (.aaload, 1) by decide +kernel) ?_
          obtain ⟨o_15, h16, h⟩ := bd h
          refine xg_r E 0 5 h16 mw824 (show decode prog_1_method_14_code 37 = .ok (.getfield 166, 3) by decide +kernel) ?_
          refine xv_b E [.iload_n 2] (pc' := 41) (lv' := [(0, .inr (.inr (some a0))), (1, .inl v1), (2, .inl v2)]) (st' := [.inl v2, .inr (.inr o_15)]) (by decide +kernel) rfl rfl ?_
          obtain ⟨w_17, h18, h⟩ := bd h
          refine xa_l E h18 (show decode prog_1_method_14_code 41 = .ok (.laload, 1) by decide +kernel) ?_
          obtain rfl := Option.some.inj h
          obtain ⟨rfl, rfl⟩ := Prod.mk.inj (show ((some (.inr (.inl w_17)) : Option aV), q_1.2) = (r, M') from hN)
          exact xv_rl E B.1 B.2.1 (show decode prog_1_method_14_code 42 = .ok (.lreturn, 1) by decide +kernel) rfl rfl
        · rw [if_neg q19] at h
          refine xv_icmp_lt E 31 (show decode prog_1_method_14_code 26 = .ok (.if_icmp .lt (5), 3) by decide +kernel) rfl (fun z => absurd z q19) (fun _ => ?_)
          exact xv_w (sb152_29 E B  q_1.2 h hN) rfl
    · rw [if_neg q21] at h
      refine xv_if_ne E 29 (show decode prog_1_method_14_code 17 = .ok (.ifCond .ne (12), 3) by decide +kernel) rfl (fun _ => ?_) (fun z => absurd z q21)
      exact xv_w (sb152_29 E B  q_1.2 h hN) rfl
end
theorem t152 (G : gX) (l : Launch) {as : List aV} {M : hM} {r : Option aV} {M' : hM} (h : f152 as M = some (r, M')) : xM G l ym152 prog_1_method_14_code 3 (some FieldType.long) 1 as M r M' := by
  unfold f152 at h
  split at h
  · have h := x_out_ok h
    refine xM_of (by decide) (Nat.le_of_ble_eq_true rfl) (lb152_0 G l _ _ _ M h) ?_
    intro p e s m args below meth c E B
    exact sb152_0 E B _ _ _ M h rfl
  · cases h
/-! ZF.when(II)I -/
def ym153 : MethodName := ⟨"ZonedFabric", "when", "(II)I"⟩
theorem cd153 : xCd ym153 prog_1_method_15_code 3 (some FieldType.int) 2 := ⟨mw825, mw71, by decide, by decide, by decide +kernel⟩
def b153_0 (a0 : Nat) (v1 : Int32) (v2 : Int32) (M : hM) : Option xRes :=
  Option.bind (g_o M 11 (some a0)) fun b_3 =>
  Option.bind (c_I (f150 [.inr (.inr (some b_3)), .inl v1] M)) fun q_1 =>
  if q_1.1 = 0 then
    (some (.inl (some (.inl (-1 : Int32)), q_1.2)))
  else
    (if v2 = 0 then
      (Option.bind (g_r q_1.2 11 6 (some a0)) fun o_6 =>
      Option.bind (al_r q_1.2 30 o_6 v1) fun o_8 =>
      Option.bind (g_i q_1.2 0 11 o_8) fun v_10 =>
      some (.inl (some (.inl v_10), q_1.2)))
    else
      (if v2 = 1 then
        (Option.bind (g_r q_1.2 11 6 (some a0)) fun o_13 =>
        Option.bind (al_r q_1.2 30 o_13 v1) fun o_15 =>
        Option.bind (g_i q_1.2 0 13 o_15) fun v_17 =>
        some (.inl (some (.inl v_17), q_1.2)))
      else
        (if v2 = 2 then
          (Option.bind (g_r q_1.2 11 6 (some a0)) fun o_20 =>
          Option.bind (al_r q_1.2 30 o_20 v1) fun o_22 =>
          Option.bind (g_i q_1.2 0 12 o_22) fun v_24 =>
          some (.inl (some (.inl v_24), q_1.2)))
        else
          (some (.inl (some (.inl (-1 : Int32)), q_1.2))))))
def f153 (as : List aV) (M : hM) : xO := match as with
  | [.inr (.inr (some a0)), .inl v1, .inl v2] => x_out (b153_0 a0 v1 v2 M)
  | _ => none
theorem lb153_0 (G : gX) (l : Launch) (a0 : Nat) (v1 : Int32) (v2 : Int32) (M : hM) {res : xRes} (h : b153_0 a0 v1 v2 M = some res) : h_sz M ≤ r_sz res ∧ h_sl M ≤ r_sl res := by
  unfold b153_0 at h
  obtain ⟨b_3, h4, h⟩ := bd h
  obtain ⟨q_1, h2, h⟩ := bd h
  have eh2 := (t150 G l (c_I_some h2)).1
  by_cases q26 : q_1.1 = 0
  · rw [if_pos q26] at h
    obtain rfl := Option.some.inj h
    show h_sz M ≤ h_sz q_1.2 ∧ h_sl M ≤ h_sl q_1.2
    omega
  · rw [if_neg q26] at h
    by_cases q5 : v2 = 0
    · rw [if_pos q5] at h
      obtain ⟨o_6, h7, h⟩ := bd h
      obtain ⟨o_8, h9, h⟩ := bd h
      obtain ⟨v_10, h11, h⟩ := bd h
      obtain rfl := Option.some.inj h
      show h_sz M ≤ h_sz q_1.2 ∧ h_sl M ≤ h_sl q_1.2
      omega
    · rw [if_neg q5] at h
      by_cases q12 : v2 = 1
      · rw [if_pos q12] at h
        obtain ⟨o_13, h14, h⟩ := bd h
        obtain ⟨o_15, h16, h⟩ := bd h
        obtain ⟨v_17, h18, h⟩ := bd h
        obtain rfl := Option.some.inj h
        show h_sz M ≤ h_sz q_1.2 ∧ h_sl M ≤ h_sl q_1.2
        omega
      · rw [if_neg q12] at h
        by_cases q19 : v2 = 2
        · rw [if_pos q19] at h
          obtain ⟨o_20, h21, h⟩ := bd h
          obtain ⟨o_22, h23, h⟩ := bd h
          obtain ⟨v_24, h25, h⟩ := bd h
          obtain rfl := Option.some.inj h
          show h_sz M ≤ h_sz q_1.2 ∧ h_sl M ≤ h_sl q_1.2
          omega
        · rw [if_neg q19] at h
          obtain rfl := Option.some.inj h
          show h_sz M ≤ h_sz q_1.2 ∧ h_sl M ≤ h_sl q_1.2
          omega
section
variable {p : Program} {l : Launch} {e : Env} {s : State} {m : MethodId} {args : Array Value} {below : List Frame} {meth : Method} {c : Code} {G : gX} {z0 y0 : Nat} {r : Option aV} {M' : hM}
theorem sb153_0 (E : xE G p (xRm 1 (h_sz M' - z0) (h_sl M' - y0)) s m args c prog_1_method_15_code "ZonedFabric" z0 y0 (h_sz M') (h_sl M') 3) (B : xB ym153 (some FieldType.int) meth) (a0 : Nat) (v1 : Int32) (v2 : Int32) (M : hM) {res : xRes} (h : b153_0 a0 v1 v2 M = some res) (hN : xN (fun _ _ _ => False) r M' res) : xV G p l e (xRm 1 (h_sz M' - z0) (h_sl M' - y0)) s m args below meth c z0 y0 (h_sz M') (h_sl M') 3 (MQ below (xQc G r M') args s (h_sz M' - z0) (h_sl M' - y0) (xFr G)) 0 [(0, .inr (.inr (some a0))), (1, .inl v1), (2, .inl v2)] [] M := by
  unfold b153_0 at h
  refine xv_b E [.aload_n 0, .iload_n 1] (pc' := 2) (lv' := [(0, .inr (.inr (some a0))), (1, .inl v1), (2, .inl v2)]) (st' := [.inl v1, .inr (.inr (some a0))]) (by decide +kernel) rfl rfl ?_
  obtain ⟨b_3, h4, h⟩ := bd h
  obtain ⟨eh4, th4⟩ := g_o_some h4
  obtain ⟨q_1, h2, h⟩ := bd h
  refine xv_cvo E eh4 11 (as := [.inl v1]) (t150 G l (c_I_some h2)) cd150 mw818 mw819 mw820 (show decode prog_1_method_15_code 2 = .ok (.invokevirtual 157, 3) by decide +kernel) th4 rfl rfl (Nat.le_of_ble_eq_true rfl) ⟨Nat.le_of_ble_eq_true rfl, Nat.le_of_ble_eq_true rfl⟩ ?_
  by_cases q26 : q_1.1 = 0
  · rw [if_pos q26] at h
    refine xv_if_ne E 10 (show decode prog_1_method_15_code 5 = .ok (.ifCond .ne (5), 3) by decide +kernel) rfl (fun z => absurd q26 z) (fun _ => ?_)
    refine xv_b E [.iconst (-1)] (pc' := 9) (lv' := [(0, .inr (.inr (some a0))), (1, .inl v1), (2, .inl v2)]) (st' := [.inl (-1 : Int32)]) (by decide +kernel) rfl rfl ?_
    obtain rfl := Option.some.inj h
    obtain ⟨rfl, rfl⟩ := Prod.mk.inj (show ((some (.inl (-1 : Int32)) : Option aV), q_1.2) = (r, M') from hN)
    exact xv_ri E B.1 rfl B.2.1 (show decode prog_1_method_15_code 9 = .ok (.ireturn, 1) by decide +kernel) rfl rfl
  · rw [if_neg q26] at h
    refine xv_if_ne E 10 (show decode prog_1_method_15_code 5 = .ok (.ifCond .ne (5), 3) by decide +kernel) rfl (fun _ => ?_) (fun z => absurd z q26)
    refine xv_b E [.iload_n 2] (pc' := 11) (lv' := [(0, .inr (.inr (some a0))), (1, .inl v1), (2, .inl v2)]) (st' := [.inl v2]) (by decide +kernel) rfl rfl ?_
    by_cases q5 : v2 = 0
    · rw [if_pos q5] at h
      refine xv_tabIn E (off := 25) 36 (show decode prog_1_method_15_code 11 = .ok (.tableswitch (55) 0 2 #[25, 35, 45], 25) by decide +kernel) (by rw [q5]; decide) (by rw [q5]; decide) (by rw [q5]; rfl) rfl ?_
      refine xv_b E [.aload_n 0] (pc' := 37) (lv' := [(0, .inr (.inr (some a0))), (1, .inl v1), (2, .inl v2)]) (st' := [.inr (.inr (some a0))]) (by decide +kernel) rfl rfl ?_
      obtain ⟨o_6, h7, h⟩ := bd h
      refine xg_r E 11 6 h7 mw76 (show decode prog_1_method_15_code 37 = .ok (.getfield 20, 3) by decide +kernel) ?_
      refine xv_b E [.iload_n 1] (pc' := 41) (lv' := [(0, .inr (.inr (some a0))), (1, .inl v1), (2, .inl v2)]) (st' := [.inl v1, .inr (.inr o_6)]) (by decide +kernel) rfl rfl ?_
      obtain ⟨o_8, h9, h⟩ := bd h
      refine xa_r E 30 h9 (show decode prog_1_method_15_code 41 = .ok (.aaload, 1) by decide +kernel) ?_
      obtain ⟨v_10, h11, h⟩ := bd h
      refine xg_i E 0 11 h11 mw826 (show decode prog_1_method_15_code 42 = .ok (.getfield 170, 3) by decide +kernel) ?_
      obtain rfl := Option.some.inj h
      obtain ⟨rfl, rfl⟩ := Prod.mk.inj (show ((some (.inl v_10) : Option aV), q_1.2) = (r, M') from hN)
      exact xv_ri E B.1 rfl B.2.1 (show decode prog_1_method_15_code 45 = .ok (.ireturn, 1) by decide +kernel) rfl rfl
    · rw [if_neg q5] at h
      by_cases q12 : v2 = 1
      · rw [if_pos q12] at h
        refine xv_tabIn E (off := 35) 46 (show decode prog_1_method_15_code 11 = .ok (.tableswitch (55) 0 2 #[25, 35, 45], 25) by decide +kernel) (by rw [q12]; decide) (by rw [q12]; decide) (by rw [q12]; rfl) rfl ?_
        refine xv_b E [.aload_n 0] (pc' := 47) (lv' := [(0, .inr (.inr (some a0))), (1, .inl v1), (2, .inl v2)]) (st' := [.inr (.inr (some a0))]) (by decide +kernel) rfl rfl ?_
        obtain ⟨o_13, h14, h⟩ := bd h
        refine xg_r E 11 6 h14 mw76 (show decode prog_1_method_15_code 47 = .ok (.getfield 20, 3) by decide +kernel) ?_
        refine xv_b E [.iload_n 1] (pc' := 51) (lv' := [(0, .inr (.inr (some a0))), (1, .inl v1), (2, .inl v2)]) (st' := [.inl v1, .inr (.inr o_13)]) (by decide +kernel) rfl rfl ?_
        obtain ⟨o_15, h16, h⟩ := bd h
        refine xa_r E 30 h16 (show decode prog_1_method_15_code 51 = .ok (.aaload, 1) by decide +kernel) ?_
        obtain ⟨v_17, h18, h⟩ := bd h
        refine xg_i E 0 13 h18 mw827 (show decode prog_1_method_15_code 52 = .ok (.getfield 173, 3) by decide +kernel) ?_
        obtain rfl := Option.some.inj h
        obtain ⟨rfl, rfl⟩ := Prod.mk.inj (show ((some (.inl v_17) : Option aV), q_1.2) = (r, M') from hN)
        exact xv_ri E B.1 rfl B.2.1 (show decode prog_1_method_15_code 55 = .ok (.ireturn, 1) by decide +kernel) rfl rfl
      · rw [if_neg q12] at h
        by_cases q19 : v2 = 2
        · rw [if_pos q19] at h
          refine xv_tabIn E (off := 45) 56 (show decode prog_1_method_15_code 11 = .ok (.tableswitch (55) 0 2 #[25, 35, 45], 25) by decide +kernel) (by rw [q19]; decide) (by rw [q19]; decide) (by rw [q19]; rfl) rfl ?_
          refine xv_b E [.aload_n 0] (pc' := 57) (lv' := [(0, .inr (.inr (some a0))), (1, .inl v1), (2, .inl v2)]) (st' := [.inr (.inr (some a0))]) (by decide +kernel) rfl rfl ?_
          obtain ⟨o_20, h21, h⟩ := bd h
          refine xg_r E 11 6 h21 mw76 (show decode prog_1_method_15_code 57 = .ok (.getfield 20, 3) by decide +kernel) ?_
          refine xv_b E [.iload_n 1] (pc' := 61) (lv' := [(0, .inr (.inr (some a0))), (1, .inl v1), (2, .inl v2)]) (st' := [.inl v1, .inr (.inr o_20)]) (by decide +kernel) rfl rfl ?_
          obtain ⟨o_22, h23, h⟩ := bd h
          refine xa_r E 30 h23 (show decode prog_1_method_15_code 61 = .ok (.aaload, 1) by decide +kernel) ?_
          obtain ⟨v_24, h25, h⟩ := bd h
          refine xg_i E 0 12 h25 mw828 (show decode prog_1_method_15_code 62 = .ok (.getfield 176, 3) by decide +kernel) ?_
          obtain rfl := Option.some.inj h
          obtain ⟨rfl, rfl⟩ := Prod.mk.inj (show ((some (.inl v_24) : Option aV), q_1.2) = (r, M') from hN)
          exact xv_ri E B.1 rfl B.2.1 (show decode prog_1_method_15_code 65 = .ok (.ireturn, 1) by decide +kernel) rfl rfl
        · rw [if_neg q19] at h
          refine xv_tabOut E 66 (show decode prog_1_method_15_code 11 = .ok (.tableswitch (55) 0 2 #[25, 35, 45], 25) by decide +kernel) (sw_out (lo := 0) (hi := 2) (by decide) (by decide) (fun k h1 h2 => ?_)) rfl ?_
          · rcases (show k = 0 ∨ k = 1 ∨ k = 2 by omega) with rfl | rfl | rfl
            · exact q5
            · exact q12
            · exact q19
          · refine xv_b E [.iconst (-1)] (pc' := 67) (lv' := [(0, .inr (.inr (some a0))), (1, .inl v1), (2, .inl v2)]) (st' := [.inl (-1 : Int32)]) (by decide +kernel) rfl rfl ?_
            obtain rfl := Option.some.inj h
            obtain ⟨rfl, rfl⟩ := Prod.mk.inj (show ((some (.inl (-1 : Int32)) : Option aV), q_1.2) = (r, M') from hN)
            exact xv_ri E B.1 rfl B.2.1 (show decode prog_1_method_15_code 67 = .ok (.ireturn, 1) by decide +kernel) rfl rfl
end
theorem t153 (G : gX) (l : Launch) {as : List aV} {M : hM} {r : Option aV} {M' : hM} (h : f153 as M = some (r, M')) : xM G l ym153 prog_1_method_15_code 3 (some FieldType.int) 1 as M r M' := by
  unfold f153 at h
  split at h
  · have h := x_out_ok h
    refine xM_of (by decide) (Nat.le_of_ble_eq_true rfl) (lb153_0 G l _ _ _ M h) ?_
    intro p e s m args below meth c E B
    exact sb153_0 E B _ _ _ M h rfl
  · cases h
/-! ZF.block(III)J -/
def ym154 : MethodName := ⟨"ZonedFabric", "block", "(III)J"⟩
theorem cd154 : xCd ym154 prog_1_method_16_code 4 (some FieldType.long) 3 := ⟨mw829, mw71, by decide, by decide, by decide +kernel⟩
def b154_27  (M : hM) : Option xRes :=
  some (.inl (some (.inr (.inl (-9223372036854775808 : Int64))), M))
def b154_0 (a0 : Nat) (v1 : Int32) (v2 : Int32) (v3 : Int32) (M : hM) : Option xRes :=
  Option.bind (g_o M 11 (some a0)) fun b_3 =>
  Option.bind (c_I (f142 [.inr (.inr (some b_3)), .inl v1] M)) fun q_1 =>
  if q_1.1 = 0 then
    (b154_27  q_1.2)
  else
    (if v2 < 0 then
      (b154_27  q_1.2)
    else
      (if (2 : Int32) ≤ v2 then
        (b154_27  q_1.2)
      else
        (if v3 < 0 then
          (b154_27  q_1.2)
        else
          (if v3 < (16 : Int32) then
            (Option.bind (g_r q_1.2 11 2 (some a0)) fun o_5 =>
            Option.bind (al_r q_1.2 35 o_5 v1) fun o_7 =>
            Option.bind (g_r q_1.2 5 5 o_7) fun o_9 =>
            Option.bind (g_r q_1.2 1 2 o_9) fun o_11 =>
            Option.bind (al_l q_1.2 23 o_11 ((v2 * (16 : Int32)) + v3)) fun w_13 =>
            some (.inl (some (.inr (.inl w_13)), q_1.2)))
          else
            (b154_27  q_1.2)))))
def f154 (as : List aV) (M : hM) : xO := match as with
  | [.inr (.inr (some a0)), .inl v1, .inl v2, .inl v3] => x_out (b154_0 a0 v1 v2 v3 M)
  | _ => none
theorem lb154_27 (G : gX) (l : Launch)  (M : hM) {res : xRes} (h : b154_27  M = some res) : h_sz M ≤ r_sz res ∧ h_sl M ≤ r_sl res := by
  unfold b154_27 at h
  obtain rfl := Option.some.inj h
  show h_sz M ≤ h_sz M ∧ h_sl M ≤ h_sl M
  omega
theorem lb154_0 (G : gX) (l : Launch) (a0 : Nat) (v1 : Int32) (v2 : Int32) (v3 : Int32) (M : hM) {res : xRes} (h : b154_0 a0 v1 v2 v3 M = some res) : h_sz M ≤ r_sz res ∧ h_sl M ≤ r_sl res := by
  unfold b154_0 at h
  obtain ⟨b_3, h4, h⟩ := bd h
  obtain ⟨q_1, h2, h⟩ := bd h
  have eh2 := (t142 G l (c_I_some h2)).1
  by_cases q19 : q_1.1 = 0
  · rw [if_pos q19] at h
    have e := lb154_27 G l  q_1.2 h
    omega
  · rw [if_neg q19] at h
    by_cases q18 : v2 < 0
    · rw [if_pos q18] at h
      have e := lb154_27 G l  q_1.2 h
      omega
    · rw [if_neg q18] at h
      by_cases q17 : (2 : Int32) ≤ v2
      · rw [if_pos q17] at h
        have e := lb154_27 G l  q_1.2 h
        omega
      · rw [if_neg q17] at h
        by_cases q16 : v3 < 0
        · rw [if_pos q16] at h
          have e := lb154_27 G l  q_1.2 h
          omega
        · rw [if_neg q16] at h
          by_cases q15 : v3 < (16 : Int32)
          · rw [if_pos q15] at h
            obtain ⟨o_5, h6, h⟩ := bd h
            obtain ⟨o_7, h8, h⟩ := bd h
            obtain ⟨o_9, h10, h⟩ := bd h
            obtain ⟨o_11, h12, h⟩ := bd h
            obtain ⟨w_13, h14, h⟩ := bd h
            obtain rfl := Option.some.inj h
            show h_sz M ≤ h_sz q_1.2 ∧ h_sl M ≤ h_sl q_1.2
            omega
          · rw [if_neg q15] at h
            have e := lb154_27 G l  q_1.2 h
            omega
section
variable {p : Program} {l : Launch} {e : Env} {s : State} {m : MethodId} {args : Array Value} {below : List Frame} {meth : Method} {c : Code} {G : gX} {z0 y0 : Nat} {r : Option aV} {M' : hM}
theorem sb154_27 (E : xE G p (xRm 2 (h_sz M' - z0) (h_sl M' - y0)) s m args c prog_1_method_16_code "ZonedFabric" z0 y0 (h_sz M') (h_sl M') 4) (B : xB ym154 (some FieldType.long) meth)  (M : hM) {res : xRes} (h : b154_27  M = some res) (hN : xN (fun _ _ _ => False) r M' res) : xV G p l e (xRm 2 (h_sz M' - z0) (h_sl M' - y0)) s m args below meth c z0 y0 (h_sz M') (h_sl M') 4 (MQ below (xQc G r M') args s (h_sz M' - z0) (h_sl M' - y0) (xFr G)) 27 [] [] M := by
  unfold b154_27 at h
  refine xv_ldc2 E (-9223372036854775808 : Int64) mw831 (show decode prog_1_method_16_code 27 = .ok (.ldc2_w 182, 3) by decide +kernel) ?_
  obtain rfl := Option.some.inj h
  obtain ⟨rfl, rfl⟩ := Prod.mk.inj (show ((some (.inr (.inl (-9223372036854775808 : Int64))) : Option aV), M) = (r, M') from hN)
  exact xv_rl E B.1 B.2.1 (show decode prog_1_method_16_code 30 = .ok (.lreturn, 1) by decide +kernel) rfl rfl
theorem sb154_0 (E : xE G p (xRm 2 (h_sz M' - z0) (h_sl M' - y0)) s m args c prog_1_method_16_code "ZonedFabric" z0 y0 (h_sz M') (h_sl M') 4) (B : xB ym154 (some FieldType.long) meth) (a0 : Nat) (v1 : Int32) (v2 : Int32) (v3 : Int32) (M : hM) {res : xRes} (h : b154_0 a0 v1 v2 v3 M = some res) (hN : xN (fun _ _ _ => False) r M' res) : xV G p l e (xRm 2 (h_sz M' - z0) (h_sl M' - y0)) s m args below meth c z0 y0 (h_sz M') (h_sl M') 4 (MQ below (xQc G r M') args s (h_sz M' - z0) (h_sl M' - y0) (xFr G)) 0 [(0, .inr (.inr (some a0))), (1, .inl v1), (2, .inl v2), (3, .inl v3)] [] M := by
  unfold b154_0 at h
  refine xv_b E [.aload_n 0, .iload_n 1] (pc' := 2) (lv' := [(0, .inr (.inr (some a0))), (1, .inl v1), (2, .inl v2), (3, .inl v3)]) (st' := [.inl v1, .inr (.inr (some a0))]) (by decide +kernel) rfl rfl ?_
  obtain ⟨b_3, h4, h⟩ := bd h
  obtain ⟨eh4, th4⟩ := g_o_some h4
  obtain ⟨q_1, h2, h⟩ := bd h
  refine xv_cvo E eh4 11 (as := [.inl v1]) (t142 G l (c_I_some h2)) cd142 mw787 mw788 mw789 (show decode prog_1_method_16_code 2 = .ok (.invokevirtual 179, 3) by decide +kernel) th4 rfl rfl (Nat.le_of_ble_eq_true rfl) ⟨Nat.le_of_ble_eq_true rfl, Nat.le_of_ble_eq_true rfl⟩ ?_
  by_cases q19 : q_1.1 = 0
  · rw [if_pos q19] at h
    refine xv_if_eq E 27 (show decode prog_1_method_16_code 5 = .ok (.ifCond .eq (22), 3) by decide +kernel) rfl (fun _ => ?_) (fun z => absurd q19 z)
    exact xv_w (sb154_27 E B  q_1.2 h hN) rfl
  · rw [if_neg q19] at h
    refine xv_if_eq E 27 (show decode prog_1_method_16_code 5 = .ok (.ifCond .eq (22), 3) by decide +kernel) rfl (fun z => absurd z q19) (fun _ => ?_)
    refine xv_b E [.iload_n 2] (pc' := 9) (lv' := [(0, .inr (.inr (some a0))), (1, .inl v1), (2, .inl v2), (3, .inl v3)]) (st' := [.inl v2]) (by decide +kernel) rfl rfl ?_
    by_cases q18 : v2 < 0
    · rw [if_pos q18] at h
      refine xv_if_lt E 27 (show decode prog_1_method_16_code 9 = .ok (.ifCond .lt (18), 3) by decide +kernel) rfl (fun _ => ?_) (fun z => absurd q18 z)
      exact xv_w (sb154_27 E B  q_1.2 h hN) rfl
    · rw [if_neg q18] at h
      refine xv_if_lt E 27 (show decode prog_1_method_16_code 9 = .ok (.ifCond .lt (18), 3) by decide +kernel) rfl (fun z => absurd z q18) (fun _ => ?_)
      refine xv_b E [.iload_n 2, .iconst 2] (pc' := 14) (lv' := [(0, .inr (.inr (some a0))), (1, .inl v1), (2, .inl v2), (3, .inl v3)]) (st' := [.inl (2 : Int32), .inl v2]) (by decide +kernel) rfl rfl ?_
      by_cases q17 : (2 : Int32) ≤ v2
      · rw [if_pos q17] at h
        refine xv_icmp_ge E 27 (show decode prog_1_method_16_code 14 = .ok (.if_icmp .ge (13), 3) by decide +kernel) rfl (fun _ => ?_) (fun z => absurd q17 z)
        exact xv_w (sb154_27 E B  q_1.2 h hN) rfl
      · rw [if_neg q17] at h
        refine xv_icmp_ge E 27 (show decode prog_1_method_16_code 14 = .ok (.if_icmp .ge (13), 3) by decide +kernel) rfl (fun z => absurd z q17) (fun _ => ?_)
        refine xv_b E [.iload_n 3] (pc' := 18) (lv' := [(0, .inr (.inr (some a0))), (1, .inl v1), (2, .inl v2), (3, .inl v3)]) (st' := [.inl v3]) (by decide +kernel) rfl rfl ?_
        by_cases q16 : v3 < 0
        · rw [if_pos q16] at h
          refine xv_if_lt E 27 (show decode prog_1_method_16_code 18 = .ok (.ifCond .lt (9), 3) by decide +kernel) rfl (fun _ => ?_) (fun z => absurd q16 z)
          exact xv_w (sb154_27 E B  q_1.2 h hN) rfl
        · rw [if_neg q16] at h
          refine xv_if_lt E 27 (show decode prog_1_method_16_code 18 = .ok (.ifCond .lt (9), 3) by decide +kernel) rfl (fun z => absurd z q16) (fun _ => ?_)
          refine xv_b E [.iload_n 3, .bipush 16] (pc' := 24) (lv' := [(0, .inr (.inr (some a0))), (1, .inl v1), (2, .inl v2), (3, .inl v3)]) (st' := [.inl (16 : Int32), .inl v3]) (by decide +kernel) rfl rfl ?_
          by_cases q15 : v3 < (16 : Int32)
          · rw [if_pos q15] at h
            refine xv_icmp_lt E 31 (show decode prog_1_method_16_code 24 = .ok (.if_icmp .lt (7), 3) by decide +kernel) rfl (fun _ => ?_) (fun z => absurd q15 z)
            refine xv_b E [.aload_n 0] (pc' := 32) (lv' := [(0, .inr (.inr (some a0))), (1, .inl v1), (2, .inl v2), (3, .inl v3)]) (st' := [.inr (.inr (some a0))]) (by decide +kernel) rfl rfl ?_
            obtain ⟨o_5, h6, h⟩ := bd h
            refine xg_r E 11 2 h6 mw86 (show decode prog_1_method_16_code 32 = .ok (.getfield 44, 3) by decide +kernel) ?_
            refine xv_b E [.iload_n 1] (pc' := 36) (lv' := [(0, .inr (.inr (some a0))), (1, .inl v1), (2, .inl v2), (3, .inl v3)]) (st' := [.inl v1, .inr (.inr o_5)]) (by decide +kernel) rfl rfl ?_
            obtain ⟨o_7, h8, h⟩ := bd h
            refine xa_r E 35 h8 (show decode prog_1_method_16_code 36 = .ok (.aaload, 1) by decide +kernel) ?_
            obtain ⟨o_9, h10, h⟩ := bd h
            refine xg_r E 5 5 h10 mw126 (show decode prog_1_method_16_code 37 = .ok (.getfield 76, 3) by decide +kernel) ?_
            obtain ⟨o_11, h12, h⟩ := bd h
            refine xg_r E 1 2 h12 mw830 (show decode prog_1_method_16_code 40 = .ok (.getfield 184, 3) by decide +kernel) ?_
            refine xv_b E [.iload_n 2, .bipush 16, .imul, .iload_n 3, .iadd] (pc' := 49) (lv' := [(0, .inr (.inr (some a0))), (1, .inl v1), (2, .inl v2), (3, .inl v3)]) (st' := [.inl ((v2 * (16 : Int32)) + v3), .inr (.inr o_11)]) (by decide +kernel) rfl rfl ?_
            obtain ⟨w_13, h14, h⟩ := bd h
            refine xa_l E h14 (show decode prog_1_method_16_code 49 = .ok (.laload, 1) by decide +kernel) ?_
            obtain rfl := Option.some.inj h
            obtain ⟨rfl, rfl⟩ := Prod.mk.inj (show ((some (.inr (.inl w_13)) : Option aV), q_1.2) = (r, M') from hN)
            exact xv_rl E B.1 B.2.1 (show decode prog_1_method_16_code 50 = .ok (.lreturn, 1) by decide +kernel) rfl rfl
          · rw [if_neg q15] at h
            refine xv_icmp_lt E 31 (show decode prog_1_method_16_code 24 = .ok (.if_icmp .lt (7), 3) by decide +kernel) rfl (fun z => absurd z q15) (fun _ => ?_)
            exact xv_w (sb154_27 E B  q_1.2 h hN) rfl
end
theorem t154 (G : gX) (l : Launch) {as : List aV} {M : hM} {r : Option aV} {M' : hM} (h : f154 as M = some (r, M')) : xM G l ym154 prog_1_method_16_code 4 (some FieldType.long) 2 as M r M' := by
  unfold f154 at h
  split at h
  · have h := x_out_ok h
    refine xM_of (by decide) (Nat.le_of_ble_eq_true rfl) (lb154_0 G l _ _ _ _ M h) ?_
    intro p e s m args below meth c E B
    exact sb154_0 E B _ _ _ _ M h rfl
  · cases h
/-! ZF.way(II)I -/
def ym155 : MethodName := ⟨"ZonedFabric", "way", "(II)I"⟩
theorem cd155 : xCd ym155 prog_1_method_17_code 4 (some FieldType.int) 2 := ⟨mw832, mw71, by decide, by decide, by decide +kernel⟩
def b155_19  (M : hM) : Option xRes :=
  some (.inl (some (.inl (-1 : Int32)), M))
def b155_53 (si0 : Int32) (M : hM) : Option xRes :=
  some (.inl (some (.inl si0), M))
def b155_48 (v2 : Int32) (o3 : Option Nat) (M : hM) : Option xRes :=
  Option.bind (g_o M 10 o3) fun b_20 =>
  Option.bind (c_I (f132 [.inr (.inr (some b_20)), .inl v2] M)) fun q_18 =>
  b155_53 q_18.1 q_18.2
def b155_0 (a0 : Nat) (v1 : Int32) (v2 : Int32) (M : hM) : Option xRes :=
  Option.bind (g_o M 11 (some a0)) fun b_3 =>
  Option.bind (c_I (f12 [.inr (.inr (some b_3)), .inl v1] M)) fun q_1 =>
  if q_1.1 = 0 then
    (b155_19  q_1.2)
  else
    (if v2 < (1 : Int32) then
      (b155_19  q_1.2)
    else
      (if v2 ≤ (15 : Int32) then
        (Option.bind (g_r q_1.2 11 1 (some a0)) fun o_5 =>
        Option.bind (al_r q_1.2 40 o_5 v1) fun o_7 =>
        Option.bind (g_i q_1.2 10 3 o_7) fun v_9 =>
        if v_9 = v2 then
          (Option.bind (g_i q_1.2 10 10 o_7) fun v_11 =>
          if v_11 = 0 then
            (b155_53 (8 : Int32) q_1.2)
          else
            (b155_48 v2 o_7 q_1.2))
        else
          (b155_48 v2 o_7 q_1.2))
      else
        (b155_19  q_1.2)))
def f155 (as : List aV) (M : hM) : xO := match as with
  | [.inr (.inr (some a0)), .inl v1, .inl v2] => x_out (b155_0 a0 v1 v2 M)
  | _ => none
theorem lb155_19 (G : gX) (l : Launch)  (M : hM) {res : xRes} (h : b155_19  M = some res) : h_sz M ≤ r_sz res ∧ h_sl M ≤ r_sl res := by
  unfold b155_19 at h
  obtain rfl := Option.some.inj h
  show h_sz M ≤ h_sz M ∧ h_sl M ≤ h_sl M
  omega
theorem lb155_53 (G : gX) (l : Launch) (si0 : Int32) (M : hM) {res : xRes} (h : b155_53 si0 M = some res) : h_sz M ≤ r_sz res ∧ h_sl M ≤ r_sl res := by
  unfold b155_53 at h
  obtain rfl := Option.some.inj h
  show h_sz M ≤ h_sz M ∧ h_sl M ≤ h_sl M
  omega
theorem lb155_48 (G : gX) (l : Launch) (v2 : Int32) (o3 : Option Nat) (M : hM) {res : xRes} (h : b155_48 v2 o3 M = some res) : h_sz M ≤ r_sz res ∧ h_sl M ≤ r_sl res := by
  unfold b155_48 at h
  obtain ⟨b_20, h21, h⟩ := bd h
  obtain ⟨q_18, h19, h⟩ := bd h
  have eh19 := (t132 G l (c_I_some h19)).1
  have e := lb155_53 G l q_18.1 q_18.2 h
  omega
theorem lb155_0 (G : gX) (l : Launch) (a0 : Nat) (v1 : Int32) (v2 : Int32) (M : hM) {res : xRes} (h : b155_0 a0 v1 v2 M = some res) : h_sz M ≤ r_sz res ∧ h_sl M ≤ r_sl res := by
  unfold b155_0 at h
  obtain ⟨b_3, h4, h⟩ := bd h
  obtain ⟨q_1, h2, h⟩ := bd h
  have eh2 := (t12 G l (c_I_some h2)).1
  by_cases q17 : q_1.1 = 0
  · rw [if_pos q17] at h
    have e := lb155_19 G l  q_1.2 h
    omega
  · rw [if_neg q17] at h
    by_cases q16 : v2 < (1 : Int32)
    · rw [if_pos q16] at h
      have e := lb155_19 G l  q_1.2 h
      omega
    · rw [if_neg q16] at h
      by_cases q15 : v2 ≤ (15 : Int32)
      · rw [if_pos q15] at h
        obtain ⟨o_5, h6, h⟩ := bd h
        obtain ⟨o_7, h8, h⟩ := bd h
        obtain ⟨v_9, h10, h⟩ := bd h
        by_cases q14 : v_9 = v2
        · rw [if_pos q14] at h
          obtain ⟨v_11, h12, h⟩ := bd h
          by_cases q13 : v_11 = 0
          · rw [if_pos q13] at h
            have e := lb155_53 G l (8 : Int32) q_1.2 h
            omega
          · rw [if_neg q13] at h
            have e := lb155_48 G l v2 o_7 q_1.2 h
            omega
        · rw [if_neg q14] at h
          have e := lb155_48 G l v2 o_7 q_1.2 h
          omega
      · rw [if_neg q15] at h
        have e := lb155_19 G l  q_1.2 h
        omega
section
variable {p : Program} {l : Launch} {e : Env} {s : State} {m : MethodId} {args : Array Value} {below : List Frame} {meth : Method} {c : Code} {G : gX} {z0 y0 : Nat} {r : Option aV} {M' : hM}
theorem sb155_19 (E : xE G p (xRm 1 (h_sz M' - z0) (h_sl M' - y0)) s m args c prog_1_method_17_code "ZonedFabric" z0 y0 (h_sz M') (h_sl M') 4) (B : xB ym155 (some FieldType.int) meth)  (M : hM) {res : xRes} (h : b155_19  M = some res) (hN : xN (fun _ _ _ => False) r M' res) : xV G p l e (xRm 1 (h_sz M' - z0) (h_sl M' - y0)) s m args below meth c z0 y0 (h_sz M') (h_sl M') 4 (MQ below (xQc G r M') args s (h_sz M' - z0) (h_sl M' - y0) (xFr G)) 19 [] [] M := by
  unfold b155_19 at h
  refine xv_b E [.iconst (-1)] (pc' := 20) (lv' := []) (st' := [.inl (-1 : Int32)]) (by decide +kernel) rfl rfl ?_
  obtain rfl := Option.some.inj h
  obtain ⟨rfl, rfl⟩ := Prod.mk.inj (show ((some (.inl (-1 : Int32)) : Option aV), M) = (r, M') from hN)
  exact xv_ri E B.1 rfl B.2.1 (show decode prog_1_method_17_code 20 = .ok (.ireturn, 1) by decide +kernel) rfl rfl
theorem sb155_53 (E : xE G p (xRm 1 (h_sz M' - z0) (h_sl M' - y0)) s m args c prog_1_method_17_code "ZonedFabric" z0 y0 (h_sz M') (h_sl M') 4) (B : xB ym155 (some FieldType.int) meth) (si0 : Int32) (M : hM) {res : xRes} (h : b155_53 si0 M = some res) (hN : xN (fun _ _ _ => False) r M' res) : xV G p l e (xRm 1 (h_sz M' - z0) (h_sl M' - y0)) s m args below meth c z0 y0 (h_sz M') (h_sl M') 4 (MQ below (xQc G r M') args s (h_sz M' - z0) (h_sl M' - y0) (xFr G)) 53 [] [.inl si0] M := by
  unfold b155_53 at h
  obtain rfl := Option.some.inj h
  obtain ⟨rfl, rfl⟩ := Prod.mk.inj (show ((some (.inl si0) : Option aV), M) = (r, M') from hN)
  exact xv_ri E B.1 rfl B.2.1 (show decode prog_1_method_17_code 53 = .ok (.ireturn, 1) by decide +kernel) rfl rfl
theorem sb155_48 (E : xE G p (xRm 1 (h_sz M' - z0) (h_sl M' - y0)) s m args c prog_1_method_17_code "ZonedFabric" z0 y0 (h_sz M') (h_sl M') 4) (B : xB ym155 (some FieldType.int) meth) (v2 : Int32) (o3 : Option Nat) (M : hM) {res : xRes} (h : b155_48 v2 o3 M = some res) (hN : xN (fun _ _ _ => False) r M' res) : xV G p l e (xRm 1 (h_sz M' - z0) (h_sl M' - y0)) s m args below meth c z0 y0 (h_sz M') (h_sl M') 4 (MQ below (xQc G r M') args s (h_sz M' - z0) (h_sl M' - y0) (xFr G)) 48 [(2, .inl v2), (3, .inr (.inr o3))] [] M := by
  unfold b155_48 at h
  refine xv_b E [.aload_n 3, .iload_n 2] (pc' := 50) (lv' := [(2, .inl v2), (3, .inr (.inr o3))]) (st' := [.inl v2, .inr (.inr o3)]) (by decide +kernel) rfl rfl ?_
  obtain ⟨b_20, h21, h⟩ := bd h
  obtain ⟨eh21, th21⟩ := g_o_some h21
  obtain ⟨q_18, h19, h⟩ := bd h
  refine xv_cvo E eh21 10 (as := [.inl v2]) (t132 G l (c_I_some h19)) cd132 mw834 mw708 mw709 (show decode prog_1_method_17_code 50 = .ok (.invokevirtual 190, 3) by decide +kernel) th21 rfl rfl (Nat.le_of_ble_eq_true rfl) ⟨Nat.le_of_ble_eq_true rfl, Nat.le_of_ble_eq_true rfl⟩ ?_
  exact xv_w (sb155_53 E B q_18.1 q_18.2 h hN) rfl
theorem sb155_0 (E : xE G p (xRm 1 (h_sz M' - z0) (h_sl M' - y0)) s m args c prog_1_method_17_code "ZonedFabric" z0 y0 (h_sz M') (h_sl M') 4) (B : xB ym155 (some FieldType.int) meth) (a0 : Nat) (v1 : Int32) (v2 : Int32) (M : hM) {res : xRes} (h : b155_0 a0 v1 v2 M = some res) (hN : xN (fun _ _ _ => False) r M' res) : xV G p l e (xRm 1 (h_sz M' - z0) (h_sl M' - y0)) s m args below meth c z0 y0 (h_sz M') (h_sl M') 4 (MQ below (xQc G r M') args s (h_sz M' - z0) (h_sl M' - y0) (xFr G)) 0 [(0, .inr (.inr (some a0))), (1, .inl v1), (2, .inl v2)] [] M := by
  unfold b155_0 at h
  refine xv_b E [.aload_n 0, .iload_n 1] (pc' := 2) (lv' := [(0, .inr (.inr (some a0))), (1, .inl v1), (2, .inl v2)]) (st' := [.inl v1, .inr (.inr (some a0))]) (by decide +kernel) rfl rfl ?_
  obtain ⟨b_3, h4, h⟩ := bd h
  obtain ⟨eh4, th4⟩ := g_o_some h4
  obtain ⟨q_1, h2, h⟩ := bd h
  refine xv_cvo E eh4 11 (as := [.inl v1]) (t12 G l (c_I_some h2)) cd12 mw129 mw130 mw131 (show decode prog_1_method_17_code 2 = .ok (.invokevirtual 84, 3) by decide +kernel) th4 rfl rfl (Nat.le_of_ble_eq_true rfl) ⟨Nat.le_of_ble_eq_true rfl, Nat.le_of_ble_eq_true rfl⟩ ?_
  by_cases q17 : q_1.1 = 0
  · rw [if_pos q17] at h
    refine xv_if_eq E 19 (show decode prog_1_method_17_code 5 = .ok (.ifCond .eq (14), 3) by decide +kernel) rfl (fun _ => ?_) (fun z => absurd q17 z)
    exact xv_w (sb155_19 E B  q_1.2 h hN) rfl
  · rw [if_neg q17] at h
    refine xv_if_eq E 19 (show decode prog_1_method_17_code 5 = .ok (.ifCond .eq (14), 3) by decide +kernel) rfl (fun z => absurd z q17) (fun _ => ?_)
    refine xv_b E [.iload_n 2, .iconst 1] (pc' := 10) (lv' := [(0, .inr (.inr (some a0))), (1, .inl v1), (2, .inl v2)]) (st' := [.inl (1 : Int32), .inl v2]) (by decide +kernel) rfl rfl ?_
    by_cases q16 : v2 < (1 : Int32)
    · rw [if_pos q16] at h
      refine xv_icmp_lt E 19 (show decode prog_1_method_17_code 10 = .ok (.if_icmp .lt (9), 3) by decide +kernel) rfl (fun _ => ?_) (fun z => absurd q16 z)
      exact xv_w (sb155_19 E B  q_1.2 h hN) rfl
    · rw [if_neg q16] at h
      refine xv_icmp_lt E 19 (show decode prog_1_method_17_code 10 = .ok (.if_icmp .lt (9), 3) by decide +kernel) rfl (fun z => absurd z q16) (fun _ => ?_)
      refine xv_b E [.iload_n 2, .bipush 15] (pc' := 16) (lv' := [(0, .inr (.inr (some a0))), (1, .inl v1), (2, .inl v2)]) (st' := [.inl (15 : Int32), .inl v2]) (by decide +kernel) rfl rfl ?_
      by_cases q15 : v2 ≤ (15 : Int32)
      · rw [if_pos q15] at h
        refine xv_icmp_le E 21 (show decode prog_1_method_17_code 16 = .ok (.if_icmp .le (5), 3) by decide +kernel) rfl (fun _ => ?_) (fun z => absurd q15 z)
        refine xv_b E [.aload_n 0] (pc' := 22) (lv' := [(0, .inr (.inr (some a0))), (1, .inl v1), (2, .inl v2)]) (st' := [.inr (.inr (some a0))]) (by decide +kernel) rfl rfl ?_
        obtain ⟨o_5, h6, h⟩ := bd h
        refine xg_r E 11 1 h6 mw84 (show decode prog_1_method_17_code 22 = .ok (.getfield 35, 3) by decide +kernel) ?_
        refine xv_b E [.iload_n 1] (pc' := 26) (lv' := [(0, .inr (.inr (some a0))), (1, .inl v1), (2, .inl v2)]) (st' := [.inl v1, .inr (.inr o_5)]) (by decide +kernel) rfl rfl ?_
        obtain ⟨o_7, h8, h⟩ := bd h
        refine xa_r E 40 h8 (show decode prog_1_method_17_code 26 = .ok (.aaload, 1) by decide +kernel) ?_
        refine xv_b E [.astore_n 3, .aload_n 3] (pc' := 29) (lv' := [(3, .inr (.inr o_7)), (0, .inr (.inr (some a0))), (1, .inl v1), (2, .inl v2)]) (st' := [.inr (.inr o_7)]) (by decide +kernel) rfl rfl ?_
        obtain ⟨v_9, h10, h⟩ := bd h
        refine xg_i E 10 3 h10 mw203 (show decode prog_1_method_17_code 29 = .ok (.getfield 119, 3) by decide +kernel) ?_
        refine xv_b E [.iload_n 2] (pc' := 33) (lv' := [(3, .inr (.inr o_7)), (0, .inr (.inr (some a0))), (1, .inl v1), (2, .inl v2)]) (st' := [.inl v2, .inl v_9]) (by decide +kernel) rfl rfl ?_
        by_cases q14 : v_9 = v2
        · rw [if_pos q14] at h
          refine xv_icmp_ne E 48 (show decode prog_1_method_17_code 33 = .ok (.if_icmp .ne (15), 3) by decide +kernel) rfl (fun z => absurd q14 z) (fun _ => ?_)
          refine xv_b E [.aload_n 3] (pc' := 37) (lv' := [(3, .inr (.inr o_7)), (0, .inr (.inr (some a0))), (1, .inl v1), (2, .inl v2)]) (st' := [.inr (.inr o_7)]) (by decide +kernel) rfl rfl ?_
          obtain ⟨v_11, h12, h⟩ := bd h
          refine xg_i E 10 10 h12 mw833 (show decode prog_1_method_17_code 37 = .ok (.getfield 187, 3) by decide +kernel) ?_
          by_cases q13 : v_11 = 0
          · rw [if_pos q13] at h
            refine xv_if_ne E 48 (show decode prog_1_method_17_code 40 = .ok (.ifCond .ne (8), 3) by decide +kernel) rfl (fun z => absurd q13 z) (fun _ => ?_)
            refine xv_b E [.bipush 8] (pc' := 45) (lv' := [(3, .inr (.inr o_7)), (0, .inr (.inr (some a0))), (1, .inl v1), (2, .inl v2)]) (st' := [.inl (8 : Int32)]) (by decide +kernel) rfl rfl ?_
            refine xv_goto E 53 (show decode prog_1_method_17_code 45 = .ok (.goto (8), 3) by decide +kernel) rfl ?_
            exact xv_w (sb155_53 E B (8 : Int32) q_1.2 h hN) rfl
          · rw [if_neg q13] at h
            refine xv_if_ne E 48 (show decode prog_1_method_17_code 40 = .ok (.ifCond .ne (8), 3) by decide +kernel) rfl (fun _ => ?_) (fun z => absurd z q13)
            exact xv_w (sb155_48 E B v2 o_7 q_1.2 h hN) rfl
        · rw [if_neg q14] at h
          refine xv_icmp_ne E 48 (show decode prog_1_method_17_code 33 = .ok (.if_icmp .ne (15), 3) by decide +kernel) rfl (fun _ => ?_) (fun z => absurd z q14)
          exact xv_w (sb155_48 E B v2 o_7 q_1.2 h hN) rfl
      · rw [if_neg q15] at h
        refine xv_icmp_le E 21 (show decode prog_1_method_17_code 16 = .ok (.if_icmp .le (5), 3) by decide +kernel) rfl (fun z => absurd z q15) (fun _ => ?_)
        exact xv_w (sb155_19 E B  q_1.2 h hN) rfl
end
theorem t155 (G : gX) (l : Launch) {as : List aV} {M : hM} {r : Option aV} {M' : hM} (h : f155 as M = some (r, M')) : xM G l ym155 prog_1_method_17_code 4 (some FieldType.int) 1 as M r M' := by
  unfold f155 at h
  split at h
  · have h := x_out_ok h
    refine xM_of (by decide) (Nat.le_of_ble_eq_true rfl) (lb155_0 G l _ _ _ M h) ?_
    intro p e s m args below meth c E B
    exact sb155_0 E B _ _ _ M h rfl
  · cases h
/-! ZF.Notice.nodesTold()I -/
def ym156 : MethodName := ⟨"ZonedFabric$Notice", "nodesTold", "()I"⟩
theorem cd156 : xCd ym156 prog_8_method_13_code 1 (some FieldType.int) 0 := ⟨mw835, mw46, by decide, by decide, by decide +kernel⟩
def b156_0 (a0 : Nat) (M : hM) : Option xRes :=
  Option.bind (g_o M 6 (some a0)) fun b_3 =>
  Option.bind (c_I (f96 [.inr (.inr (some b_3)), .inl (5 : Int32)] M)) fun q_1 =>
  Option.bind (g_o q_1.2 6 (some a0)) fun b_7 =>
  Option.bind (c_I (f96 [.inr (.inr (some b_7)), .inl ((6 : Int32) + ((3 : Int32) * q_1.1))] q_1.2)) fun q_5 =>
  some (.inl (some (.inl q_5.1), q_5.2))
def f156 (as : List aV) (M : hM) : xO := match as with
  | [.inr (.inr (some a0))] => x_out (b156_0 a0 M)
  | _ => none
theorem lb156_0 (G : gX) (l : Launch) (a0 : Nat) (M : hM) {res : xRes} (h : b156_0 a0 M = some res) : h_sz M ≤ r_sz res ∧ h_sl M ≤ r_sl res := by
  unfold b156_0 at h
  obtain ⟨b_3, h4, h⟩ := bd h
  obtain ⟨q_1, h2, h⟩ := bd h
  have eh2 := (t96 G l (c_I_some h2)).1
  obtain ⟨b_7, h8, h⟩ := bd h
  obtain ⟨q_5, h6, h⟩ := bd h
  have eh6 := (t96 G l (c_I_some h6)).1
  obtain rfl := Option.some.inj h
  show h_sz M ≤ h_sz q_5.2 ∧ h_sl M ≤ h_sl q_5.2
  omega
section
variable {p : Program} {l : Launch} {e : Env} {s : State} {m : MethodId} {args : Array Value} {below : List Frame} {meth : Method} {c : Code} {G : gX} {z0 y0 : Nat} {r : Option aV} {M' : hM}
theorem sb156_0 (E : xE G p (xRm 1 (h_sz M' - z0) (h_sl M' - y0)) s m args c prog_8_method_13_code "ZonedFabric$Notice" z0 y0 (h_sz M') (h_sl M') 1) (B : xB ym156 (some FieldType.int) meth) (a0 : Nat) (M : hM) {res : xRes} (h : b156_0 a0 M = some res) (hN : xN (fun _ _ _ => False) r M' res) : xV G p l e (xRm 1 (h_sz M' - z0) (h_sl M' - y0)) s m args below meth c z0 y0 (h_sz M') (h_sl M') 1 (MQ below (xQc G r M') args s (h_sz M' - z0) (h_sl M' - y0) (xFr G)) 0 [(0, .inr (.inr (some a0)))] [] M := by
  unfold b156_0 at h
  refine xv_b E [.aload_n 0, .bipush 6, .iconst 3, .aload_n 0, .iconst 5] (pc' := 6) (lv' := [(0, .inr (.inr (some a0)))]) (st' := [.inl (5 : Int32), .inr (.inr (some a0)), .inl (3 : Int32), .inl (6 : Int32), .inr (.inr (some a0))]) (by decide +kernel) rfl rfl ?_
  obtain ⟨b_3, h4, h⟩ := bd h
  obtain ⟨eh4, th4⟩ := g_o_some h4
  obtain ⟨q_1, h2, h⟩ := bd h
  refine xv_cvo E eh4 6 (as := [.inl (5 : Int32)]) (t96 G l (c_I_some h2)) cd96 mw562 mw563 mw564 (show decode prog_8_method_13_code 6 = .ok (.invokevirtual 19, 3) by decide +kernel) th4 rfl rfl (Nat.le_of_ble_eq_true rfl) ⟨Nat.le_of_ble_eq_true rfl, Nat.le_of_ble_eq_true rfl⟩ ?_
  refine xv_b E [.imul, .iadd] (pc' := 11) (lv' := [(0, .inr (.inr (some a0)))]) (st' := [.inl ((6 : Int32) + ((3 : Int32) * q_1.1)), .inr (.inr (some a0))]) (by decide +kernel) rfl rfl ?_
  obtain ⟨b_7, h8, h⟩ := bd h
  obtain ⟨eh8, th8⟩ := g_o_some h8
  obtain ⟨q_5, h6, h⟩ := bd h
  refine xv_cvo E eh8 6 (as := [.inl ((6 : Int32) + ((3 : Int32) * q_1.1))]) (t96 G l (c_I_some h6)) cd96 mw562 mw563 mw564 (show decode prog_8_method_13_code 11 = .ok (.invokevirtual 19, 3) by decide +kernel) th8 rfl rfl (Nat.le_of_ble_eq_true rfl) ⟨Nat.le_of_ble_eq_true rfl, Nat.le_of_ble_eq_true rfl⟩ ?_
  obtain rfl := Option.some.inj h
  obtain ⟨rfl, rfl⟩ := Prod.mk.inj (show ((some (.inl q_5.1) : Option aV), q_5.2) = (r, M') from hN)
  exact xv_ri E B.1 rfl B.2.1 (show decode prog_8_method_13_code 14 = .ok (.ireturn, 1) by decide +kernel) rfl rfl
end
theorem t156 (G : gX) (l : Launch) {as : List aV} {M : hM} {r : Option aV} {M' : hM} (h : f156 as M = some (r, M')) : xM G l ym156 prog_8_method_13_code 1 (some FieldType.int) 1 as M r M' := by
  unfold f156 at h
  split at h
  · have h := x_out_ok h
    refine xM_of (by decide) (Nat.le_of_ble_eq_true rfl) (lb156_0 G l _ M h) ?_
    intro p e s m args below meth c E B
    exact sb156_0 E B _ M h rfl
  · cases h
/-! ZF.record(III)I -/
def ym157 : MethodName := ⟨"ZonedFabric", "record", "(III)I"⟩
theorem cd157 : xCd ym157 prog_1_method_18_code 5 (some FieldType.int) 3 := ⟨mw836, mw71, by decide, by decide, by decide +kernel⟩
def b157_33  (M : hM) : Option xRes :=
  some (.inl (some (.inl (-1 : Int32)), M))
def b157_0 (a0 : Nat) (v1 : Int32) (v2 : Int32) (v3 : Int32) (M : hM) : Option xRes :=
  Option.bind (g_o M 11 (some a0)) fun b_3 =>
  Option.bind (c_I (f12 [.inr (.inr (some b_3)), .inl v1] M)) fun q_1 =>
  if q_1.1 = 0 then
    (b157_33  q_1.2)
  else
    (Option.bind (g_o q_1.2 11 (some a0)) fun b_7 =>
    Option.bind (c_I (f12 [.inr (.inr (some b_7)), .inl v2] q_1.2)) fun q_5 =>
    if q_5.1 = 0 then
      (b157_33  q_5.2)
    else
      (Option.bind (g_r q_5.2 11 1 (some a0)) fun o_9 =>
      Option.bind (al_r q_5.2 40 o_9 v1) fun o_11 =>
      Option.bind (g_r q_5.2 10 4 o_11) fun o_13 =>
      Option.bind (al_r q_5.2 36 o_13 v2) fun o_15 =>
      Option.bind (g_o q_5.2 6 o_15) fun b_19 =>
      Option.bind (c_I (f105 [.inr (.inr (some b_19))] q_5.2)) fun q_17 =>
      if q_17.1 = 0 then
        (b157_33  q_17.2)
      else
        (Option.bind (g_r q_17.2 11 1 (some a0)) fun o_21 =>
        Option.bind (al_r q_17.2 40 o_21 v1) fun o_23 =>
        Option.bind (g_r q_17.2 10 4 o_23) fun o_25 =>
        Option.bind (al_r q_17.2 36 o_25 v2) fun o_27 =>
        if v3 = 0 then
          (Option.bind (g_o q_17.2 6 o_27) fun b_32 =>
          Option.bind (c_I (f118 [.inr (.inr (some b_32))] q_17.2)) fun q_30 =>
          some (.inl (some (.inl q_30.1), q_30.2)))
        else
          (if v3 = 1 then
            (Option.bind (g_o q_17.2 6 o_27) fun b_37 =>
            Option.bind (c_I (f103 [.inr (.inr (some b_37))] q_17.2)) fun q_35 =>
            some (.inl (some (.inl q_35.1), q_35.2)))
          else
            (if v3 = 2 then
              (Option.bind (g_o q_17.2 6 o_27) fun b_42 =>
              Option.bind (c_I (f97 [.inr (.inr (some b_42))] q_17.2)) fun q_40 =>
              some (.inl (some (.inl q_40.1), q_40.2)))
            else
              (if v3 = 3 then
                (Option.bind (g_o q_17.2 6 o_27) fun b_47 =>
                Option.bind (c_I (f156 [.inr (.inr (some b_47))] q_17.2)) fun q_45 =>
                some (.inl (some (.inl q_45.1), q_45.2)))
              else
                (if v3 = 4 then
                  (Option.bind (g_i q_17.2 6 2 o_27) fun v_50 =>
                  some (.inl (some (.inl v_50), q_17.2)))
                else
                  (some (.inl (some (.inl (-1 : Int32)), q_17.2))))))))))
def f157 (as : List aV) (M : hM) : xO := match as with
  | [.inr (.inr (some a0)), .inl v1, .inl v2, .inl v3] => x_out (b157_0 a0 v1 v2 v3 M)
  | _ => none
theorem lb157_33 (G : gX) (l : Launch)  (M : hM) {res : xRes} (h : b157_33  M = some res) : h_sz M ≤ r_sz res ∧ h_sl M ≤ r_sl res := by
  unfold b157_33 at h
  obtain rfl := Option.some.inj h
  show h_sz M ≤ h_sz M ∧ h_sl M ≤ h_sl M
  omega
theorem lb157_0 (G : gX) (l : Launch) (a0 : Nat) (v1 : Int32) (v2 : Int32) (v3 : Int32) (M : hM) {res : xRes} (h : b157_0 a0 v1 v2 v3 M = some res) : h_sz M ≤ r_sz res ∧ h_sl M ≤ r_sl res := by
  unfold b157_0 at h
  obtain ⟨b_3, h4, h⟩ := bd h
  obtain ⟨q_1, h2, h⟩ := bd h
  have eh2 := (t12 G l (c_I_some h2)).1
  by_cases q54 : q_1.1 = 0
  · rw [if_pos q54] at h
    have e := lb157_33 G l  q_1.2 h
    omega
  · rw [if_neg q54] at h
    obtain ⟨b_7, h8, h⟩ := bd h
    obtain ⟨q_5, h6, h⟩ := bd h
    have eh6 := (t12 G l (c_I_some h6)).1
    by_cases q53 : q_5.1 = 0
    · rw [if_pos q53] at h
      have e := lb157_33 G l  q_5.2 h
      omega
    · rw [if_neg q53] at h
      obtain ⟨o_9, h10, h⟩ := bd h
      obtain ⟨o_11, h12, h⟩ := bd h
      obtain ⟨o_13, h14, h⟩ := bd h
      obtain ⟨o_15, h16, h⟩ := bd h
      obtain ⟨b_19, h20, h⟩ := bd h
      obtain ⟨q_17, h18, h⟩ := bd h
      have eh18 := (t105 G l (c_I_some h18)).1
      by_cases q52 : q_17.1 = 0
      · rw [if_pos q52] at h
        have e := lb157_33 G l  q_17.2 h
        omega
      · rw [if_neg q52] at h
        obtain ⟨o_21, h22, h⟩ := bd h
        obtain ⟨o_23, h24, h⟩ := bd h
        obtain ⟨o_25, h26, h⟩ := bd h
        obtain ⟨o_27, h28, h⟩ := bd h
        by_cases q29 : v3 = 0
        · rw [if_pos q29] at h
          obtain ⟨b_32, h33, h⟩ := bd h
          obtain ⟨q_30, h31, h⟩ := bd h
          have eh31 := (t118 G l (c_I_some h31)).1
          obtain rfl := Option.some.inj h
          show h_sz M ≤ h_sz q_30.2 ∧ h_sl M ≤ h_sl q_30.2
          omega
        · rw [if_neg q29] at h
          by_cases q34 : v3 = 1
          · rw [if_pos q34] at h
            obtain ⟨b_37, h38, h⟩ := bd h
            obtain ⟨q_35, h36, h⟩ := bd h
            have eh36 := (t103 G l (c_I_some h36)).1
            obtain rfl := Option.some.inj h
            show h_sz M ≤ h_sz q_35.2 ∧ h_sl M ≤ h_sl q_35.2
            omega
          · rw [if_neg q34] at h
            by_cases q39 : v3 = 2
            · rw [if_pos q39] at h
              obtain ⟨b_42, h43, h⟩ := bd h
              obtain ⟨q_40, h41, h⟩ := bd h
              have eh41 := (t97 G l (c_I_some h41)).1
              obtain rfl := Option.some.inj h
              show h_sz M ≤ h_sz q_40.2 ∧ h_sl M ≤ h_sl q_40.2
              omega
            · rw [if_neg q39] at h
              by_cases q44 : v3 = 3
              · rw [if_pos q44] at h
                obtain ⟨b_47, h48, h⟩ := bd h
                obtain ⟨q_45, h46, h⟩ := bd h
                have eh46 := (t156 G l (c_I_some h46)).1
                obtain rfl := Option.some.inj h
                show h_sz M ≤ h_sz q_45.2 ∧ h_sl M ≤ h_sl q_45.2
                omega
              · rw [if_neg q44] at h
                by_cases q49 : v3 = 4
                · rw [if_pos q49] at h
                  obtain ⟨v_50, h51, h⟩ := bd h
                  obtain rfl := Option.some.inj h
                  show h_sz M ≤ h_sz q_17.2 ∧ h_sl M ≤ h_sl q_17.2
                  omega
                · rw [if_neg q49] at h
                  obtain rfl := Option.some.inj h
                  show h_sz M ≤ h_sz q_17.2 ∧ h_sl M ≤ h_sl q_17.2
                  omega
section
variable {p : Program} {l : Launch} {e : Env} {s : State} {m : MethodId} {args : Array Value} {below : List Frame} {meth : Method} {c : Code} {G : gX} {z0 y0 : Nat} {r : Option aV} {M' : hM}
theorem sb157_33 (E : xE G p (xRm 2 (h_sz M' - z0) (h_sl M' - y0)) s m args c prog_1_method_18_code "ZonedFabric" z0 y0 (h_sz M') (h_sl M') 5) (B : xB ym157 (some FieldType.int) meth)  (M : hM) {res : xRes} (h : b157_33  M = some res) (hN : xN (fun _ _ _ => False) r M' res) : xV G p l e (xRm 2 (h_sz M' - z0) (h_sl M' - y0)) s m args below meth c z0 y0 (h_sz M') (h_sl M') 5 (MQ below (xQc G r M') args s (h_sz M' - z0) (h_sl M' - y0) (xFr G)) 33 [] [] M := by
  unfold b157_33 at h
  refine xv_b E [.iconst (-1)] (pc' := 34) (lv' := []) (st' := [.inl (-1 : Int32)]) (by decide +kernel) rfl rfl ?_
  obtain rfl := Option.some.inj h
  obtain ⟨rfl, rfl⟩ := Prod.mk.inj (show ((some (.inl (-1 : Int32)) : Option aV), M) = (r, M') from hN)
  exact xv_ri E B.1 rfl B.2.1 (show decode prog_1_method_18_code 34 = .ok (.ireturn, 1) by decide +kernel) rfl rfl
theorem sb157_0 (E : xE G p (xRm 2 (h_sz M' - z0) (h_sl M' - y0)) s m args c prog_1_method_18_code "ZonedFabric" z0 y0 (h_sz M') (h_sl M') 5) (B : xB ym157 (some FieldType.int) meth) (a0 : Nat) (v1 : Int32) (v2 : Int32) (v3 : Int32) (M : hM) {res : xRes} (h : b157_0 a0 v1 v2 v3 M = some res) (hN : xN (fun _ _ _ => False) r M' res) : xV G p l e (xRm 2 (h_sz M' - z0) (h_sl M' - y0)) s m args below meth c z0 y0 (h_sz M') (h_sl M') 5 (MQ below (xQc G r M') args s (h_sz M' - z0) (h_sl M' - y0) (xFr G)) 0 [(0, .inr (.inr (some a0))), (1, .inl v1), (2, .inl v2), (3, .inl v3)] [] M := by
  unfold b157_0 at h
  refine xv_b E [.aload_n 0, .iload_n 1] (pc' := 2) (lv' := [(0, .inr (.inr (some a0))), (1, .inl v1), (2, .inl v2), (3, .inl v3)]) (st' := [.inl v1, .inr (.inr (some a0))]) (by decide +kernel) rfl rfl ?_
  obtain ⟨b_3, h4, h⟩ := bd h
  obtain ⟨eh4, th4⟩ := g_o_some h4
  obtain ⟨q_1, h2, h⟩ := bd h
  refine xv_cvo E eh4 11 (as := [.inl v1]) (t12 G l (c_I_some h2)) cd12 mw129 mw130 mw131 (show decode prog_1_method_18_code 2 = .ok (.invokevirtual 84, 3) by decide +kernel) th4 rfl rfl (Nat.le_of_ble_eq_true rfl) ⟨Nat.le_of_ble_eq_true rfl, Nat.le_of_ble_eq_true rfl⟩ ?_
  by_cases q54 : q_1.1 = 0
  · rw [if_pos q54] at h
    refine xv_if_eq E 33 (show decode prog_1_method_18_code 5 = .ok (.ifCond .eq (28), 3) by decide +kernel) rfl (fun _ => ?_) (fun z => absurd q54 z)
    exact xv_w (sb157_33 E B  q_1.2 h hN) rfl
  · rw [if_neg q54] at h
    refine xv_if_eq E 33 (show decode prog_1_method_18_code 5 = .ok (.ifCond .eq (28), 3) by decide +kernel) rfl (fun z => absurd z q54) (fun _ => ?_)
    refine xv_b E [.aload_n 0, .iload_n 2] (pc' := 10) (lv' := [(0, .inr (.inr (some a0))), (1, .inl v1), (2, .inl v2), (3, .inl v3)]) (st' := [.inl v2, .inr (.inr (some a0))]) (by decide +kernel) rfl rfl ?_
    obtain ⟨b_7, h8, h⟩ := bd h
    obtain ⟨eh8, th8⟩ := g_o_some h8
    obtain ⟨q_5, h6, h⟩ := bd h
    refine xv_cvo E eh8 11 (as := [.inl v2]) (t12 G l (c_I_some h6)) cd12 mw129 mw130 mw131 (show decode prog_1_method_18_code 10 = .ok (.invokevirtual 84, 3) by decide +kernel) th8 rfl rfl (Nat.le_of_ble_eq_true rfl) ⟨Nat.le_of_ble_eq_true rfl, Nat.le_of_ble_eq_true rfl⟩ ?_
    by_cases q53 : q_5.1 = 0
    · rw [if_pos q53] at h
      refine xv_if_eq E 33 (show decode prog_1_method_18_code 13 = .ok (.ifCond .eq (20), 3) by decide +kernel) rfl (fun _ => ?_) (fun z => absurd q53 z)
      exact xv_w (sb157_33 E B  q_5.2 h hN) rfl
    · rw [if_neg q53] at h
      refine xv_if_eq E 33 (show decode prog_1_method_18_code 13 = .ok (.ifCond .eq (20), 3) by decide +kernel) rfl (fun z => absurd z q53) (fun _ => ?_)
      refine xv_b E [.aload_n 0] (pc' := 17) (lv' := [(0, .inr (.inr (some a0))), (1, .inl v1), (2, .inl v2), (3, .inl v3)]) (st' := [.inr (.inr (some a0))]) (by decide +kernel) rfl rfl ?_
      obtain ⟨o_9, h10, h⟩ := bd h
      refine xg_r E 11 1 h10 mw84 (show decode prog_1_method_18_code 17 = .ok (.getfield 35, 3) by decide +kernel) ?_
      refine xv_b E [.iload_n 1] (pc' := 21) (lv' := [(0, .inr (.inr (some a0))), (1, .inl v1), (2, .inl v2), (3, .inl v3)]) (st' := [.inl v1, .inr (.inr o_9)]) (by decide +kernel) rfl rfl ?_
      obtain ⟨o_11, h12, h⟩ := bd h
      refine xa_r E 40 h12 (show decode prog_1_method_18_code 21 = .ok (.aaload, 1) by decide +kernel) ?_
      obtain ⟨o_13, h14, h⟩ := bd h
      refine xg_r E 10 4 h14 mw837 (show decode prog_1_method_18_code 22 = .ok (.getfield 194, 3) by decide +kernel) ?_
      refine xv_b E [.iload_n 2] (pc' := 26) (lv' := [(0, .inr (.inr (some a0))), (1, .inl v1), (2, .inl v2), (3, .inl v3)]) (st' := [.inl v2, .inr (.inr o_13)]) (by decide +kernel) rfl rfl ?_
      obtain ⟨o_15, h16, h⟩ := bd h
      refine xa_r E 36 h16 (show decode prog_1_method_18_code 26 = .ok (.aaload, 1) by decide +kernel) ?_
      obtain ⟨b_19, h20, h⟩ := bd h
      obtain ⟨eh20, th20⟩ := g_o_some h20
      obtain ⟨q_17, h18, h⟩ := bd h
      refine xv_cvo E eh20 6 (as := []) (t105 G l (c_I_some h18)) cd105 mw838 mw607 mw608 (show decode prog_1_method_18_code 27 = .ok (.invokevirtual 198, 3) by decide +kernel) th20 rfl rfl (Nat.le_of_ble_eq_true rfl) ⟨Nat.le_of_ble_eq_true rfl, Nat.le_of_ble_eq_true rfl⟩ ?_
      by_cases q52 : q_17.1 = 0
      · rw [if_pos q52] at h
        refine xv_if_ne E 35 (show decode prog_1_method_18_code 30 = .ok (.ifCond .ne (5), 3) by decide +kernel) rfl (fun z => absurd q52 z) (fun _ => ?_)
        exact xv_w (sb157_33 E B  q_17.2 h hN) rfl
      · rw [if_neg q52] at h
        refine xv_if_ne E 35 (show decode prog_1_method_18_code 30 = .ok (.ifCond .ne (5), 3) by decide +kernel) rfl (fun _ => ?_) (fun z => absurd z q52)
        refine xv_b E [.aload_n 0] (pc' := 36) (lv' := [(0, .inr (.inr (some a0))), (1, .inl v1), (2, .inl v2), (3, .inl v3)]) (st' := [.inr (.inr (some a0))]) (by decide +kernel) rfl rfl ?_
        obtain ⟨o_21, h22, h⟩ := bd h
        refine xg_r E 11 1 h22 mw84 (show decode prog_1_method_18_code 36 = .ok (.getfield 35, 3) by decide +kernel) ?_
        refine xv_b E [.iload_n 1] (pc' := 40) (lv' := [(0, .inr (.inr (some a0))), (1, .inl v1), (2, .inl v2), (3, .inl v3)]) (st' := [.inl v1, .inr (.inr o_21)]) (by decide +kernel) rfl rfl ?_
        obtain ⟨o_23, h24, h⟩ := bd h
        refine xa_r E 40 h24 (show decode prog_1_method_18_code 40 = .ok (.aaload, 1) by decide +kernel) ?_
        obtain ⟨o_25, h26, h⟩ := bd h
        refine xg_r E 10 4 h26 mw837 (show decode prog_1_method_18_code 41 = .ok (.getfield 194, 3) by decide +kernel) ?_
        refine xv_b E [.iload_n 2] (pc' := 45) (lv' := [(0, .inr (.inr (some a0))), (1, .inl v1), (2, .inl v2), (3, .inl v3)]) (st' := [.inl v2, .inr (.inr o_25)]) (by decide +kernel) rfl rfl ?_
        obtain ⟨o_27, h28, h⟩ := bd h
        refine xa_r E 36 h28 (show decode prog_1_method_18_code 45 = .ok (.aaload, 1) by decide +kernel) ?_
        refine xv_b E [.astore 4, .iload_n 3] (pc' := 49) (lv' := [(4, .inr (.inr o_27)), (0, .inr (.inr (some a0))), (1, .inl v1), (2, .inl v2), (3, .inl v3)]) (st' := [.inl v3]) (by decide +kernel) rfl rfl ?_
        by_cases q29 : v3 = 0
        · rw [if_pos q29] at h
          refine xv_tabIn E (off := 35) 84 (show decode prog_1_method_18_code 49 = .ok (.tableswitch (65) 0 4 #[35, 41, 47, 53, 59], 35) by decide +kernel) (by rw [q29]; decide) (by rw [q29]; decide) (by rw [q29]; rfl) rfl ?_
          refine xv_b E [.aload 4] (pc' := 86) (lv' := [(4, .inr (.inr o_27)), (0, .inr (.inr (some a0))), (1, .inl v1), (2, .inl v2), (3, .inl v3)]) (st' := [.inr (.inr o_27)]) (by decide +kernel) rfl rfl ?_
          obtain ⟨b_32, h33, h⟩ := bd h
          obtain ⟨eh33, th33⟩ := g_o_some h33
          obtain ⟨q_30, h31, h⟩ := bd h
          refine xv_cvo E eh33 6 (as := []) (t118 G l (c_I_some h31)) cd118 mw839 mw671 mw672 (show decode prog_1_method_18_code 86 = .ok (.invokevirtual 204, 3) by decide +kernel) th33 rfl rfl (Nat.le_of_ble_eq_true rfl) ⟨Nat.le_of_ble_eq_true rfl, Nat.le_of_ble_eq_true rfl⟩ ?_
          obtain rfl := Option.some.inj h
          obtain ⟨rfl, rfl⟩ := Prod.mk.inj (show ((some (.inl q_30.1) : Option aV), q_30.2) = (r, M') from hN)
          exact xv_ri E B.1 rfl B.2.1 (show decode prog_1_method_18_code 89 = .ok (.ireturn, 1) by decide +kernel) rfl rfl
        · rw [if_neg q29] at h
          by_cases q34 : v3 = 1
          · rw [if_pos q34] at h
            refine xv_tabIn E (off := 41) 90 (show decode prog_1_method_18_code 49 = .ok (.tableswitch (65) 0 4 #[35, 41, 47, 53, 59], 35) by decide +kernel) (by rw [q34]; decide) (by rw [q34]; decide) (by rw [q34]; rfl) rfl ?_
            refine xv_b E [.aload 4] (pc' := 92) (lv' := [(4, .inr (.inr o_27)), (0, .inr (.inr (some a0))), (1, .inl v1), (2, .inl v2), (3, .inl v3)]) (st' := [.inr (.inr o_27)]) (by decide +kernel) rfl rfl ?_
            obtain ⟨b_37, h38, h⟩ := bd h
            obtain ⟨eh38, th38⟩ := g_o_some h38
            obtain ⟨q_35, h36, h⟩ := bd h
            refine xv_cvo E eh38 6 (as := []) (t103 G l (c_I_some h36)) cd103 mw840 mw587 mw588 (show decode prog_1_method_18_code 92 = .ok (.invokevirtual 207, 3) by decide +kernel) th38 rfl rfl (Nat.le_of_ble_eq_true rfl) ⟨Nat.le_of_ble_eq_true rfl, Nat.le_of_ble_eq_true rfl⟩ ?_
            obtain rfl := Option.some.inj h
            obtain ⟨rfl, rfl⟩ := Prod.mk.inj (show ((some (.inl q_35.1) : Option aV), q_35.2) = (r, M') from hN)
            exact xv_ri E B.1 rfl B.2.1 (show decode prog_1_method_18_code 95 = .ok (.ireturn, 1) by decide +kernel) rfl rfl
          · rw [if_neg q34] at h
            by_cases q39 : v3 = 2
            · rw [if_pos q39] at h
              refine xv_tabIn E (off := 47) 96 (show decode prog_1_method_18_code 49 = .ok (.tableswitch (65) 0 4 #[35, 41, 47, 53, 59], 35) by decide +kernel) (by rw [q39]; decide) (by rw [q39]; decide) (by rw [q39]; rfl) rfl ?_
              refine xv_b E [.aload 4] (pc' := 98) (lv' := [(4, .inr (.inr o_27)), (0, .inr (.inr (some a0))), (1, .inl v1), (2, .inl v2), (3, .inl v3)]) (st' := [.inr (.inr o_27)]) (by decide +kernel) rfl rfl ?_
              obtain ⟨b_42, h43, h⟩ := bd h
              obtain ⟨eh43, th43⟩ := g_o_some h43
              obtain ⟨q_40, h41, h⟩ := bd h
              refine xv_cvo E eh43 6 (as := []) (t97 G l (c_I_some h41)) cd97 mw841 mw570 mw571 (show decode prog_1_method_18_code 98 = .ok (.invokevirtual 210, 3) by decide +kernel) th43 rfl rfl (Nat.le_of_ble_eq_true rfl) ⟨Nat.le_of_ble_eq_true rfl, Nat.le_of_ble_eq_true rfl⟩ ?_
              obtain rfl := Option.some.inj h
              obtain ⟨rfl, rfl⟩ := Prod.mk.inj (show ((some (.inl q_40.1) : Option aV), q_40.2) = (r, M') from hN)
              exact xv_ri E B.1 rfl B.2.1 (show decode prog_1_method_18_code 101 = .ok (.ireturn, 1) by decide +kernel) rfl rfl
            · rw [if_neg q39] at h
              by_cases q44 : v3 = 3
              · rw [if_pos q44] at h
                refine xv_tabIn E (off := 53) 102 (show decode prog_1_method_18_code 49 = .ok (.tableswitch (65) 0 4 #[35, 41, 47, 53, 59], 35) by decide +kernel) (by rw [q44]; decide) (by rw [q44]; decide) (by rw [q44]; rfl) rfl ?_
                refine xv_b E [.aload 4] (pc' := 104) (lv' := [(4, .inr (.inr o_27)), (0, .inr (.inr (some a0))), (1, .inl v1), (2, .inl v2), (3, .inl v3)]) (st' := [.inr (.inr o_27)]) (by decide +kernel) rfl rfl ?_
                obtain ⟨b_47, h48, h⟩ := bd h
                obtain ⟨eh48, th48⟩ := g_o_some h48
                obtain ⟨q_45, h46, h⟩ := bd h
                refine xv_cvo E eh48 6 (as := []) (t156 G l (c_I_some h46)) cd156 mw842 mw843 mw844 (show decode prog_1_method_18_code 104 = .ok (.invokevirtual 213, 3) by decide +kernel) th48 rfl rfl (Nat.le_of_ble_eq_true rfl) ⟨Nat.le_of_ble_eq_true rfl, Nat.le_of_ble_eq_true rfl⟩ ?_
                obtain rfl := Option.some.inj h
                obtain ⟨rfl, rfl⟩ := Prod.mk.inj (show ((some (.inl q_45.1) : Option aV), q_45.2) = (r, M') from hN)
                exact xv_ri E B.1 rfl B.2.1 (show decode prog_1_method_18_code 107 = .ok (.ireturn, 1) by decide +kernel) rfl rfl
              · rw [if_neg q44] at h
                by_cases q49 : v3 = 4
                · rw [if_pos q49] at h
                  refine xv_tabIn E (off := 59) 108 (show decode prog_1_method_18_code 49 = .ok (.tableswitch (65) 0 4 #[35, 41, 47, 53, 59], 35) by decide +kernel) (by rw [q49]; decide) (by rw [q49]; decide) (by rw [q49]; rfl) rfl ?_
                  refine xv_b E [.aload 4] (pc' := 110) (lv' := [(4, .inr (.inr o_27)), (0, .inr (.inr (some a0))), (1, .inl v1), (2, .inl v2), (3, .inl v3)]) (st' := [.inr (.inr o_27)]) (by decide +kernel) rfl rfl ?_
                  obtain ⟨v_50, h51, h⟩ := bd h
                  refine xg_i E 6 2 h51 mw845 (show decode prog_1_method_18_code 110 = .ok (.getfield 216, 3) by decide +kernel) ?_
                  obtain rfl := Option.some.inj h
                  obtain ⟨rfl, rfl⟩ := Prod.mk.inj (show ((some (.inl v_50) : Option aV), q_17.2) = (r, M') from hN)
                  exact xv_ri E B.1 rfl B.2.1 (show decode prog_1_method_18_code 113 = .ok (.ireturn, 1) by decide +kernel) rfl rfl
                · rw [if_neg q49] at h
                  refine xv_tabOut E 114 (show decode prog_1_method_18_code 49 = .ok (.tableswitch (65) 0 4 #[35, 41, 47, 53, 59], 35) by decide +kernel) (sw_out (lo := 0) (hi := 4) (by decide) (by decide) (fun k h1 h2 => ?_)) rfl ?_
                  · rcases (show k = 0 ∨ k = 1 ∨ k = 2 ∨ k = 3 ∨ k = 4 by omega) with rfl | rfl | rfl | rfl | rfl
                    · exact q29
                    · exact q34
                    · exact q39
                    · exact q44
                    · exact q49
                  · refine xv_b E [.iconst (-1)] (pc' := 115) (lv' := [(4, .inr (.inr o_27)), (0, .inr (.inr (some a0))), (1, .inl v1), (2, .inl v2), (3, .inl v3)]) (st' := [.inl (-1 : Int32)]) (by decide +kernel) rfl rfl ?_
                    obtain rfl := Option.some.inj h
                    obtain ⟨rfl, rfl⟩ := Prod.mk.inj (show ((some (.inl (-1 : Int32)) : Option aV), q_17.2) = (r, M') from hN)
                    exact xv_ri E B.1 rfl B.2.1 (show decode prog_1_method_18_code 115 = .ok (.ireturn, 1) by decide +kernel) rfl rfl
end
theorem t157 (G : gX) (l : Launch) {as : List aV} {M : hM} {r : Option aV} {M' : hM} (h : f157 as M = some (r, M')) : xM G l ym157 prog_1_method_18_code 5 (some FieldType.int) 2 as M r M' := by
  unfold f157 at h
  split at h
  · have h := x_out_ok h
    refine xM_of (by decide) (Nat.le_of_ble_eq_true rfl) (lb157_0 G l _ _ _ _ M h) ?_
    intro p e s m args below meth c E B
    exact sb157_0 E B _ _ _ _ M h rfl
  · cases h
/-! ZF.Port.whoIsThere()I -/
def ym158 : MethodName := ⟨"ZonedFabric$Port", "whoIsThere", "()I"⟩
theorem cd158 : xCd ym158 prog_10_method_7_code 1 (some FieldType.int) 0 := ⟨mw846, mw14, by decide, by decide, by decide +kernel⟩
def b158_42 (si0 : Int32) (M : hM) : Option xRes :=
  some (.inl (some (.inl si0), M))
def b158_38 (a0 : Nat) (M : hM) : Option xRes :=
  Option.bind (g_i M 8 11 (some a0)) fun v_20 =>
  b158_42 v_20 M
def b158_0 (a0 : Nat) (M : hM) : Option xRes :=
  Option.bind (g_o M 8 (some a0)) fun b_3 =>
  Option.bind (c_I (f115 [.inr (.inr (some b_3))] M)) fun q_1 =>
  if q_1.1 = 0 then
    (Option.bind (g_i q_1.2 8 1 (some a0)) fun v_5 =>
    if v_5 < (16 : Int32) then
      (b158_38 a0 q_1.2)
    else
      (Option.bind (g_r q_1.2 8 3 (some a0)) fun o_7 =>
      if o_7 = none then
        (b158_38 a0 q_1.2)
      else
        (Option.bind (g_r q_1.2 8 3 (some a0)) fun o_9 =>
        Option.bind (g_i q_1.2 8 1 o_9) fun v_11 =>
        b158_42 v_11 q_1.2)))
  else
    (Option.bind (g_o q_1.2 8 (some a0)) fun b_17 =>
    Option.bind (c_I (f116 [.inr (.inr (some b_17))] q_1.2)) fun q_15 =>
    some (.inl (some (.inl q_15.1), q_15.2)))
def f158 (as : List aV) (M : hM) : xO := match as with
  | [.inr (.inr (some a0))] => x_out (b158_0 a0 M)
  | _ => none
theorem lb158_42 (G : gX) (l : Launch) (si0 : Int32) (M : hM) {res : xRes} (h : b158_42 si0 M = some res) : h_sz M ≤ r_sz res ∧ h_sl M ≤ r_sl res := by
  unfold b158_42 at h
  obtain rfl := Option.some.inj h
  show h_sz M ≤ h_sz M ∧ h_sl M ≤ h_sl M
  omega
theorem lb158_38 (G : gX) (l : Launch) (a0 : Nat) (M : hM) {res : xRes} (h : b158_38 a0 M = some res) : h_sz M ≤ r_sz res ∧ h_sl M ≤ r_sl res := by
  unfold b158_38 at h
  obtain ⟨v_20, h21, h⟩ := bd h
  have e := lb158_42 G l v_20 M h
  omega
theorem lb158_0 (G : gX) (l : Launch) (a0 : Nat) (M : hM) {res : xRes} (h : b158_0 a0 M = some res) : h_sz M ≤ r_sz res ∧ h_sl M ≤ r_sl res := by
  unfold b158_0 at h
  obtain ⟨b_3, h4, h⟩ := bd h
  obtain ⟨q_1, h2, h⟩ := bd h
  have eh2 := (t115 G l (c_I_some h2)).1
  by_cases q19 : q_1.1 = 0
  · rw [if_pos q19] at h
    obtain ⟨v_5, h6, h⟩ := bd h
    by_cases q14 : v_5 < (16 : Int32)
    · rw [if_pos q14] at h
      have e := lb158_38 G l a0 q_1.2 h
      omega
    · rw [if_neg q14] at h
      obtain ⟨o_7, h8, h⟩ := bd h
      by_cases q13 : o_7 = none
      · rw [if_pos q13] at h
        have e := lb158_38 G l a0 q_1.2 h
        omega
      · rw [if_neg q13] at h
        obtain ⟨o_9, h10, h⟩ := bd h
        obtain ⟨v_11, h12, h⟩ := bd h
        have e := lb158_42 G l v_11 q_1.2 h
        omega
  · rw [if_neg q19] at h
    obtain ⟨b_17, h18, h⟩ := bd h
    obtain ⟨q_15, h16, h⟩ := bd h
    have eh16 := (t116 G l (c_I_some h16)).1
    obtain rfl := Option.some.inj h
    show h_sz M ≤ h_sz q_15.2 ∧ h_sl M ≤ h_sl q_15.2
    omega
section
variable {p : Program} {l : Launch} {e : Env} {s : State} {m : MethodId} {args : Array Value} {below : List Frame} {meth : Method} {c : Code} {G : gX} {z0 y0 : Nat} {r : Option aV} {M' : hM}
theorem sb158_42 (E : xE G p (xRm 2 (h_sz M' - z0) (h_sl M' - y0)) s m args c prog_10_method_7_code "ZonedFabric$Port" z0 y0 (h_sz M') (h_sl M') 1) (B : xB ym158 (some FieldType.int) meth) (si0 : Int32) (M : hM) {res : xRes} (h : b158_42 si0 M = some res) (hN : xN (fun _ _ _ => False) r M' res) : xV G p l e (xRm 2 (h_sz M' - z0) (h_sl M' - y0)) s m args below meth c z0 y0 (h_sz M') (h_sl M') 1 (MQ below (xQc G r M') args s (h_sz M' - z0) (h_sl M' - y0) (xFr G)) 42 [] [.inl si0] M := by
  unfold b158_42 at h
  obtain rfl := Option.some.inj h
  obtain ⟨rfl, rfl⟩ := Prod.mk.inj (show ((some (.inl si0) : Option aV), M) = (r, M') from hN)
  exact xv_ri E B.1 rfl B.2.1 (show decode prog_10_method_7_code 42 = .ok (.ireturn, 1) by decide +kernel) rfl rfl
theorem sb158_38 (E : xE G p (xRm 2 (h_sz M' - z0) (h_sl M' - y0)) s m args c prog_10_method_7_code "ZonedFabric$Port" z0 y0 (h_sz M') (h_sl M') 1) (B : xB ym158 (some FieldType.int) meth) (a0 : Nat) (M : hM) {res : xRes} (h : b158_38 a0 M = some res) (hN : xN (fun _ _ _ => False) r M' res) : xV G p l e (xRm 2 (h_sz M' - z0) (h_sl M' - y0)) s m args below meth c z0 y0 (h_sz M') (h_sl M') 1 (MQ below (xQc G r M') args s (h_sz M' - z0) (h_sl M' - y0) (xFr G)) 38 [(0, .inr (.inr (some a0)))] [] M := by
  unfold b158_38 at h
  refine xv_b E [.aload_n 0] (pc' := 39) (lv' := [(0, .inr (.inr (some a0)))]) (st' := [.inr (.inr (some a0))]) (by decide +kernel) rfl rfl ?_
  obtain ⟨v_20, h21, h⟩ := bd h
  refine xg_i E 8 11 h21 mw20 (show decode prog_10_method_7_code 39 = .ok (.getfield 21, 3) by decide +kernel) ?_
  exact xv_w (sb158_42 E B v_20 M h hN) rfl
theorem sb158_0 (E : xE G p (xRm 2 (h_sz M' - z0) (h_sl M' - y0)) s m args c prog_10_method_7_code "ZonedFabric$Port" z0 y0 (h_sz M') (h_sl M') 1) (B : xB ym158 (some FieldType.int) meth) (a0 : Nat) (M : hM) {res : xRes} (h : b158_0 a0 M = some res) (hN : xN (fun _ _ _ => False) r M' res) : xV G p l e (xRm 2 (h_sz M' - z0) (h_sl M' - y0)) s m args below meth c z0 y0 (h_sz M') (h_sl M') 1 (MQ below (xQc G r M') args s (h_sz M' - z0) (h_sl M' - y0) (xFr G)) 0 [(0, .inr (.inr (some a0)))] [] M := by
  unfold b158_0 at h
  refine xv_b E [.aload_n 0] (pc' := 1) (lv' := [(0, .inr (.inr (some a0)))]) (st' := [.inr (.inr (some a0))]) (by decide +kernel) rfl rfl ?_
  obtain ⟨b_3, h4, h⟩ := bd h
  obtain ⟨eh4, th4⟩ := g_o_some h4
  obtain ⟨q_1, h2, h⟩ := bd h
  refine xv_cvo E eh4 8 (as := []) (t115 G l (c_I_some h2)) cd115 mw638 mw639 mw640 (show decode prog_10_method_7_code 1 = .ok (.invokevirtual 78, 3) by decide +kernel) th4 rfl rfl (Nat.le_of_ble_eq_true rfl) ⟨Nat.le_of_ble_eq_true rfl, Nat.le_of_ble_eq_true rfl⟩ ?_
  by_cases q19 : q_1.1 = 0
  · rw [if_pos q19] at h
    refine xv_if_eq E 12 (show decode prog_10_method_7_code 4 = .ok (.ifCond .eq (8), 3) by decide +kernel) rfl (fun _ => ?_) (fun z => absurd q19 z)
    refine xv_b E [.aload_n 0] (pc' := 13) (lv' := [(0, .inr (.inr (some a0)))]) (st' := [.inr (.inr (some a0))]) (by decide +kernel) rfl rfl ?_
    obtain ⟨v_5, h6, h⟩ := bd h
    refine xg_i E 8 1 h6 mw23 (show decode prog_10_method_7_code 13 = .ok (.getfield 32, 3) by decide +kernel) ?_
    refine xv_b E [.bipush 16] (pc' := 18) (lv' := [(0, .inr (.inr (some a0)))]) (st' := [.inl (16 : Int32), .inl v_5]) (by decide +kernel) rfl rfl ?_
    by_cases q14 : v_5 < (16 : Int32)
    · rw [if_pos q14] at h
      refine xv_icmp_lt E 38 (show decode prog_10_method_7_code 18 = .ok (.if_icmp .lt (20), 3) by decide +kernel) rfl (fun _ => ?_) (fun z => absurd q14 z)
      exact xv_w (sb158_38 E B a0 q_1.2 h hN) rfl
    · rw [if_neg q14] at h
      refine xv_icmp_lt E 38 (show decode prog_10_method_7_code 18 = .ok (.if_icmp .lt (20), 3) by decide +kernel) rfl (fun z => absurd z q14) (fun _ => ?_)
      refine xv_b E [.aload_n 0] (pc' := 22) (lv' := [(0, .inr (.inr (some a0)))]) (st' := [.inr (.inr (some a0))]) (by decide +kernel) rfl rfl ?_
      obtain ⟨o_7, h8, h⟩ := bd h
      refine xg_r E 8 3 h8 mw329 (show decode prog_10_method_7_code 22 = .ok (.getfield 74, 3) by decide +kernel) ?_
      by_cases q13 : o_7 = none
      · rw [if_pos q13] at h
        refine xi_null E 38 (show decode prog_10_method_7_code 25 = .ok (.ifnull (13), 3) by decide +kernel) rfl (fun _ => ?_) (fun z => absurd q13 z)
        exact xv_w (sb158_38 E B a0 q_1.2 h hN) rfl
      · rw [if_neg q13] at h
        refine xi_null E 38 (show decode prog_10_method_7_code 25 = .ok (.ifnull (13), 3) by decide +kernel) rfl (fun z => absurd z q13) (fun _ => ?_)
        refine xv_b E [.aload_n 0] (pc' := 29) (lv' := [(0, .inr (.inr (some a0)))]) (st' := [.inr (.inr (some a0))]) (by decide +kernel) rfl rfl ?_
        obtain ⟨o_9, h10, h⟩ := bd h
        refine xg_r E 8 3 h10 mw329 (show decode prog_10_method_7_code 29 = .ok (.getfield 74, 3) by decide +kernel) ?_
        obtain ⟨v_11, h12, h⟩ := bd h
        refine xg_i E 8 1 h12 mw23 (show decode prog_10_method_7_code 32 = .ok (.getfield 32, 3) by decide +kernel) ?_
        refine xv_goto E 42 (show decode prog_10_method_7_code 35 = .ok (.goto (7), 3) by decide +kernel) rfl ?_
        exact xv_w (sb158_42 E B v_11 q_1.2 h hN) rfl
  · rw [if_neg q19] at h
    refine xv_if_eq E 12 (show decode prog_10_method_7_code 4 = .ok (.ifCond .eq (8), 3) by decide +kernel) rfl (fun z => absurd z q19) (fun _ => ?_)
    refine xv_b E [.aload_n 0] (pc' := 8) (lv' := [(0, .inr (.inr (some a0)))]) (st' := [.inr (.inr (some a0))]) (by decide +kernel) rfl rfl ?_
    obtain ⟨b_17, h18, h⟩ := bd h
    obtain ⟨eh18, th18⟩ := g_o_some h18
    obtain ⟨q_15, h16, h⟩ := bd h
    refine xv_cvo E eh18 8 (as := []) (t116 G l (c_I_some h16)) cd116 mw847 mw647 mw648 (show decode prog_10_method_7_code 8 = .ok (.invokevirtual 82, 3) by decide +kernel) th18 rfl rfl (Nat.le_of_ble_eq_true rfl) ⟨Nat.le_of_ble_eq_true rfl, Nat.le_of_ble_eq_true rfl⟩ ?_
    obtain rfl := Option.some.inj h
    obtain ⟨rfl, rfl⟩ := Prod.mk.inj (show ((some (.inl q_15.1) : Option aV), q_15.2) = (r, M') from hN)
    exact xv_ri E B.1 rfl B.2.1 (show decode prog_10_method_7_code 11 = .ok (.ireturn, 1) by decide +kernel) rfl rfl
end
theorem t158 (G : gX) (l : Launch) {as : List aV} {M : hM} {r : Option aV} {M' : hM} (h : f158 as M = some (r, M')) : xM G l ym158 prog_10_method_7_code 1 (some FieldType.int) 2 as M r M' := by
  unfold f158 at h
  split at h
  · have h := x_out_ok h
    refine xM_of (by decide) (Nat.le_of_ble_eq_true rfl) (lb158_0 G l _ M h) ?_
    intro p e s m args below meth c E B
    exact sb158_0 E B _ M h rfl
  · cases h
/-! ZF.port(III)I -/
def ym159 : MethodName := ⟨"ZonedFabric", "port", "(III)I"⟩
theorem cd159 : xCd ym159 prog_1_method_19_code 5 (some FieldType.int) 3 := ⟨mw848, mw71, by decide, by decide, by decide +kernel⟩
def b159_21  (M : hM) : Option xRes :=
  some (.inl (some (.inl (-1 : Int32)), M))
def b159_103 (si0 : Int32) (M : hM) : Option xRes :=
  some (.inl (some (.inl si0), M))
def b159_0 (a0 : Nat) (v1 : Int32) (v2 : Int32) (v3 : Int32) (M : hM) : Option xRes :=
  Option.bind (g_o M 11 (some a0)) fun b_3 =>
  Option.bind (c_R (f13 [.inr (.inr (some b_3)), .inl v1, .inl v2] M)) fun q_1 =>
  if q_1.1 = none then
    (b159_21  q_1.2)
  else
    (Option.bind (g_r q_1.2 8 3 q_1.1) fun o_5 =>
    if o_5 = none then
      (b159_21  q_1.2)
    else
      (if v3 = 0 then
        (Option.bind (g_i q_1.2 8 6 q_1.1) fun v_8 =>
        some (.inl (some (.inl v_8), q_1.2)))
      else
        (if v3 = 1 then
          (Option.bind (g_r q_1.2 8 10 q_1.1) fun o_11 =>
          Option.bind (g_i q_1.2 3 2 o_11) fun v_13 =>
          some (.inl (some (.inl v_13), q_1.2)))
        else
          (if v3 = 2 then
            (Option.bind (g_r q_1.2 8 9 q_1.1) fun o_16 =>
            Option.bind (g_i q_1.2 3 2 o_16) fun v_18 =>
            some (.inl (some (.inl v_18), q_1.2)))
          else
            (if v3 = 3 then
              (Option.bind (g_o q_1.2 8 q_1.1) fun b_23 =>
              Option.bind (c_I (f158 [.inr (.inr (some b_23))] q_1.2)) fun q_21 =>
              some (.inl (some (.inl q_21.1), q_21.2)))
            else
              (if v3 = 4 then
                (Option.bind (g_i q_1.2 8 5 q_1.1) fun v_26 =>
                if v_26 = 0 then
                  (b159_103 (0 : Int32) q_1.2)
                else
                  (b159_103 (1 : Int32) q_1.2))
              else
                (some (.inl (some (.inl (-1 : Int32)), q_1.2)))))))))
def f159 (as : List aV) (M : hM) : xO := match as with
  | [.inr (.inr (some a0)), .inl v1, .inl v2, .inl v3] => x_out (b159_0 a0 v1 v2 v3 M)
  | _ => none
theorem lb159_21 (G : gX) (l : Launch)  (M : hM) {res : xRes} (h : b159_21  M = some res) : h_sz M ≤ r_sz res ∧ h_sl M ≤ r_sl res := by
  unfold b159_21 at h
  obtain rfl := Option.some.inj h
  show h_sz M ≤ h_sz M ∧ h_sl M ≤ h_sl M
  omega
theorem lb159_103 (G : gX) (l : Launch) (si0 : Int32) (M : hM) {res : xRes} (h : b159_103 si0 M = some res) : h_sz M ≤ r_sz res ∧ h_sl M ≤ r_sl res := by
  unfold b159_103 at h
  obtain rfl := Option.some.inj h
  show h_sz M ≤ h_sz M ∧ h_sl M ≤ h_sl M
  omega
theorem lb159_0 (G : gX) (l : Launch) (a0 : Nat) (v1 : Int32) (v2 : Int32) (v3 : Int32) (M : hM) {res : xRes} (h : b159_0 a0 v1 v2 v3 M = some res) : h_sz M ≤ r_sz res ∧ h_sl M ≤ r_sl res := by
  unfold b159_0 at h
  obtain ⟨b_3, h4, h⟩ := bd h
  obtain ⟨q_1, h2, h⟩ := bd h
  have eh2 := (t13 G l (c_R_some h2)).1
  by_cases q30 : q_1.1 = none
  · rw [if_pos q30] at h
    have e := lb159_21 G l  q_1.2 h
    omega
  · rw [if_neg q30] at h
    obtain ⟨o_5, h6, h⟩ := bd h
    by_cases q29 : o_5 = none
    · rw [if_pos q29] at h
      have e := lb159_21 G l  q_1.2 h
      omega
    · rw [if_neg q29] at h
      by_cases q7 : v3 = 0
      · rw [if_pos q7] at h
        obtain ⟨v_8, h9, h⟩ := bd h
        obtain rfl := Option.some.inj h
        show h_sz M ≤ h_sz q_1.2 ∧ h_sl M ≤ h_sl q_1.2
        omega
      · rw [if_neg q7] at h
        by_cases q10 : v3 = 1
        · rw [if_pos q10] at h
          obtain ⟨o_11, h12, h⟩ := bd h
          obtain ⟨v_13, h14, h⟩ := bd h
          obtain rfl := Option.some.inj h
          show h_sz M ≤ h_sz q_1.2 ∧ h_sl M ≤ h_sl q_1.2
          omega
        · rw [if_neg q10] at h
          by_cases q15 : v3 = 2
          · rw [if_pos q15] at h
            obtain ⟨o_16, h17, h⟩ := bd h
            obtain ⟨v_18, h19, h⟩ := bd h
            obtain rfl := Option.some.inj h
            show h_sz M ≤ h_sz q_1.2 ∧ h_sl M ≤ h_sl q_1.2
            omega
          · rw [if_neg q15] at h
            by_cases q20 : v3 = 3
            · rw [if_pos q20] at h
              obtain ⟨b_23, h24, h⟩ := bd h
              obtain ⟨q_21, h22, h⟩ := bd h
              have eh22 := (t158 G l (c_I_some h22)).1
              obtain rfl := Option.some.inj h
              show h_sz M ≤ h_sz q_21.2 ∧ h_sl M ≤ h_sl q_21.2
              omega
            · rw [if_neg q20] at h
              by_cases q25 : v3 = 4
              · rw [if_pos q25] at h
                obtain ⟨v_26, h27, h⟩ := bd h
                by_cases q28 : v_26 = 0
                · rw [if_pos q28] at h
                  have e := lb159_103 G l (0 : Int32) q_1.2 h
                  omega
                · rw [if_neg q28] at h
                  have e := lb159_103 G l (1 : Int32) q_1.2 h
                  omega
              · rw [if_neg q25] at h
                obtain rfl := Option.some.inj h
                show h_sz M ≤ h_sz q_1.2 ∧ h_sl M ≤ h_sl q_1.2
                omega
section
variable {p : Program} {l : Launch} {e : Env} {s : State} {m : MethodId} {args : Array Value} {below : List Frame} {meth : Method} {c : Code} {G : gX} {z0 y0 : Nat} {r : Option aV} {M' : hM}
theorem sb159_21 (E : xE G p (xRm 3 (h_sz M' - z0) (h_sl M' - y0)) s m args c prog_1_method_19_code "ZonedFabric" z0 y0 (h_sz M') (h_sl M') 5) (B : xB ym159 (some FieldType.int) meth)  (M : hM) {res : xRes} (h : b159_21  M = some res) (hN : xN (fun _ _ _ => False) r M' res) : xV G p l e (xRm 3 (h_sz M' - z0) (h_sl M' - y0)) s m args below meth c z0 y0 (h_sz M') (h_sl M') 5 (MQ below (xQc G r M') args s (h_sz M' - z0) (h_sl M' - y0) (xFr G)) 21 [] [] M := by
  unfold b159_21 at h
  refine xv_b E [.iconst (-1)] (pc' := 22) (lv' := []) (st' := [.inl (-1 : Int32)]) (by decide +kernel) rfl rfl ?_
  obtain rfl := Option.some.inj h
  obtain ⟨rfl, rfl⟩ := Prod.mk.inj (show ((some (.inl (-1 : Int32)) : Option aV), M) = (r, M') from hN)
  exact xv_ri E B.1 rfl B.2.1 (show decode prog_1_method_19_code 22 = .ok (.ireturn, 1) by decide +kernel) rfl rfl
theorem sb159_103 (E : xE G p (xRm 3 (h_sz M' - z0) (h_sl M' - y0)) s m args c prog_1_method_19_code "ZonedFabric" z0 y0 (h_sz M') (h_sl M') 5) (B : xB ym159 (some FieldType.int) meth) (si0 : Int32) (M : hM) {res : xRes} (h : b159_103 si0 M = some res) (hN : xN (fun _ _ _ => False) r M' res) : xV G p l e (xRm 3 (h_sz M' - z0) (h_sl M' - y0)) s m args below meth c z0 y0 (h_sz M') (h_sl M') 5 (MQ below (xQc G r M') args s (h_sz M' - z0) (h_sl M' - y0) (xFr G)) 103 [] [.inl si0] M := by
  unfold b159_103 at h
  obtain rfl := Option.some.inj h
  obtain ⟨rfl, rfl⟩ := Prod.mk.inj (show ((some (.inl si0) : Option aV), M) = (r, M') from hN)
  exact xv_ri E B.1 rfl B.2.1 (show decode prog_1_method_19_code 103 = .ok (.ireturn, 1) by decide +kernel) rfl rfl
theorem sb159_0 (E : xE G p (xRm 3 (h_sz M' - z0) (h_sl M' - y0)) s m args c prog_1_method_19_code "ZonedFabric" z0 y0 (h_sz M') (h_sl M') 5) (B : xB ym159 (some FieldType.int) meth) (a0 : Nat) (v1 : Int32) (v2 : Int32) (v3 : Int32) (M : hM) {res : xRes} (h : b159_0 a0 v1 v2 v3 M = some res) (hN : xN (fun _ _ _ => False) r M' res) : xV G p l e (xRm 3 (h_sz M' - z0) (h_sl M' - y0)) s m args below meth c z0 y0 (h_sz M') (h_sl M') 5 (MQ below (xQc G r M') args s (h_sz M' - z0) (h_sl M' - y0) (xFr G)) 0 [(0, .inr (.inr (some a0))), (1, .inl v1), (2, .inl v2), (3, .inl v3)] [] M := by
  unfold b159_0 at h
  refine xv_b E [.aload_n 0, .iload_n 1, .iload_n 2] (pc' := 3) (lv' := [(0, .inr (.inr (some a0))), (1, .inl v1), (2, .inl v2), (3, .inl v3)]) (st' := [.inl v2, .inl v1, .inr (.inr (some a0))]) (by decide +kernel) rfl rfl ?_
  obtain ⟨b_3, h4, h⟩ := bd h
  obtain ⟨eh4, th4⟩ := g_o_some h4
  obtain ⟨q_1, h2, h⟩ := bd h
  refine xv_cvo E eh4 11 (as := [.inl v1, .inl v2]) (t13 G l (c_R_some h2)) cd13 mw139 mw140 mw141 (show decode prog_1_method_19_code 3 = .ok (.invokevirtual 87, 3) by decide +kernel) th4 rfl rfl (Nat.le_of_ble_eq_true rfl) ⟨Nat.le_of_ble_eq_true rfl, Nat.le_of_ble_eq_true rfl⟩ ?_
  refine xv_b E [.astore 4, .aload 4] (pc' := 10) (lv' := [(4, .inr (.inr q_1.1)), (0, .inr (.inr (some a0))), (1, .inl v1), (2, .inl v2), (3, .inl v3)]) (st' := [.inr (.inr q_1.1)]) (by decide +kernel) rfl rfl ?_
  by_cases q30 : q_1.1 = none
  · rw [if_pos q30] at h
    refine xi_null E 21 (show decode prog_1_method_19_code 10 = .ok (.ifnull (11), 3) by decide +kernel) rfl (fun _ => ?_) (fun z => absurd q30 z)
    exact xv_w (sb159_21 E B  q_1.2 h hN) rfl
  · rw [if_neg q30] at h
    refine xi_null E 21 (show decode prog_1_method_19_code 10 = .ok (.ifnull (11), 3) by decide +kernel) rfl (fun z => absurd z q30) (fun _ => ?_)
    refine xv_b E [.aload 4] (pc' := 15) (lv' := [(4, .inr (.inr q_1.1)), (0, .inr (.inr (some a0))), (1, .inl v1), (2, .inl v2), (3, .inl v3)]) (st' := [.inr (.inr q_1.1)]) (by decide +kernel) rfl rfl ?_
    obtain ⟨o_5, h6, h⟩ := bd h
    refine xg_r E 8 3 h6 mw121 (show decode prog_1_method_19_code 15 = .ok (.getfield 70, 3) by decide +kernel) ?_
    by_cases q29 : o_5 = none
    · rw [if_pos q29] at h
      refine xi_nonnull E 23 (show decode prog_1_method_19_code 18 = .ok (.ifnonnull (5), 3) by decide +kernel) rfl (fun z => absurd q29 z) (fun _ => ?_)
      exact xv_w (sb159_21 E B  q_1.2 h hN) rfl
    · rw [if_neg q29] at h
      refine xi_nonnull E 23 (show decode prog_1_method_19_code 18 = .ok (.ifnonnull (5), 3) by decide +kernel) rfl (fun _ => ?_) (fun z => absurd z q29)
      refine xv_b E [.iload_n 3] (pc' := 24) (lv' := [(4, .inr (.inr q_1.1)), (0, .inr (.inr (some a0))), (1, .inl v1), (2, .inl v2), (3, .inl v3)]) (st' := [.inl v3]) (by decide +kernel) rfl rfl ?_
      by_cases q7 : v3 = 0
      · rw [if_pos q7] at h
        refine xv_tabIn E (off := 36) 60 (show decode prog_1_method_19_code 24 = .ok (.tableswitch (80) 0 4 #[36, 42, 51, 60, 66], 36) by decide +kernel) (by rw [q7]; decide) (by rw [q7]; decide) (by rw [q7]; rfl) rfl ?_
        refine xv_b E [.aload 4] (pc' := 62) (lv' := [(4, .inr (.inr q_1.1)), (0, .inr (.inr (some a0))), (1, .inl v1), (2, .inl v2), (3, .inl v3)]) (st' := [.inr (.inr q_1.1)]) (by decide +kernel) rfl rfl ?_
        obtain ⟨v_8, h9, h⟩ := bd h
        refine xg_i E 8 6 h9 mw849 (show decode prog_1_method_19_code 62 = .ok (.getfield 219, 3) by decide +kernel) ?_
        obtain rfl := Option.some.inj h
        obtain ⟨rfl, rfl⟩ := Prod.mk.inj (show ((some (.inl v_8) : Option aV), q_1.2) = (r, M') from hN)
        exact xv_ri E B.1 rfl B.2.1 (show decode prog_1_method_19_code 65 = .ok (.ireturn, 1) by decide +kernel) rfl rfl
      · rw [if_neg q7] at h
        by_cases q10 : v3 = 1
        · rw [if_pos q10] at h
          refine xv_tabIn E (off := 42) 66 (show decode prog_1_method_19_code 24 = .ok (.tableswitch (80) 0 4 #[36, 42, 51, 60, 66], 36) by decide +kernel) (by rw [q10]; decide) (by rw [q10]; decide) (by rw [q10]; rfl) rfl ?_
          refine xv_b E [.aload 4] (pc' := 68) (lv' := [(4, .inr (.inr q_1.1)), (0, .inr (.inr (some a0))), (1, .inl v1), (2, .inl v2), (3, .inl v3)]) (st' := [.inr (.inr q_1.1)]) (by decide +kernel) rfl rfl ?_
          obtain ⟨o_11, h12, h⟩ := bd h
          refine xg_r E 8 10 h12 mw850 (show decode prog_1_method_19_code 68 = .ok (.getfield 222, 3) by decide +kernel) ?_
          obtain ⟨v_13, h14, h⟩ := bd h
          refine xg_i E 3 2 h14 mw851 (show decode prog_1_method_19_code 71 = .ok (.getfield 226, 3) by decide +kernel) ?_
          obtain rfl := Option.some.inj h
          obtain ⟨rfl, rfl⟩ := Prod.mk.inj (show ((some (.inl v_13) : Option aV), q_1.2) = (r, M') from hN)
          exact xv_ri E B.1 rfl B.2.1 (show decode prog_1_method_19_code 74 = .ok (.ireturn, 1) by decide +kernel) rfl rfl
        · rw [if_neg q10] at h
          by_cases q15 : v3 = 2
          · rw [if_pos q15] at h
            refine xv_tabIn E (off := 51) 75 (show decode prog_1_method_19_code 24 = .ok (.tableswitch (80) 0 4 #[36, 42, 51, 60, 66], 36) by decide +kernel) (by rw [q15]; decide) (by rw [q15]; decide) (by rw [q15]; rfl) rfl ?_
            refine xv_b E [.aload 4] (pc' := 77) (lv' := [(4, .inr (.inr q_1.1)), (0, .inr (.inr (some a0))), (1, .inl v1), (2, .inl v2), (3, .inl v3)]) (st' := [.inr (.inr q_1.1)]) (by decide +kernel) rfl rfl ?_
            obtain ⟨o_16, h17, h⟩ := bd h
            refine xg_r E 8 9 h17 mw852 (show decode prog_1_method_19_code 77 = .ok (.getfield 231, 3) by decide +kernel) ?_
            obtain ⟨v_18, h19, h⟩ := bd h
            refine xg_i E 3 2 h19 mw851 (show decode prog_1_method_19_code 80 = .ok (.getfield 226, 3) by decide +kernel) ?_
            obtain rfl := Option.some.inj h
            obtain ⟨rfl, rfl⟩ := Prod.mk.inj (show ((some (.inl v_18) : Option aV), q_1.2) = (r, M') from hN)
            exact xv_ri E B.1 rfl B.2.1 (show decode prog_1_method_19_code 83 = .ok (.ireturn, 1) by decide +kernel) rfl rfl
          · rw [if_neg q15] at h
            by_cases q20 : v3 = 3
            · rw [if_pos q20] at h
              refine xv_tabIn E (off := 60) 84 (show decode prog_1_method_19_code 24 = .ok (.tableswitch (80) 0 4 #[36, 42, 51, 60, 66], 36) by decide +kernel) (by rw [q20]; decide) (by rw [q20]; decide) (by rw [q20]; rfl) rfl ?_
              refine xv_b E [.aload 4] (pc' := 86) (lv' := [(4, .inr (.inr q_1.1)), (0, .inr (.inr (some a0))), (1, .inl v1), (2, .inl v2), (3, .inl v3)]) (st' := [.inr (.inr q_1.1)]) (by decide +kernel) rfl rfl ?_
              obtain ⟨b_23, h24, h⟩ := bd h
              obtain ⟨eh24, th24⟩ := g_o_some h24
              obtain ⟨q_21, h22, h⟩ := bd h
              refine xv_cvo E eh24 8 (as := []) (t158 G l (c_I_some h22)) cd158 mw853 mw854 mw855 (show decode prog_1_method_19_code 86 = .ok (.invokevirtual 234, 3) by decide +kernel) th24 rfl rfl (Nat.le_of_ble_eq_true rfl) ⟨Nat.le_of_ble_eq_true rfl, Nat.le_of_ble_eq_true rfl⟩ ?_
              obtain rfl := Option.some.inj h
              obtain ⟨rfl, rfl⟩ := Prod.mk.inj (show ((some (.inl q_21.1) : Option aV), q_21.2) = (r, M') from hN)
              exact xv_ri E B.1 rfl B.2.1 (show decode prog_1_method_19_code 89 = .ok (.ireturn, 1) by decide +kernel) rfl rfl
            · rw [if_neg q20] at h
              by_cases q25 : v3 = 4
              · rw [if_pos q25] at h
                refine xv_tabIn E (off := 66) 90 (show decode prog_1_method_19_code 24 = .ok (.tableswitch (80) 0 4 #[36, 42, 51, 60, 66], 36) by decide +kernel) (by rw [q25]; decide) (by rw [q25]; decide) (by rw [q25]; rfl) rfl ?_
                refine xv_b E [.aload 4] (pc' := 92) (lv' := [(4, .inr (.inr q_1.1)), (0, .inr (.inr (some a0))), (1, .inl v1), (2, .inl v2), (3, .inl v3)]) (st' := [.inr (.inr q_1.1)]) (by decide +kernel) rfl rfl ?_
                obtain ⟨v_26, h27, h⟩ := bd h
                refine xg_i E 8 5 h27 mw189 (show decode prog_1_method_19_code 92 = .ok (.getfield 100, 3) by decide +kernel) ?_
                by_cases q28 : v_26 = 0
                · rw [if_pos q28] at h
                  refine xv_if_eq E 102 (show decode prog_1_method_19_code 95 = .ok (.ifCond .eq (7), 3) by decide +kernel) rfl (fun _ => ?_) (fun z => absurd q28 z)
                  refine xv_b E [.iconst 0] (pc' := 103) (lv' := [(4, .inr (.inr q_1.1)), (0, .inr (.inr (some a0))), (1, .inl v1), (2, .inl v2), (3, .inl v3)]) (st' := [.inl (0 : Int32)]) (by decide +kernel) rfl rfl ?_
                  exact xv_w (sb159_103 E B (0 : Int32) q_1.2 h hN) rfl
                · rw [if_neg q28] at h
                  refine xv_if_eq E 102 (show decode prog_1_method_19_code 95 = .ok (.ifCond .eq (7), 3) by decide +kernel) rfl (fun z => absurd z q28) (fun _ => ?_)
                  refine xv_b E [.iconst 1] (pc' := 99) (lv' := [(4, .inr (.inr q_1.1)), (0, .inr (.inr (some a0))), (1, .inl v1), (2, .inl v2), (3, .inl v3)]) (st' := [.inl (1 : Int32)]) (by decide +kernel) rfl rfl ?_
                  refine xv_goto E 103 (show decode prog_1_method_19_code 99 = .ok (.goto (4), 3) by decide +kernel) rfl ?_
                  exact xv_w (sb159_103 E B (1 : Int32) q_1.2 h hN) rfl
              · rw [if_neg q25] at h
                refine xv_tabOut E 104 (show decode prog_1_method_19_code 24 = .ok (.tableswitch (80) 0 4 #[36, 42, 51, 60, 66], 36) by decide +kernel) (sw_out (lo := 0) (hi := 4) (by decide) (by decide) (fun k h1 h2 => ?_)) rfl ?_
                · rcases (show k = 0 ∨ k = 1 ∨ k = 2 ∨ k = 3 ∨ k = 4 by omega) with rfl | rfl | rfl | rfl | rfl
                  · exact q7
                  · exact q10
                  · exact q15
                  · exact q20
                  · exact q25
                · refine xv_b E [.iconst (-1)] (pc' := 105) (lv' := [(4, .inr (.inr q_1.1)), (0, .inr (.inr (some a0))), (1, .inl v1), (2, .inl v2), (3, .inl v3)]) (st' := [.inl (-1 : Int32)]) (by decide +kernel) rfl rfl ?_
                  obtain rfl := Option.some.inj h
                  obtain ⟨rfl, rfl⟩ := Prod.mk.inj (show ((some (.inl (-1 : Int32)) : Option aV), q_1.2) = (r, M') from hN)
                  exact xv_ri E B.1 rfl B.2.1 (show decode prog_1_method_19_code 105 = .ok (.ireturn, 1) by decide +kernel) rfl rfl
end
theorem t159 (G : gX) (l : Launch) {as : List aV} {M : hM} {r : Option aV} {M' : hM} (h : f159 as M = some (r, M')) : xM G l ym159 prog_1_method_19_code 5 (some FieldType.int) 3 as M r M' := by
  unfold f159 at h
  split at h
  · have h := x_out_ok h
    refine xM_of (by decide) (Nat.le_of_ble_eq_true rfl) (lb159_0 G l _ _ _ _ M h) ?_
    intro p e s m args below meth c E B
    exact sb159_0 E B _ _ _ _ M h rfl
  · cases h
