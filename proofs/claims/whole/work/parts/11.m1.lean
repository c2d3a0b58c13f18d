theorem mw0 : Cond.code ⟨"ZonedFabric$Shared", "<init>", "(III)V"⟩ prog_11_method_1_code 4 none ∈ xTs := xTs_in (tk1 (List.mem_of_getElem? (i := 32) (by decide +kernel))) rfl
theorem mw1 : Cond.initialized "ZonedFabric$Shared" ∈ xTs := xTs_in (tk1 (List.mem_of_getElem? (i := 2) (by decide +kernel))) rfl
theorem mw2 : Cond.arrayClass .int ∈ xTs := xTs_in (tk1 (List.mem_of_getElem? (i := 70) (by decide +kernel))) rfl
theorem mw3 : Cond.fieldLink "ZonedFabric$Shared" 9 "ZonedFabric$Shared" "counts" "[I" ∈ xTs := xTs_in (tk1 (List.mem_of_getElem? (i := 46) (by decide +kernel))) rfl
theorem mw4 : Cond.fieldLink "ZonedFabric$Shared" 15 "ZonedFabric$Shared" "zones" "[I" ∈ xTs := xTs_in (tk1 (List.mem_of_getElem? (i := 48) (by decide +kernel))) rfl
theorem mw5 : Cond.fieldLink "ZonedFabric$Shared" 18 "ZonedFabric$Shared" "switchCount" "I" ∈ xTs := xTs_in (tk1 (List.mem_of_getElem? (i := 34) (by decide +kernel))) rfl
theorem mw6 : Cond.fieldLink "ZonedFabric$Shared" 22 "ZonedFabric$Shared" "nodeCount" "I" ∈ xTs := xTs_in (tk1 (List.mem_of_getElem? (i := 38) (by decide +kernel))) rfl
theorem mw7 : Cond.fieldLink "ZonedFabric$Shared" 25 "ZonedFabric$Shared" "room" "I" ∈ xTs := xTs_in (tk1 (List.mem_of_getElem? (i := 39) (by decide +kernel))) rfl
theorem mw8 : Cond.methodLink "ZonedFabric$Shared" 3 ⟨"java/lang/Object", "<init>", "()V"⟩ ∈ xTs := xTs_in (tk1 (List.mem_of_getElem? (i := 33) (by decide +kernel))) rfl
theorem mw9 : Cond.instanceMethod ⟨"java/lang/Object", "<init>", "()V"⟩ ∈ xTs := xTs_in (tk1 (List.mem_of_getElem? (i := 22) (by decide +kernel))) rfl
theorem mw10 : Cond.code ⟨"ZonedFabric$FrameLine", "<init>", "()V"⟩ prog_5_method_1_code 1 none ∈ xTs := xTs_in (tk1 (List.mem_of_getElem? (i := 110) (by decide +kernel))) rfl
theorem mw11 : Cond.initialized "ZonedFabric$FrameLine" ∈ xTs := xTs_in (tk1 (List.mem_of_getElem? (i := 6) (by decide +kernel))) rfl
theorem mw12 : Cond.methodLink "ZonedFabric$FrameLine" 1 ⟨"java/lang/Object", "<init>", "()V"⟩ ∈ xTs := xTs_in (tk1 (List.mem_of_getElem? (i := 111) (by decide +kernel))) rfl
theorem mw13 : Cond.code ⟨"ZonedFabric$Port", "<init>", "(LZonedFabric$Shared;II)V"⟩ prog_10_method_1_code 4 none ∈ xTs := xTs_in (tk1 (List.mem_of_getElem? (i := 104) (by decide +kernel))) rfl
theorem mw14 : Cond.initialized "ZonedFabric$Port" ∈ xTs := xTs_in (tk1 (List.mem_of_getElem? (i := 5) (by decide +kernel))) rfl
theorem mw15 : Cond.classLink "ZonedFabric$Port" 9 "ZonedFabric$FrameLine" ∈ xTs := xTs_in (tk1 (List.mem_of_getElem? (i := 106) (by decide +kernel))) rfl
theorem mw16 : Cond.instantiable "ZonedFabric$FrameLine" 3 ∈ xTs := xTs_in (tk1 (List.mem_of_getElem? (i := 107) (by decide +kernel))) rfl
theorem mw17 : Cond.instanceMethod ⟨"ZonedFabric$FrameLine", "<init>", "()V"⟩ ∈ xTs := xTs_in (tk1 (List.mem_of_getElem? (i := 109) (by decide +kernel))) rfl
theorem mw18 : Cond.fieldLink "ZonedFabric$Port" 12 "ZonedFabric$Port" "queue" "LZonedFabric$FrameLine;" ∈ xTs := xTs_in (tk1 (List.mem_of_getElem? (i := 146) (by decide +kernel))) rfl
theorem mw19 : Cond.fieldLink "ZonedFabric$Port" 18 "ZonedFabric$Port" "buffers" "LZonedFabric$FrameLine;" ∈ xTs := xTs_in (tk1 (List.mem_of_getElem? (i := 149) (by decide +kernel))) rfl
theorem mw20 : Cond.fieldLink "ZonedFabric$Port" 21 "ZonedFabric$Port" "neighbour" "I" ∈ xTs := xTs_in (tk1 (List.mem_of_getElem? (i := 153) (by decide +kernel))) rfl
theorem mw21 : Cond.fieldLink "ZonedFabric$Port" 25 "ZonedFabric$Port" "calledAt" "I" ∈ xTs := xTs_in (tk1 (List.mem_of_getElem? (i := 158) (by decide +kernel))) rfl
theorem mw22 : Cond.fieldLink "ZonedFabric$Port" 28 "ZonedFabric$Port" "shared" "LZonedFabric$Shared;" ∈ xTs := xTs_in (tk1 (List.mem_of_getElem? (i := 128) (by decide +kernel))) rfl
theorem mw23 : Cond.fieldLink "ZonedFabric$Port" 32 "ZonedFabric$Port" "owner" "I" ∈ xTs := xTs_in (tk1 (List.mem_of_getElem? (i := 129) (by decide +kernel))) rfl
theorem mw24 : Cond.fieldLink "ZonedFabric$Port" 35 "ZonedFabric$Port" "number" "I" ∈ xTs := xTs_in (tk1 (List.mem_of_getElem? (i := 131) (by decide +kernel))) rfl
theorem mw25 : Cond.methodLink "ZonedFabric$Port" 3 ⟨"java/lang/Object", "<init>", "()V"⟩ ∈ xTs := xTs_in (tk1 (List.mem_of_getElem? (i := 105) (by decide +kernel))) rfl
theorem mw26 : Cond.code ⟨"ZonedFabric$Node", "<init>", "(LZonedFabric$Shared;I)V"⟩ prog_7_method_1_code 3 none ∈ xTs := xTs_in (tk1 (List.mem_of_getElem? (i := 235) (by decide +kernel))) rfl
theorem mw27 : Cond.initialized "ZonedFabric$Node" ∈ xTs := xTs_in (tk1 (List.mem_of_getElem? (i := 7) (by decide +kernel))) rfl
theorem mw28 : Cond.fieldLink "ZonedFabric$Node" 9 "ZonedFabric$Node" "shared" "LZonedFabric$Shared;" ∈ xTs := xTs_in (tk1 (List.mem_of_getElem? (i := 239) (by decide +kernel))) rfl
theorem mw29 : Cond.fieldLink "ZonedFabric$Node" 15 "ZonedFabric$Node" "number" "I" ∈ xTs := xTs_in (tk2 (List.mem_of_getElem? (i := 0) (by decide +kernel))) rfl
theorem mw30 : Cond.classLink "ZonedFabric$Node" 19 "ZonedFabric$Port" ∈ xTs := xTs_in (tk1 (List.mem_of_getElem? (i := 237) (by decide +kernel))) rfl
theorem mw31 : Cond.instantiable "ZonedFabric$Port" 15 ∈ xTs := xTs_in (tk1 (List.mem_of_getElem? (i := 101) (by decide +kernel))) rfl
theorem mw32 : Cond.methodLink "ZonedFabric$Node" 21 ⟨"ZonedFabric$Port", "<init>", "(LZonedFabric$Shared;II)V"⟩ ∈ xTs := xTs_in (tk1 (List.mem_of_getElem? (i := 238) (by decide +kernel))) rfl
theorem mw33 : Cond.instanceMethod ⟨"ZonedFabric$Port", "<init>", "(LZonedFabric$Shared;II)V"⟩ ∈ xTs := xTs_in (tk1 (List.mem_of_getElem? (i := 103) (by decide +kernel))) rfl
theorem mw34 : Cond.fieldLink "ZonedFabric$Node" 24 "ZonedFabric$Node" "port" "LZonedFabric$Port;" ∈ xTs := xTs_in (tk2 (List.mem_of_getElem? (i := 2) (by decide +kernel))) rfl
theorem mw35 : Cond.methodLink "ZonedFabric$Node" 3 ⟨"java/lang/Object", "<init>", "()V"⟩ ∈ xTs := xTs_in (tk1 (List.mem_of_getElem? (i := 236) (by decide +kernel))) rfl
theorem mw36 : Cond.code ⟨"ZonedFabric$Host", "<init>", "(LZonedFabric$Shared;LZonedFabric$Node;)V"⟩ prog_6_method_1_code 3 none ∈ xTs := xTs_in (tk2 (List.mem_of_getElem? (i := 31) (by decide +kernel))) rfl
theorem mw37 : Cond.initialized "ZonedFabric$Host" ∈ xTs := xTs_in (tk1 (List.mem_of_getElem? (i := 8) (by decide +kernel))) rfl
theorem mw38 : Cond.classLink "ZonedFabric$Host" 9 "ZonedFabric$Command" ∈ xTs := xTs_in (tk2 (List.mem_of_getElem? (i := 33) (by decide +kernel))) rfl
theorem mw39 : Cond.fieldLink "ZonedFabric$Host" 11 "ZonedFabric$Host" "recent" "[LZonedFabric$Command;" ∈ xTs := xTs_in (tk2 (List.mem_of_getElem? (i := 39) (by decide +kernel))) rfl
theorem mw40 : Cond.fieldLink "ZonedFabric$Host" 17 "ZonedFabric$Host" "shared" "LZonedFabric$Shared;" ∈ xTs := xTs_in (tk2 (List.mem_of_getElem? (i := 34) (by decide +kernel))) rfl
theorem mw41 : Cond.fieldLink "ZonedFabric$Host" 21 "ZonedFabric$Host" "node" "LZonedFabric$Node;" ∈ xTs := xTs_in (tk2 (List.mem_of_getElem? (i := 35) (by decide +kernel))) rfl
theorem mw42 : Cond.fieldLink "ZonedFabric$Host" 25 "ZonedFabric$Shared" "nodeCount" "I" ∈ xTs := xTs_in (tk1 (List.mem_of_getElem? (i := 37) (by decide +kernel))) rfl
theorem mw43 : Cond.fieldLink "ZonedFabric$Host" 31 "ZonedFabric$Host" "logins" "[I" ∈ xTs := xTs_in (tk2 (List.mem_of_getElem? (i := 38) (by decide +kernel))) rfl
theorem mw44 : Cond.methodLink "ZonedFabric$Host" 3 ⟨"java/lang/Object", "<init>", "()V"⟩ ∈ xTs := xTs_in (tk2 (List.mem_of_getElem? (i := 32) (by decide +kernel))) rfl
theorem mw45 : Cond.code ⟨"ZonedFabric$Notice", "<init>", "()V"⟩ prog_8_method_1_code 1 none ∈ xTs := xTs_in (tk1 (List.mem_of_getElem? (i := 83) (by decide +kernel))) rfl
theorem mw46 : Cond.initialized "ZonedFabric$Notice" ∈ xTs := xTs_in (tk1 (List.mem_of_getElem? (i := 4) (by decide +kernel))) rfl
theorem mw47 : Cond.arrayClass .byte ∈ xTs := xTs_in (tk1 (List.mem_of_getElem? (i := 97) (by decide +kernel))) rfl
theorem mw48 : Cond.fieldLink "ZonedFabric$Notice" 9 "ZonedFabric$Notice" "load" "[B" ∈ xTs := xTs_in (tk1 (List.mem_of_getElem? (i := 85) (by decide +kernel))) rfl
theorem mw49 : Cond.methodLink "ZonedFabric$Notice" 3 ⟨"java/lang/Object", "<init>", "()V"⟩ ∈ xTs := xTs_in (tk1 (List.mem_of_getElem? (i := 84) (by decide +kernel))) rfl
theorem mw50 : Cond.code ⟨"ZonedFabric$Switch", "<init>", "(LZonedFabric$Shared;I)V"⟩ prog_12_method_1_code 5 none ∈ xTs := xTs_in (tk1 (List.mem_of_getElem? (i := 76) (by decide +kernel))) rfl
theorem mw51 : Cond.initialized "ZonedFabric$Switch" ∈ xTs := xTs_in (tk1 (List.mem_of_getElem? (i := 3) (by decide +kernel))) rfl
theorem mw52 : Cond.classLink "ZonedFabric$Switch" 9 "ZonedFabric$Port" ∈ xTs := xTs_in (tk1 (List.mem_of_getElem? (i := 78) (by decide +kernel))) rfl
theorem mw53 : Cond.fieldLink "ZonedFabric$Switch" 11 "ZonedFabric$Switch" "ports" "[LZonedFabric$Port;" ∈ xTs := xTs_in (tk1 (List.mem_of_getElem? (i := 194) (by decide +kernel))) rfl
theorem mw54 : Cond.classLink "ZonedFabric$Switch" 17 "ZonedFabric$Notice" ∈ xTs := xTs_in (tk1 (List.mem_of_getElem? (i := 79) (by decide +kernel))) rfl
theorem mw55 : Cond.instantiable "ZonedFabric$Notice" 3 ∈ xTs := xTs_in (tk1 (List.mem_of_getElem? (i := 80) (by decide +kernel))) rfl
theorem mw56 : Cond.instanceMethod ⟨"ZonedFabric$Notice", "<init>", "()V"⟩ ∈ xTs := xTs_in (tk1 (List.mem_of_getElem? (i := 82) (by decide +kernel))) rfl
theorem mw57 : Cond.fieldLink "ZonedFabric$Switch" 20 "ZonedFabric$Switch" "draft" "LZonedFabric$Notice;" ∈ xTs := xTs_in (tk1 (List.mem_of_getElem? (i := 200) (by decide +kernel))) rfl
theorem mw58 : Cond.fieldLink "ZonedFabric$Switch" 24 "ZonedFabric$Switch" "holders" "[I" ∈ xTs := xTs_in (tk1 (List.mem_of_getElem? (i := 204) (by decide +kernel))) rfl
theorem mw59 : Cond.fieldLink "ZonedFabric$Switch" 28 "ZonedFabric$Shared" "switchCount" "I" ∈ xTs := xTs_in (tk1 (List.mem_of_getElem? (i := 35) (by decide +kernel))) rfl
theorem mw60 : Cond.fieldLink "ZonedFabric$Switch" 34 "ZonedFabric$Switch" "shared" "LZonedFabric$Shared;" ∈ xTs := xTs_in (tk1 (List.mem_of_getElem? (i := 192) (by decide +kernel))) rfl
theorem mw61 : Cond.fieldLink "ZonedFabric$Switch" 38 "ZonedFabric$Switch" "number" "I" ∈ xTs := xTs_in (tk1 (List.mem_of_getElem? (i := 193) (by decide +kernel))) rfl
theorem mw62 : Cond.fieldLink "ZonedFabric$Switch" 41 "ZonedFabric$Switch" "domainNow" "I" ∈ xTs := xTs_in (tk1 (List.mem_of_getElem? (i := 196) (by decide +kernel))) rfl
theorem mw63 : Cond.fieldLink "ZonedFabric$Switch" 44 "ZonedFabric$Switch" "notices" "[LZonedFabric$Notice;" ∈ xTs := xTs_in (tk1 (List.mem_of_getElem? (i := 198) (by decide +kernel))) rfl
theorem mw64 : Cond.classLink "ZonedFabric$Switch" 48 "[[I" ∈ xTs := xTs_in (tk1 (List.mem_of_getElem? (i := 99) (by decide +kernel))) rfl
theorem mw65 : Cond.fieldLink "ZonedFabric$Switch" 50 "ZonedFabric$Switch" "costs" "[[I" ∈ xTs := xTs_in (tk1 (List.mem_of_getElem? (i := 201) (by decide +kernel))) rfl
theorem mw66 : Cond.fieldLink "ZonedFabric$Switch" 53 "ZonedFabric$Switch" "sums" "[[I" ∈ xTs := xTs_in (tk1 (List.mem_of_getElem? (i := 202) (by decide +kernel))) rfl
theorem mw67 : Cond.fieldLink "ZonedFabric$Switch" 56 "ZonedFabric$Switch" "ways" "[I" ∈ xTs := xTs_in (tk1 (List.mem_of_getElem? (i := 203) (by decide +kernel))) rfl
theorem mw68 : Cond.methodLink "ZonedFabric$Switch" 3 ⟨"java/lang/Object", "<init>", "()V"⟩ ∈ xTs := xTs_in (tk1 (List.mem_of_getElem? (i := 77) (by decide +kernel))) rfl
theorem mw69 : Cond.methodLink "ZonedFabric$Switch" 59 ⟨"ZonedFabric$Port", "<init>", "(LZonedFabric$Shared;II)V"⟩ ∈ xTs := xTs_in (tk1 (List.mem_of_getElem? (i := 102) (by decide +kernel))) rfl
theorem mw70 : Cond.code ⟨"ZonedFabric", "<init>", "(III)V"⟩ prog_1_method_1_code 8 none ∈ xTs := xTs_in (tk1 (List.mem_of_getElem? (i := 20) (by decide +kernel))) rfl
theorem mw71 : Cond.initialized "ZonedFabric" ∈ xTs := xTs_in (tk1 (List.mem_of_getElem? (i := 1) (by decide +kernel))) rfl
theorem mw72 : Cond.classLink "ZonedFabric" 9 "ZonedFabric$Port" ∈ xTs := xTs_in (tk1 (List.mem_of_getElem? (i := 24) (by decide +kernel))) rfl
theorem mw73 : Cond.fieldLink "ZonedFabric" 11 "ZonedFabric" "firstEnds" "[LZonedFabric$Port;" ∈ xTs := xTs_in (tk2 (List.mem_of_getElem? (i := 57) (by decide +kernel))) rfl
theorem mw74 : Cond.fieldLink "ZonedFabric" 15 "ZonedFabric" "secondEnds" "[LZonedFabric$Port;" ∈ xTs := xTs_in (tk2 (List.mem_of_getElem? (i := 58) (by decide +kernel))) rfl
theorem mw75 : Cond.classLink "ZonedFabric" 18 "ZonedFabric$Command" ∈ xTs := xTs_in (tk1 (List.mem_of_getElem? (i := 26) (by decide +kernel))) rfl
theorem mw76 : Cond.fieldLink "ZonedFabric" 20 "ZonedFabric" "commands" "[LZonedFabric$Command;" ∈ xTs := xTs_in (tk2 (List.mem_of_getElem? (i := 60) (by decide +kernel))) rfl
theorem mw77 : Cond.methodLink "ZonedFabric" 1 ⟨"java/lang/Object", "<init>", "()V"⟩ ∈ xTs := xTs_in (tk1 (List.mem_of_getElem? (i := 21) (by decide +kernel))) rfl
theorem mw78 : Cond.classLink "ZonedFabric" 24 "ZonedFabric$Shared" ∈ xTs := xTs_in (tk1 (List.mem_of_getElem? (i := 28) (by decide +kernel))) rfl
theorem mw79 : Cond.instantiable "ZonedFabric$Shared" 8 ∈ xTs := xTs_in (tk1 (List.mem_of_getElem? (i := 29) (by decide +kernel))) rfl
theorem mw80 : Cond.methodLink "ZonedFabric" 26 ⟨"ZonedFabric$Shared", "<init>", "(III)V"⟩ ∈ xTs := xTs_in (tk1 (List.mem_of_getElem? (i := 30) (by decide +kernel))) rfl
theorem mw81 : Cond.instanceMethod ⟨"ZonedFabric$Shared", "<init>", "(III)V"⟩ ∈ xTs := xTs_in (tk1 (List.mem_of_getElem? (i := 31) (by decide +kernel))) rfl
theorem mw82 : Cond.fieldLink "ZonedFabric" 29 "ZonedFabric" "shared" "LZonedFabric$Shared;" ∈ xTs := xTs_in (tk2 (List.mem_of_getElem? (i := 54) (by decide +kernel))) rfl
theorem mw83 : Cond.classLink "ZonedFabric" 33 "ZonedFabric$Switch" ∈ xTs := xTs_in (tk1 (List.mem_of_getElem? (i := 71) (by decide +kernel))) rfl
theorem mw84 : Cond.fieldLink "ZonedFabric" 35 "ZonedFabric" "switches" "[LZonedFabric$Switch;" ∈ xTs := xTs_in (tk2 (List.mem_of_getElem? (i := 55) (by decide +kernel))) rfl
theorem mw85 : Cond.classLink "ZonedFabric" 42 "ZonedFabric$Node" ∈ xTs := xTs_in (tk1 (List.mem_of_getElem? (i := 230) (by decide +kernel))) rfl
theorem mw86 : Cond.fieldLink "ZonedFabric" 44 "ZonedFabric" "nodes" "[LZonedFabric$Node;" ∈ xTs := xTs_in (tk2 (List.mem_of_getElem? (i := 56) (by decide +kernel))) rfl
theorem mw87 : Cond.instantiable "ZonedFabric$Switch" 11 ∈ xTs := xTs_in (tk1 (List.mem_of_getElem? (i := 73) (by decide +kernel))) rfl
theorem mw88 : Cond.methodLink "ZonedFabric" 39 ⟨"ZonedFabric$Switch", "<init>", "(LZonedFabric$Shared;I)V"⟩ ∈ xTs := xTs_in (tk1 (List.mem_of_getElem? (i := 74) (by decide +kernel))) rfl
theorem mw89 : Cond.instanceMethod ⟨"ZonedFabric$Switch", "<init>", "(LZonedFabric$Shared;I)V"⟩ ∈ xTs := xTs_in (tk1 (List.mem_of_getElem? (i := 75) (by decide +kernel))) rfl
theorem mw90 : Cond.instantiable "ZonedFabric$Node" 6 ∈ xTs := xTs_in (tk1 (List.mem_of_getElem? (i := 232) (by decide +kernel))) rfl
theorem mw91 : Cond.methodLink "ZonedFabric" 48 ⟨"ZonedFabric$Node", "<init>", "(LZonedFabric$Shared;I)V"⟩ ∈ xTs := xTs_in (tk1 (List.mem_of_getElem? (i := 233) (by decide +kernel))) rfl
theorem mw92 : Cond.instanceMethod ⟨"ZonedFabric$Node", "<init>", "(LZonedFabric$Shared;I)V"⟩ ∈ xTs := xTs_in (tk1 (List.mem_of_getElem? (i := 234) (by decide +kernel))) rfl
theorem mw93 : Cond.classLink "ZonedFabric" 49 "ZonedFabric$Host" ∈ xTs := xTs_in (tk2 (List.mem_of_getElem? (i := 27) (by decide +kernel))) rfl
theorem mw94 : Cond.instantiable "ZonedFabric$Host" 6 ∈ xTs := xTs_in (tk2 (List.mem_of_getElem? (i := 28) (by decide +kernel))) rfl
theorem mw95 : Cond.methodLink "ZonedFabric" 51 ⟨"ZonedFabric$Host", "<init>", "(LZonedFabric$Shared;LZonedFabric$Node;)V"⟩ ∈ xTs := xTs_in (tk2 (List.mem_of_getElem? (i := 29) (by decide +kernel))) rfl
theorem mw96 : Cond.instanceMethod ⟨"ZonedFabric$Host", "<init>", "(LZonedFabric$Shared;LZonedFabric$Node;)V"⟩ ∈ xTs := xTs_in (tk2 (List.mem_of_getElem? (i := 30) (by decide +kernel))) rfl
theorem mw97 : Cond.fieldLink "ZonedFabric" 54 "ZonedFabric$Node" "host" "LZonedFabric$Host;" ∈ xTs := xTs_in (tk2 (List.mem_of_getElem? (i := 10) (by decide +kernel))) rfl
theorem mw98 : Cond.code ⟨"ZonedFabric$Shared", "isNode", "(I)Z"⟩ prog_11_method_2_code 2 (some FieldType.boolean) ∈ xTs := xTs_in (tk2 (List.mem_of_getElem? (i := 86) (by decide +kernel))) rfl
theorem mw99 : Cond.code ⟨"ZonedFabric$OpenWrite", "<init>", "()V"⟩ prog_9_method_1_code 1 none ∈ xTs := xTs_in (tk2 (List.mem_of_getElem? (i := 98) (by decide +kernel))) rfl
theorem mw100 : Cond.initialized "ZonedFabric$OpenWrite" ∈ xTs := xTs_in (tk1 (List.mem_of_getElem? (i := 11) (by decide +kernel))) rfl
theorem mw101 : Cond.arrayClass .long ∈ xTs := xTs_in (tk2 (List.mem_of_getElem? (i := 134) (by decide +kernel))) rfl
theorem mw102 : Cond.fieldLink "ZonedFabric$OpenWrite" 9 "ZonedFabric$OpenWrite" "values" "[J" ∈ xTs := xTs_in (tk2 (List.mem_of_getElem? (i := 113) (by decide +kernel))) rfl
theorem mw103 : Cond.methodLink "ZonedFabric$OpenWrite" 3 ⟨"java/lang/Object", "<init>", "()V"⟩ ∈ xTs := xTs_in (tk2 (List.mem_of_getElem? (i := 99) (by decide +kernel))) rfl
theorem mw104 : Cond.code ⟨"ZonedFabric$Disc", "<init>", "(LZonedFabric$Shared;LZonedFabric$Node;)V"⟩ prog_3_method_1_code 4 none ∈ xTs := xTs_in (tk2 (List.mem_of_getElem? (i := 91) (by decide +kernel))) rfl
theorem mw105 : Cond.initialized "ZonedFabric$Disc" ∈ xTs := xTs_in (tk1 (List.mem_of_getElem? (i := 10) (by decide +kernel))) rfl
theorem mw106 : Cond.fieldLink "ZonedFabric$Disc" 9 "ZonedFabric$Disc" "blocks" "[J" ∈ xTs := xTs_in (tk2 (List.mem_of_getElem? (i := 137) (by decide +kernel))) rfl
theorem mw107 : Cond.fieldLink "ZonedFabric$Disc" 15 "ZonedFabric$Disc" "logins" "[I" ∈ xTs := xTs_in (tk2 (List.mem_of_getElem? (i := 139) (by decide +kernel))) rfl
theorem mw108 : Cond.classLink "ZonedFabric$Disc" 19 "ZonedFabric$OpenWrite" ∈ xTs := xTs_in (tk2 (List.mem_of_getElem? (i := 93) (by decide +kernel))) rfl
theorem mw109 : Cond.fieldLink "ZonedFabric$Disc" 21 "ZonedFabric$Disc" "writes" "[LZonedFabric$OpenWrite;" ∈ xTs := xTs_in (tk2 (List.mem_of_getElem? (i := 141) (by decide +kernel))) rfl
theorem mw110 : Cond.fieldLink "ZonedFabric$Disc" 25 "ZonedFabric$Disc" "shared" "LZonedFabric$Shared;" ∈ xTs := xTs_in (tk2 (List.mem_of_getElem? (i := 135) (by decide +kernel))) rfl
theorem mw111 : Cond.fieldLink "ZonedFabric$Disc" 29 "ZonedFabric$Disc" "node" "LZonedFabric$Node;" ∈ xTs := xTs_in (tk2 (List.mem_of_getElem? (i := 136) (by decide +kernel))) rfl
theorem mw112 : Cond.methodLink "ZonedFabric$Disc" 3 ⟨"java/lang/Object", "<init>", "()V"⟩ ∈ xTs := xTs_in (tk2 (List.mem_of_getElem? (i := 92) (by decide +kernel))) rfl
theorem mw113 : Cond.instantiable "ZonedFabric$OpenWrite" 9 ∈ xTs := xTs_in (tk2 (List.mem_of_getElem? (i := 95) (by decide +kernel))) rfl
theorem mw114 : Cond.instanceMethod ⟨"ZonedFabric$OpenWrite", "<init>", "()V"⟩ ∈ xTs := xTs_in (tk2 (List.mem_of_getElem? (i := 97) (by decide +kernel))) rfl
theorem mw115 : Cond.code ⟨"ZonedFabric", "disc", "(I)Z"⟩ prog_1_method_2_code 3 (some FieldType.boolean) ∈ xTs := xTs_in (tk2 (List.mem_of_getElem? (i := 82) (by decide +kernel))) rfl
theorem mw116 : Cond.methodLink "ZonedFabric" 58 ⟨"ZonedFabric$Shared", "isNode", "(I)Z"⟩ ∈ xTs := xTs_in (tk2 (List.mem_of_getElem? (i := 83) (by decide +kernel))) rfl
theorem mw117 : Cond.instanceMethod ⟨"ZonedFabric$Shared", "isNode", "(I)Z"⟩ ∈ xTs := xTs_in (tk2 (List.mem_of_getElem? (i := 84) (by decide +kernel))) rfl
theorem mw118 : Cond.selects "ZonedFabric$Shared" ⟨"ZonedFabric$Shared", "isNode", "(I)Z"⟩ ⟨"ZonedFabric$Shared", "isNode", "(I)Z"⟩ ∈ xTs := xTs_in (tk2 (List.mem_of_getElem? (i := 85) (by decide +kernel))) rfl
theorem mw119 : Cond.fieldLink "ZonedFabric" 62 "ZonedFabric$Host" "hadCommand" "Z" ∈ xTs := xTs_in (tk2 (List.mem_of_getElem? (i := 36) (by decide +kernel))) rfl
theorem mw120 : Cond.fieldLink "ZonedFabric" 66 "ZonedFabric$Node" "port" "LZonedFabric$Port;" ∈ xTs := xTs_in (tk2 (List.mem_of_getElem? (i := 3) (by decide +kernel))) rfl
theorem mw121 : Cond.fieldLink "ZonedFabric" 70 "ZonedFabric$Port" "peer" "LZonedFabric$Port;" ∈ xTs := xTs_in (tk1 (List.mem_of_getElem? (i := 133) (by decide +kernel))) rfl
theorem mw122 : Cond.classLink "ZonedFabric" 73 "ZonedFabric$Disc" ∈ xTs := xTs_in (tk2 (List.mem_of_getElem? (i := 87) (by decide +kernel))) rfl
theorem mw123 : Cond.instantiable "ZonedFabric$Disc" 7 ∈ xTs := xTs_in (tk2 (List.mem_of_getElem? (i := 88) (by decide +kernel))) rfl
theorem mw124 : Cond.methodLink "ZonedFabric" 75 ⟨"ZonedFabric$Disc", "<init>", "(LZonedFabric$Shared;LZonedFabric$Node;)V"⟩ ∈ xTs := xTs_in (tk2 (List.mem_of_getElem? (i := 89) (by decide +kernel))) rfl
theorem mw125 : Cond.instanceMethod ⟨"ZonedFabric$Disc", "<init>", "(LZonedFabric$Shared;LZonedFabric$Node;)V"⟩ ∈ xTs := xTs_in (tk2 (List.mem_of_getElem? (i := 90) (by decide +kernel))) rfl
theorem mw126 : Cond.fieldLink "ZonedFabric" 76 "ZonedFabric$Node" "disc" "LZonedFabric$Disc;" ∈ xTs := xTs_in (tk2 (List.mem_of_getElem? (i := 12) (by decide +kernel))) rfl
theorem mw127 : Cond.code ⟨"ZonedFabric", "isSwitch", "(I)Z"⟩ prog_1_method_24_code 2 (some FieldType.boolean) ∈ xTs := xTs_in (tk2 (List.mem_of_getElem? (i := 165) (by decide +kernel))) rfl
theorem mw128 : Cond.code ⟨"ZonedFabric", "portOf", "(II)LZonedFabric$Port;"⟩ prog_1_method_29_code 3 (some (FieldType.object "ZonedFabric$Port")) ∈ xTs := xTs_in (tk2 (List.mem_of_getElem? (i := 169) (by decide +kernel))) rfl
theorem mw129 : Cond.methodLink "ZonedFabric" 84 ⟨"ZonedFabric", "isSwitch", "(I)Z"⟩ ∈ xTs := xTs_in (tk2 (List.mem_of_getElem? (i := 162) (by decide +kernel))) rfl
theorem mw130 : Cond.instanceMethod ⟨"ZonedFabric", "isSwitch", "(I)Z"⟩ ∈ xTs := xTs_in (tk2 (List.mem_of_getElem? (i := 164) (by decide +kernel))) rfl
theorem mw131 : Cond.selects "ZonedFabric" ⟨"ZonedFabric", "isSwitch", "(I)Z"⟩ ⟨"ZonedFabric", "isSwitch", "(I)Z"⟩ ∈ xTs := xTs_in (List.mem_append_left _ (List.mem_of_getElem? (i := 0) (by decide +kernel))) rfl
theorem mw132 : Cond.fieldLink "ZonedFabric" 249 "ZonedFabric$Switch" "ports" "[LZonedFabric$Port;" ∈ xTs := xTs_in (tk1 (List.mem_of_getElem? (i := 195) (by decide +kernel))) rfl
theorem mw133 : Cond.code ⟨"ZonedFabric$Port", "comeUp", "()V"⟩ prog_10_method_2_code 1 none ∈ xTs := xTs_in (tk2 (List.mem_of_getElem? (i := 173) (by decide +kernel))) rfl
theorem mw134 : Cond.fieldLink "ZonedFabric$Port" 38 "ZonedFabric$Port" "up" "Z" ∈ xTs := xTs_in (tk1 (List.mem_of_getElem? (i := 137) (by decide +kernel))) rfl
theorem mw135 : Cond.fieldLink "ZonedFabric$Port" 42 "ZonedFabric$Shared" "room" "I" ∈ xTs := xTs_in (tk1 (List.mem_of_getElem? (i := 40) (by decide +kernel))) rfl
theorem mw136 : Cond.fieldLink "ZonedFabric$Port" 47 "ZonedFabric$Port" "credits" "I" ∈ xTs := xTs_in (tk1 (List.mem_of_getElem? (i := 141) (by decide +kernel))) rfl
theorem mw137 : Cond.code ⟨"ZonedFabric", "wire", "(IIIII)I"⟩ prog_1_method_3_code 8 (some FieldType.int) ∈ xTs := xTs_in (tk2 (List.mem_of_getElem? (i := 161) (by decide +kernel))) rfl
theorem mw138 : Cond.fieldLink "ZonedFabric" 80 "ZonedFabric" "wires" "I" ∈ xTs := xTs_in (tk2 (List.mem_of_getElem? (i := 59) (by decide +kernel))) rfl
theorem mw139 : Cond.methodLink "ZonedFabric" 87 ⟨"ZonedFabric", "portOf", "(II)LZonedFabric$Port;"⟩ ∈ xTs := xTs_in (tk2 (List.mem_of_getElem? (i := 166) (by decide +kernel))) rfl
theorem mw140 : Cond.instanceMethod ⟨"ZonedFabric", "portOf", "(II)LZonedFabric$Port;"⟩ ∈ xTs := xTs_in (tk2 (List.mem_of_getElem? (i := 168) (by decide +kernel))) rfl
theorem mw141 : Cond.selects "ZonedFabric" ⟨"ZonedFabric", "portOf", "(II)LZonedFabric$Port;"⟩ ⟨"ZonedFabric", "portOf", "(II)LZonedFabric$Port;"⟩ ∈ xTs := xTs_in (List.mem_append_left _ (List.mem_of_getElem? (i := 1) (by decide +kernel))) rfl
theorem mw142 : Cond.fieldLink "ZonedFabric" 91 "ZonedFabric$Port" "cost" "I" ∈ xTs := xTs_in (tk1 (List.mem_of_getElem? (i := 135) (by decide +kernel))) rfl
theorem mw143 : Cond.methodLink "ZonedFabric" 94 ⟨"ZonedFabric$Port", "comeUp", "()V"⟩ ∈ xTs := xTs_in (tk2 (List.mem_of_getElem? (i := 170) (by decide +kernel))) rfl
theorem mw144 : Cond.instanceMethod ⟨"ZonedFabric$Port", "comeUp", "()V"⟩ ∈ xTs := xTs_in (tk2 (List.mem_of_getElem? (i := 171) (by decide +kernel))) rfl
theorem mw145 : Cond.selects "ZonedFabric$Port" ⟨"ZonedFabric$Port", "comeUp", "()V"⟩ ⟨"ZonedFabric$Port", "comeUp", "()V"⟩ ∈ xTs := xTs_in (tk2 (List.mem_of_getElem? (i := 172) (by decide +kernel))) rfl
theorem mw146 : Cond.code ⟨"ZonedFabric", "isWire", "(I)Z"⟩ prog_1_method_25_code 2 (some FieldType.boolean) ∈ xTs := xTs_in (tk2 (List.mem_of_getElem? (i := 181) (by decide +kernel))) rfl
theorem mw147 : Cond.code ⟨"ZonedFabric$Shared", "release", "(LZonedFabric$Frame;)V"⟩ prog_11_method_6_code 2 none ∈ xTs := xTs_in (tk2 (List.mem_of_getElem? (i := 189) (by decide +kernel))) rfl
theorem mw148 : Cond.fieldLink "ZonedFabric$Shared" 36 "ZonedFabric$Shared" "spare" "LZonedFabric$Frame;" ∈ xTs := xTs_in (tk1 (List.mem_of_getElem? (i := 52) (by decide +kernel))) rfl
theorem mw149 : Cond.fieldLink "ZonedFabric$Shared" 43 "ZonedFabric$Frame" "next" "LZonedFabric$Frame;" ∈ xTs := xTs_in (tk3 (List.mem_of_getElem? (i := 35) (by decide +kernel))) rfl
theorem mw150 : Cond.code ⟨"ZonedFabric$FrameLine", "take", "()LZonedFabric$Frame;"⟩ prog_5_method_3_code 2 (some (FieldType.object "ZonedFabric$Frame")) ∈ xTs := xTs_in (tk2 (List.mem_of_getElem? (i := 193) (by decide +kernel))) rfl
theorem mw151 : Cond.fieldLink "ZonedFabric$FrameLine" 18 "ZonedFabric$FrameLine" "first" "LZonedFabric$Frame;" ∈ xTs := xTs_in (tk1 (List.mem_of_getElem? (i := 112) (by decide +kernel))) rfl
theorem mw152 : Cond.fieldLink "ZonedFabric$FrameLine" 7 "ZonedFabric$Frame" "next" "LZonedFabric$Frame;" ∈ xTs := xTs_in (tk3 (List.mem_of_getElem? (i := 34) (by decide +kernel))) rfl
theorem mw153 : Cond.fieldLink "ZonedFabric$FrameLine" 13 "ZonedFabric$FrameLine" "last" "LZonedFabric$Frame;" ∈ xTs := xTs_in (tk1 (List.mem_of_getElem? (i := 115) (by decide +kernel))) rfl
theorem mw154 : Cond.fieldLink "ZonedFabric$FrameLine" 21 "ZonedFabric$FrameLine" "size" "I" ∈ xTs := xTs_in (tk1 (List.mem_of_getElem? (i := 117) (by decide +kernel))) rfl
theorem mw155 : Cond.code ⟨"ZonedFabric$Port", "goDown", "()V"⟩ prog_10_method_3_code 2 none ∈ xTs := xTs_in (tk2 (List.mem_of_getElem? (i := 185) (by decide +kernel))) rfl
theorem mw156 : Cond.fieldLink "ZonedFabric$Port" 50 "ZonedFabric$Port" "coming" "I" ∈ xTs := xTs_in (tk1 (List.mem_of_getElem? (i := 143) (by decide +kernel))) rfl
theorem mw157 : Cond.fieldLink "ZonedFabric$Port" 53 "ZonedFabric$Port" "given" "I" ∈ xTs := xTs_in (tk1 (List.mem_of_getElem? (i := 156) (by decide +kernel))) rfl
theorem mw158 : Cond.fieldLink "ZonedFabric$Port" 56 "ZonedFabric$Port" "stays" "I" ∈ xTs := xTs_in (tk1 (List.mem_of_getElem? (i := 157) (by decide +kernel))) rfl
theorem mw159 : Cond.fieldLink "ZonedFabric$Port" 59 "ZonedFabric$Port" "sent" "LZonedFabric$Frame;" ∈ xTs := xTs_in (tk1 (List.mem_of_getElem? (i := 144) (by decide +kernel))) rfl
theorem mw160 : Cond.methodLink "ZonedFabric$Port" 63 ⟨"ZonedFabric$Shared", "release", "(LZonedFabric$Frame;)V"⟩ ∈ xTs := xTs_in (tk2 (List.mem_of_getElem? (i := 186) (by decide +kernel))) rfl
theorem mw161 : Cond.instanceMethod ⟨"ZonedFabric$Shared", "release", "(LZonedFabric$Frame;)V"⟩ ∈ xTs := xTs_in (tk2 (List.mem_of_getElem? (i := 187) (by decide +kernel))) rfl
theorem mw162 : Cond.selects "ZonedFabric$Shared" ⟨"ZonedFabric$Shared", "release", "(LZonedFabric$Frame;)V"⟩ ⟨"ZonedFabric$Shared", "release", "(LZonedFabric$Frame;)V"⟩ ∈ xTs := xTs_in (tk2 (List.mem_of_getElem? (i := 188) (by decide +kernel))) rfl
theorem mw163 : Cond.fieldLink "ZonedFabric$Port" 67 "ZonedFabric$FrameLine" "size" "I" ∈ xTs := xTs_in (tk1 (List.mem_of_getElem? (i := 118) (by decide +kernel))) rfl
theorem mw164 : Cond.methodLink "ZonedFabric$Port" 70 ⟨"ZonedFabric$FrameLine", "take", "()LZonedFabric$Frame;"⟩ ∈ xTs := xTs_in (tk2 (List.mem_of_getElem? (i := 190) (by decide +kernel))) rfl
theorem mw165 : Cond.instanceMethod ⟨"ZonedFabric$FrameLine", "take", "()LZonedFabric$Frame;"⟩ ∈ xTs := xTs_in (tk2 (List.mem_of_getElem? (i := 191) (by decide +kernel))) rfl
theorem mw166 : Cond.selects "ZonedFabric$FrameLine" ⟨"ZonedFabric$FrameLine", "take", "()LZonedFabric$Frame;"⟩ ⟨"ZonedFabric$FrameLine", "take", "()LZonedFabric$Frame;"⟩ ∈ xTs := xTs_in (tk2 (List.mem_of_getElem? (i := 192) (by decide +kernel))) rfl
/-! ZF.Shared.init(III)V -/
def ym0 : MethodName := ⟨"ZonedFabric$Shared", "<init>", "(III)V"⟩
theorem cd0 : xCd ym0 prog_11_method_1_code 4 none 3 := ⟨mw0, mw1, by decide, by decide, by decide +kernel⟩
def b0_0 (a0 : Nat) (v1 : Int32) (v2 : Int32) (v3 : Int32) (M : hM) : Option xRes :=
  Option.bind (n_a M 20 (9 : Int32)) fun M1 =>
  Option.bind (p_r M1 9 4 (some a0) (some (h_sz M))) fun M3 =>
  Option.bind (n_a M3 20 (8 : Int32)) fun M5 =>
  Option.bind (p_r M5 9 5 (some a0) (some (h_sz M3))) fun M7 =>
  Option.bind (p_i M7 9 0 (some a0) v1) fun M9 =>
  Option.bind (p_i M9 9 1 (some a0) v2) fun M11 =>
  Option.bind (p_i M11 9 2 (some a0) v3) fun M13 =>
  some (.inl (none, M13))
def f0 (as : List aV) (M : hM) : xO := match as with
  | [.inr (.inr (some a0)), .inl v1, .inl v2, .inl v3] => x_out (b0_0 a0 v1 v2 v3 M)
  | _ => none
theorem lb0_0 (G : gX) (l : Launch) (a0 : Nat) (v1 : Int32) (v2 : Int32) (v3 : Int32) (M : hM) {res : xRes} (h : b0_0 a0 v1 v2 v3 M = some res) : h_sz M ≤ r_sz res ∧ h_sl M ≤ r_sl res := by
  unfold b0_0 at h
  obtain ⟨M1, h2, h⟩ := bd h
  have eh2 := n_a_sz h2
  obtain ⟨M3, h4, h⟩ := bd h
  have eh4 := p_r_sz h4
  obtain ⟨M5, h6, h⟩ := bd h
  have eh6 := n_a_sz h6
  obtain ⟨M7, h8, h⟩ := bd h
  have eh8 := p_r_sz h8
  obtain ⟨M9, h10, h⟩ := bd h
  have eh10 := p_i_sz h10
  obtain ⟨M11, h12, h⟩ := bd h
  have eh12 := p_i_sz h12
  obtain ⟨M13, h14, h⟩ := bd h
  have eh14 := p_i_sz h14
  obtain rfl := Option.some.inj h
  show h_sz M ≤ h_sz M13 ∧ h_sl M ≤ h_sl M13
  omega
section
variable {p : Program} {l : Launch} {e : Env} {s : State} {m : MethodId} {args : Array Value} {below : List Frame} {meth : Method} {c : Code} {G : gX} {z0 y0 : Nat} {r : Option aV} {M' : hM}
theorem sb0_0 (E : xE G p (xRm 1 (h_sz M' - z0) (h_sl M' - y0)) s m args c prog_11_method_1_code "ZonedFabric$Shared" z0 y0 (h_sz M') (h_sl M') 4) (B : xB ym0 none meth) (a0 : Nat) (v1 : Int32) (v2 : Int32) (v3 : Int32) (M : hM) {res : xRes} (h : b0_0 a0 v1 v2 v3 M = some res) (hN : xN (fun _ _ _ => False) r M' res) : xV G p l e (xRm 1 (h_sz M' - z0) (h_sl M' - y0)) s m args below meth c z0 y0 (h_sz M') (h_sl M') 4 (MQ below (xQc G r M') args s (h_sz M' - z0) (h_sl M' - y0) (xFr G)) 0 [(0, .inr (.inr (some a0))), (1, .inl v1), (2, .inl v2), (3, .inl v3)] [] M := by
  unfold b0_0 at h
  refine xv_b E [.aload_n 0] (pc' := 1) (lv' := [(0, .inr (.inr (some a0))), (1, .inl v1), (2, .inl v2), (3, .inl v3)]) (st' := [.inr (.inr (some a0))]) (by decide +kernel) rfl rfl ?_
  refine xv_co E mw8 mw9 mwObj (show decode prog_11_method_1_code 1 = .ok (.invokespecial 3, 3) by decide +kernel) (Nat.le_of_ble_eq_true rfl) ⟨Nat.le_of_ble_eq_true rfl, Nat.le_of_ble_eq_true rfl⟩ ?_
  refine xv_b E [.aload_n 0, .bipush 9] (pc' := 7) (lv' := [(0, .inr (.inr (some a0))), (1, .inl v1), (2, .inl v2), (3, .inl v3)]) (st' := [.inl (9 : Int32), .inr (.inr (some a0))]) (by decide +kernel) rfl rfl ?_
  obtain ⟨M1, h2, h⟩ := bd h
  refine xn_a E 20 h2 mw2 (show decode prog_11_method_1_code 7 = .ok (.newarray .int, 2) by decide +kernel) ?_
  obtain ⟨M3, h4, h⟩ := bd h
  refine xp_r E 9 4 h4 mw3 (show decode prog_11_method_1_code 9 = .ok (.putfield 9, 3) by decide +kernel) (Or.inr ⟨rfl, B.2.2, rfl⟩) ?_
  refine xv_b E [.aload_n 0, .bipush 8] (pc' := 15) (lv' := [(0, .inr (.inr (some a0))), (1, .inl v1), (2, .inl v2), (3, .inl v3)]) (st' := [.inl (8 : Int32), .inr (.inr (some a0))]) (by decide +kernel) rfl rfl ?_
  obtain ⟨M5, h6, h⟩ := bd h
  refine xn_a E 20 h6 mw2 (show decode prog_11_method_1_code 15 = .ok (.newarray .int, 2) by decide +kernel) ?_
  obtain ⟨M7, h8, h⟩ := bd h
  refine xp_r E 9 5 h8 mw4 (show decode prog_11_method_1_code 17 = .ok (.putfield 15, 3) by decide +kernel) (Or.inr ⟨rfl, B.2.2, rfl⟩) ?_
  refine xv_b E [.aload_n 0, .iload_n 1] (pc' := 22) (lv' := [(0, .inr (.inr (some a0))), (1, .inl v1), (2, .inl v2), (3, .inl v3)]) (st' := [.inl v1, .inr (.inr (some a0))]) (by decide +kernel) rfl rfl ?_
  obtain ⟨M9, h10, h⟩ := bd h
  refine xp_i E 9 0 h10 mw5 (show decode prog_11_method_1_code 22 = .ok (.putfield 18, 3) by decide +kernel) (Or.inr ⟨rfl, B.2.2, rfl⟩) ?_
  refine xv_b E [.aload_n 0, .iload_n 2] (pc' := 27) (lv' := [(0, .inr (.inr (some a0))), (1, .inl v1), (2, .inl v2), (3, .inl v3)]) (st' := [.inl v2, .inr (.inr (some a0))]) (by decide +kernel) rfl rfl ?_
  obtain ⟨M11, h12, h⟩ := bd h
  refine xp_i E 9 1 h12 mw6 (show decode prog_11_method_1_code 27 = .ok (.putfield 22, 3) by decide +kernel) (Or.inr ⟨rfl, B.2.2, rfl⟩) ?_
  refine xv_b E [.aload_n 0, .iload_n 3] (pc' := 32) (lv' := [(0, .inr (.inr (some a0))), (1, .inl v1), (2, .inl v2), (3, .inl v3)]) (st' := [.inl v3, .inr (.inr (some a0))]) (by decide +kernel) rfl rfl ?_
  obtain ⟨M13, h14, h⟩ := bd h
  refine xp_i E 9 2 h14 mw7 (show decode prog_11_method_1_code 32 = .ok (.putfield 25, 3) by decide +kernel) (Or.inr ⟨rfl, B.2.2, rfl⟩) ?_
  obtain rfl := Option.some.inj h
  obtain ⟨rfl, rfl⟩ := Prod.mk.inj (show ((none : Option aV), M13) = (r, M') from hN)
  exact xv_rv E B.1 B.2.1 (show decode prog_11_method_1_code 35 = .ok (.return_, 1) by decide +kernel) rfl rfl
end
theorem t0 (G : gX) (l : Launch) {as : List aV} {M : hM} {r : Option aV} {M' : hM} (h : f0 as M = some (r, M')) : xM G l ym0 prog_11_method_1_code 4 none 1 as M r M' := by
  unfold f0 at h
  split at h
  · have h := x_out_ok h
    refine xM_of (by decide) (Nat.le_of_ble_eq_true rfl) (lb0_0 G l _ _ _ _ M h) ?_
    intro p e s m args below meth c E B
    exact sb0_0 E B _ _ _ _ M h rfl
  · cases h
/-! ZF.FrameLine.init()V -/
def ym1 : MethodName := ⟨"ZonedFabric$FrameLine", "<init>", "()V"⟩
theorem cd1 : xCd ym1 prog_5_method_1_code 1 none 0 := ⟨mw10, mw11, by decide, by decide, by decide +kernel⟩
def b1_0 (a0 : Nat) (M : hM) : Option xRes :=
  some (.inl (none, M))
def f1 (as : List aV) (M : hM) : xO := match as with
  | [.inr (.inr (some a0))] => x_out (b1_0 a0 M)
  | _ => none
theorem lb1_0 (G : gX) (l : Launch) (a0 : Nat) (M : hM) {res : xRes} (h : b1_0 a0 M = some res) : h_sz M ≤ r_sz res ∧ h_sl M ≤ r_sl res := by
  unfold b1_0 at h
  obtain rfl := Option.some.inj h
  show h_sz M ≤ h_sz M ∧ h_sl M ≤ h_sl M
  omega
section
variable {p : Program} {l : Launch} {e : Env} {s : State} {m : MethodId} {args : Array Value} {below : List Frame} {meth : Method} {c : Code} {G : gX} {z0 y0 : Nat} {r : Option aV} {M' : hM}
theorem sb1_0 (E : xE G p (xRm 1 (h_sz M' - z0) (h_sl M' - y0)) s m args c prog_5_method_1_code "ZonedFabric$FrameLine" z0 y0 (h_sz M') (h_sl M') 1) (B : xB ym1 none meth) (a0 : Nat) (M : hM) {res : xRes} (h : b1_0 a0 M = some res) (hN : xN (fun _ _ _ => False) r M' res) : xV G p l e (xRm 1 (h_sz M' - z0) (h_sl M' - y0)) s m args below meth c z0 y0 (h_sz M') (h_sl M') 1 (MQ below (xQc G r M') args s (h_sz M' - z0) (h_sl M' - y0) (xFr G)) 0 [(0, .inr (.inr (some a0)))] [] M := by
  unfold b1_0 at h
  refine xv_b E [.aload_n 0] (pc' := 1) (lv' := [(0, .inr (.inr (some a0)))]) (st' := [.inr (.inr (some a0))]) (by decide +kernel) rfl rfl ?_
  refine xv_co E mw12 mw9 mwObj (show decode prog_5_method_1_code 1 = .ok (.invokespecial 1, 3) by decide +kernel) (Nat.le_of_ble_eq_true rfl) ⟨Nat.le_of_ble_eq_true rfl, Nat.le_of_ble_eq_true rfl⟩ ?_
  obtain rfl := Option.some.inj h
  obtain ⟨rfl, rfl⟩ := Prod.mk.inj (show ((none : Option aV), M) = (r, M') from hN)
  exact xv_rv E B.1 B.2.1 (show decode prog_5_method_1_code 4 = .ok (.return_, 1) by decide +kernel) rfl rfl
end
theorem t1 (G : gX) (l : Launch) {as : List aV} {M : hM} {r : Option aV} {M' : hM} (h : f1 as M = some (r, M')) : xM G l ym1 prog_5_method_1_code 1 none 1 as M r M' := by
  unfold f1 at h
  split at h
  · have h := x_out_ok h
    refine xM_of (by decide) (Nat.le_of_ble_eq_true rfl) (lb1_0 G l _ M h) ?_
    intro p e s m args below meth c E B
    exact sb1_0 E B _ M h rfl
  · cases h
/-! ZF.Port.init(LZF$Shared;II)V -/
def ym2 : MethodName := ⟨"ZonedFabric$Port", "<init>", "(LZonedFabric$Shared;II)V"⟩
theorem cd2 : xCd ym2 prog_10_method_1_code 4 none 3 := ⟨mw13, mw14, by decide, by decide, by decide +kernel⟩
def b2_0 (a0 : Nat) (o1 : Option Nat) (v2 : Int32) (v3 : Int32) (M : hM) : Option xRes :=
  Option.bind (n_o M 3 3) fun M1 =>
  Option.bind (c_V (f1 [.inr (.inr (some (h_sz M)))] M1)) fun q_3 =>
  Option.bind (p_r q_3 8 9 (some a0) (some (h_sz M))) fun M5 =>
  Option.bind (n_o M5 3 3) fun M7 =>
  Option.bind (c_V (f1 [.inr (.inr (some (h_sz M5)))] M7)) fun q_9 =>
  Option.bind (p_r q_9 8 10 (some a0) (some (h_sz M5))) fun M11 =>
  Option.bind (p_i M11 8 11 (some a0) (-1 : Int32)) fun M13 =>
  Option.bind (p_i M13 8 14 (some a0) (-1000 : Int32)) fun M15 =>
  Option.bind (p_r M15 8 0 (some a0) o1) fun M17 =>
  Option.bind (p_i M17 8 1 (some a0) v2) fun M19 =>
  Option.bind (p_i M19 8 2 (some a0) v3) fun M21 =>
  some (.inl (none, M21))
def f2 (as : List aV) (M : hM) : xO := match as with
  | [.inr (.inr (some a0)), .inr (.inr o1), .inl v2, .inl v3] => x_out (b2_0 a0 o1 v2 v3 M)
  | _ => none
theorem lb2_0 (G : gX) (l : Launch) (a0 : Nat) (o1 : Option Nat) (v2 : Int32) (v3 : Int32) (M : hM) {res : xRes} (h : b2_0 a0 o1 v2 v3 M = some res) : h_sz M ≤ r_sz res ∧ h_sl M ≤ r_sl res := by
  unfold b2_0 at h
  obtain ⟨M1, h2, h⟩ := bd h
  have eh2 := n_o_sz h2
  obtain ⟨q_3, h4, h⟩ := bd h
  have eh4 := (t1 G l (c_V_some h4)).1
  obtain ⟨M5, h6, h⟩ := bd h
  have eh6 := p_r_sz h6
  obtain ⟨M7, h8, h⟩ := bd h
  have eh8 := n_o_sz h8
  obtain ⟨q_9, h10, h⟩ := bd h
  have eh10 := (t1 G l (c_V_some h10)).1
  obtain ⟨M11, h12, h⟩ := bd h
  have eh12 := p_r_sz h12
  obtain ⟨M13, h14, h⟩ := bd h
  have eh14 := p_i_sz h14
  obtain ⟨M15, h16, h⟩ := bd h
  have eh16 := p_i_sz h16
  obtain ⟨M17, h18, h⟩ := bd h
  have eh18 := p_r_sz h18
  obtain ⟨M19, h20, h⟩ := bd h
  have eh20 := p_i_sz h20
  obtain ⟨M21, h22, h⟩ := bd h
  have eh22 := p_i_sz h22
  obtain rfl := Option.some.inj h
  show h_sz M ≤ h_sz M21 ∧ h_sl M ≤ h_sl M21
  omega
section
variable {p : Program} {l : Launch} {e : Env} {s : State} {m : MethodId} {args : Array Value} {below : List Frame} {meth : Method} {c : Code} {G : gX} {z0 y0 : Nat} {r : Option aV} {M' : hM}
theorem sb2_0 (E : xE G p (xRm 2 (h_sz M' - z0) (h_sl M' - y0)) s m args c prog_10_method_1_code "ZonedFabric$Port" z0 y0 (h_sz M') (h_sl M') 4) (B : xB ym2 none meth) (a0 : Nat) (o1 : Option Nat) (v2 : Int32) (v3 : Int32) (M : hM) {res : xRes} (h : b2_0 a0 o1 v2 v3 M = some res) (hN : xN (fun _ _ _ => False) r M' res) : xV G p l e (xRm 2 (h_sz M' - z0) (h_sl M' - y0)) s m args below meth c z0 y0 (h_sz M') (h_sl M') 4 (MQ below (xQc G r M') args s (h_sz M' - z0) (h_sl M' - y0) (xFr G)) 0 [(0, .inr (.inr (some a0))), (1, .inr (.inr o1)), (2, .inl v2), (3, .inl v3)] [] M := by
  unfold b2_0 at h
  refine xv_b E [.aload_n 0] (pc' := 1) (lv' := [(0, .inr (.inr (some a0))), (1, .inr (.inr o1)), (2, .inl v2), (3, .inl v3)]) (st' := [.inr (.inr (some a0))]) (by decide +kernel) rfl rfl ?_
  refine xv_co E mw25 mw9 mwObj (show decode prog_10_method_1_code 1 = .ok (.invokespecial 3, 3) by decide +kernel) (Nat.le_of_ble_eq_true rfl) ⟨Nat.le_of_ble_eq_true rfl, Nat.le_of_ble_eq_true rfl⟩ ?_
  refine xv_b E [.aload_n 0] (pc' := 5) (lv' := [(0, .inr (.inr (some a0))), (1, .inr (.inr o1)), (2, .inl v2), (3, .inl v3)]) (st' := [.inr (.inr (some a0))]) (by decide +kernel) rfl rfl ?_
  obtain ⟨M1, h2, h⟩ := bd h
  refine xn_o E 3 h2 rfl mw15 mw16 mw11 (show decode prog_10_method_1_code 5 = .ok (.new 9, 3) by decide +kernel) ?_
  refine xv_b E [.dup] (pc' := 9) (lv' := [(0, .inr (.inr (some a0))), (1, .inr (.inr o1)), (2, .inl v2), (3, .inl v3)]) (st' := [.inr (.inr (some (h_sz M))), .inr (.inr (some (h_sz M))), .inr (.inr (some a0))]) (by decide +kernel) rfl rfl ?_
  obtain ⟨q_3, h4, h⟩ := bd h
  refine xv_ci E (as := []) (t1 G l (c_V_some h4)) cd1 (Or.inr ⟨_, E.2.2.2.2.2.1.2.2.2.1.2.1⟩) mw17 rfl (show decode prog_10_method_1_code 9 = .ok (.invokespecial 11, 3) by decide +kernel) rfl rfl (Nat.le_of_ble_eq_true rfl) ⟨Nat.le_of_ble_eq_true rfl, Nat.le_of_ble_eq_true rfl⟩ ?_
  obtain ⟨M5, h6, h⟩ := bd h
  refine xp_r E 8 9 h6 mw18 (show decode prog_10_method_1_code 12 = .ok (.putfield 12, 3) by decide +kernel) (Or.inr ⟨rfl, B.2.2, rfl⟩) ?_
  refine xv_b E [.aload_n 0] (pc' := 16) (lv' := [(0, .inr (.inr (some a0))), (1, .inr (.inr o1)), (2, .inl v2), (3, .inl v3)]) (st' := [.inr (.inr (some a0))]) (by decide +kernel) rfl rfl ?_
  obtain ⟨M7, h8, h⟩ := bd h
  refine xn_o E 3 h8 rfl mw15 mw16 mw11 (show decode prog_10_method_1_code 16 = .ok (.new 9, 3) by decide +kernel) ?_
  refine xv_b E [.dup] (pc' := 20) (lv' := [(0, .inr (.inr (some a0))), (1, .inr (.inr o1)), (2, .inl v2), (3, .inl v3)]) (st' := [.inr (.inr (some (h_sz M5))), .inr (.inr (some (h_sz M5))), .inr (.inr (some a0))]) (by decide +kernel) rfl rfl ?_
  obtain ⟨q_9, h10, h⟩ := bd h
  refine xv_ci E (as := []) (t1 G l (c_V_some h10)) cd1 (Or.inr ⟨_, E.2.2.2.2.2.1.2.2.2.1.2.1⟩) mw17 rfl (show decode prog_10_method_1_code 20 = .ok (.invokespecial 11, 3) by decide +kernel) rfl rfl (Nat.le_of_ble_eq_true rfl) ⟨Nat.le_of_ble_eq_true rfl, Nat.le_of_ble_eq_true rfl⟩ ?_
  obtain ⟨M11, h12, h⟩ := bd h
  refine xp_r E 8 10 h12 mw19 (show decode prog_10_method_1_code 23 = .ok (.putfield 18, 3) by decide +kernel) (Or.inr ⟨rfl, B.2.2, rfl⟩) ?_
  refine xv_b E [.aload_n 0, .iconst (-1)] (pc' := 28) (lv' := [(0, .inr (.inr (some a0))), (1, .inr (.inr o1)), (2, .inl v2), (3, .inl v3)]) (st' := [.inl (-1 : Int32), .inr (.inr (some a0))]) (by decide +kernel) rfl rfl ?_
  obtain ⟨M13, h14, h⟩ := bd h
  refine xp_i E 8 11 h14 mw20 (show decode prog_10_method_1_code 28 = .ok (.putfield 21, 3) by decide +kernel) (Or.inl rfl) ?_
  refine xv_b E [.aload_n 0, .sipush (-1000)] (pc' := 35) (lv' := [(0, .inr (.inr (some a0))), (1, .inr (.inr o1)), (2, .inl v2), (3, .inl v3)]) (st' := [.inl (-1000 : Int32), .inr (.inr (some a0))]) (by decide +kernel) rfl rfl ?_
  obtain ⟨M15, h16, h⟩ := bd h
  refine xp_i E 8 14 h16 mw21 (show decode prog_10_method_1_code 35 = .ok (.putfield 25, 3) by decide +kernel) (Or.inl rfl) ?_
  refine xv_b E [.aload_n 0, .aload_n 1] (pc' := 40) (lv' := [(0, .inr (.inr (some a0))), (1, .inr (.inr o1)), (2, .inl v2), (3, .inl v3)]) (st' := [.inr (.inr o1), .inr (.inr (some a0))]) (by decide +kernel) rfl rfl ?_
  obtain ⟨M17, h18, h⟩ := bd h
  refine xp_r E 8 0 h18 mw22 (show decode prog_10_method_1_code 40 = .ok (.putfield 28, 3) by decide +kernel) (Or.inr ⟨rfl, B.2.2, rfl⟩) ?_
  refine xv_b E [.aload_n 0, .iload_n 2] (pc' := 45) (lv' := [(0, .inr (.inr (some a0))), (1, .inr (.inr o1)), (2, .inl v2), (3, .inl v3)]) (st' := [.inl v2, .inr (.inr (some a0))]) (by decide +kernel) rfl rfl ?_
  obtain ⟨M19, h20, h⟩ := bd h
  refine xp_i E 8 1 h20 mw23 (show decode prog_10_method_1_code 45 = .ok (.putfield 32, 3) by decide +kernel) (Or.inr ⟨rfl, B.2.2, rfl⟩) ?_
  refine xv_b E [.aload_n 0, .iload_n 3] (pc' := 50) (lv' := [(0, .inr (.inr (some a0))), (1, .inr (.inr o1)), (2, .inl v2), (3, .inl v3)]) (st' := [.inl v3, .inr (.inr (some a0))]) (by decide +kernel) rfl rfl ?_
  obtain ⟨M21, h22, h⟩ := bd h
  refine xp_i E 8 2 h22 mw24 (show decode prog_10_method_1_code 50 = .ok (.putfield 35, 3) by decide +kernel) (Or.inr ⟨rfl, B.2.2, rfl⟩) ?_
  obtain rfl := Option.some.inj h
  obtain ⟨rfl, rfl⟩ := Prod.mk.inj (show ((none : Option aV), M21) = (r, M') from hN)
  exact xv_rv E B.1 B.2.1 (show decode prog_10_method_1_code 53 = .ok (.return_, 1) by decide +kernel) rfl rfl
end
theorem t2 (G : gX) (l : Launch) {as : List aV} {M : hM} {r : Option aV} {M' : hM} (h : f2 as M = some (r, M')) : xM G l ym2 prog_10_method_1_code 4 none 2 as M r M' := by
  unfold f2 at h
  split at h
  · have h := x_out_ok h
    refine xM_of (by decide) (Nat.le_of_ble_eq_true rfl) (lb2_0 G l _ _ _ _ M h) ?_
    intro p e s m args below meth c E B
    exact sb2_0 E B _ _ _ _ M h rfl
  · cases h
/-! ZF.Node.init(LZF$Shared;I)V -/
def ym3 : MethodName := ⟨"ZonedFabric$Node", "<init>", "(LZonedFabric$Shared;I)V"⟩
theorem cd3 : xCd ym3 prog_7_method_1_code 3 none 2 := ⟨mw26, mw27, by decide, by decide, by decide +kernel⟩
def b3_0 (a0 : Nat) (o1 : Option Nat) (v2 : Int32) (M : hM) : Option xRes :=
  Option.bind (p_r M 5 0 (some a0) o1) fun M1 =>
  Option.bind (p_i M1 5 1 (some a0) v2) fun M3 =>
  Option.bind (n_o M3 8 15) fun M5 =>
  Option.bind (c_V (f2 [.inr (.inr (some (h_sz M3))), .inr (.inr o1), .inl ((16 : Int32) + v2), .inl (0 : Int32)] M5)) fun q_7 =>
  Option.bind (p_r q_7 5 2 (some a0) (some (h_sz M3))) fun M9 =>
  some (.inl (none, M9))
def f3 (as : List aV) (M : hM) : xO := match as with
  | [.inr (.inr (some a0)), .inr (.inr o1), .inl v2] => x_out (b3_0 a0 o1 v2 M)
  | _ => none
theorem lb3_0 (G : gX) (l : Launch) (a0 : Nat) (o1 : Option Nat) (v2 : Int32) (M : hM) {res : xRes} (h : b3_0 a0 o1 v2 M = some res) : h_sz M ≤ r_sz res ∧ h_sl M ≤ r_sl res := by
  unfold b3_0 at h
  obtain ⟨M1, h2, h⟩ := bd h
  have eh2 := p_r_sz h2
  obtain ⟨M3, h4, h⟩ := bd h
  have eh4 := p_i_sz h4
  obtain ⟨M5, h6, h⟩ := bd h
  have eh6 := n_o_sz h6
  obtain ⟨q_7, h8, h⟩ := bd h
  have eh8 := (t2 G l (c_V_some h8)).1
  obtain ⟨M9, h10, h⟩ := bd h
  have eh10 := p_r_sz h10
  obtain rfl := Option.some.inj h
  show h_sz M ≤ h_sz M9 ∧ h_sl M ≤ h_sl M9
  omega
section
variable {p : Program} {l : Launch} {e : Env} {s : State} {m : MethodId} {args : Array Value} {below : List Frame} {meth : Method} {c : Code} {G : gX} {z0 y0 : Nat} {r : Option aV} {M' : hM}
theorem sb3_0 (E : xE G p (xRm 3 (h_sz M' - z0) (h_sl M' - y0)) s m args c prog_7_method_1_code "ZonedFabric$Node" z0 y0 (h_sz M') (h_sl M') 3) (B : xB ym3 none meth) (a0 : Nat) (o1 : Option Nat) (v2 : Int32) (M : hM) {res : xRes} (h : b3_0 a0 o1 v2 M = some res) (hN : xN (fun _ _ _ => False) r M' res) : xV G p l e (xRm 3 (h_sz M' - z0) (h_sl M' - y0)) s m args below meth c z0 y0 (h_sz M') (h_sl M') 3 (MQ below (xQc G r M') args s (h_sz M' - z0) (h_sl M' - y0) (xFr G)) 0 [(0, .inr (.inr (some a0))), (1, .inr (.inr o1)), (2, .inl v2)] [] M := by
  unfold b3_0 at h
  refine xv_b E [.aload_n 0] (pc' := 1) (lv' := [(0, .inr (.inr (some a0))), (1, .inr (.inr o1)), (2, .inl v2)]) (st' := [.inr (.inr (some a0))]) (by decide +kernel) rfl rfl ?_
  refine xv_co E mw35 mw9 mwObj (show decode prog_7_method_1_code 1 = .ok (.invokespecial 3, 3) by decide +kernel) (Nat.le_of_ble_eq_true rfl) ⟨Nat.le_of_ble_eq_true rfl, Nat.le_of_ble_eq_true rfl⟩ ?_
  refine xv_b E [.aload_n 0, .aload_n 1] (pc' := 6) (lv' := [(0, .inr (.inr (some a0))), (1, .inr (.inr o1)), (2, .inl v2)]) (st' := [.inr (.inr o1), .inr (.inr (some a0))]) (by decide +kernel) rfl rfl ?_
  obtain ⟨M1, h2, h⟩ := bd h
  refine xp_r E 5 0 h2 mw28 (show decode prog_7_method_1_code 6 = .ok (.putfield 9, 3) by decide +kernel) (Or.inr ⟨rfl, B.2.2, rfl⟩) ?_
  refine xv_b E [.aload_n 0, .iload_n 2] (pc' := 11) (lv' := [(0, .inr (.inr (some a0))), (1, .inr (.inr o1)), (2, .inl v2)]) (st' := [.inl v2, .inr (.inr (some a0))]) (by decide +kernel) rfl rfl ?_
  obtain ⟨M3, h4, h⟩ := bd h
  refine xp_i E 5 1 h4 mw29 (show decode prog_7_method_1_code 11 = .ok (.putfield 15, 3) by decide +kernel) (Or.inr ⟨rfl, B.2.2, rfl⟩) ?_
  refine xv_b E [.aload_n 0] (pc' := 15) (lv' := [(0, .inr (.inr (some a0))), (1, .inr (.inr o1)), (2, .inl v2)]) (st' := [.inr (.inr (some a0))]) (by decide +kernel) rfl rfl ?_
  obtain ⟨M5, h6, h⟩ := bd h
  refine xn_o E 8 h6 rfl mw30 mw31 mw14 (show decode prog_7_method_1_code 15 = .ok (.new 19, 3) by decide +kernel) ?_
  refine xv_b E [.dup, .aload_n 1, .bipush 16, .iload_n 2, .iadd, .iconst 0] (pc' := 25) (lv' := [(0, .inr (.inr (some a0))), (1, .inr (.inr o1)), (2, .inl v2)]) (st' := [.inl (0 : Int32), .inl ((16 : Int32) + v2), .inr (.inr o1), .inr (.inr (some (h_sz M3))), .inr (.inr (some (h_sz M3))), .inr (.inr (some a0))]) (by decide +kernel) rfl rfl ?_
  obtain ⟨q_7, h8, h⟩ := bd h
  refine xv_ci E (as := [.inr (.inr o1), .inl ((16 : Int32) + v2), .inl (0 : Int32)]) (t2 G l (c_V_some h8)) cd2 (Or.inl mw32) mw33 rfl (show decode prog_7_method_1_code 25 = .ok (.invokespecial 21, 3) by decide +kernel) rfl rfl (Nat.le_of_ble_eq_true rfl) ⟨Nat.le_of_ble_eq_true rfl, Nat.le_of_ble_eq_true rfl⟩ ?_
  obtain ⟨M9, h10, h⟩ := bd h
  refine xp_r E 5 2 h10 mw34 (show decode prog_7_method_1_code 28 = .ok (.putfield 24, 3) by decide +kernel) (Or.inr ⟨rfl, B.2.2, rfl⟩) ?_
  obtain rfl := Option.some.inj h
  obtain ⟨rfl, rfl⟩ := Prod.mk.inj (show ((none : Option aV), M9) = (r, M') from hN)
  exact xv_rv E B.1 B.2.1 (show decode prog_7_method_1_code 31 = .ok (.return_, 1) by decide +kernel) rfl rfl
end
theorem t3 (G : gX) (l : Launch) {as : List aV} {M : hM} {r : Option aV} {M' : hM} (h : f3 as M = some (r, M')) : xM G l ym3 prog_7_method_1_code 3 none 3 as M r M' := by
  unfold f3 at h
  split at h
  · have h := x_out_ok h
    refine xM_of (by decide) (Nat.le_of_ble_eq_true rfl) (lb3_0 G l _ _ _ M h) ?_
    intro p e s m args below meth c E B
    exact sb3_0 E B _ _ _ M h rfl
  · cases h
/-! ZF.Host.init(LZF$Shared;LZF$Node;)V -/
def ym4 : MethodName := ⟨"ZonedFabric$Host", "<init>", "(LZonedFabric$Shared;LZonedFabric$Node;)V"⟩
theorem cd4 : xCd ym4 prog_6_method_1_code 3 none 2 := ⟨mw36, mw37, by decide, by decide, by decide +kernel⟩
def b4_0 (a0 : Nat) (o1 : Option Nat) (o2 : Option Nat) (M : hM) : Option xRes :=
  Option.bind (n_a M 30 (4 : Int32)) fun M1 =>
  Option.bind (p_r M1 4 4 (some a0) (some (h_sz M))) fun M3 =>
  Option.bind (p_r M3 4 0 (some a0) o1) fun M5 =>
  Option.bind (p_r M5 4 1 (some a0) o2) fun M7 =>
  Option.bind (g_i M7 9 1 o1) fun v_9 =>
  Option.bind (n_a M7 20 v_9) fun M11 =>
  Option.bind (p_r M11 4 3 (some a0) (some (h_sz M7))) fun M13 =>
  some (.inl (none, M13))
def f4 (as : List aV) (M : hM) : xO := match as with
  | [.inr (.inr (some a0)), .inr (.inr o1), .inr (.inr o2)] => x_out (b4_0 a0 o1 o2 M)
  | _ => none
theorem lb4_0 (G : gX) (l : Launch) (a0 : Nat) (o1 : Option Nat) (o2 : Option Nat) (M : hM) {res : xRes} (h : b4_0 a0 o1 o2 M = some res) : h_sz M ≤ r_sz res ∧ h_sl M ≤ r_sl res := by
  unfold b4_0 at h
  obtain ⟨M1, h2, h⟩ := bd h
  have eh2 := n_a_sz h2
  obtain ⟨M3, h4, h⟩ := bd h
  have eh4 := p_r_sz h4
  obtain ⟨M5, h6, h⟩ := bd h
  have eh6 := p_r_sz h6
  obtain ⟨M7, h8, h⟩ := bd h
  have eh8 := p_r_sz h8
  obtain ⟨v_9, h10, h⟩ := bd h
  obtain ⟨M11, h12, h⟩ := bd h
  have eh12 := n_a_sz h12
  obtain ⟨M13, h14, h⟩ := bd h
  have eh14 := p_r_sz h14
  obtain rfl := Option.some.inj h
  show h_sz M ≤ h_sz M13 ∧ h_sl M ≤ h_sl M13
  omega
section
variable {p : Program} {l : Launch} {e : Env} {s : State} {m : MethodId} {args : Array Value} {below : List Frame} {meth : Method} {c : Code} {G : gX} {z0 y0 : Nat} {r : Option aV} {M' : hM}
theorem sb4_0 (E : xE G p (xRm 1 (h_sz M' - z0) (h_sl M' - y0)) s m args c prog_6_method_1_code "ZonedFabric$Host" z0 y0 (h_sz M') (h_sl M') 3) (B : xB ym4 none meth) (a0 : Nat) (o1 : Option Nat) (o2 : Option Nat) (M : hM) {res : xRes} (h : b4_0 a0 o1 o2 M = some res) (hN : xN (fun _ _ _ => False) r M' res) : xV G p l e (xRm 1 (h_sz M' - z0) (h_sl M' - y0)) s m args below meth c z0 y0 (h_sz M') (h_sl M') 3 (MQ below (xQc G r M') args s (h_sz M' - z0) (h_sl M' - y0) (xFr G)) 0 [(0, .inr (.inr (some a0))), (1, .inr (.inr o1)), (2, .inr (.inr o2))] [] M := by
  unfold b4_0 at h
  refine xv_b E [.aload_n 0] (pc' := 1) (lv' := [(0, .inr (.inr (some a0))), (1, .inr (.inr o1)), (2, .inr (.inr o2))]) (st' := [.inr (.inr (some a0))]) (by decide +kernel) rfl rfl ?_
  refine xv_co E mw44 mw9 mwObj (show decode prog_6_method_1_code 1 = .ok (.invokespecial 3, 3) by decide +kernel) (Nat.le_of_ble_eq_true rfl) ⟨Nat.le_of_ble_eq_true rfl, Nat.le_of_ble_eq_true rfl⟩ ?_
  refine xv_b E [.aload_n 0, .iconst 4] (pc' := 6) (lv' := [(0, .inr (.inr (some a0))), (1, .inr (.inr o1)), (2, .inr (.inr o2))]) (st' := [.inl (4 : Int32), .inr (.inr (some a0))]) (by decide +kernel) rfl rfl ?_
  obtain ⟨M1, h2, h⟩ := bd h
  refine xn_q E 0 h2 mw38 E.2.2.2.2.2.1.2.1.1 (show decode prog_6_method_1_code 6 = .ok (.anewarray 9, 3) by decide +kernel) ?_
  obtain ⟨M3, h4, h⟩ := bd h
  refine xp_r E 4 4 h4 mw39 (show decode prog_6_method_1_code 9 = .ok (.putfield 11, 3) by decide +kernel) (Or.inr ⟨rfl, B.2.2, rfl⟩) ?_
  refine xv_b E [.aload_n 0, .aload_n 1] (pc' := 14) (lv' := [(0, .inr (.inr (some a0))), (1, .inr (.inr o1)), (2, .inr (.inr o2))]) (st' := [.inr (.inr o1), .inr (.inr (some a0))]) (by decide +kernel) rfl rfl ?_
  obtain ⟨M5, h6, h⟩ := bd h
  refine xp_r E 4 0 h6 mw40 (show decode prog_6_method_1_code 14 = .ok (.putfield 17, 3) by decide +kernel) (Or.inr ⟨rfl, B.2.2, rfl⟩) ?_
  refine xv_b E [.aload_n 0, .aload_n 2] (pc' := 19) (lv' := [(0, .inr (.inr (some a0))), (1, .inr (.inr o1)), (2, .inr (.inr o2))]) (st' := [.inr (.inr o2), .inr (.inr (some a0))]) (by decide +kernel) rfl rfl ?_
  obtain ⟨M7, h8, h⟩ := bd h
  refine xp_r E 4 1 h8 mw41 (show decode prog_6_method_1_code 19 = .ok (.putfield 21, 3) by decide +kernel) (Or.inr ⟨rfl, B.2.2, rfl⟩) ?_
  refine xv_b E [.aload_n 0, .aload_n 1] (pc' := 24) (lv' := [(0, .inr (.inr (some a0))), (1, .inr (.inr o1)), (2, .inr (.inr o2))]) (st' := [.inr (.inr o1), .inr (.inr (some a0))]) (by decide +kernel) rfl rfl ?_
  obtain ⟨v_9, h10, h⟩ := bd h
  refine xg_i E 9 1 h10 mw42 (show decode prog_6_method_1_code 24 = .ok (.getfield 25, 3) by decide +kernel) ?_
  obtain ⟨M11, h12, h⟩ := bd h
  refine xn_a E 20 h12 mw2 (show decode prog_6_method_1_code 27 = .ok (.newarray .int, 2) by decide +kernel) ?_
  obtain ⟨M13, h14, h⟩ := bd h
  refine xp_r E 4 3 h14 mw43 (show decode prog_6_method_1_code 29 = .ok (.putfield 31, 3) by decide +kernel) (Or.inr ⟨rfl, B.2.2, rfl⟩) ?_
  obtain rfl := Option.some.inj h
  obtain ⟨rfl, rfl⟩ := Prod.mk.inj (show ((none : Option aV), M13) = (r, M') from hN)
  exact xv_rv E B.1 B.2.1 (show decode prog_6_method_1_code 32 = .ok (.return_, 1) by decide +kernel) rfl rfl
end
theorem t4 (G : gX) (l : Launch) {as : List aV} {M : hM} {r : Option aV} {M' : hM} (h : f4 as M = some (r, M')) : xM G l ym4 prog_6_method_1_code 3 none 1 as M r M' := by
  unfold f4 at h
  split at h
  · have h := x_out_ok h
    refine xM_of (by decide) (Nat.le_of_ble_eq_true rfl) (lb4_0 G l _ _ _ M h) ?_
    intro p e s m args below meth c E B
    exact sb4_0 E B _ _ _ M h rfl
  · cases h
/-! ZF.Notice.init()V -/
def ym5 : MethodName := ⟨"ZonedFabric$Notice", "<init>", "()V"⟩
theorem cd5 : xCd ym5 prog_8_method_1_code 1 none 0 := ⟨mw45, mw46, by decide, by decide, by decide +kernel⟩
def b5_0 (a0 : Nat) (M : hM) : Option xRes :=
  Option.bind (n_a M 21 (31 : Int32)) fun M1 =>
  Option.bind (p_r M1 6 0 (some a0) (some (h_sz M))) fun M3 =>
  some (.inl (none, M3))
def f5 (as : List aV) (M : hM) : xO := match as with
  | [.inr (.inr (some a0))] => x_out (b5_0 a0 M)
  | _ => none
theorem lb5_0 (G : gX) (l : Launch) (a0 : Nat) (M : hM) {res : xRes} (h : b5_0 a0 M = some res) : h_sz M ≤ r_sz res ∧ h_sl M ≤ r_sl res := by
  unfold b5_0 at h
  obtain ⟨M1, h2, h⟩ := bd h
  have eh2 := n_a_sz h2
  obtain ⟨M3, h4, h⟩ := bd h
  have eh4 := p_r_sz h4
  obtain rfl := Option.some.inj h
  show h_sz M ≤ h_sz M3 ∧ h_sl M ≤ h_sl M3
  omega
section
variable {p : Program} {l : Launch} {e : Env} {s : State} {m : MethodId} {args : Array Value} {below : List Frame} {meth : Method} {c : Code} {G : gX} {z0 y0 : Nat} {r : Option aV} {M' : hM}
theorem sb5_0 (E : xE G p (xRm 1 (h_sz M' - z0) (h_sl M' - y0)) s m args c prog_8_method_1_code "ZonedFabric$Notice" z0 y0 (h_sz M') (h_sl M') 1) (B : xB ym5 none meth) (a0 : Nat) (M : hM) {res : xRes} (h : b5_0 a0 M = some res) (hN : xN (fun _ _ _ => False) r M' res) : xV G p l e (xRm 1 (h_sz M' - z0) (h_sl M' - y0)) s m args below meth c z0 y0 (h_sz M') (h_sl M') 1 (MQ below (xQc G r M') args s (h_sz M' - z0) (h_sl M' - y0) (xFr G)) 0 [(0, .inr (.inr (some a0)))] [] M := by
  unfold b5_0 at h
  refine xv_b E [.aload_n 0] (pc' := 1) (lv' := [(0, .inr (.inr (some a0)))]) (st' := [.inr (.inr (some a0))]) (by decide +kernel) rfl rfl ?_
  refine xv_co E mw49 mw9 mwObj (show decode prog_8_method_1_code 1 = .ok (.invokespecial 3, 3) by decide +kernel) (Nat.le_of_ble_eq_true rfl) ⟨Nat.le_of_ble_eq_true rfl, Nat.le_of_ble_eq_true rfl⟩ ?_
  refine xv_b E [.aload_n 0, .bipush 31] (pc' := 7) (lv' := [(0, .inr (.inr (some a0)))]) (st' := [.inl (31 : Int32), .inr (.inr (some a0))]) (by decide +kernel) rfl rfl ?_
  obtain ⟨M1, h2, h⟩ := bd h
  refine xn_a E 21 h2 mw47 (show decode prog_8_method_1_code 7 = .ok (.newarray .byte, 2) by decide +kernel) ?_
  obtain ⟨M3, h4, h⟩ := bd h
  refine xp_r E 6 0 h4 mw48 (show decode prog_8_method_1_code 9 = .ok (.putfield 9, 3) by decide +kernel) (Or.inr ⟨rfl, B.2.2, rfl⟩) ?_
  obtain rfl := Option.some.inj h
  obtain ⟨rfl, rfl⟩ := Prod.mk.inj (show ((none : Option aV), M3) = (r, M') from hN)
  exact xv_rv E B.1 B.2.1 (show decode prog_8_method_1_code 12 = .ok (.return_, 1) by decide +kernel) rfl rfl
end
theorem t5 (G : gX) (l : Launch) {as : List aV} {M : hM} {r : Option aV} {M' : hM} (h : f5 as M = some (r, M')) : xM G l ym5 prog_8_method_1_code 1 none 1 as M r M' := by
  unfold f5 at h
  split at h
  · have h := x_out_ok h
    refine xM_of (by decide) (Nat.le_of_ble_eq_true rfl) (lb5_0 G l _ M h) ?_
    intro p e s m args below meth c E B
    exact sb5_0 E B _ M h rfl
  · cases h
/-! ZF.Switch.init(LZF$Shared;I)V -/
def ym6 : MethodName := ⟨"ZonedFabric$Switch", "<init>", "(LZonedFabric$Shared;I)V"⟩
theorem cd6 : xCd ym6 prog_12_method_1_code 5 none 2 := ⟨mw50, mw51, by decide, by decide, by decide +kernel⟩
def b6_0 (a0 : Nat) (o1 : Option Nat) (v2 : Int32) (M : hM) : Option xRes :=
  Option.bind (n_a M 38 (8 : Int32)) fun M1 =>
  Option.bind (p_r M1 10 2 (some a0) (some (h_sz M))) fun M3 =>
  Option.bind (n_o M3 6 3) fun M5 =>
  Option.bind (c_V (f5 [.inr (.inr (some (h_sz M3)))] M5)) fun q_7 =>
  Option.bind (p_r q_7 10 5 (some a0) (some (h_sz M3))) fun M9 =>
  Option.bind (n_a M9 20 (16 : Int32)) fun M11 =>
  Option.bind (p_r M11 10 9 (some a0) (some (h_sz M9))) fun M13 =>
  Option.bind (g_i M13 9 0 o1) fun v_15 =>
  Option.bind (p_r M13 10 0 (some a0) o1) fun M17 =>
  Option.bind (p_i M17 10 1 (some a0) v2) fun M19 =>
  Option.bind (p_i M19 10 3 (some a0) (v2 + (1 : Int32))) fun M21 =>
  Option.bind (n_a M21 36 v_15) fun M23 =>
  Option.bind (p_r M23 10 4 (some a0) (some (h_sz M21))) fun M25 =>
  Option.bind (n_m M25 v_15 v_15) fun M27 =>
  Option.bind (p_r M27 10 6 (some a0) (some (h_sz M25))) fun M29 =>
  Option.bind (n_m M29 v_15 v_15) fun M31 =>
  Option.bind (p_r M31 10 7 (some a0) (some (h_sz M29))) fun M33 =>
  Option.bind (n_a M33 20 v_15) fun M35 =>
  Option.bind (p_r M35 10 8 (some a0) (some (h_sz M33))) fun M37 =>
  some (.inr (92, [.inr (.inr (some a0)), .inr (.inr o1), .inl v2, .inl v_15, .inl (0 : Int32)], M37))
def b6_92 (a0 : Nat) (o1 : Option Nat) (v2 : Int32) (v3 : Int32) (v4 : Int32) (M : hM) : Option xRes :=
  if v3 ≤ v4 then
    (some (.inr (129, [.inr (.inr (some a0)), .inr (.inr o1), .inl v2, .inl (0 : Int32)], M)))
  else
    (Option.bind (g_r M 10 4 (some a0)) fun o_39 =>
    Option.bind (n_o M 6 3) fun M41 =>
    Option.bind (c_V (f5 [.inr (.inr (some (h_sz M)))] M41)) fun q_43 =>
    Option.bind (as_r q_43 6 o_39 v4 (some (h_sz M))) fun M45 =>
    Option.bind (g_r M45 10 8 (some a0)) fun o_47 =>
    Option.bind (as_i M45 20 o_47 v4 (-1 : Int32)) fun M49 =>
    some (.inr (92, [.inr (.inr (some a0)), .inr (.inr o1), .inl v2, .inl v3, .inl (v4 + (1 : Int32))], M49)))
def b6_129 (a0 : Nat) (o1 : Option Nat) (v2 : Int32) (v4 : Int32) (M : hM) : Option xRes :=
  Option.bind (g_r M 10 9 (some a0)) fun o_52 =>
  Option.bind (a_ln M 20 o_52) fun v_54 =>
  if v_54 ≤ v4 then
    (some (.inr (156, [.inr (.inr (some a0)), .inr (.inr o1), .inl v2, .inl (0 : Int32)], M)))
  else
    (Option.bind (g_r M 10 9 (some a0)) fun o_56 =>
    Option.bind (as_i M 20 o_56 v4 (-1 : Int32)) fun M58 =>
    some (.inr (129, [.inr (.inr (some a0)), .inr (.inr o1), .inl v2, .inl (v4 + (1 : Int32))], M58)))
def b6_156 (a0 : Nat) (o1 : Option Nat) (v2 : Int32) (v4 : Int32) (M : hM) : Option xRes :=
  if (8 : Int32) ≤ v4 then
    (some (.inl (none, M)))
  else
    (Option.bind (g_r M 10 2 (some a0)) fun o_61 =>
    Option.bind (n_o M 8 15) fun M63 =>
    Option.bind (c_V (f2 [.inr (.inr (some (h_sz M))), .inr (.inr o1), .inl v2, .inl v4] M63)) fun q_65 =>
    Option.bind (as_r q_65 8 o_61 v4 (some (h_sz M))) fun M67 =>
    some (.inr (156, [.inr (.inr (some a0)), .inr (.inr o1), .inl v2, .inl (v4 + (1 : Int32))], M67)))
def k6 (h : Nat) (as : List aV) (M : hM) : Option xRes :=
  if h = 92 then (match as with | [.inr (.inr (some a0)), .inr (.inr o1), .inl v2, .inl v3, .inl v4] => b6_92 a0 o1 v2 v3 v4 M | _ => none) else
  if h = 129 then (match as with | [.inr (.inr (some a0)), .inr (.inr o1), .inl v2, .inl v4] => b6_129 a0 o1 v2 v4 M | _ => none) else
  if h = 156 then (match as with | [.inr (.inr (some a0)), .inr (.inr o1), .inl v2, .inl v4] => b6_156 a0 o1 v2 v4 M | _ => none) else
  none
def f6 (as : List aV) (M : hM) : xO := match as with
  | [.inr (.inr (some a0)), .inr (.inr o1), .inl v2] => x_go k6 (b6_0 a0 o1 v2 M)
  | _ => none
theorem lb6_0 (G : gX) (l : Launch) (a0 : Nat) (o1 : Option Nat) (v2 : Int32) (M : hM) {res : xRes} (h : b6_0 a0 o1 v2 M = some res) : h_sz M ≤ r_sz res ∧ h_sl M ≤ r_sl res := by
  unfold b6_0 at h
  obtain ⟨M1, h2, h⟩ := bd h
  have eh2 := n_a_sz h2
  obtain ⟨M3, h4, h⟩ := bd h
  have eh4 := p_r_sz h4
  obtain ⟨M5, h6, h⟩ := bd h
  have eh6 := n_o_sz h6
  obtain ⟨q_7, h8, h⟩ := bd h
  have eh8 := (t5 G l (c_V_some h8)).1
  obtain ⟨M9, h10, h⟩ := bd h
  have eh10 := p_r_sz h10
  obtain ⟨M11, h12, h⟩ := bd h
  have eh12 := n_a_sz h12
  obtain ⟨M13, h14, h⟩ := bd h
  have eh14 := p_r_sz h14
  obtain ⟨v_15, h16, h⟩ := bd h
  obtain ⟨M17, h18, h⟩ := bd h
  have eh18 := p_r_sz h18
  obtain ⟨M19, h20, h⟩ := bd h
  have eh20 := p_i_sz h20
  obtain ⟨M21, h22, h⟩ := bd h
  have eh22 := p_i_sz h22
  obtain ⟨M23, h24, h⟩ := bd h
  have eh24 := n_a_sz h24
  obtain ⟨M25, h26, h⟩ := bd h
  have eh26 := p_r_sz h26
  obtain ⟨M27, h28, h⟩ := bd h
  have eh28 := n_m_sz h28
  obtain ⟨M29, h30, h⟩ := bd h
  have eh30 := p_r_sz h30
  obtain ⟨M31, h32, h⟩ := bd h
  have eh32 := n_m_sz h32
  obtain ⟨M33, h34, h⟩ := bd h
  have eh34 := p_r_sz h34
  obtain ⟨M35, h36, h⟩ := bd h
  have eh36 := n_a_sz h36
  obtain ⟨M37, h38, h⟩ := bd h
  have eh38 := p_r_sz h38
  obtain rfl := Option.some.inj h
  show h_sz M ≤ h_sz M37 ∧ h_sl M ≤ h_sl M37
  omega
theorem lb6_92 (G : gX) (l : Launch) (a0 : Nat) (o1 : Option Nat) (v2 : Int32) (v3 : Int32) (v4 : Int32) (M : hM) {res : xRes} (h : b6_92 a0 o1 v2 v3 v4 M = some res) : h_sz M ≤ r_sz res ∧ h_sl M ≤ r_sl res := by
  unfold b6_92 at h
  by_cases q51 : v3 ≤ v4
  · rw [if_pos q51] at h
    obtain rfl := Option.some.inj h
    show h_sz M ≤ h_sz M ∧ h_sl M ≤ h_sl M
    omega
  · rw [if_neg q51] at h
    obtain ⟨o_39, h40, h⟩ := bd h
    obtain ⟨M41, h42, h⟩ := bd h
    have eh42 := n_o_sz h42
    obtain ⟨q_43, h44, h⟩ := bd h
    have eh44 := (t5 G l (c_V_some h44)).1
    obtain ⟨M45, h46, h⟩ := bd h
    have eh46 := as_r_sz h46
    obtain ⟨o_47, h48, h⟩ := bd h
    obtain ⟨M49, h50, h⟩ := bd h
    have eh50 := as_i_sz h50
    obtain rfl := Option.some.inj h
    show h_sz M ≤ h_sz M49 ∧ h_sl M ≤ h_sl M49
    omega
theorem lb6_129 (G : gX) (l : Launch) (a0 : Nat) (o1 : Option Nat) (v2 : Int32) (v4 : Int32) (M : hM) {res : xRes} (h : b6_129 a0 o1 v2 v4 M = some res) : h_sz M ≤ r_sz res ∧ h_sl M ≤ r_sl res := by
  unfold b6_129 at h
  obtain ⟨o_52, h53, h⟩ := bd h
  obtain ⟨v_54, h55, h⟩ := bd h
  by_cases q60 : v_54 ≤ v4
  · rw [if_pos q60] at h
    obtain rfl := Option.some.inj h
    show h_sz M ≤ h_sz M ∧ h_sl M ≤ h_sl M
    omega
  · rw [if_neg q60] at h
    obtain ⟨o_56, h57, h⟩ := bd h
    obtain ⟨M58, h59, h⟩ := bd h
    have eh59 := as_i_sz h59
    obtain rfl := Option.some.inj h
    show h_sz M ≤ h_sz M58 ∧ h_sl M ≤ h_sl M58
    omega
theorem lb6_156 (G : gX) (l : Launch) (a0 : Nat) (o1 : Option Nat) (v2 : Int32) (v4 : Int32) (M : hM) {res : xRes} (h : b6_156 a0 o1 v2 v4 M = some res) : h_sz M ≤ r_sz res ∧ h_sl M ≤ r_sl res := by
  unfold b6_156 at h
  by_cases q69 : (8 : Int32) ≤ v4
  · rw [if_pos q69] at h
    obtain rfl := Option.some.inj h
    show h_sz M ≤ h_sz M ∧ h_sl M ≤ h_sl M
    omega
  · rw [if_neg q69] at h
    obtain ⟨o_61, h62, h⟩ := bd h
    obtain ⟨M63, h64, h⟩ := bd h
    have eh64 := n_o_sz h64
    obtain ⟨q_65, h66, h⟩ := bd h
    have eh66 := (t2 G l (c_V_some h66)).1
    obtain ⟨M67, h68, h⟩ := bd h
    have eh68 := as_r_sz h68
    obtain rfl := Option.some.inj h
    show h_sz M ≤ h_sz M67 ∧ h_sl M ≤ h_sl M67
    omega
section
variable {p : Program} {l : Launch} {e : Env} {s : State} {m : MethodId} {args : Array Value} {below : List Frame} {meth : Method} {c : Code} {G : gX} {z0 y0 : Nat} {r : Option aV} {M' : hM}
def pg6 (p : Program) (l : Launch) (e : Env) (s : State) (m : MethodId) (args : Array Value) (below : List Frame) (meth : Method) (c : Code) (G : gX) (z0 y0 : Nat) (r : Option aV) (M' : hM) (h : Nat) (as : List aV) (M : hM) : Prop :=
  if h = 92 then (match as with | [.inr (.inr (some a0)), .inr (.inr o1), .inl v2, .inl v3, .inl v4] => xV G p l e (xRm 3 (h_sz M' - z0) (h_sl M' - y0)) s m args below meth c z0 y0 (h_sz M') (h_sl M') 5 (MQ below (xQc G r M') args s (h_sz M' - z0) (h_sl M' - y0) (xFr G)) 92 [(0, .inr (.inr (some a0))), (1, .inr (.inr o1)), (2, .inl v2), (3, .inl v3), (4, .inl v4)] [] M | _ => False) else
  if h = 129 then (match as with | [.inr (.inr (some a0)), .inr (.inr o1), .inl v2, .inl v4] => xV G p l e (xRm 3 (h_sz M' - z0) (h_sl M' - y0)) s m args below meth c z0 y0 (h_sz M') (h_sl M') 5 (MQ below (xQc G r M') args s (h_sz M' - z0) (h_sl M' - y0) (xFr G)) 129 [(0, .inr (.inr (some a0))), (1, .inr (.inr o1)), (2, .inl v2), (4, .inl v4)] [] M | _ => False) else
  if h = 156 then (match as with | [.inr (.inr (some a0)), .inr (.inr o1), .inl v2, .inl v4] => xV G p l e (xRm 3 (h_sz M' - z0) (h_sl M' - y0)) s m args below meth c z0 y0 (h_sz M') (h_sl M') 5 (MQ below (xQc G r M') args s (h_sz M' - z0) (h_sl M' - y0) (xFr G)) 156 [(0, .inr (.inr (some a0))), (1, .inr (.inr o1)), (2, .inl v2), (4, .inl v4)] [] M | _ => False) else
  False
theorem sb6_0 (E : xE G p (xRm 3 (h_sz M' - z0) (h_sl M' - y0)) s m args c prog_12_method_1_code "ZonedFabric$Switch" z0 y0 (h_sz M') (h_sl M') 5) (B : xB ym6 none meth) (a0 : Nat) (o1 : Option Nat) (v2 : Int32) (M : hM) {res : xRes} (h : b6_0 a0 o1 v2 M = some res) (hN : xN (pg6 p l e s m args below meth c G z0 y0 r M') r M' res) : xV G p l e (xRm 3 (h_sz M' - z0) (h_sl M' - y0)) s m args below meth c z0 y0 (h_sz M') (h_sl M') 5 (MQ below (xQc G r M') args s (h_sz M' - z0) (h_sl M' - y0) (xFr G)) 0 [(0, .inr (.inr (some a0))), (1, .inr (.inr o1)), (2, .inl v2)] [] M := by
  unfold b6_0 at h
  refine xv_b E [.aload_n 0] (pc' := 1) (lv' := [(0, .inr (.inr (some a0))), (1, .inr (.inr o1)), (2, .inl v2)]) (st' := [.inr (.inr (some a0))]) (by decide +kernel) rfl rfl ?_
  refine xv_co E mw68 mw9 mwObj (show decode prog_12_method_1_code 1 = .ok (.invokespecial 3, 3) by decide +kernel) (Nat.le_of_ble_eq_true rfl) ⟨Nat.le_of_ble_eq_true rfl, Nat.le_of_ble_eq_true rfl⟩ ?_
  refine xv_b E [.aload_n 0, .bipush 8] (pc' := 7) (lv' := [(0, .inr (.inr (some a0))), (1, .inr (.inr o1)), (2, .inl v2)]) (st' := [.inl (8 : Int32), .inr (.inr (some a0))]) (by decide +kernel) rfl rfl ?_
  obtain ⟨M1, h2, h⟩ := bd h
  refine xn_q E 8 h2 mw52 E.2.2.2.2.2.1.2.1.2.2.2.2.1 (show decode prog_12_method_1_code 7 = .ok (.anewarray 9, 3) by decide +kernel) ?_
  obtain ⟨M3, h4, h⟩ := bd h
  refine xp_r E 10 2 h4 mw53 (show decode prog_12_method_1_code 10 = .ok (.putfield 11, 3) by decide +kernel) (Or.inr ⟨rfl, B.2.2, rfl⟩) ?_
  refine xv_b E [.aload_n 0] (pc' := 14) (lv' := [(0, .inr (.inr (some a0))), (1, .inr (.inr o1)), (2, .inl v2)]) (st' := [.inr (.inr (some a0))]) (by decide +kernel) rfl rfl ?_
  obtain ⟨M5, h6, h⟩ := bd h
  refine xn_o E 6 h6 rfl mw54 mw55 mw46 (show decode prog_12_method_1_code 14 = .ok (.new 17, 3) by decide +kernel) ?_
  refine xv_b E [.dup] (pc' := 18) (lv' := [(0, .inr (.inr (some a0))), (1, .inr (.inr o1)), (2, .inl v2)]) (st' := [.inr (.inr (some (h_sz M3))), .inr (.inr (some (h_sz M3))), .inr (.inr (some a0))]) (by decide +kernel) rfl rfl ?_
  obtain ⟨q_7, h8, h⟩ := bd h
  refine xv_ci E (as := []) (t5 G l (c_V_some h8)) cd5 (Or.inr ⟨_, E.2.2.2.2.2.1.2.2.2.1.1⟩) mw56 rfl (show decode prog_12_method_1_code 18 = .ok (.invokespecial 19, 3) by decide +kernel) rfl rfl (Nat.le_of_ble_eq_true rfl) ⟨Nat.le_of_ble_eq_true rfl, Nat.le_of_ble_eq_true rfl⟩ ?_
  obtain ⟨M9, h10, h⟩ := bd h
  refine xp_r E 10 5 h10 mw57 (show decode prog_12_method_1_code 21 = .ok (.putfield 20, 3) by decide +kernel) (Or.inl rfl) ?_
  refine xv_b E [.aload_n 0, .bipush 16] (pc' := 27) (lv' := [(0, .inr (.inr (some a0))), (1, .inr (.inr o1)), (2, .inl v2)]) (st' := [.inl (16 : Int32), .inr (.inr (some a0))]) (by decide +kernel) rfl rfl ?_
  obtain ⟨M11, h12, h⟩ := bd h
  refine xn_a E 20 h12 mw2 (show decode prog_12_method_1_code 27 = .ok (.newarray .int, 2) by decide +kernel) ?_
  obtain ⟨M13, h14, h⟩ := bd h
  refine xp_r E 10 9 h14 mw58 (show decode prog_12_method_1_code 29 = .ok (.putfield 24, 3) by decide +kernel) (Or.inr ⟨rfl, B.2.2, rfl⟩) ?_
  refine xv_b E [.aload_n 1] (pc' := 33) (lv' := [(0, .inr (.inr (some a0))), (1, .inr (.inr o1)), (2, .inl v2)]) (st' := [.inr (.inr o1)]) (by decide +kernel) rfl rfl ?_
  obtain ⟨v_15, h16, h⟩ := bd h
  refine xg_i E 9 0 h16 mw59 (show decode prog_12_method_1_code 33 = .ok (.getfield 28, 3) by decide +kernel) ?_
  refine xv_b E [.istore_n 3, .aload_n 0, .aload_n 1] (pc' := 39) (lv' := [(3, .inl v_15), (0, .inr (.inr (some a0))), (1, .inr (.inr o1)), (2, .inl v2)]) (st' := [.inr (.inr o1), .inr (.inr (some a0))]) (by decide +kernel) rfl rfl ?_
  obtain ⟨M17, h18, h⟩ := bd h
  refine xp_r E 10 0 h18 mw60 (show decode prog_12_method_1_code 39 = .ok (.putfield 34, 3) by decide +kernel) (Or.inr ⟨rfl, B.2.2, rfl⟩) ?_
  refine xv_b E [.aload_n 0, .iload_n 2] (pc' := 44) (lv' := [(3, .inl v_15), (0, .inr (.inr (some a0))), (1, .inr (.inr o1)), (2, .inl v2)]) (st' := [.inl v2, .inr (.inr (some a0))]) (by decide +kernel) rfl rfl ?_
  obtain ⟨M19, h20, h⟩ := bd h
  refine xp_i E 10 1 h20 mw61 (show decode prog_12_method_1_code 44 = .ok (.putfield 38, 3) by decide +kernel) (Or.inr ⟨rfl, B.2.2, rfl⟩) ?_
  refine xv_b E [.aload_n 0, .iload_n 2, .iconst 1, .iadd] (pc' := 51) (lv' := [(3, .inl v_15), (0, .inr (.inr (some a0))), (1, .inr (.inr o1)), (2, .inl v2)]) (st' := [.inl (v2 + (1 : Int32)), .inr (.inr (some a0))]) (by decide +kernel) rfl rfl ?_
  obtain ⟨M21, h22, h⟩ := bd h
  refine xp_i E 10 3 h22 mw62 (show decode prog_12_method_1_code 51 = .ok (.putfield 41, 3) by decide +kernel) (Or.inl rfl) ?_
  refine xv_b E [.aload_n 0, .iload_n 3] (pc' := 56) (lv' := [(3, .inl v_15), (0, .inr (.inr (some a0))), (1, .inr (.inr o1)), (2, .inl v2)]) (st' := [.inl v_15, .inr (.inr (some a0))]) (by decide +kernel) rfl rfl ?_
  obtain ⟨M23, h24, h⟩ := bd h
  refine xn_q E 6 h24 mw54 E.2.2.2.2.2.1.2.1.2.2.1 (show decode prog_12_method_1_code 56 = .ok (.anewarray 17, 3) by decide +kernel) ?_
  obtain ⟨M25, h26, h⟩ := bd h
  refine xp_r E 10 4 h26 mw63 (show decode prog_12_method_1_code 59 = .ok (.putfield 44, 3) by decide +kernel) (Or.inr ⟨rfl, B.2.2, rfl⟩) ?_
  refine xv_b E [.aload_n 0, .iload_n 3, .iload_n 3] (pc' := 65) (lv' := [(3, .inl v_15), (0, .inr (.inr (some a0))), (1, .inr (.inr o1)), (2, .inl v2)]) (st' := [.inl v_15, .inl v_15, .inr (.inr (some a0))]) (by decide +kernel) rfl rfl ?_
  obtain ⟨M27, h28, h⟩ := bd h
  refine xn_m E h28 mw64 mw2 (show decode prog_12_method_1_code 65 = .ok (.multianewarray 48 2, 4) by decide +kernel) ?_
  obtain ⟨M29, h30, h⟩ := bd h
  refine xp_r E 10 6 h30 mw65 (show decode prog_12_method_1_code 69 = .ok (.putfield 50, 3) by decide +kernel) (Or.inr ⟨rfl, B.2.2, rfl⟩) ?_
  refine xv_b E [.aload_n 0, .iload_n 3, .iload_n 3] (pc' := 75) (lv' := [(3, .inl v_15), (0, .inr (.inr (some a0))), (1, .inr (.inr o1)), (2, .inl v2)]) (st' := [.inl v_15, .inl v_15, .inr (.inr (some a0))]) (by decide +kernel) rfl rfl ?_
  obtain ⟨M31, h32, h⟩ := bd h
  refine xn_m E h32 mw64 mw2 (show decode prog_12_method_1_code 75 = .ok (.multianewarray 48 2, 4) by decide +kernel) ?_
  obtain ⟨M33, h34, h⟩ := bd h
  refine xp_r E 10 7 h34 mw66 (show decode prog_12_method_1_code 79 = .ok (.putfield 53, 3) by decide +kernel) (Or.inr ⟨rfl, B.2.2, rfl⟩) ?_
  refine xv_b E [.aload_n 0, .iload_n 3] (pc' := 84) (lv' := [(3, .inl v_15), (0, .inr (.inr (some a0))), (1, .inr (.inr o1)), (2, .inl v2)]) (st' := [.inl v_15, .inr (.inr (some a0))]) (by decide +kernel) rfl rfl ?_
  obtain ⟨M35, h36, h⟩ := bd h
  refine xn_a E 20 h36 mw2 (show decode prog_12_method_1_code 84 = .ok (.newarray .int, 2) by decide +kernel) ?_
  obtain ⟨M37, h38, h⟩ := bd h
  refine xp_r E 10 8 h38 mw67 (show decode prog_12_method_1_code 86 = .ok (.putfield 56, 3) by decide +kernel) (Or.inr ⟨rfl, B.2.2, rfl⟩) ?_
  refine xv_b E [.iconst 0, .istore 4] (pc' := 92) (lv' := [(4, .inl (0 : Int32)), (3, .inl v_15), (0, .inr (.inr (some a0))), (1, .inr (.inr o1)), (2, .inl v2)]) (st' := []) (by decide +kernel) rfl rfl ?_
  obtain rfl := Option.some.inj h
  exact xv_w hN rfl
theorem sb6_92 (E : xE G p (xRm 3 (h_sz M' - z0) (h_sl M' - y0)) s m args c prog_12_method_1_code "ZonedFabric$Switch" z0 y0 (h_sz M') (h_sl M') 5) (B : xB ym6 none meth) (a0 : Nat) (o1 : Option Nat) (v2 : Int32) (v3 : Int32) (v4 : Int32) (M : hM) {res : xRes} (h : b6_92 a0 o1 v2 v3 v4 M = some res) (hN : xN (pg6 p l e s m args below meth c G z0 y0 r M') r M' res) : xV G p l e (xRm 3 (h_sz M' - z0) (h_sl M' - y0)) s m args below meth c z0 y0 (h_sz M') (h_sl M') 5 (MQ below (xQc G r M') args s (h_sz M' - z0) (h_sl M' - y0) (xFr G)) 92 [(0, .inr (.inr (some a0))), (1, .inr (.inr o1)), (2, .inl v2), (3, .inl v3), (4, .inl v4)] [] M := by
  unfold b6_92 at h
  refine xv_b E [.iload 4, .iload_n 3] (pc' := 95) (lv' := [(0, .inr (.inr (some a0))), (1, .inr (.inr o1)), (2, .inl v2), (3, .inl v3), (4, .inl v4)]) (st' := [.inl v3, .inl v4]) (by decide +kernel) rfl rfl ?_
  by_cases q51 : v3 ≤ v4
  · rw [if_pos q51] at h
    refine xv_icmp_ge E 126 (show decode prog_12_method_1_code 95 = .ok (.if_icmp .ge (31), 3) by decide +kernel) rfl (fun _ => ?_) (fun z => absurd q51 z)
    refine xv_b E [.iconst 0, .istore 4] (pc' := 129) (lv' := [(4, .inl (0 : Int32)), (0, .inr (.inr (some a0))), (1, .inr (.inr o1)), (2, .inl v2), (3, .inl v3)]) (st' := []) (by decide +kernel) rfl rfl ?_
    obtain rfl := Option.some.inj h
    exact xv_w hN rfl
  · rw [if_neg q51] at h
    refine xv_icmp_ge E 126 (show decode prog_12_method_1_code 95 = .ok (.if_icmp .ge (31), 3) by decide +kernel) rfl (fun z => absurd z q51) (fun _ => ?_)
    refine xv_b E [.aload_n 0] (pc' := 99) (lv' := [(0, .inr (.inr (some a0))), (1, .inr (.inr o1)), (2, .inl v2), (3, .inl v3), (4, .inl v4)]) (st' := [.inr (.inr (some a0))]) (by decide +kernel) rfl rfl ?_
    obtain ⟨o_39, h40, h⟩ := bd h
    refine xg_r E 10 4 h40 mw63 (show decode prog_12_method_1_code 99 = .ok (.getfield 44, 3) by decide +kernel) ?_
    refine xv_b E [.iload 4] (pc' := 104) (lv' := [(0, .inr (.inr (some a0))), (1, .inr (.inr o1)), (2, .inl v2), (3, .inl v3), (4, .inl v4)]) (st' := [.inl v4, .inr (.inr o_39)]) (by decide +kernel) rfl rfl ?_
    obtain ⟨M41, h42, h⟩ := bd h
    refine xn_o E 6 h42 rfl mw54 mw55 mw46 (show decode prog_12_method_1_code 104 = .ok (.new 17, 3) by decide +kernel) ?_
    refine xv_b E [.dup] (pc' := 108) (lv' := [(0, .inr (.inr (some a0))), (1, .inr (.inr o1)), (2, .inl v2), (3, .inl v3), (4, .inl v4)]) (st' := [.inr (.inr (some (h_sz M))), .inr (.inr (some (h_sz M))), .inl v4, .inr (.inr o_39)]) (by decide +kernel) rfl rfl ?_
    obtain ⟨q_43, h44, h⟩ := bd h
    refine xv_ci E (as := []) (t5 G l (c_V_some h44)) cd5 (Or.inr ⟨_, E.2.2.2.2.2.1.2.2.2.1.1⟩) mw56 rfl (show decode prog_12_method_1_code 108 = .ok (.invokespecial 19, 3) by decide +kernel) rfl rfl (Nat.le_of_ble_eq_true rfl) ⟨Nat.le_of_ble_eq_true rfl, Nat.le_of_ble_eq_true rfl⟩ ?_
    obtain ⟨M45, h46, h⟩ := bd h
    refine xs_r E 6 h46 (show decode prog_12_method_1_code 111 = .ok (.aastore, 1) by decide +kernel) ?_
    refine xv_b E [.aload_n 0] (pc' := 113) (lv' := [(0, .inr (.inr (some a0))), (1, .inr (.inr o1)), (2, .inl v2), (3, .inl v3), (4, .inl v4)]) (st' := [.inr (.inr (some a0))]) (by decide +kernel) rfl rfl ?_
    obtain ⟨o_47, h48, h⟩ := bd h
    refine xg_r E 10 8 h48 mw67 (show decode prog_12_method_1_code 113 = .ok (.getfield 56, 3) by decide +kernel) ?_
    refine xv_b E [.iload 4, .iconst (-1)] (pc' := 119) (lv' := [(0, .inr (.inr (some a0))), (1, .inr (.inr o1)), (2, .inl v2), (3, .inl v3), (4, .inl v4)]) (st' := [.inl (-1 : Int32), .inl v4, .inr (.inr o_47)]) (by decide +kernel) rfl rfl ?_
    obtain ⟨M49, h50, h⟩ := bd h
    refine xs_i E h50 (show decode prog_12_method_1_code 119 = .ok (.iastore, 1) by decide +kernel) ?_
    refine xv_b E [.iinc 4 1] (pc' := 123) (lv' := [(4, .inl (v4 + (1 : Int32))), (0, .inr (.inr (some a0))), (1, .inr (.inr o1)), (2, .inl v2), (3, .inl v3)]) (st' := []) (by decide +kernel) rfl rfl ?_
    refine xv_goto E 92 (show decode prog_12_method_1_code 123 = .ok (.goto (-31), 3) by decide +kernel) rfl ?_
    obtain rfl := Option.some.inj h
    exact xv_w hN rfl
theorem sb6_129 (E : xE G p (xRm 3 (h_sz M' - z0) (h_sl M' - y0)) s m args c prog_12_method_1_code "ZonedFabric$Switch" z0 y0 (h_sz M') (h_sl M') 5) (B : xB ym6 none meth) (a0 : Nat) (o1 : Option Nat) (v2 : Int32) (v4 : Int32) (M : hM) {res : xRes} (h : b6_129 a0 o1 v2 v4 M = some res) (hN : xN (pg6 p l e s m args below meth c G z0 y0 r M') r M' res) : xV G p l e (xRm 3 (h_sz M' - z0) (h_sl M' - y0)) s m args below meth c z0 y0 (h_sz M') (h_sl M') 5 (MQ below (xQc G r M') args s (h_sz M' - z0) (h_sl M' - y0) (xFr G)) 129 [(0, .inr (.inr (some a0))), (1, .inr (.inr o1)), (2, .inl v2), (4, .inl v4)] [] M := by
  unfold b6_129 at h
  refine xv_b E [.iload 4, .aload_n 0] (pc' := 132) (lv' := [(0, .inr (.inr (some a0))), (1, .inr (.inr o1)), (2, .inl v2), (4, .inl v4)]) (st' := [.inr (.inr (some a0)), .inl v4]) (by decide +kernel) rfl rfl ?_
  obtain ⟨o_52, h53, h⟩ := bd h
  refine xg_r E 10 9 h53 mw58 (show decode prog_12_method_1_code 132 = .ok (.getfield 24, 3) by decide +kernel) ?_
  obtain ⟨v_54, h55, h⟩ := bd h
  refine xa_n E 20 h55 (show decode prog_12_method_1_code 135 = .ok (.arraylength, 1) by decide +kernel) ?_
  by_cases q60 : v_54 ≤ v4
  · rw [if_pos q60] at h
    refine xv_icmp_ge E 153 (show decode prog_12_method_1_code 136 = .ok (.if_icmp .ge (17), 3) by decide +kernel) rfl (fun _ => ?_) (fun z => absurd q60 z)
    refine xv_b E [.iconst 0, .istore 4] (pc' := 156) (lv' := [(4, .inl (0 : Int32)), (0, .inr (.inr (some a0))), (1, .inr (.inr o1)), (2, .inl v2)]) (st' := []) (by decide +kernel) rfl rfl ?_
    obtain rfl := Option.some.inj h
    exact xv_w hN rfl
  · rw [if_neg q60] at h
    refine xv_icmp_ge E 153 (show decode prog_12_method_1_code 136 = .ok (.if_icmp .ge (17), 3) by decide +kernel) rfl (fun z => absurd z q60) (fun _ => ?_)
    refine xv_b E [.aload_n 0] (pc' := 140) (lv' := [(0, .inr (.inr (some a0))), (1, .inr (.inr o1)), (2, .inl v2), (4, .inl v4)]) (st' := [.inr (.inr (some a0))]) (by decide +kernel) rfl rfl ?_
    obtain ⟨o_56, h57, h⟩ := bd h
    refine xg_r E 10 9 h57 mw58 (show decode prog_12_method_1_code 140 = .ok (.getfield 24, 3) by decide +kernel) ?_
    refine xv_b E [.iload 4, .iconst (-1)] (pc' := 146) (lv' := [(0, .inr (.inr (some a0))), (1, .inr (.inr o1)), (2, .inl v2), (4, .inl v4)]) (st' := [.inl (-1 : Int32), .inl v4, .inr (.inr o_56)]) (by decide +kernel) rfl rfl ?_
    obtain ⟨M58, h59, h⟩ := bd h
    refine xs_i E h59 (show decode prog_12_method_1_code 146 = .ok (.iastore, 1) by decide +kernel) ?_
    refine xv_b E [.iinc 4 1] (pc' := 150) (lv' := [(4, .inl (v4 + (1 : Int32))), (0, .inr (.inr (some a0))), (1, .inr (.inr o1)), (2, .inl v2)]) (st' := []) (by decide +kernel) rfl rfl ?_
    refine xv_goto E 129 (show decode prog_12_method_1_code 150 = .ok (.goto (-21), 3) by decide +kernel) rfl ?_
    obtain rfl := Option.some.inj h
    exact xv_w hN rfl
theorem sb6_156 (E : xE G p (xRm 3 (h_sz M' - z0) (h_sl M' - y0)) s m args c prog_12_method_1_code "ZonedFabric$Switch" z0 y0 (h_sz M') (h_sl M') 5) (B : xB ym6 none meth) (a0 : Nat) (o1 : Option Nat) (v2 : Int32) (v4 : Int32) (M : hM) {res : xRes} (h : b6_156 a0 o1 v2 v4 M = some res) (hN : xN (pg6 p l e s m args below meth c G z0 y0 r M') r M' res) : xV G p l e (xRm 3 (h_sz M' - z0) (h_sl M' - y0)) s m args below meth c z0 y0 (h_sz M') (h_sl M') 5 (MQ below (xQc G r M') args s (h_sz M' - z0) (h_sl M' - y0) (xFr G)) 156 [(0, .inr (.inr (some a0))), (1, .inr (.inr o1)), (2, .inl v2), (4, .inl v4)] [] M := by
  unfold b6_156 at h
  refine xv_b E [.iload 4, .bipush 8] (pc' := 160) (lv' := [(0, .inr (.inr (some a0))), (1, .inr (.inr o1)), (2, .inl v2), (4, .inl v4)]) (st' := [.inl (8 : Int32), .inl v4]) (by decide +kernel) rfl rfl ?_
  by_cases q69 : (8 : Int32) ≤ v4
  · rw [if_pos q69] at h
    refine xv_icmp_ge E 187 (show decode prog_12_method_1_code 160 = .ok (.if_icmp .ge (27), 3) by decide +kernel) rfl (fun _ => ?_) (fun z => absurd q69 z)
    obtain rfl := Option.some.inj h
    obtain ⟨rfl, rfl⟩ := Prod.mk.inj (show ((none : Option aV), M) = (r, M') from hN)
    exact xv_rv E B.1 B.2.1 (show decode prog_12_method_1_code 187 = .ok (.return_, 1) by decide +kernel) rfl rfl
  · rw [if_neg q69] at h
    refine xv_icmp_ge E 187 (show decode prog_12_method_1_code 160 = .ok (.if_icmp .ge (27), 3) by decide +kernel) rfl (fun z => absurd z q69) (fun _ => ?_)
    refine xv_b E [.aload_n 0] (pc' := 164) (lv' := [(0, .inr (.inr (some a0))), (1, .inr (.inr o1)), (2, .inl v2), (4, .inl v4)]) (st' := [.inr (.inr (some a0))]) (by decide +kernel) rfl rfl ?_
    obtain ⟨o_61, h62, h⟩ := bd h
    refine xg_r E 10 2 h62 mw53 (show decode prog_12_method_1_code 164 = .ok (.getfield 11, 3) by decide +kernel) ?_
    refine xv_b E [.iload 4] (pc' := 169) (lv' := [(0, .inr (.inr (some a0))), (1, .inr (.inr o1)), (2, .inl v2), (4, .inl v4)]) (st' := [.inl v4, .inr (.inr o_61)]) (by decide +kernel) rfl rfl ?_
    obtain ⟨M63, h64, h⟩ := bd h
    refine xn_o E 8 h64 rfl mw52 mw31 mw14 (show decode prog_12_method_1_code 169 = .ok (.new 9, 3) by decide +kernel) ?_
    refine xv_b E [.dup, .aload_n 1, .iload_n 2, .iload 4] (pc' := 177) (lv' := [(0, .inr (.inr (some a0))), (1, .inr (.inr o1)), (2, .inl v2), (4, .inl v4)]) (st' := [.inl v4, .inl v2, .inr (.inr o1), .inr (.inr (some (h_sz M))), .inr (.inr (some (h_sz M))), .inl v4, .inr (.inr o_61)]) (by decide +kernel) rfl rfl ?_
    obtain ⟨q_65, h66, h⟩ := bd h
    refine xv_ci E (as := [.inr (.inr o1), .inl v2, .inl v4]) (t2 G l (c_V_some h66)) cd2 (Or.inl mw69) mw33 rfl (show decode prog_12_method_1_code 177 = .ok (.invokespecial 59, 3) by decide +kernel) rfl rfl (Nat.le_of_ble_eq_true rfl) ⟨Nat.le_of_ble_eq_true rfl, Nat.le_of_ble_eq_true rfl⟩ ?_
    obtain ⟨M67, h68, h⟩ := bd h
    refine xs_r E 8 h68 (show decode prog_12_method_1_code 180 = .ok (.aastore, 1) by decide +kernel) ?_
    refine xv_b E [.iinc 4 1] (pc' := 184) (lv' := [(4, .inl (v4 + (1 : Int32))), (0, .inr (.inr (some a0))), (1, .inr (.inr o1)), (2, .inl v2)]) (st' := []) (by decide +kernel) rfl rfl ?_
    refine xv_goto E 156 (show decode prog_12_method_1_code 184 = .ok (.goto (-28), 3) by decide +kernel) rfl ?_
    obtain rfl := Option.some.inj h
    exact xv_w hN rfl
end
theorem t6 (G : gX) (l : Launch) {as : List aV} {M : hM} {r : Option aV} {M' : hM} (h : f6 as M = some (r, M')) : xM G l ym6 prog_12_method_1_code 5 none 3 as M r M' := by
  unfold f6 at h
  split at h
  · have hle : ∀ h as M res, k6 h as M = some res → h_sz M ≤ r_sz res ∧ h_sl M ≤ r_sl res := by
      intro h as M res hb
      unfold k6 at hb
      by_cases e0 : h = 92
      · rw [if_pos e0] at hb
        split at hb
        · exact lb6_92 G l _ _ _ _ _ M hb
        · cases hb
      · rw [if_neg e0] at hb
        by_cases e1 : h = 129
        · rw [if_pos e1] at hb
          split at hb
          · exact lb6_129 G l _ _ _ _ M hb
          · cases hb
        · rw [if_neg e1] at hb
          by_cases e2 : h = 156
          · rw [if_pos e2] at hb
            split at hb
            · exact lb6_156 G l _ _ _ _ M hb
            · cases hb
          · rw [if_neg e2] at hb
            cases hb
    obtain ⟨res, hx, hres⟩ := x_go_ok h
    refine xM_of (by decide) (Nat.le_of_ble_eq_true rfl) ?_ ?_
    · have e1 := lb6_0 G l _ _ _ M hx
      have e2 := x_go_le hle hres
      omega
    · intro p e s m args below meth c E B
      refine sb6_0 E B _ _ _ M hx (hres _ ?_)
      intro h as M res hb hN
      unfold k6 at hb
      unfold pg6
      by_cases e0 : h = 92
      · rw [if_pos e0] at hb ⊢
        split at hb
        · exact sb6_92 E B _ _ _ _ _ M hb hN
        · cases hb
      · rw [if_neg e0] at hb ⊢
        by_cases e1 : h = 129
        · rw [if_pos e1] at hb ⊢
          split at hb
          · exact sb6_129 E B _ _ _ _ M hb hN
          · cases hb
        · rw [if_neg e1] at hb ⊢
          by_cases e2 : h = 156
          · rw [if_pos e2] at hb ⊢
            split at hb
            · exact sb6_156 E B _ _ _ _ M hb hN
            · cases hb
          · rw [if_neg e2] at hb ⊢
            cases hb
  · cases h
/-! ZF.init(III)V -/
def ym7 : MethodName := ⟨"ZonedFabric", "<init>", "(III)V"⟩
theorem cd7 : xCd ym7 prog_1_method_1_code 8 none 3 := ⟨mw70, mw71, by decide, by decide, by decide +kernel⟩
def b7_91 (a0 : Nat) (v4 : Int32) (v5 : Int32) (si0 : Int32) (si1 : Int32) (si2 : Int32) (sr3 : Option Nat) (sr4 : Option Nat) (sr5 : Option Nat) (M : hM) : Option xRes :=
  Option.bind (g_o M 9 sr3) fun b_23 =>
  Option.bind (c_V (f0 [.inr (.inr (some b_23)), .inl si2, .inl si1, .inl si0] M)) fun q_21 =>
  Option.bind (p_r q_21 11 0 sr5 sr4) fun M25 =>
  Option.bind (n_a M25 40 v4) fun M27 =>
  Option.bind (p_r M27 11 1 (some a0) (some (h_sz M25))) fun M29 =>
  some (.inr (109, [.inr (.inr (some a0)), .inl v4, .inl v5, .inl (0 : Int32)], M29))
def b7_90 (a0 : Nat) (v4 : Int32) (v5 : Int32) (si0 : Int32) (si1 : Int32) (sr2 : Option Nat) (sr3 : Option Nat) (sr4 : Option Nat) (M : hM) : Option xRes :=
  b7_91 a0 v4 v5 (2 : Int32) si0 si1 sr2 sr3 sr4 M
def b7_65 (a0 : Nat) (v3 : Int32) (v4 : Int32) (si0 : Int32) (M : hM) : Option xRes :=
  Option.bind (n_o M 9 8) fun M17 =>
  if v3 < (1 : Int32) then
    (b7_90 a0 v4 si0 si0 v4 (some (h_sz M)) (some (h_sz M)) (some a0) M17)
  else
    (if (4 : Int32) < v3 then
      (b7_90 a0 v4 si0 si0 v4 (some (h_sz M)) (some (h_sz M)) (some a0) M17)
    else
      (b7_91 a0 v4 si0 v3 si0 v4 (some (h_sz M)) (some (h_sz M)) (some a0) M17))
def b7_64 (a0 : Nat) (v3 : Int32) (v4 : Int32) (M : hM) : Option xRes :=
  b7_65 a0 v3 v4 (2 : Int32) M
def b7_47 (a0 : Nat) (v2 : Int32) (v3 : Int32) (si0 : Int32) (M : hM) : Option xRes :=
  if v2 < (1 : Int32) then
    (b7_64 a0 v3 si0 M)
  else
    (if (8 : Int32) < v2 then
      (b7_64 a0 v3 si0 M)
    else
      (b7_65 a0 v3 si0 v2 M))
def b7_46 (a0 : Nat) (v2 : Int32) (v3 : Int32) (M : hM) : Option xRes :=
  b7_47 a0 v2 v3 (2 : Int32) M
def b7_0 (a0 : Nat) (v1 : Int32) (v2 : Int32) (v3 : Int32) (M : hM) : Option xRes :=
  Option.bind (n_a M 38 (16 : Int32)) fun M1 =>
  Option.bind (p_r M1 11 3 (some a0) (some (h_sz M))) fun M3 =>
  Option.bind (n_a M3 38 (16 : Int32)) fun M5 =>
  Option.bind (p_r M5 11 4 (some a0) (some (h_sz M3))) fun M7 =>
  Option.bind (n_a M7 30 (300 : Int32)) fun M9 =>
  Option.bind (p_r M9 11 6 (some a0) (some (h_sz M7))) fun M11 =>
  if v1 < (1 : Int32) then
    (b7_46 a0 v2 v3 M11)
  else
    (if (5 : Int32) < v1 then
      (b7_46 a0 v2 v3 M11)
    else
      (b7_47 a0 v2 v3 v1 M11))
def b7_109 (a0 : Nat) (v4 : Int32) (v5 : Int32) (v6 : Int32) (M : hM) : Option xRes :=
  if v4 ≤ v6 then
    (Option.bind (n_a M 35 v5) fun M31 =>
    Option.bind (p_r M31 11 2 (some a0) (some (h_sz M))) fun M33 =>
    some (.inr (154, [.inr (.inr (some a0)), .inl v5, .inl (0 : Int32)], M33)))
  else
    (Option.bind (g_r M 11 1 (some a0)) fun o_35 =>
    Option.bind (n_o M 10 11) fun M37 =>
    Option.bind (g_r M37 11 0 (some a0)) fun o_39 =>
    Option.bind (c_V (f6 [.inr (.inr (some (h_sz M))), .inr (.inr o_39), .inl v6] M37)) fun q_41 =>
    Option.bind (as_r q_41 10 o_35 v6 (some (h_sz M))) fun M43 =>
    some (.inr (109, [.inr (.inr (some a0)), .inl v4, .inl v5, .inl (v6 + (1 : Int32))], M43)))
def b7_154 (a0 : Nat) (v5 : Int32) (v6 : Int32) (M : hM) : Option xRes :=
  if v5 ≤ v6 then
    (some (.inl (none, M)))
  else
    (Option.bind (n_o M 5 6) fun M46 =>
    Option.bind (g_r M46 11 0 (some a0)) fun o_48 =>
    Option.bind (c_V (f3 [.inr (.inr (some (h_sz M))), .inr (.inr o_48), .inl v6] M46)) fun q_50 =>
    Option.bind (n_o q_50 4 6) fun M52 =>
    Option.bind (g_r M52 11 0 (some a0)) fun o_54 =>
    Option.bind (c_V (f4 [.inr (.inr (some (h_sz q_50))), .inr (.inr o_54), .inr (.inr (some (h_sz M)))] M52)) fun q_56 =>
    Option.bind (p_r q_56 5 4 (some (h_sz M)) (some (h_sz q_50))) fun M58 =>
    Option.bind (g_r M58 11 2 (some a0)) fun o_60 =>
    Option.bind (as_r M58 5 o_60 v6 (some (h_sz M))) fun M62 =>
    some (.inr (154, [.inr (.inr (some a0)), .inl v5, .inl (v6 + (1 : Int32))], M62)))
def k7 (h : Nat) (as : List aV) (M : hM) : Option xRes :=
  if h = 109 then (match as with | [.inr (.inr (some a0)), .inl v4, .inl v5, .inl v6] => b7_109 a0 v4 v5 v6 M | _ => none) else
  if h = 154 then (match as with | [.inr (.inr (some a0)), .inl v5, .inl v6] => b7_154 a0 v5 v6 M | _ => none) else
  none
def f7 (as : List aV) (M : hM) : xO := match as with
  | [.inr (.inr (some a0)), .inl v1, .inl v2, .inl v3] => x_go k7 (b7_0 a0 v1 v2 v3 M)
  | _ => none
theorem lb7_91 (G : gX) (l : Launch) (a0 : Nat) (v4 : Int32) (v5 : Int32) (si0 : Int32) (si1 : Int32) (si2 : Int32) (sr3 : Option Nat) (sr4 : Option Nat) (sr5 : Option Nat) (M : hM) {res : xRes} (h : b7_91 a0 v4 v5 si0 si1 si2 sr3 sr4 sr5 M = some res) : h_sz M ≤ r_sz res ∧ h_sl M ≤ r_sl res := by
  unfold b7_91 at h
  obtain ⟨b_23, h24, h⟩ := bd h
  obtain ⟨q_21, h22, h⟩ := bd h
  have eh22 := (t0 G l (c_V_some h22)).1
  obtain ⟨M25, h26, h⟩ := bd h
  have eh26 := p_r_sz h26
  obtain ⟨M27, h28, h⟩ := bd h
  have eh28 := n_a_sz h28
  obtain ⟨M29, h30, h⟩ := bd h
  have eh30 := p_r_sz h30
  obtain rfl := Option.some.inj h
  show h_sz M ≤ h_sz M29 ∧ h_sl M ≤ h_sl M29
  omega
theorem lb7_90 (G : gX) (l : Launch) (a0 : Nat) (v4 : Int32) (v5 : Int32) (si0 : Int32) (si1 : Int32) (sr2 : Option Nat) (sr3 : Option Nat) (sr4 : Option Nat) (M : hM) {res : xRes} (h : b7_90 a0 v4 v5 si0 si1 sr2 sr3 sr4 M = some res) : h_sz M ≤ r_sz res ∧ h_sl M ≤ r_sl res := by
  unfold b7_90 at h
  have e := lb7_91 G l a0 v4 v5 (2 : Int32) si0 si1 sr2 sr3 sr4 M h
  omega
theorem lb7_65 (G : gX) (l : Launch) (a0 : Nat) (v3 : Int32) (v4 : Int32) (si0 : Int32) (M : hM) {res : xRes} (h : b7_65 a0 v3 v4 si0 M = some res) : h_sz M ≤ r_sz res ∧ h_sl M ≤ r_sl res := by
  unfold b7_65 at h
  obtain ⟨M17, h18, h⟩ := bd h
  have eh18 := n_o_sz h18
  by_cases q20 : v3 < (1 : Int32)
  · rw [if_pos q20] at h
    have e := lb7_90 G l a0 v4 si0 si0 v4 (some (h_sz M)) (some (h_sz M)) (some a0) M17 h
    omega
  · rw [if_neg q20] at h
    by_cases q19 : (4 : Int32) < v3
    · rw [if_pos q19] at h
      have e := lb7_90 G l a0 v4 si0 si0 v4 (some (h_sz M)) (some (h_sz M)) (some a0) M17 h
      omega
    · rw [if_neg q19] at h
      have e := lb7_91 G l a0 v4 si0 v3 si0 v4 (some (h_sz M)) (some (h_sz M)) (some a0) M17 h
      omega
theorem lb7_64 (G : gX) (l : Launch) (a0 : Nat) (v3 : Int32) (v4 : Int32) (M : hM) {res : xRes} (h : b7_64 a0 v3 v4 M = some res) : h_sz M ≤ r_sz res ∧ h_sl M ≤ r_sl res := by
  unfold b7_64 at h
  have e := lb7_65 G l a0 v3 v4 (2 : Int32) M h
  omega
theorem lb7_47 (G : gX) (l : Launch) (a0 : Nat) (v2 : Int32) (v3 : Int32) (si0 : Int32) (M : hM) {res : xRes} (h : b7_47 a0 v2 v3 si0 M = some res) : h_sz M ≤ r_sz res ∧ h_sl M ≤ r_sl res := by
  unfold b7_47 at h
  by_cases q16 : v2 < (1 : Int32)
  · rw [if_pos q16] at h
    have e := lb7_64 G l a0 v3 si0 M h
    omega
  · rw [if_neg q16] at h
    by_cases q15 : (8 : Int32) < v2
    · rw [if_pos q15] at h
      have e := lb7_64 G l a0 v3 si0 M h
      omega
    · rw [if_neg q15] at h
      have e := lb7_65 G l a0 v3 si0 v2 M h
      omega
theorem lb7_46 (G : gX) (l : Launch) (a0 : Nat) (v2 : Int32) (v3 : Int32) (M : hM) {res : xRes} (h : b7_46 a0 v2 v3 M = some res) : h_sz M ≤ r_sz res ∧ h_sl M ≤ r_sl res := by
  unfold b7_46 at h
  have e := lb7_47 G l a0 v2 v3 (2 : Int32) M h
  omega
theorem lb7_0 (G : gX) (l : Launch) (a0 : Nat) (v1 : Int32) (v2 : Int32) (v3 : Int32) (M : hM) {res : xRes} (h : b7_0 a0 v1 v2 v3 M = some res) : h_sz M ≤ r_sz res ∧ h_sl M ≤ r_sl res := by
  unfold b7_0 at h
  obtain ⟨M1, h2, h⟩ := bd h
  have eh2 := n_a_sz h2
  obtain ⟨M3, h4, h⟩ := bd h
  have eh4 := p_r_sz h4
  obtain ⟨M5, h6, h⟩ := bd h
  have eh6 := n_a_sz h6
  obtain ⟨M7, h8, h⟩ := bd h
  have eh8 := p_r_sz h8
  obtain ⟨M9, h10, h⟩ := bd h
  have eh10 := n_a_sz h10
  obtain ⟨M11, h12, h⟩ := bd h
  have eh12 := p_r_sz h12
  by_cases q14 : v1 < (1 : Int32)
  · rw [if_pos q14] at h
    have e := lb7_46 G l a0 v2 v3 M11 h
    omega
  · rw [if_neg q14] at h
    by_cases q13 : (5 : Int32) < v1
    · rw [if_pos q13] at h
      have e := lb7_46 G l a0 v2 v3 M11 h
      omega
    · rw [if_neg q13] at h
      have e := lb7_47 G l a0 v2 v3 v1 M11 h
      omega
theorem lb7_109 (G : gX) (l : Launch) (a0 : Nat) (v4 : Int32) (v5 : Int32) (v6 : Int32) (M : hM) {res : xRes} (h : b7_109 a0 v4 v5 v6 M = some res) : h_sz M ≤ r_sz res ∧ h_sl M ≤ r_sl res := by
  unfold b7_109 at h
  by_cases q45 : v4 ≤ v6
  · rw [if_pos q45] at h
    obtain ⟨M31, h32, h⟩ := bd h
    have eh32 := n_a_sz h32
    obtain ⟨M33, h34, h⟩ := bd h
    have eh34 := p_r_sz h34
    obtain rfl := Option.some.inj h
    show h_sz M ≤ h_sz M33 ∧ h_sl M ≤ h_sl M33
    omega
  · rw [if_neg q45] at h
    obtain ⟨o_35, h36, h⟩ := bd h
    obtain ⟨M37, h38, h⟩ := bd h
    have eh38 := n_o_sz h38
    obtain ⟨o_39, h40, h⟩ := bd h
    obtain ⟨q_41, h42, h⟩ := bd h
    have eh42 := (t6 G l (c_V_some h42)).1
    obtain ⟨M43, h44, h⟩ := bd h
    have eh44 := as_r_sz h44
    obtain rfl := Option.some.inj h
    show h_sz M ≤ h_sz M43 ∧ h_sl M ≤ h_sl M43
    omega
theorem lb7_154 (G : gX) (l : Launch) (a0 : Nat) (v5 : Int32) (v6 : Int32) (M : hM) {res : xRes} (h : b7_154 a0 v5 v6 M = some res) : h_sz M ≤ r_sz res ∧ h_sl M ≤ r_sl res := by
  unfold b7_154 at h
  by_cases q64 : v5 ≤ v6
  · rw [if_pos q64] at h
    obtain rfl := Option.some.inj h
    show h_sz M ≤ h_sz M ∧ h_sl M ≤ h_sl M
    omega
  · rw [if_neg q64] at h
    obtain ⟨M46, h47, h⟩ := bd h
    have eh47 := n_o_sz h47
    obtain ⟨o_48, h49, h⟩ := bd h
    obtain ⟨q_50, h51, h⟩ := bd h
    have eh51 := (t3 G l (c_V_some h51)).1
    obtain ⟨M52, h53, h⟩ := bd h
    have eh53 := n_o_sz h53
    obtain ⟨o_54, h55, h⟩ := bd h
    obtain ⟨q_56, h57, h⟩ := bd h
    have eh57 := (t4 G l (c_V_some h57)).1
    obtain ⟨M58, h59, h⟩ := bd h
    have eh59 := p_r_sz h59
    obtain ⟨o_60, h61, h⟩ := bd h
    obtain ⟨M62, h63, h⟩ := bd h
    have eh63 := as_r_sz h63
    obtain rfl := Option.some.inj h
    show h_sz M ≤ h_sz M62 ∧ h_sl M ≤ h_sl M62
    omega
section
variable {p : Program} {l : Launch} {e : Env} {s : State} {m : MethodId} {args : Array Value} {below : List Frame} {meth : Method} {c : Code} {G : gX} {z0 y0 : Nat} {r : Option aV} {M' : hM}
def pg7 (p : Program) (l : Launch) (e : Env) (s : State) (m : MethodId) (args : Array Value) (below : List Frame) (meth : Method) (c : Code) (G : gX) (z0 y0 : Nat) (r : Option aV) (M' : hM) (h : Nat) (as : List aV) (M : hM) : Prop :=
  if h = 109 then (match as with | [.inr (.inr (some a0)), .inl v4, .inl v5, .inl v6] => xV G p l e (xRm 4 (h_sz M' - z0) (h_sl M' - y0)) s m args below meth c z0 y0 (h_sz M') (h_sl M') 8 (MQ below (xQc G r M') args s (h_sz M' - z0) (h_sl M' - y0) (xFr G)) 109 [(0, .inr (.inr (some a0))), (4, .inl v4), (5, .inl v5), (6, .inl v6)] [] M | _ => False) else
  if h = 154 then (match as with | [.inr (.inr (some a0)), .inl v5, .inl v6] => xV G p l e (xRm 4 (h_sz M' - z0) (h_sl M' - y0)) s m args below meth c z0 y0 (h_sz M') (h_sl M') 8 (MQ below (xQc G r M') args s (h_sz M' - z0) (h_sl M' - y0) (xFr G)) 154 [(0, .inr (.inr (some a0))), (5, .inl v5), (6, .inl v6)] [] M | _ => False) else
  False
theorem sb7_91 (E : xE G p (xRm 4 (h_sz M' - z0) (h_sl M' - y0)) s m args c prog_1_method_1_code "ZonedFabric" z0 y0 (h_sz M') (h_sl M') 8) (B : xB ym7 none meth) (a0 : Nat) (v4 : Int32) (v5 : Int32) (si0 : Int32) (si1 : Int32) (si2 : Int32) (sr3 : Option Nat) (sr4 : Option Nat) (sr5 : Option Nat) (M : hM) {res : xRes} (h : b7_91 a0 v4 v5 si0 si1 si2 sr3 sr4 sr5 M = some res) (hN : xN (pg7 p l e s m args below meth c G z0 y0 r M') r M' res) : xV G p l e (xRm 4 (h_sz M' - z0) (h_sl M' - y0)) s m args below meth c z0 y0 (h_sz M') (h_sl M') 8 (MQ below (xQc G r M') args s (h_sz M' - z0) (h_sl M' - y0) (xFr G)) 91 [(0, .inr (.inr (some a0))), (4, .inl v4), (5, .inl v5)] [.inl si0, .inl si1, .inl si2, .inr (.inr sr3), .inr (.inr sr4), .inr (.inr sr5)] M := by
  unfold b7_91 at h
  obtain ⟨b_23, h24, h⟩ := bd h
  obtain ⟨eh24, th24⟩ := g_o_some h24
  obtain ⟨q_21, h22, h⟩ := bd h
  refine xv_cio E eh24 (as := [.inl si2, .inl si1, .inl si0]) (t0 G l (c_V_some h22)) cd0 (Or.inl mw80) mw81 rfl (show decode prog_1_method_1_code 91 = .ok (.invokespecial 26, 3) by decide +kernel) rfl rfl (Nat.le_of_ble_eq_true rfl) ⟨Nat.le_of_ble_eq_true rfl, Nat.le_of_ble_eq_true rfl⟩ ?_
  obtain ⟨M25, h26, h⟩ := bd h
  refine xp_r E 11 0 h26 mw82 (show decode prog_1_method_1_code 94 = .ok (.putfield 29, 3) by decide +kernel) (Or.inr ⟨rfl, B.2.2, rfl⟩) ?_
  refine xv_b E [.aload_n 0, .iload 4] (pc' := 100) (lv' := [(0, .inr (.inr (some a0))), (4, .inl v4), (5, .inl v5)]) (st' := [.inl v4, .inr (.inr (some a0))]) (by decide +kernel) rfl rfl ?_
  obtain ⟨M27, h28, h⟩ := bd h
  refine xn_q E 10 h28 mw83 E.2.2.2.2.2.1.2.1.2.2.2.2.2 (show decode prog_1_method_1_code 100 = .ok (.anewarray 33, 3) by decide +kernel) ?_
  obtain ⟨M29, h30, h⟩ := bd h
  refine xp_r E 11 1 h30 mw84 (show decode prog_1_method_1_code 103 = .ok (.putfield 35, 3) by decide +kernel) (Or.inr ⟨rfl, B.2.2, rfl⟩) ?_
  refine xv_b E [.iconst 0, .istore 6] (pc' := 109) (lv' := [(6, .inl (0 : Int32)), (0, .inr (.inr (some a0))), (4, .inl v4), (5, .inl v5)]) (st' := []) (by decide +kernel) rfl rfl ?_
  obtain rfl := Option.some.inj h
  exact xv_w hN rfl
theorem sb7_90 (E : xE G p (xRm 4 (h_sz M' - z0) (h_sl M' - y0)) s m args c prog_1_method_1_code "ZonedFabric" z0 y0 (h_sz M') (h_sl M') 8) (B : xB ym7 none meth) (a0 : Nat) (v4 : Int32) (v5 : Int32) (si0 : Int32) (si1 : Int32) (sr2 : Option Nat) (sr3 : Option Nat) (sr4 : Option Nat) (M : hM) {res : xRes} (h : b7_90 a0 v4 v5 si0 si1 sr2 sr3 sr4 M = some res) (hN : xN (pg7 p l e s m args below meth c G z0 y0 r M') r M' res) : xV G p l e (xRm 4 (h_sz M' - z0) (h_sl M' - y0)) s m args below meth c z0 y0 (h_sz M') (h_sl M') 8 (MQ below (xQc G r M') args s (h_sz M' - z0) (h_sl M' - y0) (xFr G)) 90 [(0, .inr (.inr (some a0))), (4, .inl v4), (5, .inl v5)] [.inl si0, .inl si1, .inr (.inr sr2), .inr (.inr sr3), .inr (.inr sr4)] M := by
  unfold b7_90 at h
  refine xv_b E [.iconst 2] (pc' := 91) (lv' := [(0, .inr (.inr (some a0))), (4, .inl v4), (5, .inl v5)]) (st' := [.inl (2 : Int32), .inl si0, .inl si1, .inr (.inr sr2), .inr (.inr sr3), .inr (.inr sr4)]) (by decide +kernel) rfl rfl ?_
  exact xv_w (sb7_91 E B a0 v4 v5 (2 : Int32) si0 si1 sr2 sr3 sr4 M h hN) rfl
theorem sb7_65 (E : xE G p (xRm 4 (h_sz M' - z0) (h_sl M' - y0)) s m args c prog_1_method_1_code "ZonedFabric" z0 y0 (h_sz M') (h_sl M') 8) (B : xB ym7 none meth) (a0 : Nat) (v3 : Int32) (v4 : Int32) (si0 : Int32) (M : hM) {res : xRes} (h : b7_65 a0 v3 v4 si0 M = some res) (hN : xN (pg7 p l e s m args below meth c G z0 y0 r M') r M' res) : xV G p l e (xRm 4 (h_sz M' - z0) (h_sl M' - y0)) s m args below meth c z0 y0 (h_sz M') (h_sl M') 8 (MQ below (xQc G r M') args s (h_sz M' - z0) (h_sl M' - y0) (xFr G)) 65 [(0, .inr (.inr (some a0))), (3, .inl v3), (4, .inl v4)] [.inl si0] M := by
  unfold b7_65 at h
  refine xv_b E [.istore 5, .aload_n 0] (pc' := 68) (lv' := [(5, .inl si0), (0, .inr (.inr (some a0))), (3, .inl v3), (4, .inl v4)]) (st' := [.inr (.inr (some a0))]) (by decide +kernel) rfl rfl ?_
  obtain ⟨M17, h18, h⟩ := bd h
  refine xn_o E 9 h18 rfl mw78 mw79 mw1 (show decode prog_1_method_1_code 68 = .ok (.new 24, 3) by decide +kernel) ?_
  refine xv_b E [.dup, .iload 4, .iload 5, .iload_n 3, .iconst 1] (pc' := 78) (lv' := [(5, .inl si0), (0, .inr (.inr (some a0))), (3, .inl v3), (4, .inl v4)]) (st' := [.inl (1 : Int32), .inl v3, .inl si0, .inl v4, .inr (.inr (some (h_sz M))), .inr (.inr (some (h_sz M))), .inr (.inr (some a0))]) (by decide +kernel) rfl rfl ?_
  by_cases q20 : v3 < (1 : Int32)
  · rw [if_pos q20] at h
    refine xv_icmp_lt E 90 (show decode prog_1_method_1_code 78 = .ok (.if_icmp .lt (12), 3) by decide +kernel) rfl (fun _ => ?_) (fun z => absurd q20 z)
    exact xv_w (sb7_90 E B a0 v4 si0 si0 v4 (some (h_sz M)) (some (h_sz M)) (some a0) M17 h hN) rfl
  · rw [if_neg q20] at h
    refine xv_icmp_lt E 90 (show decode prog_1_method_1_code 78 = .ok (.if_icmp .lt (12), 3) by decide +kernel) rfl (fun z => absurd z q20) (fun _ => ?_)
    refine xv_b E [.iload_n 3, .iconst 4] (pc' := 83) (lv' := [(5, .inl si0), (0, .inr (.inr (some a0))), (3, .inl v3), (4, .inl v4)]) (st' := [.inl (4 : Int32), .inl v3, .inl si0, .inl v4, .inr (.inr (some (h_sz M))), .inr (.inr (some (h_sz M))), .inr (.inr (some a0))]) (by decide +kernel) rfl rfl ?_
    by_cases q19 : (4 : Int32) < v3
    · rw [if_pos q19] at h
      refine xv_icmp_gt E 90 (show decode prog_1_method_1_code 83 = .ok (.if_icmp .gt (7), 3) by decide +kernel) rfl (fun _ => ?_) (fun z => absurd q19 z)
      exact xv_w (sb7_90 E B a0 v4 si0 si0 v4 (some (h_sz M)) (some (h_sz M)) (some a0) M17 h hN) rfl
    · rw [if_neg q19] at h
      refine xv_icmp_gt E 90 (show decode prog_1_method_1_code 83 = .ok (.if_icmp .gt (7), 3) by decide +kernel) rfl (fun z => absurd z q19) (fun _ => ?_)
      refine xv_b E [.iload_n 3] (pc' := 87) (lv' := [(5, .inl si0), (0, .inr (.inr (some a0))), (3, .inl v3), (4, .inl v4)]) (st' := [.inl v3, .inl si0, .inl v4, .inr (.inr (some (h_sz M))), .inr (.inr (some (h_sz M))), .inr (.inr (some a0))]) (by decide +kernel) rfl rfl ?_
      refine xv_goto E 91 (show decode prog_1_method_1_code 87 = .ok (.goto (4), 3) by decide +kernel) rfl ?_
      exact xv_w (sb7_91 E B a0 v4 si0 v3 si0 v4 (some (h_sz M)) (some (h_sz M)) (some a0) M17 h hN) rfl
theorem sb7_64 (E : xE G p (xRm 4 (h_sz M' - z0) (h_sl M' - y0)) s m args c prog_1_method_1_code "ZonedFabric" z0 y0 (h_sz M') (h_sl M') 8) (B : xB ym7 none meth) (a0 : Nat) (v3 : Int32) (v4 : Int32) (M : hM) {res : xRes} (h : b7_64 a0 v3 v4 M = some res) (hN : xN (pg7 p l e s m args below meth c G z0 y0 r M') r M' res) : xV G p l e (xRm 4 (h_sz M' - z0) (h_sl M' - y0)) s m args below meth c z0 y0 (h_sz M') (h_sl M') 8 (MQ below (xQc G r M') args s (h_sz M' - z0) (h_sl M' - y0) (xFr G)) 64 [(0, .inr (.inr (some a0))), (3, .inl v3), (4, .inl v4)] [] M := by
  unfold b7_64 at h
  refine xv_b E [.iconst 2] (pc' := 65) (lv' := [(0, .inr (.inr (some a0))), (3, .inl v3), (4, .inl v4)]) (st' := [.inl (2 : Int32)]) (by decide +kernel) rfl rfl ?_
  exact xv_w (sb7_65 E B a0 v3 v4 (2 : Int32) M h hN) rfl
theorem sb7_47 (E : xE G p (xRm 4 (h_sz M' - z0) (h_sl M' - y0)) s m args c prog_1_method_1_code "ZonedFabric" z0 y0 (h_sz M') (h_sl M') 8) (B : xB ym7 none meth) (a0 : Nat) (v2 : Int32) (v3 : Int32) (si0 : Int32) (M : hM) {res : xRes} (h : b7_47 a0 v2 v3 si0 M = some res) (hN : xN (pg7 p l e s m args below meth c G z0 y0 r M') r M' res) : xV G p l e (xRm 4 (h_sz M' - z0) (h_sl M' - y0)) s m args below meth c z0 y0 (h_sz M') (h_sl M') 8 (MQ below (xQc G r M') args s (h_sz M' - z0) (h_sl M' - y0) (xFr G)) 47 [(0, .inr (.inr (some a0))), (2, .inl v2), (3, .inl v3)] [.inl si0] M := by
  unfold b7_47 at h
  refine xv_b E [.istore 4, .iload_n 2, .iconst 1] (pc' := 51) (lv' := [(4, .inl si0), (0, .inr (.inr (some a0))), (2, .inl v2), (3, .inl v3)]) (st' := [.inl (1 : Int32), .inl v2]) (by decide +kernel) rfl rfl ?_
  by_cases q16 : v2 < (1 : Int32)
  · rw [if_pos q16] at h
    refine xv_icmp_lt E 64 (show decode prog_1_method_1_code 51 = .ok (.if_icmp .lt (13), 3) by decide +kernel) rfl (fun _ => ?_) (fun z => absurd q16 z)
    exact xv_w (sb7_64 E B a0 v3 si0 M h hN) rfl
  · rw [if_neg q16] at h
    refine xv_icmp_lt E 64 (show decode prog_1_method_1_code 51 = .ok (.if_icmp .lt (13), 3) by decide +kernel) rfl (fun z => absurd z q16) (fun _ => ?_)
    refine xv_b E [.iload_n 2, .bipush 8] (pc' := 57) (lv' := [(4, .inl si0), (0, .inr (.inr (some a0))), (2, .inl v2), (3, .inl v3)]) (st' := [.inl (8 : Int32), .inl v2]) (by decide +kernel) rfl rfl ?_
    by_cases q15 : (8 : Int32) < v2
    · rw [if_pos q15] at h
      refine xv_icmp_gt E 64 (show decode prog_1_method_1_code 57 = .ok (.if_icmp .gt (7), 3) by decide +kernel) rfl (fun _ => ?_) (fun z => absurd q15 z)
      exact xv_w (sb7_64 E B a0 v3 si0 M h hN) rfl
    · rw [if_neg q15] at h
      refine xv_icmp_gt E 64 (show decode prog_1_method_1_code 57 = .ok (.if_icmp .gt (7), 3) by decide +kernel) rfl (fun z => absurd z q15) (fun _ => ?_)
      refine xv_b E [.iload_n 2] (pc' := 61) (lv' := [(4, .inl si0), (0, .inr (.inr (some a0))), (2, .inl v2), (3, .inl v3)]) (st' := [.inl v2]) (by decide +kernel) rfl rfl ?_
      refine xv_goto E 65 (show decode prog_1_method_1_code 61 = .ok (.goto (4), 3) by decide +kernel) rfl ?_
      exact xv_w (sb7_65 E B a0 v3 si0 v2 M h hN) rfl
theorem sb7_46 (E : xE G p (xRm 4 (h_sz M' - z0) (h_sl M' - y0)) s m args c prog_1_method_1_code "ZonedFabric" z0 y0 (h_sz M') (h_sl M') 8) (B : xB ym7 none meth) (a0 : Nat) (v2 : Int32) (v3 : Int32) (M : hM) {res : xRes} (h : b7_46 a0 v2 v3 M = some res) (hN : xN (pg7 p l e s m args below meth c G z0 y0 r M') r M' res) : xV G p l e (xRm 4 (h_sz M' - z0) (h_sl M' - y0)) s m args below meth c z0 y0 (h_sz M') (h_sl M') 8 (MQ below (xQc G r M') args s (h_sz M' - z0) (h_sl M' - y0) (xFr G)) 46 [(0, .inr (.inr (some a0))), (2, .inl v2), (3, .inl v3)] [] M := by
  unfold b7_46 at h
  refine xv_b E [.iconst 2] (pc' := 47) (lv' := [(0, .inr (.inr (some a0))), (2, .inl v2), (3, .inl v3)]) (st' := [.inl (2 : Int32)]) (by decide +kernel) rfl rfl ?_
  exact xv_w (sb7_47 E B a0 v2 v3 (2 : Int32) M h hN) rfl
theorem sb7_0 (E : xE G p (xRm 4 (h_sz M' - z0) (h_sl M' - y0)) s m args c prog_1_method_1_code "ZonedFabric" z0 y0 (h_sz M') (h_sl M') 8) (B : xB ym7 none meth) (a0 : Nat) (v1 : Int32) (v2 : Int32) (v3 : Int32) (M : hM) {res : xRes} (h : b7_0 a0 v1 v2 v3 M = some res) (hN : xN (pg7 p l e s m args below meth c G z0 y0 r M') r M' res) : xV G p l e (xRm 4 (h_sz M' - z0) (h_sl M' - y0)) s m args below meth c z0 y0 (h_sz M') (h_sl M') 8 (MQ below (xQc G r M') args s (h_sz M' - z0) (h_sl M' - y0) (xFr G)) 0 [(0, .inr (.inr (some a0))), (1, .inl v1), (2, .inl v2), (3, .inl v3)] [] M := by
  unfold b7_0 at h
  refine xv_b E [.aload_n 0] (pc' := 1) (lv' := [(0, .inr (.inr (some a0))), (1, .inl v1), (2, .inl v2), (3, .inl v3)]) (st' := [.inr (.inr (some a0))]) (by decide +kernel) rfl rfl ?_
  refine xv_co E mw77 mw9 mwObj (show decode prog_1_method_1_code 1 = .ok (.invokespecial 1, 3) by decide +kernel) (Nat.le_of_ble_eq_true rfl) ⟨Nat.le_of_ble_eq_true rfl, Nat.le_of_ble_eq_true rfl⟩ ?_
  refine xv_b E [.aload_n 0, .bipush 16] (pc' := 7) (lv' := [(0, .inr (.inr (some a0))), (1, .inl v1), (2, .inl v2), (3, .inl v3)]) (st' := [.inl (16 : Int32), .inr (.inr (some a0))]) (by decide +kernel) rfl rfl ?_
  obtain ⟨M1, h2, h⟩ := bd h
  refine xn_q E 8 h2 mw72 E.2.2.2.2.2.1.2.1.2.2.2.2.1 (show decode prog_1_method_1_code 7 = .ok (.anewarray 9, 3) by decide +kernel) ?_
  obtain ⟨M3, h4, h⟩ := bd h
  refine xp_r E 11 3 h4 mw73 (show decode prog_1_method_1_code 10 = .ok (.putfield 11, 3) by decide +kernel) (Or.inr ⟨rfl, B.2.2, rfl⟩) ?_
  refine xv_b E [.aload_n 0, .bipush 16] (pc' := 16) (lv' := [(0, .inr (.inr (some a0))), (1, .inl v1), (2, .inl v2), (3, .inl v3)]) (st' := [.inl (16 : Int32), .inr (.inr (some a0))]) (by decide +kernel) rfl rfl ?_
  obtain ⟨M5, h6, h⟩ := bd h
  refine xn_q E 8 h6 mw72 E.2.2.2.2.2.1.2.1.2.2.2.2.1 (show decode prog_1_method_1_code 16 = .ok (.anewarray 9, 3) by decide +kernel) ?_
  obtain ⟨M7, h8, h⟩ := bd h
  refine xp_r E 11 4 h8 mw74 (show decode prog_1_method_1_code 19 = .ok (.putfield 15, 3) by decide +kernel) (Or.inr ⟨rfl, B.2.2, rfl⟩) ?_
  refine xv_b E [.aload_n 0, .sipush 300] (pc' := 26) (lv' := [(0, .inr (.inr (some a0))), (1, .inl v1), (2, .inl v2), (3, .inl v3)]) (st' := [.inl (300 : Int32), .inr (.inr (some a0))]) (by decide +kernel) rfl rfl ?_
  obtain ⟨M9, h10, h⟩ := bd h
  refine xn_q E 0 h10 mw75 E.2.2.2.2.2.1.2.1.1 (show decode prog_1_method_1_code 26 = .ok (.anewarray 18, 3) by decide +kernel) ?_
  obtain ⟨M11, h12, h⟩ := bd h
  refine xp_r E 11 6 h12 mw76 (show decode prog_1_method_1_code 29 = .ok (.putfield 20, 3) by decide +kernel) (Or.inr ⟨rfl, B.2.2, rfl⟩) ?_
  refine xv_b E [.iload_n 1, .iconst 1] (pc' := 34) (lv' := [(0, .inr (.inr (some a0))), (1, .inl v1), (2, .inl v2), (3, .inl v3)]) (st' := [.inl (1 : Int32), .inl v1]) (by decide +kernel) rfl rfl ?_
  by_cases q14 : v1 < (1 : Int32)
  · rw [if_pos q14] at h
    refine xv_icmp_lt E 46 (show decode prog_1_method_1_code 34 = .ok (.if_icmp .lt (12), 3) by decide +kernel) rfl (fun _ => ?_) (fun z => absurd q14 z)
    exact xv_w (sb7_46 E B a0 v2 v3 M11 h hN) rfl
  · rw [if_neg q14] at h
    refine xv_icmp_lt E 46 (show decode prog_1_method_1_code 34 = .ok (.if_icmp .lt (12), 3) by decide +kernel) rfl (fun z => absurd z q14) (fun _ => ?_)
    refine xv_b E [.iload_n 1, .iconst 5] (pc' := 39) (lv' := [(0, .inr (.inr (some a0))), (1, .inl v1), (2, .inl v2), (3, .inl v3)]) (st' := [.inl (5 : Int32), .inl v1]) (by decide +kernel) rfl rfl ?_
    by_cases q13 : (5 : Int32) < v1
    · rw [if_pos q13] at h
      refine xv_icmp_gt E 46 (show decode prog_1_method_1_code 39 = .ok (.if_icmp .gt (7), 3) by decide +kernel) rfl (fun _ => ?_) (fun z => absurd q13 z)
      exact xv_w (sb7_46 E B a0 v2 v3 M11 h hN) rfl
    · rw [if_neg q13] at h
      refine xv_icmp_gt E 46 (show decode prog_1_method_1_code 39 = .ok (.if_icmp .gt (7), 3) by decide +kernel) rfl (fun z => absurd z q13) (fun _ => ?_)
      refine xv_b E [.iload_n 1] (pc' := 43) (lv' := [(0, .inr (.inr (some a0))), (1, .inl v1), (2, .inl v2), (3, .inl v3)]) (st' := [.inl v1]) (by decide +kernel) rfl rfl ?_
      refine xv_goto E 47 (show decode prog_1_method_1_code 43 = .ok (.goto (4), 3) by decide +kernel) rfl ?_
      exact xv_w (sb7_47 E B a0 v2 v3 v1 M11 h hN) rfl
theorem sb7_109 (E : xE G p (xRm 4 (h_sz M' - z0) (h_sl M' - y0)) s m args c prog_1_method_1_code "ZonedFabric" z0 y0 (h_sz M') (h_sl M') 8) (B : xB ym7 none meth) (a0 : Nat) (v4 : Int32) (v5 : Int32) (v6 : Int32) (M : hM) {res : xRes} (h : b7_109 a0 v4 v5 v6 M = some res) (hN : xN (pg7 p l e s m args below meth c G z0 y0 r M') r M' res) : xV G p l e (xRm 4 (h_sz M' - z0) (h_sl M' - y0)) s m args below meth c z0 y0 (h_sz M') (h_sl M') 8 (MQ below (xQc G r M') args s (h_sz M' - z0) (h_sl M' - y0) (xFr G)) 109 [(0, .inr (.inr (some a0))), (4, .inl v4), (5, .inl v5), (6, .inl v6)] [] M := by
  unfold b7_109 at h
  refine xv_b E [.iload 6, .iload 4] (pc' := 113) (lv' := [(0, .inr (.inr (some a0))), (4, .inl v4), (5, .inl v5), (6, .inl v6)]) (st' := [.inl v4, .inl v6]) (by decide +kernel) rfl rfl ?_
  by_cases q45 : v4 ≤ v6
  · rw [if_pos q45] at h
    refine xv_icmp_ge E 142 (show decode prog_1_method_1_code 113 = .ok (.if_icmp .ge (29), 3) by decide +kernel) rfl (fun _ => ?_) (fun z => absurd q45 z)
    refine xv_b E [.aload_n 0, .iload 5] (pc' := 145) (lv' := [(0, .inr (.inr (some a0))), (4, .inl v4), (5, .inl v5), (6, .inl v6)]) (st' := [.inl v5, .inr (.inr (some a0))]) (by decide +kernel) rfl rfl ?_
    obtain ⟨M31, h32, h⟩ := bd h
    refine xn_q E 5 h32 mw85 E.2.2.2.2.2.1.2.1.2.1 (show decode prog_1_method_1_code 145 = .ok (.anewarray 42, 3) by decide +kernel) ?_
    obtain ⟨M33, h34, h⟩ := bd h
    refine xp_r E 11 2 h34 mw86 (show decode prog_1_method_1_code 148 = .ok (.putfield 44, 3) by decide +kernel) (Or.inr ⟨rfl, B.2.2, rfl⟩) ?_
    refine xv_b E [.iconst 0, .istore 6] (pc' := 154) (lv' := [(6, .inl (0 : Int32)), (0, .inr (.inr (some a0))), (4, .inl v4), (5, .inl v5)]) (st' := []) (by decide +kernel) rfl rfl ?_
    obtain rfl := Option.some.inj h
    exact xv_w hN rfl
  · rw [if_neg q45] at h
    refine xv_icmp_ge E 142 (show decode prog_1_method_1_code 113 = .ok (.if_icmp .ge (29), 3) by decide +kernel) rfl (fun z => absurd z q45) (fun _ => ?_)
    refine xv_b E [.aload_n 0] (pc' := 117) (lv' := [(0, .inr (.inr (some a0))), (4, .inl v4), (5, .inl v5), (6, .inl v6)]) (st' := [.inr (.inr (some a0))]) (by decide +kernel) rfl rfl ?_
    obtain ⟨o_35, h36, h⟩ := bd h
    refine xg_r E 11 1 h36 mw84 (show decode prog_1_method_1_code 117 = .ok (.getfield 35, 3) by decide +kernel) ?_
    refine xv_b E [.iload 6] (pc' := 122) (lv' := [(0, .inr (.inr (some a0))), (4, .inl v4), (5, .inl v5), (6, .inl v6)]) (st' := [.inl v6, .inr (.inr o_35)]) (by decide +kernel) rfl rfl ?_
    obtain ⟨M37, h38, h⟩ := bd h
    refine xn_o E 10 h38 rfl mw83 mw87 mw51 (show decode prog_1_method_1_code 122 = .ok (.new 33, 3) by decide +kernel) ?_
    refine xv_b E [.dup, .aload_n 0] (pc' := 127) (lv' := [(0, .inr (.inr (some a0))), (4, .inl v4), (5, .inl v5), (6, .inl v6)]) (st' := [.inr (.inr (some a0)), .inr (.inr (some (h_sz M))), .inr (.inr (some (h_sz M))), .inl v6, .inr (.inr o_35)]) (by decide +kernel) rfl rfl ?_
    obtain ⟨o_39, h40, h⟩ := bd h
    refine xg_r E 11 0 h40 mw82 (show decode prog_1_method_1_code 127 = .ok (.getfield 29, 3) by decide +kernel) ?_
    refine xv_b E [.iload 6] (pc' := 132) (lv' := [(0, .inr (.inr (some a0))), (4, .inl v4), (5, .inl v5), (6, .inl v6)]) (st' := [.inl v6, .inr (.inr o_39), .inr (.inr (some (h_sz M))), .inr (.inr (some (h_sz M))), .inl v6, .inr (.inr o_35)]) (by decide +kernel) rfl rfl ?_
    obtain ⟨q_41, h42, h⟩ := bd h
    refine xv_ci E (as := [.inr (.inr o_39), .inl v6]) (t6 G l (c_V_some h42)) cd6 (Or.inl mw88) mw89 rfl (show decode prog_1_method_1_code 132 = .ok (.invokespecial 39, 3) by decide +kernel) rfl rfl (Nat.le_of_ble_eq_true rfl) ⟨Nat.le_of_ble_eq_true rfl, Nat.le_of_ble_eq_true rfl⟩ ?_
    obtain ⟨M43, h44, h⟩ := bd h
    refine xs_r E 10 h44 (show decode prog_1_method_1_code 135 = .ok (.aastore, 1) by decide +kernel) ?_
    refine xv_b E [.iinc 6 1] (pc' := 139) (lv' := [(6, .inl (v6 + (1 : Int32))), (0, .inr (.inr (some a0))), (4, .inl v4), (5, .inl v5)]) (st' := []) (by decide +kernel) rfl rfl ?_
    refine xv_goto E 109 (show decode prog_1_method_1_code 139 = .ok (.goto (-30), 3) by decide +kernel) rfl ?_
    obtain rfl := Option.some.inj h
    exact xv_w hN rfl
theorem sb7_154 (E : xE G p (xRm 4 (h_sz M' - z0) (h_sl M' - y0)) s m args c prog_1_method_1_code "ZonedFabric" z0 y0 (h_sz M') (h_sl M') 8) (B : xB ym7 none meth) (a0 : Nat) (v5 : Int32) (v6 : Int32) (M : hM) {res : xRes} (h : b7_154 a0 v5 v6 M = some res) (hN : xN (pg7 p l e s m args below meth c G z0 y0 r M') r M' res) : xV G p l e (xRm 4 (h_sz M' - z0) (h_sl M' - y0)) s m args below meth c z0 y0 (h_sz M') (h_sl M') 8 (MQ below (xQc G r M') args s (h_sz M' - z0) (h_sl M' - y0) (xFr G)) 154 [(0, .inr (.inr (some a0))), (5, .inl v5), (6, .inl v6)] [] M := by
  unfold b7_154 at h
  refine xv_b E [.iload 6, .iload 5] (pc' := 158) (lv' := [(0, .inr (.inr (some a0))), (5, .inl v5), (6, .inl v6)]) (st' := [.inl v5, .inl v6]) (by decide +kernel) rfl rfl ?_
  by_cases q64 : v5 ≤ v6
  · rw [if_pos q64] at h
    refine xv_icmp_ge E 209 (show decode prog_1_method_1_code 158 = .ok (.if_icmp .ge (51), 3) by decide +kernel) rfl (fun _ => ?_) (fun z => absurd q64 z)
    obtain rfl := Option.some.inj h
    obtain ⟨rfl, rfl⟩ := Prod.mk.inj (show ((none : Option aV), M) = (r, M') from hN)
    exact xv_rv E B.1 B.2.1 (show decode prog_1_method_1_code 209 = .ok (.return_, 1) by decide +kernel) rfl rfl
  · rw [if_neg q64] at h
    refine xv_icmp_ge E 209 (show decode prog_1_method_1_code 158 = .ok (.if_icmp .ge (51), 3) by decide +kernel) rfl (fun z => absurd z q64) (fun _ => ?_)
    obtain ⟨M46, h47, h⟩ := bd h
    refine xn_o E 5 h47 rfl mw85 mw90 mw27 (show decode prog_1_method_1_code 161 = .ok (.new 42, 3) by decide +kernel) ?_
    refine xv_b E [.dup, .aload_n 0] (pc' := 166) (lv' := [(0, .inr (.inr (some a0))), (5, .inl v5), (6, .inl v6)]) (st' := [.inr (.inr (some a0)), .inr (.inr (some (h_sz M))), .inr (.inr (some (h_sz M)))]) (by decide +kernel) rfl rfl ?_
    obtain ⟨o_48, h49, h⟩ := bd h
    refine xg_r E 11 0 h49 mw82 (show decode prog_1_method_1_code 166 = .ok (.getfield 29, 3) by decide +kernel) ?_
    refine xv_b E [.iload 6] (pc' := 171) (lv' := [(0, .inr (.inr (some a0))), (5, .inl v5), (6, .inl v6)]) (st' := [.inl v6, .inr (.inr o_48), .inr (.inr (some (h_sz M))), .inr (.inr (some (h_sz M)))]) (by decide +kernel) rfl rfl ?_
    obtain ⟨q_50, h51, h⟩ := bd h
    refine xv_ci E (as := [.inr (.inr o_48), .inl v6]) (t3 G l (c_V_some h51)) cd3 (Or.inl mw91) mw92 rfl (show decode prog_1_method_1_code 171 = .ok (.invokespecial 48, 3) by decide +kernel) rfl rfl (Nat.le_of_ble_eq_true rfl) ⟨Nat.le_of_ble_eq_true rfl, Nat.le_of_ble_eq_true rfl⟩ ?_
    refine xv_b E [.astore 7, .aload 7] (pc' := 178) (lv' := [(7, .inr (.inr (some (h_sz M)))), (0, .inr (.inr (some a0))), (5, .inl v5), (6, .inl v6)]) (st' := [.inr (.inr (some (h_sz M)))]) (by decide +kernel) rfl rfl ?_
    obtain ⟨M52, h53, h⟩ := bd h
    refine xn_o E 4 h53 rfl mw93 mw94 mw37 (show decode prog_1_method_1_code 178 = .ok (.new 49, 3) by decide +kernel) ?_
    refine xv_b E [.dup, .aload_n 0] (pc' := 183) (lv' := [(7, .inr (.inr (some (h_sz M)))), (0, .inr (.inr (some a0))), (5, .inl v5), (6, .inl v6)]) (st' := [.inr (.inr (some a0)), .inr (.inr (some (h_sz q_50))), .inr (.inr (some (h_sz q_50))), .inr (.inr (some (h_sz M)))]) (by decide +kernel) rfl rfl ?_
    obtain ⟨o_54, h55, h⟩ := bd h
    refine xg_r E 11 0 h55 mw82 (show decode prog_1_method_1_code 183 = .ok (.getfield 29, 3) by decide +kernel) ?_
    refine xv_b E [.aload 7] (pc' := 188) (lv' := [(7, .inr (.inr (some (h_sz M)))), (0, .inr (.inr (some a0))), (5, .inl v5), (6, .inl v6)]) (st' := [.inr (.inr (some (h_sz M))), .inr (.inr o_54), .inr (.inr (some (h_sz q_50))), .inr (.inr (some (h_sz q_50))), .inr (.inr (some (h_sz M)))]) (by decide +kernel) rfl rfl ?_
    obtain ⟨q_56, h57, h⟩ := bd h
    refine xv_ci E (as := [.inr (.inr o_54), .inr (.inr (some (h_sz M)))]) (t4 G l (c_V_some h57)) cd4 (Or.inl mw95) mw96 rfl (show decode prog_1_method_1_code 188 = .ok (.invokespecial 51, 3) by decide +kernel) rfl rfl (Nat.le_of_ble_eq_true rfl) ⟨Nat.le_of_ble_eq_true rfl, Nat.le_of_ble_eq_true rfl⟩ ?_
    obtain ⟨M58, h59, h⟩ := bd h
    refine xp_r E 5 4 h59 mw97 (show decode prog_1_method_1_code 191 = .ok (.putfield 54, 3) by decide +kernel) (Or.inl rfl) ?_
    refine xv_b E [.aload_n 0] (pc' := 195) (lv' := [(7, .inr (.inr (some (h_sz M)))), (0, .inr (.inr (some a0))), (5, .inl v5), (6, .inl v6)]) (st' := [.inr (.inr (some a0))]) (by decide +kernel) rfl rfl ?_
    obtain ⟨o_60, h61, h⟩ := bd h
    refine xg_r E 11 2 h61 mw86 (show decode prog_1_method_1_code 195 = .ok (.getfield 44, 3) by decide +kernel) ?_
    refine xv_b E [.iload 6, .aload 7] (pc' := 202) (lv' := [(7, .inr (.inr (some (h_sz M)))), (0, .inr (.inr (some a0))), (5, .inl v5), (6, .inl v6)]) (st' := [.inr (.inr (some (h_sz M))), .inl v6, .inr (.inr o_60)]) (by decide +kernel) rfl rfl ?_
    obtain ⟨M62, h63, h⟩ := bd h
    refine xs_r E 5 h63 (show decode prog_1_method_1_code 202 = .ok (.aastore, 1) by decide +kernel) ?_
    refine xv_b E [.iinc 6 1] (pc' := 206) (lv' := [(6, .inl (v6 + (1 : Int32))), (7, .inr (.inr (some (h_sz M)))), (0, .inr (.inr (some a0))), (5, .inl v5)]) (st' := []) (by decide +kernel) rfl rfl ?_
    refine xv_goto E 154 (show decode prog_1_method_1_code 206 = .ok (.goto (-52), 3) by decide +kernel) rfl ?_
    obtain rfl := Option.some.inj h
    exact xv_w hN rfl
end
theorem t7 (G : gX) (l : Launch) {as : List aV} {M : hM} {r : Option aV} {M' : hM} (h : f7 as M = some (r, M')) : xM G l ym7 prog_1_method_1_code 8 none 4 as M r M' := by
  unfold f7 at h
  split at h
  · have hle : ∀ h as M res, k7 h as M = some res → h_sz M ≤ r_sz res ∧ h_sl M ≤ r_sl res := by
      intro h as M res hb
      unfold k7 at hb
      by_cases e0 : h = 109
      · rw [if_pos e0] at hb
        split at hb
        · exact lb7_109 G l _ _ _ _ M hb
        · cases hb
      · rw [if_neg e0] at hb
        by_cases e1 : h = 154
        · rw [if_pos e1] at hb
          split at hb
          · exact lb7_154 G l _ _ _ M hb
          · cases hb
        · rw [if_neg e1] at hb
          cases hb
    obtain ⟨res, hx, hres⟩ := x_go_ok h
    refine xM_of (by decide) (Nat.le_of_ble_eq_true rfl) ?_ ?_
    · have e1 := lb7_0 G l _ _ _ _ M hx
      have e2 := x_go_le hle hres
      omega
    · intro p e s m args below meth c E B
      refine sb7_0 E B _ _ _ _ M hx (hres _ ?_)
      intro h as M res hb hN
      unfold k7 at hb
      unfold pg7
      by_cases e0 : h = 109
      · rw [if_pos e0] at hb ⊢
        split at hb
        · exact sb7_109 E B _ _ _ _ M hb hN
        · cases hb
      · rw [if_neg e0] at hb ⊢
        by_cases e1 : h = 154
        · rw [if_pos e1] at hb ⊢
          split at hb
          · exact sb7_154 E B _ _ _ M hb hN
          · cases hb
        · rw [if_neg e1] at hb ⊢
          cases hb
  · cases h
/-! ZF.Shared.isNode(I)Z -/
def ym8 : MethodName := ⟨"ZonedFabric$Shared", "isNode", "(I)Z"⟩
theorem cd8 : xCd ym8 prog_11_method_2_code 2 (some FieldType.boolean) 1 := ⟨mw98, mw1, by decide, by decide, by decide +kernel⟩
def b8_17 (si0 : Int32) (M : hM) : Option xRes :=
  if si0 = 0 ∨ si0 = 1 then
    (some (.inl (some (.inl si0), M)))
  else
    none
def b8_16  (M : hM) : Option xRes :=
  b8_17 (0 : Int32) M
def b8_0 (a0 : Nat) (v1 : Int32) (M : hM) : Option xRes :=
  if v1 < 0 then
    (b8_16  M)
  else
    (Option.bind (g_i M 9 1 (some a0)) fun v_1 =>
    if v_1 ≤ v1 then
      (b8_16  M)
    else
      (b8_17 (1 : Int32) M))
def f8 (as : List aV) (M : hM) : xO := match as with
  | [.inr (.inr (some a0)), .inl v1] => x_out (b8_0 a0 v1 M)
  | _ => none
theorem lb8_17 (G : gX) (l : Launch) (si0 : Int32) (M : hM) {res : xRes} (h : b8_17 si0 M = some res) : h_sz M ≤ r_sz res ∧ h_sl M ≤ r_sl res := by
  unfold b8_17 at h
  by_cases q5 : si0 = 0 ∨ si0 = 1
  · rw [if_pos q5] at h
    obtain rfl := Option.some.inj h
    show h_sz M ≤ h_sz M ∧ h_sl M ≤ h_sl M
    omega
  · rw [if_neg q5] at h
    cases h
theorem lb8_16 (G : gX) (l : Launch)  (M : hM) {res : xRes} (h : b8_16  M = some res) : h_sz M ≤ r_sz res ∧ h_sl M ≤ r_sl res := by
  unfold b8_16 at h
  have e := lb8_17 G l (0 : Int32) M h
  omega
theorem lb8_0 (G : gX) (l : Launch) (a0 : Nat) (v1 : Int32) (M : hM) {res : xRes} (h : b8_0 a0 v1 M = some res) : h_sz M ≤ r_sz res ∧ h_sl M ≤ r_sl res := by
  unfold b8_0 at h
  by_cases q4 : v1 < 0
  · rw [if_pos q4] at h
    have e := lb8_16 G l  M h
    omega
  · rw [if_neg q4] at h
    obtain ⟨v_1, h2, h⟩ := bd h
    by_cases q3 : v_1 ≤ v1
    · rw [if_pos q3] at h
      have e := lb8_16 G l  M h
      omega
    · rw [if_neg q3] at h
      have e := lb8_17 G l (1 : Int32) M h
      omega
section
variable {p : Program} {l : Launch} {e : Env} {s : State} {m : MethodId} {args : Array Value} {below : List Frame} {meth : Method} {c : Code} {G : gX} {z0 y0 : Nat} {r : Option aV} {M' : hM}
theorem sb8_17 (E : xE G p (xRm 0 (h_sz M' - z0) (h_sl M' - y0)) s m args c prog_11_method_2_code "ZonedFabric$Shared" z0 y0 (h_sz M') (h_sl M') 2) (B : xB ym8 (some FieldType.boolean) meth) (si0 : Int32) (M : hM) {res : xRes} (h : b8_17 si0 M = some res) (hN : xN (fun _ _ _ => False) r M' res) : xV G p l e (xRm 0 (h_sz M' - z0) (h_sl M' - y0)) s m args below meth c z0 y0 (h_sz M') (h_sl M') 2 (MQ below (xQc G r M') args s (h_sz M' - z0) (h_sl M' - y0) (xFr G)) 17 [] [.inl si0] M := by
  unfold b8_17 at h
  by_cases q5 : si0 = 0 ∨ si0 = 1
  · rw [if_pos q5] at h
    obtain rfl := Option.some.inj h
    obtain ⟨rfl, rfl⟩ := Prod.mk.inj (show ((some (.inl si0) : Option aV), M) = (r, M') from hN)
    exact xv_ri E B.1 (by rcases q5 with z | z <;> rw [z] <;> rfl) B.2.1 (show decode prog_11_method_2_code 17 = .ok (.ireturn, 1) by decide +kernel) rfl rfl
  · rw [if_neg q5] at h
    cases h
theorem sb8_16 (E : xE G p (xRm 0 (h_sz M' - z0) (h_sl M' - y0)) s m args c prog_11_method_2_code "ZonedFabric$Shared" z0 y0 (h_sz M') (h_sl M') 2) (B : xB ym8 (some FieldType.boolean) meth)  (M : hM) {res : xRes} (h : b8_16  M = some res) (hN : xN (fun _ _ _ => False) r M' res) : xV G p l e (xRm 0 (h_sz M' - z0) (h_sl M' - y0)) s m args below meth c z0 y0 (h_sz M') (h_sl M') 2 (MQ below (xQc G r M') args s (h_sz M' - z0) (h_sl M' - y0) (xFr G)) 16 [] [] M := by
  unfold b8_16 at h
  refine xv_b E [.iconst 0] (pc' := 17) (lv' := []) (st' := [.inl (0 : Int32)]) (by decide +kernel) rfl rfl ?_
  exact xv_w (sb8_17 E B (0 : Int32) M h hN) rfl
theorem sb8_0 (E : xE G p (xRm 0 (h_sz M' - z0) (h_sl M' - y0)) s m args c prog_11_method_2_code "ZonedFabric$Shared" z0 y0 (h_sz M') (h_sl M') 2) (B : xB ym8 (some FieldType.boolean) meth) (a0 : Nat) (v1 : Int32) (M : hM) {res : xRes} (h : b8_0 a0 v1 M = some res) (hN : xN (fun _ _ _ => False) r M' res) : xV G p l e (xRm 0 (h_sz M' - z0) (h_sl M' - y0)) s m args below meth c z0 y0 (h_sz M') (h_sl M') 2 (MQ below (xQc G r M') args s (h_sz M' - z0) (h_sl M' - y0) (xFr G)) 0 [(0, .inr (.inr (some a0))), (1, .inl v1)] [] M := by
  unfold b8_0 at h
  refine xv_b E [.iload_n 1] (pc' := 1) (lv' := [(0, .inr (.inr (some a0))), (1, .inl v1)]) (st' := [.inl v1]) (by decide +kernel) rfl rfl ?_
  by_cases q4 : v1 < 0
  · rw [if_pos q4] at h
    refine xv_if_lt E 16 (show decode prog_11_method_2_code 1 = .ok (.ifCond .lt (15), 3) by decide +kernel) rfl (fun _ => ?_) (fun z => absurd q4 z)
    exact xv_w (sb8_16 E B  M h hN) rfl
  · rw [if_neg q4] at h
    refine xv_if_lt E 16 (show decode prog_11_method_2_code 1 = .ok (.ifCond .lt (15), 3) by decide +kernel) rfl (fun z => absurd z q4) (fun _ => ?_)
    refine xv_b E [.iload_n 1, .aload_n 0] (pc' := 6) (lv' := [(0, .inr (.inr (some a0))), (1, .inl v1)]) (st' := [.inr (.inr (some a0)), .inl v1]) (by decide +kernel) rfl rfl ?_
    obtain ⟨v_1, h2, h⟩ := bd h
    refine xg_i E 9 1 h2 mw6 (show decode prog_11_method_2_code 6 = .ok (.getfield 22, 3) by decide +kernel) ?_
    by_cases q3 : v_1 ≤ v1
    · rw [if_pos q3] at h
      refine xv_icmp_ge E 16 (show decode prog_11_method_2_code 9 = .ok (.if_icmp .ge (7), 3) by decide +kernel) rfl (fun _ => ?_) (fun z => absurd q3 z)
      exact xv_w (sb8_16 E B  M h hN) rfl
    · rw [if_neg q3] at h
      refine xv_icmp_ge E 16 (show decode prog_11_method_2_code 9 = .ok (.if_icmp .ge (7), 3) by decide +kernel) rfl (fun z => absurd z q3) (fun _ => ?_)
      refine xv_b E [.iconst 1] (pc' := 13) (lv' := [(0, .inr (.inr (some a0))), (1, .inl v1)]) (st' := [.inl (1 : Int32)]) (by decide +kernel) rfl rfl ?_
      refine xv_goto E 17 (show decode prog_11_method_2_code 13 = .ok (.goto (4), 3) by decide +kernel) rfl ?_
      exact xv_w (sb8_17 E B (1 : Int32) M h hN) rfl
end
theorem t8 (G : gX) (l : Launch) {as : List aV} {M : hM} {r : Option aV} {M' : hM} (h : f8 as M = some (r, M')) : xM G l ym8 prog_11_method_2_code 2 (some FieldType.boolean) 0 as M r M' := by
  unfold f8 at h
  split at h
  · have h := x_out_ok h
    refine xM_of (by decide) (Nat.le_of_ble_eq_true rfl) (lb8_0 G l _ _ M h) ?_
    intro p e s m args below meth c E B
    exact sb8_0 E B _ _ M h rfl
  · cases h
/-! ZF.OpenWrite.init()V -/
def ym9 : MethodName := ⟨"ZonedFabric$OpenWrite", "<init>", "()V"⟩
theorem cd9 : xCd ym9 prog_9_method_1_code 1 none 0 := ⟨mw99, mw100, by decide, by decide, by decide +kernel⟩
def b9_0 (a0 : Nat) (M : hM) : Option xRes :=
  Option.bind (n_a M 23 (4 : Int32)) fun M1 =>
  Option.bind (p_r M1 7 8 (some a0) (some (h_sz M))) fun M3 =>
  some (.inl (none, M3))
def f9 (as : List aV) (M : hM) : xO := match as with
  | [.inr (.inr (some a0))] => x_out (b9_0 a0 M)
  | _ => none
theorem lb9_0 (G : gX) (l : Launch) (a0 : Nat) (M : hM) {res : xRes} (h : b9_0 a0 M = some res) : h_sz M ≤ r_sz res ∧ h_sl M ≤ r_sl res := by
  unfold b9_0 at h
  obtain ⟨M1, h2, h⟩ := bd h
  have eh2 := n_a_sz h2
  obtain ⟨M3, h4, h⟩ := bd h
  have eh4 := p_r_sz h4
  obtain rfl := Option.some.inj h
  show h_sz M ≤ h_sz M3 ∧ h_sl M ≤ h_sl M3
  omega
section
variable {p : Program} {l : Launch} {e : Env} {s : State} {m : MethodId} {args : Array Value} {below : List Frame} {meth : Method} {c : Code} {G : gX} {z0 y0 : Nat} {r : Option aV} {M' : hM}
theorem sb9_0 (E : xE G p (xRm 1 (h_sz M' - z0) (h_sl M' - y0)) s m args c prog_9_method_1_code "ZonedFabric$OpenWrite" z0 y0 (h_sz M') (h_sl M') 1) (B : xB ym9 none meth) (a0 : Nat) (M : hM) {res : xRes} (h : b9_0 a0 M = some res) (hN : xN (fun _ _ _ => False) r M' res) : xV G p l e (xRm 1 (h_sz M' - z0) (h_sl M' - y0)) s m args below meth c z0 y0 (h_sz M') (h_sl M') 1 (MQ below (xQc G r M') args s (h_sz M' - z0) (h_sl M' - y0) (xFr G)) 0 [(0, .inr (.inr (some a0)))] [] M := by
  unfold b9_0 at h
  refine xv_b E [.aload_n 0] (pc' := 1) (lv' := [(0, .inr (.inr (some a0)))]) (st' := [.inr (.inr (some a0))]) (by decide +kernel) rfl rfl ?_
  refine xv_co E mw103 mw9 mwObj (show decode prog_9_method_1_code 1 = .ok (.invokespecial 3, 3) by decide +kernel) (Nat.le_of_ble_eq_true rfl) ⟨Nat.le_of_ble_eq_true rfl, Nat.le_of_ble_eq_true rfl⟩ ?_
  refine xv_b E [.aload_n 0, .iconst 4] (pc' := 6) (lv' := [(0, .inr (.inr (some a0)))]) (st' := [.inl (4 : Int32), .inr (.inr (some a0))]) (by decide +kernel) rfl rfl ?_
  obtain ⟨M1, h2, h⟩ := bd h
  refine xn_a E 23 h2 mw101 (show decode prog_9_method_1_code 6 = .ok (.newarray .long, 2) by decide +kernel) ?_
  obtain ⟨M3, h4, h⟩ := bd h
  refine xp_r E 7 8 h4 mw102 (show decode prog_9_method_1_code 8 = .ok (.putfield 9, 3) by decide +kernel) (Or.inr ⟨rfl, B.2.2, rfl⟩) ?_
  obtain rfl := Option.some.inj h
  obtain ⟨rfl, rfl⟩ := Prod.mk.inj (show ((none : Option aV), M3) = (r, M') from hN)
  exact xv_rv E B.1 B.2.1 (show decode prog_9_method_1_code 11 = .ok (.return_, 1) by decide +kernel) rfl rfl
end
theorem t9 (G : gX) (l : Launch) {as : List aV} {M : hM} {r : Option aV} {M' : hM} (h : f9 as M = some (r, M')) : xM G l ym9 prog_9_method_1_code 1 none 1 as M r M' := by
  unfold f9 at h
  split at h
  · have h := x_out_ok h
    refine xM_of (by decide) (Nat.le_of_ble_eq_true rfl) (lb9_0 G l _ M h) ?_
    intro p e s m args below meth c E B
    exact sb9_0 E B _ M h rfl
  · cases h
/-! ZF.Disc.init(LZF$Shared;LZF$Node;)V -/
def ym10 : MethodName := ⟨"ZonedFabric$Disc", "<init>", "(LZonedFabric$Shared;LZonedFabric$Node;)V"⟩
theorem cd10 : xCd ym10 prog_3_method_1_code 4 none 2 := ⟨mw104, mw105, by decide, by decide, by decide +kernel⟩
def b10_0 (a0 : Nat) (o1 : Option Nat) (o2 : Option Nat) (M : hM) : Option xRes :=
  Option.bind (n_a M 23 (32 : Int32)) fun M1 =>
  Option.bind (p_r M1 1 2 (some a0) (some (h_sz M))) fun M3 =>
  Option.bind (n_a M3 20 (8 : Int32)) fun M5 =>
  Option.bind (p_r M5 1 3 (some a0) (some (h_sz M3))) fun M7 =>
  Option.bind (n_a M7 37 (6 : Int32)) fun M9 =>
  Option.bind (p_r M9 1 5 (some a0) (some (h_sz M7))) fun M11 =>
  Option.bind (p_r M11 1 0 (some a0) o1) fun M13 =>
  Option.bind (p_r M13 1 1 (some a0) o2) fun M15 =>
  some (.inr (41, [.inr (.inr (some a0)), .inl (0 : Int32)], M15))
def b10_41 (a0 : Nat) (v3 : Int32) (M : hM) : Option xRes :=
  if (6 : Int32) ≤ v3 then
    (some (.inl (none, M)))
  else
    (Option.bind (g_r M 1 5 (some a0)) fun o_17 =>
    Option.bind (n_o M 7 9) fun M19 =>
    Option.bind (c_V (f9 [.inr (.inr (some (h_sz M)))] M19)) fun q_21 =>
    Option.bind (as_r q_21 7 o_17 v3 (some (h_sz M))) fun M23 =>
    some (.inr (41, [.inr (.inr (some a0)), .inl (v3 + (1 : Int32))], M23)))
def k10 (h : Nat) (as : List aV) (M : hM) : Option xRes :=
  if h = 41 then (match as with | [.inr (.inr (some a0)), .inl v3] => b10_41 a0 v3 M | _ => none) else
  none
def f10 (as : List aV) (M : hM) : xO := match as with
  | [.inr (.inr (some a0)), .inr (.inr o1), .inr (.inr o2)] => x_go k10 (b10_0 a0 o1 o2 M)
  | _ => none
theorem lb10_0 (G : gX) (l : Launch) (a0 : Nat) (o1 : Option Nat) (o2 : Option Nat) (M : hM) {res : xRes} (h : b10_0 a0 o1 o2 M = some res) : h_sz M ≤ r_sz res ∧ h_sl M ≤ r_sl res := by
  unfold b10_0 at h
  obtain ⟨M1, h2, h⟩ := bd h
  have eh2 := n_a_sz h2
  obtain ⟨M3, h4, h⟩ := bd h
  have eh4 := p_r_sz h4
  obtain ⟨M5, h6, h⟩ := bd h
  have eh6 := n_a_sz h6
  obtain ⟨M7, h8, h⟩ := bd h
  have eh8 := p_r_sz h8
  obtain ⟨M9, h10, h⟩ := bd h
  have eh10 := n_a_sz h10
  obtain ⟨M11, h12, h⟩ := bd h
  have eh12 := p_r_sz h12
  obtain ⟨M13, h14, h⟩ := bd h
  have eh14 := p_r_sz h14
  obtain ⟨M15, h16, h⟩ := bd h
  have eh16 := p_r_sz h16
  obtain rfl := Option.some.inj h
  show h_sz M ≤ h_sz M15 ∧ h_sl M ≤ h_sl M15
  omega
theorem lb10_41 (G : gX) (l : Launch) (a0 : Nat) (v3 : Int32) (M : hM) {res : xRes} (h : b10_41 a0 v3 M = some res) : h_sz M ≤ r_sz res ∧ h_sl M ≤ r_sl res := by
  unfold b10_41 at h
  by_cases q25 : (6 : Int32) ≤ v3
  · rw [if_pos q25] at h
    obtain rfl := Option.some.inj h
    show h_sz M ≤ h_sz M ∧ h_sl M ≤ h_sl M
    omega
  · rw [if_neg q25] at h
    obtain ⟨o_17, h18, h⟩ := bd h
    obtain ⟨M19, h20, h⟩ := bd h
    have eh20 := n_o_sz h20
    obtain ⟨q_21, h22, h⟩ := bd h
    have eh22 := (t9 G l (c_V_some h22)).1
    obtain ⟨M23, h24, h⟩ := bd h
    have eh24 := as_r_sz h24
    obtain rfl := Option.some.inj h
    show h_sz M ≤ h_sz M23 ∧ h_sl M ≤ h_sl M23
    omega
section
variable {p : Program} {l : Launch} {e : Env} {s : State} {m : MethodId} {args : Array Value} {below : List Frame} {meth : Method} {c : Code} {G : gX} {z0 y0 : Nat} {r : Option aV} {M' : hM}
def pg10 (p : Program) (l : Launch) (e : Env) (s : State) (m : MethodId) (args : Array Value) (below : List Frame) (meth : Method) (c : Code) (G : gX) (z0 y0 : Nat) (r : Option aV) (M' : hM) (h : Nat) (as : List aV) (M : hM) : Prop :=
  if h = 41 then (match as with | [.inr (.inr (some a0)), .inl v3] => xV G p l e (xRm 2 (h_sz M' - z0) (h_sl M' - y0)) s m args below meth c z0 y0 (h_sz M') (h_sl M') 4 (MQ below (xQc G r M') args s (h_sz M' - z0) (h_sl M' - y0) (xFr G)) 41 [(0, .inr (.inr (some a0))), (3, .inl v3)] [] M | _ => False) else
  False
theorem sb10_0 (E : xE G p (xRm 2 (h_sz M' - z0) (h_sl M' - y0)) s m args c prog_3_method_1_code "ZonedFabric$Disc" z0 y0 (h_sz M') (h_sl M') 4) (B : xB ym10 none meth) (a0 : Nat) (o1 : Option Nat) (o2 : Option Nat) (M : hM) {res : xRes} (h : b10_0 a0 o1 o2 M = some res) (hN : xN (pg10 p l e s m args below meth c G z0 y0 r M') r M' res) : xV G p l e (xRm 2 (h_sz M' - z0) (h_sl M' - y0)) s m args below meth c z0 y0 (h_sz M') (h_sl M') 4 (MQ below (xQc G r M') args s (h_sz M' - z0) (h_sl M' - y0) (xFr G)) 0 [(0, .inr (.inr (some a0))), (1, .inr (.inr o1)), (2, .inr (.inr o2))] [] M := by
  unfold b10_0 at h
  refine xv_b E [.aload_n 0] (pc' := 1) (lv' := [(0, .inr (.inr (some a0))), (1, .inr (.inr o1)), (2, .inr (.inr o2))]) (st' := [.inr (.inr (some a0))]) (by decide +kernel) rfl rfl ?_
  refine xv_co E mw112 mw9 mwObj (show decode prog_3_method_1_code 1 = .ok (.invokespecial 3, 3) by decide +kernel) (Nat.le_of_ble_eq_true rfl) ⟨Nat.le_of_ble_eq_true rfl, Nat.le_of_ble_eq_true rfl⟩ ?_
  refine xv_b E [.aload_n 0, .bipush 32] (pc' := 7) (lv' := [(0, .inr (.inr (some a0))), (1, .inr (.inr o1)), (2, .inr (.inr o2))]) (st' := [.inl (32 : Int32), .inr (.inr (some a0))]) (by decide +kernel) rfl rfl ?_
  obtain ⟨M1, h2, h⟩ := bd h
  refine xn_a E 23 h2 mw101 (show decode prog_3_method_1_code 7 = .ok (.newarray .long, 2) by decide +kernel) ?_
  obtain ⟨M3, h4, h⟩ := bd h
  refine xp_r E 1 2 h4 mw106 (show decode prog_3_method_1_code 9 = .ok (.putfield 9, 3) by decide +kernel) (Or.inr ⟨rfl, B.2.2, rfl⟩) ?_
  refine xv_b E [.aload_n 0, .bipush 8] (pc' := 15) (lv' := [(0, .inr (.inr (some a0))), (1, .inr (.inr o1)), (2, .inr (.inr o2))]) (st' := [.inl (8 : Int32), .inr (.inr (some a0))]) (by decide +kernel) rfl rfl ?_
  obtain ⟨M5, h6, h⟩ := bd h
  refine xn_a E 20 h6 mw2 (show decode prog_3_method_1_code 15 = .ok (.newarray .int, 2) by decide +kernel) ?_
  obtain ⟨M7, h8, h⟩ := bd h
  refine xp_r E 1 3 h8 mw107 (show decode prog_3_method_1_code 17 = .ok (.putfield 15, 3) by decide +kernel) (Or.inr ⟨rfl, B.2.2, rfl⟩) ?_
  refine xv_b E [.aload_n 0, .bipush 6] (pc' := 23) (lv' := [(0, .inr (.inr (some a0))), (1, .inr (.inr o1)), (2, .inr (.inr o2))]) (st' := [.inl (6 : Int32), .inr (.inr (some a0))]) (by decide +kernel) rfl rfl ?_
  obtain ⟨M9, h10, h⟩ := bd h
  refine xn_q E 7 h10 mw108 E.2.2.2.2.2.1.2.1.2.2.2.1 (show decode prog_3_method_1_code 23 = .ok (.anewarray 19, 3) by decide +kernel) ?_
  obtain ⟨M11, h12, h⟩ := bd h
  refine xp_r E 1 5 h12 mw109 (show decode prog_3_method_1_code 26 = .ok (.putfield 21, 3) by decide +kernel) (Or.inr ⟨rfl, B.2.2, rfl⟩) ?_
  refine xv_b E [.aload_n 0, .aload_n 1] (pc' := 31) (lv' := [(0, .inr (.inr (some a0))), (1, .inr (.inr o1)), (2, .inr (.inr o2))]) (st' := [.inr (.inr o1), .inr (.inr (some a0))]) (by decide +kernel) rfl rfl ?_
  obtain ⟨M13, h14, h⟩ := bd h
  refine xp_r E 1 0 h14 mw110 (show decode prog_3_method_1_code 31 = .ok (.putfield 25, 3) by decide +kernel) (Or.inr ⟨rfl, B.2.2, rfl⟩) ?_
  refine xv_b E [.aload_n 0, .aload_n 2] (pc' := 36) (lv' := [(0, .inr (.inr (some a0))), (1, .inr (.inr o1)), (2, .inr (.inr o2))]) (st' := [.inr (.inr o2), .inr (.inr (some a0))]) (by decide +kernel) rfl rfl ?_
  obtain ⟨M15, h16, h⟩ := bd h
  refine xp_r E 1 1 h16 mw111 (show decode prog_3_method_1_code 36 = .ok (.putfield 29, 3) by decide +kernel) (Or.inr ⟨rfl, B.2.2, rfl⟩) ?_
  refine xv_b E [.iconst 0, .istore_n 3] (pc' := 41) (lv' := [(3, .inl (0 : Int32)), (0, .inr (.inr (some a0))), (1, .inr (.inr o1)), (2, .inr (.inr o2))]) (st' := []) (by decide +kernel) rfl rfl ?_
  obtain rfl := Option.some.inj h
  exact xv_w hN rfl
theorem sb10_41 (E : xE G p (xRm 2 (h_sz M' - z0) (h_sl M' - y0)) s m args c prog_3_method_1_code "ZonedFabric$Disc" z0 y0 (h_sz M') (h_sl M') 4) (B : xB ym10 none meth) (a0 : Nat) (v3 : Int32) (M : hM) {res : xRes} (h : b10_41 a0 v3 M = some res) (hN : xN (pg10 p l e s m args below meth c G z0 y0 r M') r M' res) : xV G p l e (xRm 2 (h_sz M' - z0) (h_sl M' - y0)) s m args below meth c z0 y0 (h_sz M') (h_sl M') 4 (MQ below (xQc G r M') args s (h_sz M' - z0) (h_sl M' - y0) (xFr G)) 41 [(0, .inr (.inr (some a0))), (3, .inl v3)] [] M := by
  unfold b10_41 at h
  refine xv_b E [.iload_n 3, .bipush 6] (pc' := 44) (lv' := [(0, .inr (.inr (some a0))), (3, .inl v3)]) (st' := [.inl (6 : Int32), .inl v3]) (by decide +kernel) rfl rfl ?_
  by_cases q25 : (6 : Int32) ≤ v3
  · rw [if_pos q25] at h
    refine xv_icmp_ge E 66 (show decode prog_3_method_1_code 44 = .ok (.if_icmp .ge (22), 3) by decide +kernel) rfl (fun _ => ?_) (fun z => absurd q25 z)
    obtain rfl := Option.some.inj h
    obtain ⟨rfl, rfl⟩ := Prod.mk.inj (show ((none : Option aV), M) = (r, M') from hN)
    exact xv_rv E B.1 B.2.1 (show decode prog_3_method_1_code 66 = .ok (.return_, 1) by decide +kernel) rfl rfl
  · rw [if_neg q25] at h
    refine xv_icmp_ge E 66 (show decode prog_3_method_1_code 44 = .ok (.if_icmp .ge (22), 3) by decide +kernel) rfl (fun z => absurd z q25) (fun _ => ?_)
    refine xv_b E [.aload_n 0] (pc' := 48) (lv' := [(0, .inr (.inr (some a0))), (3, .inl v3)]) (st' := [.inr (.inr (some a0))]) (by decide +kernel) rfl rfl ?_
    obtain ⟨o_17, h18, h⟩ := bd h
    refine xg_r E 1 5 h18 mw109 (show decode prog_3_method_1_code 48 = .ok (.getfield 21, 3) by decide +kernel) ?_
    refine xv_b E [.iload_n 3] (pc' := 52) (lv' := [(0, .inr (.inr (some a0))), (3, .inl v3)]) (st' := [.inl v3, .inr (.inr o_17)]) (by decide +kernel) rfl rfl ?_
    obtain ⟨M19, h20, h⟩ := bd h
    refine xn_o E 7 h20 rfl mw108 mw113 mw100 (show decode prog_3_method_1_code 52 = .ok (.new 19, 3) by decide +kernel) ?_
    refine xv_b E [.dup] (pc' := 56) (lv' := [(0, .inr (.inr (some a0))), (3, .inl v3)]) (st' := [.inr (.inr (some (h_sz M))), .inr (.inr (some (h_sz M))), .inl v3, .inr (.inr o_17)]) (by decide +kernel) rfl rfl ?_
    obtain ⟨q_21, h22, h⟩ := bd h
    refine xv_ci E (as := []) (t9 G l (c_V_some h22)) cd9 (Or.inr ⟨_, E.2.2.2.2.2.1.2.2.2.1.2.2.1⟩) mw114 rfl (show decode prog_3_method_1_code 56 = .ok (.invokespecial 33, 3) by decide +kernel) rfl rfl (Nat.le_of_ble_eq_true rfl) ⟨Nat.le_of_ble_eq_true rfl, Nat.le_of_ble_eq_true rfl⟩ ?_
    obtain ⟨M23, h24, h⟩ := bd h
    refine xs_r E 7 h24 (show decode prog_3_method_1_code 59 = .ok (.aastore, 1) by decide +kernel) ?_
    refine xv_b E [.iinc 3 1] (pc' := 63) (lv' := [(3, .inl (v3 + (1 : Int32))), (0, .inr (.inr (some a0)))]) (st' := []) (by decide +kernel) rfl rfl ?_
    refine xv_goto E 41 (show decode prog_3_method_1_code 63 = .ok (.goto (-22), 3) by decide +kernel) rfl ?_
    obtain rfl := Option.some.inj h
    exact xv_w hN rfl
end
theorem t10 (G : gX) (l : Launch) {as : List aV} {M : hM} {r : Option aV} {M' : hM} (h : f10 as M = some (r, M')) : xM G l ym10 prog_3_method_1_code 4 none 2 as M r M' := by
  unfold f10 at h
  split at h
  · have hle : ∀ h as M res, k10 h as M = some res → h_sz M ≤ r_sz res ∧ h_sl M ≤ r_sl res := by
      intro h as M res hb
      unfold k10 at hb
      by_cases e0 : h = 41
      · rw [if_pos e0] at hb
        split at hb
        · exact lb10_41 G l _ _ M hb
        · cases hb
      · rw [if_neg e0] at hb
        cases hb
    obtain ⟨res, hx, hres⟩ := x_go_ok h
    refine xM_of (by decide) (Nat.le_of_ble_eq_true rfl) ?_ ?_
    · have e1 := lb10_0 G l _ _ _ M hx
      have e2 := x_go_le hle hres
      omega
    · intro p e s m args below meth c E B
      refine sb10_0 E B _ _ _ M hx (hres _ ?_)
      intro h as M res hb hN
      unfold k10 at hb
      unfold pg10
      by_cases e0 : h = 41
      · rw [if_pos e0] at hb ⊢
        split at hb
        · exact sb10_41 E B _ _ M hb hN
        · cases hb
      · rw [if_neg e0] at hb ⊢
        cases hb
  · cases h
/-! ZF.disc(I)Z -/
def ym11 : MethodName := ⟨"ZonedFabric", "disc", "(I)Z"⟩
theorem cd11 : xCd ym11 prog_1_method_2_code 3 (some FieldType.boolean) 1 := ⟨mw115, mw71, by decide, by decide, by decide +kernel⟩
def b11_47  (M : hM) : Option xRes :=
  some (.inl (some (.inl (0 : Int32)), M))
def b11_0 (a0 : Nat) (v1 : Int32) (M : hM) : Option xRes :=
  Option.bind (g_r M 11 0 (some a0)) fun o_1 =>
  Option.bind (g_o M 9 o_1) fun b_5 =>
  Option.bind (c_I (f8 [.inr (.inr (some b_5)), .inl v1] M)) fun q_3 =>
  if q_3.1 = 0 then
    (some (.inl (some (.inl (0 : Int32)), q_3.2)))
  else
    (Option.bind (g_r q_3.2 11 2 (some a0)) fun o_7 =>
    Option.bind (al_r q_3.2 35 o_7 v1) fun o_9 =>
    Option.bind (g_r q_3.2 5 4 o_9) fun o_11 =>
    if o_11 = none then
      (b11_47  q_3.2)
    else
      (Option.bind (g_r q_3.2 5 4 o_9) fun o_13 =>
      Option.bind (g_i q_3.2 4 2 o_13) fun v_15 =>
      if v_15 = 0 then
        (Option.bind (g_r q_3.2 5 2 o_9) fun o_17 =>
        Option.bind (g_r q_3.2 8 3 o_17) fun o_19 =>
        if o_19 = none then
          (Option.bind (p_r q_3.2 5 4 o_9 none) fun M21 =>
          Option.bind (n_o M21 1 7) fun M23 =>
          Option.bind (g_r M23 11 0 (some a0)) fun o_25 =>
          Option.bind (c_V (f10 [.inr (.inr (some (h_sz M21))), .inr (.inr o_25), .inr (.inr o_9)] M23)) fun q_27 =>
          Option.bind (p_r q_27 5 5 o_9 (some (h_sz M21))) fun M29 =>
          some (.inl (some (.inl (1 : Int32)), M29)))
        else
          (b11_47  q_3.2))
      else
        (b11_47  q_3.2)))
def f11 (as : List aV) (M : hM) : xO := match as with
  | [.inr (.inr (some a0)), .inl v1] => x_out (b11_0 a0 v1 M)
  | _ => none
theorem lb11_47 (G : gX) (l : Launch)  (M : hM) {res : xRes} (h : b11_47  M = some res) : h_sz M ≤ r_sz res ∧ h_sl M ≤ r_sl res := by
  unfold b11_47 at h
  obtain rfl := Option.some.inj h
  show h_sz M ≤ h_sz M ∧ h_sl M ≤ h_sl M
  omega
theorem lb11_0 (G : gX) (l : Launch) (a0 : Nat) (v1 : Int32) (M : hM) {res : xRes} (h : b11_0 a0 v1 M = some res) : h_sz M ≤ r_sz res ∧ h_sl M ≤ r_sl res := by
  unfold b11_0 at h
  obtain ⟨o_1, h2, h⟩ := bd h
  obtain ⟨b_5, h6, h⟩ := bd h
  obtain ⟨q_3, h4, h⟩ := bd h
  have eh4 := (t8 G l (c_I_some h4)).1
  by_cases q34 : q_3.1 = 0
  · rw [if_pos q34] at h
    obtain rfl := Option.some.inj h
    show h_sz M ≤ h_sz q_3.2 ∧ h_sl M ≤ h_sl q_3.2
    omega
  · rw [if_neg q34] at h
    obtain ⟨o_7, h8, h⟩ := bd h
    obtain ⟨o_9, h10, h⟩ := bd h
    obtain ⟨o_11, h12, h⟩ := bd h
    by_cases q33 : o_11 = none
    · rw [if_pos q33] at h
      have e := lb11_47 G l  q_3.2 h
      omega
    · rw [if_neg q33] at h
      obtain ⟨o_13, h14, h⟩ := bd h
      obtain ⟨v_15, h16, h⟩ := bd h
      by_cases q32 : v_15 = 0
      · rw [if_pos q32] at h
        obtain ⟨o_17, h18, h⟩ := bd h
        obtain ⟨o_19, h20, h⟩ := bd h
        by_cases q31 : o_19 = none
        · rw [if_pos q31] at h
          obtain ⟨M21, h22, h⟩ := bd h
          have eh22 := p_r_sz h22
          obtain ⟨M23, h24, h⟩ := bd h
          have eh24 := n_o_sz h24
          obtain ⟨o_25, h26, h⟩ := bd h
          obtain ⟨q_27, h28, h⟩ := bd h
          have eh28 := (t10 G l (c_V_some h28)).1
          obtain ⟨M29, h30, h⟩ := bd h
          have eh30 := p_r_sz h30
          obtain rfl := Option.some.inj h
          show h_sz M ≤ h_sz M29 ∧ h_sl M ≤ h_sl M29
          omega
        · rw [if_neg q31] at h
          have e := lb11_47 G l  q_3.2 h
          omega
      · rw [if_neg q32] at h
        have e := lb11_47 G l  q_3.2 h
        omega
section
variable {p : Program} {l : Launch} {e : Env} {s : State} {m : MethodId} {args : Array Value} {below : List Frame} {meth : Method} {c : Code} {G : gX} {z0 y0 : Nat} {r : Option aV} {M' : hM}
theorem sb11_47 (E : xE G p (xRm 3 (h_sz M' - z0) (h_sl M' - y0)) s m args c prog_1_method_2_code "ZonedFabric" z0 y0 (h_sz M') (h_sl M') 3) (B : xB ym11 (some FieldType.boolean) meth)  (M : hM) {res : xRes} (h : b11_47  M = some res) (hN : xN (fun _ _ _ => False) r M' res) : xV G p l e (xRm 3 (h_sz M' - z0) (h_sl M' - y0)) s m args below meth c z0 y0 (h_sz M') (h_sl M') 3 (MQ below (xQc G r M') args s (h_sz M' - z0) (h_sl M' - y0) (xFr G)) 47 [] [] M := by
  unfold b11_47 at h
  refine xv_b E [.iconst 0] (pc' := 48) (lv' := []) (st' := [.inl (0 : Int32)]) (by decide +kernel) rfl rfl ?_
  obtain rfl := Option.some.inj h
  obtain ⟨rfl, rfl⟩ := Prod.mk.inj (show ((some (.inl (0 : Int32)) : Option aV), M) = (r, M') from hN)
  exact xv_ri E B.1 rfl B.2.1 (show decode prog_1_method_2_code 48 = .ok (.ireturn, 1) by decide +kernel) rfl rfl
theorem sb11_0 (E : xE G p (xRm 3 (h_sz M' - z0) (h_sl M' - y0)) s m args c prog_1_method_2_code "ZonedFabric" z0 y0 (h_sz M') (h_sl M') 3) (B : xB ym11 (some FieldType.boolean) meth) (a0 : Nat) (v1 : Int32) (M : hM) {res : xRes} (h : b11_0 a0 v1 M = some res) (hN : xN (fun _ _ _ => False) r M' res) : xV G p l e (xRm 3 (h_sz M' - z0) (h_sl M' - y0)) s m args below meth c z0 y0 (h_sz M') (h_sl M') 3 (MQ below (xQc G r M') args s (h_sz M' - z0) (h_sl M' - y0) (xFr G)) 0 [(0, .inr (.inr (some a0))), (1, .inl v1)] [] M := by
  unfold b11_0 at h
  refine xv_b E [.aload_n 0] (pc' := 1) (lv' := [(0, .inr (.inr (some a0))), (1, .inl v1)]) (st' := [.inr (.inr (some a0))]) (by decide +kernel) rfl rfl ?_
  obtain ⟨o_1, h2, h⟩ := bd h
  refine xg_r E 11 0 h2 mw82 (show decode prog_1_method_2_code 1 = .ok (.getfield 29, 3) by decide +kernel) ?_
  refine xv_b E [.iload_n 1] (pc' := 5) (lv' := [(0, .inr (.inr (some a0))), (1, .inl v1)]) (st' := [.inl v1, .inr (.inr o_1)]) (by decide +kernel) rfl rfl ?_
  obtain ⟨b_5, h6, h⟩ := bd h
  obtain ⟨eh6, th6⟩ := g_o_some h6
  obtain ⟨q_3, h4, h⟩ := bd h
  refine xv_cvo E eh6 9 (as := [.inl v1]) (t8 G l (c_I_some h4)) cd8 mw116 mw117 mw118 (show decode prog_1_method_2_code 5 = .ok (.invokevirtual 58, 3) by decide +kernel) th6 rfl rfl (Nat.le_of_ble_eq_true rfl) ⟨Nat.le_of_ble_eq_true rfl, Nat.le_of_ble_eq_true rfl⟩ ?_
  by_cases q34 : q_3.1 = 0
  · rw [if_pos q34] at h
    refine xv_if_ne E 13 (show decode prog_1_method_2_code 8 = .ok (.ifCond .ne (5), 3) by decide +kernel) rfl (fun z => absurd q34 z) (fun _ => ?_)
    refine xv_b E [.iconst 0] (pc' := 12) (lv' := [(0, .inr (.inr (some a0))), (1, .inl v1)]) (st' := [.inl (0 : Int32)]) (by decide +kernel) rfl rfl ?_
    obtain rfl := Option.some.inj h
    obtain ⟨rfl, rfl⟩ := Prod.mk.inj (show ((some (.inl (0 : Int32)) : Option aV), q_3.2) = (r, M') from hN)
    exact xv_ri E B.1 rfl B.2.1 (show decode prog_1_method_2_code 12 = .ok (.ireturn, 1) by decide +kernel) rfl rfl
  · rw [if_neg q34] at h
    refine xv_if_ne E 13 (show decode prog_1_method_2_code 8 = .ok (.ifCond .ne (5), 3) by decide +kernel) rfl (fun _ => ?_) (fun z => absurd z q34)
    refine xv_b E [.aload_n 0] (pc' := 14) (lv' := [(0, .inr (.inr (some a0))), (1, .inl v1)]) (st' := [.inr (.inr (some a0))]) (by decide +kernel) rfl rfl ?_
    obtain ⟨o_7, h8, h⟩ := bd h
    refine xg_r E 11 2 h8 mw86 (show decode prog_1_method_2_code 14 = .ok (.getfield 44, 3) by decide +kernel) ?_
    refine xv_b E [.iload_n 1] (pc' := 18) (lv' := [(0, .inr (.inr (some a0))), (1, .inl v1)]) (st' := [.inl v1, .inr (.inr o_7)]) (by decide +kernel) rfl rfl ?_
    obtain ⟨o_9, h10, h⟩ := bd h
    refine xa_r E 35 h10 (show decode prog_1_method_2_code 18 = .ok (.aaload, 1) by decide +kernel) ?_
    refine xv_b E [.astore_n 2, .aload_n 2] (pc' := 21) (lv' := [(2, .inr (.inr o_9)), (0, .inr (.inr (some a0))), (1, .inl v1)]) (st' := [.inr (.inr o_9)]) (by decide +kernel) rfl rfl ?_
    obtain ⟨o_11, h12, h⟩ := bd h
    refine xg_r E 5 4 h12 mw97 (show decode prog_1_method_2_code 21 = .ok (.getfield 54, 3) by decide +kernel) ?_
    by_cases q33 : o_11 = none
    · rw [if_pos q33] at h
      refine xi_null E 47 (show decode prog_1_method_2_code 24 = .ok (.ifnull (23), 3) by decide +kernel) rfl (fun _ => ?_) (fun z => absurd q33 z)
      exact xv_w (sb11_47 E B  q_3.2 h hN) rfl
    · rw [if_neg q33] at h
      refine xi_null E 47 (show decode prog_1_method_2_code 24 = .ok (.ifnull (23), 3) by decide +kernel) rfl (fun z => absurd z q33) (fun _ => ?_)
      refine xv_b E [.aload_n 2] (pc' := 28) (lv' := [(2, .inr (.inr o_9)), (0, .inr (.inr (some a0))), (1, .inl v1)]) (st' := [.inr (.inr o_9)]) (by decide +kernel) rfl rfl ?_
      obtain ⟨o_13, h14, h⟩ := bd h
      refine xg_r E 5 4 h14 mw97 (show decode prog_1_method_2_code 28 = .ok (.getfield 54, 3) by decide +kernel) ?_
      obtain ⟨v_15, h16, h⟩ := bd h
      refine xg_i E 4 2 h16 mw119 (show decode prog_1_method_2_code 31 = .ok (.getfield 62, 3) by decide +kernel) ?_
      by_cases q32 : v_15 = 0
      · rw [if_pos q32] at h
        refine xv_if_ne E 47 (show decode prog_1_method_2_code 34 = .ok (.ifCond .ne (13), 3) by decide +kernel) rfl (fun z => absurd q32 z) (fun _ => ?_)
        refine xv_b E [.aload_n 2] (pc' := 38) (lv' := [(2, .inr (.inr o_9)), (0, .inr (.inr (some a0))), (1, .inl v1)]) (st' := [.inr (.inr o_9)]) (by decide +kernel) rfl rfl ?_
        obtain ⟨o_17, h18, h⟩ := bd h
        refine xg_r E 5 2 h18 mw120 (show decode prog_1_method_2_code 38 = .ok (.getfield 66, 3) by decide +kernel) ?_
        obtain ⟨o_19, h20, h⟩ := bd h
        refine xg_r E 8 3 h20 mw121 (show decode prog_1_method_2_code 41 = .ok (.getfield 70, 3) by decide +kernel) ?_
        by_cases q31 : o_19 = none
        · rw [if_pos q31] at h
          refine xi_null E 49 (show decode prog_1_method_2_code 44 = .ok (.ifnull (5), 3) by decide +kernel) rfl (fun _ => ?_) (fun z => absurd q31 z)
          refine xv_b E [.aload_n 2, .aconst_null] (pc' := 51) (lv' := [(2, .inr (.inr o_9)), (0, .inr (.inr (some a0))), (1, .inl v1)]) (st' := [.inr (.inr none), .inr (.inr o_9)]) (by decide +kernel) rfl rfl ?_
          obtain ⟨M21, h22, h⟩ := bd h
          refine xp_r E 5 4 h22 mw97 (show decode prog_1_method_2_code 51 = .ok (.putfield 54, 3) by decide +kernel) (Or.inl rfl) ?_
          refine xv_b E [.aload_n 2] (pc' := 55) (lv' := [(2, .inr (.inr o_9)), (0, .inr (.inr (some a0))), (1, .inl v1)]) (st' := [.inr (.inr o_9)]) (by decide +kernel) rfl rfl ?_
          obtain ⟨M23, h24, h⟩ := bd h
          refine xn_o E 1 h24 rfl mw122 mw123 mw105 (show decode prog_1_method_2_code 55 = .ok (.new 73, 3) by decide +kernel) ?_
          refine xv_b E [.dup, .aload_n 0] (pc' := 60) (lv' := [(2, .inr (.inr o_9)), (0, .inr (.inr (some a0))), (1, .inl v1)]) (st' := [.inr (.inr (some a0)), .inr (.inr (some (h_sz M21))), .inr (.inr (some (h_sz M21))), .inr (.inr o_9)]) (by decide +kernel) rfl rfl ?_
          obtain ⟨o_25, h26, h⟩ := bd h
          refine xg_r E 11 0 h26 mw82 (show decode prog_1_method_2_code 60 = .ok (.getfield 29, 3) by decide +kernel) ?_
          refine xv_b E [.aload_n 2] (pc' := 64) (lv' := [(2, .inr (.inr o_9)), (0, .inr (.inr (some a0))), (1, .inl v1)]) (st' := [.inr (.inr o_9), .inr (.inr o_25), .inr (.inr (some (h_sz M21))), .inr (.inr (some (h_sz M21))), .inr (.inr o_9)]) (by decide +kernel) rfl rfl ?_
          obtain ⟨q_27, h28, h⟩ := bd h
          refine xv_ci E (as := [.inr (.inr o_25), .inr (.inr o_9)]) (t10 G l (c_V_some h28)) cd10 (Or.inl mw124) mw125 rfl (show decode prog_1_method_2_code 64 = .ok (.invokespecial 75, 3) by decide +kernel) rfl rfl (Nat.le_of_ble_eq_true rfl) ⟨Nat.le_of_ble_eq_true rfl, Nat.le_of_ble_eq_true rfl⟩ ?_
          obtain ⟨M29, h30, h⟩ := bd h
          refine xp_r E 5 5 h30 mw126 (show decode prog_1_method_2_code 67 = .ok (.putfield 76, 3) by decide +kernel) (Or.inl rfl) ?_
          refine xv_b E [.iconst 1] (pc' := 71) (lv' := [(2, .inr (.inr o_9)), (0, .inr (.inr (some a0))), (1, .inl v1)]) (st' := [.inl (1 : Int32)]) (by decide +kernel) rfl rfl ?_
          obtain rfl := Option.some.inj h
          obtain ⟨rfl, rfl⟩ := Prod.mk.inj (show ((some (.inl (1 : Int32)) : Option aV), M29) = (r, M') from hN)
          exact xv_ri E B.1 rfl B.2.1 (show decode prog_1_method_2_code 71 = .ok (.ireturn, 1) by decide +kernel) rfl rfl
        · rw [if_neg q31] at h
          refine xi_null E 49 (show decode prog_1_method_2_code 44 = .ok (.ifnull (5), 3) by decide +kernel) rfl (fun z => absurd z q31) (fun _ => ?_)
          exact xv_w (sb11_47 E B  q_3.2 h hN) rfl
      · rw [if_neg q32] at h
        refine xv_if_ne E 47 (show decode prog_1_method_2_code 34 = .ok (.ifCond .ne (13), 3) by decide +kernel) rfl (fun _ => ?_) (fun z => absurd z q32)
        exact xv_w (sb11_47 E B  q_3.2 h hN) rfl
end
theorem t11 (G : gX) (l : Launch) {as : List aV} {M : hM} {r : Option aV} {M' : hM} (h : f11 as M = some (r, M')) : xM G l ym11 prog_1_method_2_code 3 (some FieldType.boolean) 3 as M r M' := by
  unfold f11 at h
  split at h
  · have h := x_out_ok h
    refine xM_of (by decide) (Nat.le_of_ble_eq_true rfl) (lb11_0 G l _ _ M h) ?_
    intro p e s m args below meth c E B
    exact sb11_0 E B _ _ M h rfl
  · cases h
/-! ZF.isSwitch(I)Z -/
def ym12 : MethodName := ⟨"ZonedFabric", "isSwitch", "(I)Z"⟩
theorem cd12 : xCd ym12 prog_1_method_24_code 2 (some FieldType.boolean) 1 := ⟨mw127, mw71, by decide, by decide, by decide +kernel⟩
def b12_18 (si0 : Int32) (M : hM) : Option xRes :=
  if si0 = 0 ∨ si0 = 1 then
    (some (.inl (some (.inl si0), M)))
  else
    none
def b12_17  (M : hM) : Option xRes :=
  b12_18 (0 : Int32) M
def b12_0 (a0 : Nat) (v1 : Int32) (M : hM) : Option xRes :=
  if v1 < 0 then
    (b12_17  M)
  else
    (Option.bind (g_r M 11 1 (some a0)) fun o_1 =>
    Option.bind (a_ln M 40 o_1) fun v_3 =>
    if v_3 ≤ v1 then
      (b12_17  M)
    else
      (b12_18 (1 : Int32) M))
def f12 (as : List aV) (M : hM) : xO := match as with
  | [.inr (.inr (some a0)), .inl v1] => x_out (b12_0 a0 v1 M)
  | _ => none
theorem lb12_18 (G : gX) (l : Launch) (si0 : Int32) (M : hM) {res : xRes} (h : b12_18 si0 M = some res) : h_sz M ≤ r_sz res ∧ h_sl M ≤ r_sl res := by
  unfold b12_18 at h
  by_cases q7 : si0 = 0 ∨ si0 = 1
  · rw [if_pos q7] at h
    obtain rfl := Option.some.inj h
    show h_sz M ≤ h_sz M ∧ h_sl M ≤ h_sl M
    omega
  · rw [if_neg q7] at h
    cases h
theorem lb12_17 (G : gX) (l : Launch)  (M : hM) {res : xRes} (h : b12_17  M = some res) : h_sz M ≤ r_sz res ∧ h_sl M ≤ r_sl res := by
  unfold b12_17 at h
  have e := lb12_18 G l (0 : Int32) M h
  omega
theorem lb12_0 (G : gX) (l : Launch) (a0 : Nat) (v1 : Int32) (M : hM) {res : xRes} (h : b12_0 a0 v1 M = some res) : h_sz M ≤ r_sz res ∧ h_sl M ≤ r_sl res := by
  unfold b12_0 at h
  by_cases q6 : v1 < 0
  · rw [if_pos q6] at h
    have e := lb12_17 G l  M h
    omega
  · rw [if_neg q6] at h
    obtain ⟨o_1, h2, h⟩ := bd h
    obtain ⟨v_3, h4, h⟩ := bd h
    by_cases q5 : v_3 ≤ v1
    · rw [if_pos q5] at h
      have e := lb12_17 G l  M h
      omega
    · rw [if_neg q5] at h
      have e := lb12_18 G l (1 : Int32) M h
      omega
section
variable {p : Program} {l : Launch} {e : Env} {s : State} {m : MethodId} {args : Array Value} {below : List Frame} {meth : Method} {c : Code} {G : gX} {z0 y0 : Nat} {r : Option aV} {M' : hM}
theorem sb12_18 (E : xE G p (xRm 0 (h_sz M' - z0) (h_sl M' - y0)) s m args c prog_1_method_24_code "ZonedFabric" z0 y0 (h_sz M') (h_sl M') 2) (B : xB ym12 (some FieldType.boolean) meth) (si0 : Int32) (M : hM) {res : xRes} (h : b12_18 si0 M = some res) (hN : xN (fun _ _ _ => False) r M' res) : xV G p l e (xRm 0 (h_sz M' - z0) (h_sl M' - y0)) s m args below meth c z0 y0 (h_sz M') (h_sl M') 2 (MQ below (xQc G r M') args s (h_sz M' - z0) (h_sl M' - y0) (xFr G)) 18 [] [.inl si0] M := by
  unfold b12_18 at h
  by_cases q7 : si0 = 0 ∨ si0 = 1
  · rw [if_pos q7] at h
    obtain rfl := Option.some.inj h
    obtain ⟨rfl, rfl⟩ := Prod.mk.inj (show ((some (.inl si0) : Option aV), M) = (r, M') from hN)
    exact xv_ri E B.1 (by rcases q7 with z | z <;> rw [z] <;> rfl) B.2.1 (show decode prog_1_method_24_code 18 = .ok (.ireturn, 1) by decide +kernel) rfl rfl
  · rw [if_neg q7] at h
    cases h
theorem sb12_17 (E : xE G p (xRm 0 (h_sz M' - z0) (h_sl M' - y0)) s m args c prog_1_method_24_code "ZonedFabric" z0 y0 (h_sz M') (h_sl M') 2) (B : xB ym12 (some FieldType.boolean) meth)  (M : hM) {res : xRes} (h : b12_17  M = some res) (hN : xN (fun _ _ _ => False) r M' res) : xV G p l e (xRm 0 (h_sz M' - z0) (h_sl M' - y0)) s m args below meth c z0 y0 (h_sz M') (h_sl M') 2 (MQ below (xQc G r M') args s (h_sz M' - z0) (h_sl M' - y0) (xFr G)) 17 [] [] M := by
  unfold b12_17 at h
  refine xv_b E [.iconst 0] (pc' := 18) (lv' := []) (st' := [.inl (0 : Int32)]) (by decide +kernel) rfl rfl ?_
  exact xv_w (sb12_18 E B (0 : Int32) M h hN) rfl
theorem sb12_0 (E : xE G p (xRm 0 (h_sz M' - z0) (h_sl M' - y0)) s m args c prog_1_method_24_code "ZonedFabric" z0 y0 (h_sz M') (h_sl M') 2) (B : xB ym12 (some FieldType.boolean) meth) (a0 : Nat) (v1 : Int32) (M : hM) {res : xRes} (h : b12_0 a0 v1 M = some res) (hN : xN (fun _ _ _ => False) r M' res) : xV G p l e (xRm 0 (h_sz M' - z0) (h_sl M' - y0)) s m args below meth c z0 y0 (h_sz M') (h_sl M') 2 (MQ below (xQc G r M') args s (h_sz M' - z0) (h_sl M' - y0) (xFr G)) 0 [(0, .inr (.inr (some a0))), (1, .inl v1)] [] M := by
  unfold b12_0 at h
  refine xv_b E [.iload_n 1] (pc' := 1) (lv' := [(0, .inr (.inr (some a0))), (1, .inl v1)]) (st' := [.inl v1]) (by decide +kernel) rfl rfl ?_
  by_cases q6 : v1 < 0
  · rw [if_pos q6] at h
    refine xv_if_lt E 17 (show decode prog_1_method_24_code 1 = .ok (.ifCond .lt (16), 3) by decide +kernel) rfl (fun _ => ?_) (fun z => absurd q6 z)
    exact xv_w (sb12_17 E B  M h hN) rfl
  · rw [if_neg q6] at h
    refine xv_if_lt E 17 (show decode prog_1_method_24_code 1 = .ok (.ifCond .lt (16), 3) by decide +kernel) rfl (fun z => absurd z q6) (fun _ => ?_)
    refine xv_b E [.iload_n 1, .aload_n 0] (pc' := 6) (lv' := [(0, .inr (.inr (some a0))), (1, .inl v1)]) (st' := [.inr (.inr (some a0)), .inl v1]) (by decide +kernel) rfl rfl ?_
    obtain ⟨o_1, h2, h⟩ := bd h
    refine xg_r E 11 1 h2 mw84 (show decode prog_1_method_24_code 6 = .ok (.getfield 35, 3) by decide +kernel) ?_
    obtain ⟨v_3, h4, h⟩ := bd h
    refine xa_n E 40 h4 (show decode prog_1_method_24_code 9 = .ok (.arraylength, 1) by decide +kernel) ?_
    by_cases q5 : v_3 ≤ v1
    · rw [if_pos q5] at h
      refine xv_icmp_ge E 17 (show decode prog_1_method_24_code 10 = .ok (.if_icmp .ge (7), 3) by decide +kernel) rfl (fun _ => ?_) (fun z => absurd q5 z)
      exact xv_w (sb12_17 E B  M h hN) rfl
    · rw [if_neg q5] at h
      refine xv_icmp_ge E 17 (show decode prog_1_method_24_code 10 = .ok (.if_icmp .ge (7), 3) by decide +kernel) rfl (fun z => absurd z q5) (fun _ => ?_)
      refine xv_b E [.iconst 1] (pc' := 14) (lv' := [(0, .inr (.inr (some a0))), (1, .inl v1)]) (st' := [.inl (1 : Int32)]) (by decide +kernel) rfl rfl ?_
      refine xv_goto E 18 (show decode prog_1_method_24_code 14 = .ok (.goto (4), 3) by decide +kernel) rfl ?_
      exact xv_w (sb12_18 E B (1 : Int32) M h hN) rfl
end
theorem t12 (G : gX) (l : Launch) {as : List aV} {M : hM} {r : Option aV} {M' : hM} (h : f12 as M = some (r, M')) : xM G l ym12 prog_1_method_24_code 2 (some FieldType.boolean) 0 as M r M' := by
  unfold f12 at h
  split at h
  · have h := x_out_ok h
    refine xM_of (by decide) (Nat.le_of_ble_eq_true rfl) (lb12_0 G l _ _ M h) ?_
    intro p e s m args below meth c E B
    exact sb12_0 E B _ _ M h rfl
  · cases h
/-! ZF.portOf(II)LZF$Port; -/
def ym13 : MethodName := ⟨"ZonedFabric", "portOf", "(II)LZonedFabric$Port;"⟩
theorem cd13 : xCd ym13 prog_1_method_29_code 3 (some (FieldType.object "ZonedFabric$Port")) 2 := ⟨mw128, mw71, by decide, by decide, by decide +kernel⟩
def b13_33 (sr0 : Option Nat) (M : hM) : Option xRes :=
  some (.inl (some (.inr (.inr sr0)), M))
def b13_32  (M : hM) : Option xRes :=
  b13_33 none M
def b13_71  (M : hM) : Option xRes :=
  some (.inl (some (.inr (.inr none)), M))
def b13_0 (a0 : Nat) (v1 : Int32) (v2 : Int32) (M : hM) : Option xRes :=
  Option.bind (g_o M 11 (some a0)) fun b_3 =>
  Option.bind (c_I (f12 [.inr (.inr (some b_3)), .inl v1] M)) fun q_1 =>
  if q_1.1 = 0 then
    (if v1 < (16 : Int32) then
      (b13_71  q_1.2)
    else
      (if v2 = 0 then
        (Option.bind (g_r q_1.2 11 0 (some a0)) fun o_5 =>
        Option.bind (g_o q_1.2 9 o_5) fun b_9 =>
        Option.bind (c_I (f8 [.inr (.inr (some b_9)), .inl (v1 - (16 : Int32))] q_1.2)) fun q_7 =>
        if q_7.1 = 0 then
          (b13_71  q_7.2)
        else
          (Option.bind (g_r q_7.2 11 2 (some a0)) fun o_11 =>
          Option.bind (al_r q_7.2 35 o_11 (v1 - (16 : Int32))) fun o_13 =>
          Option.bind (g_r q_7.2 5 2 o_13) fun o_15 =>
          some (.inl (some (.inr (.inr o_15)), q_7.2))))
      else
        (b13_71  q_1.2)))
  else
    (if v2 < 0 then
      (b13_32  q_1.2)
    else
      (if (8 : Int32) ≤ v2 then
        (b13_32  q_1.2)
      else
        (Option.bind (g_r q_1.2 11 1 (some a0)) fun o_20 =>
        Option.bind (al_r q_1.2 40 o_20 v1) fun o_22 =>
        Option.bind (g_r q_1.2 10 2 o_22) fun o_24 =>
        Option.bind (al_r q_1.2 38 o_24 v2) fun o_26 =>
        b13_33 o_26 q_1.2)))
def f13 (as : List aV) (M : hM) : xO := match as with
  | [.inr (.inr (some a0)), .inl v1, .inl v2] => x_out (b13_0 a0 v1 v2 M)
  | _ => none
theorem lb13_33 (G : gX) (l : Launch) (sr0 : Option Nat) (M : hM) {res : xRes} (h : b13_33 sr0 M = some res) : h_sz M ≤ r_sz res ∧ h_sl M ≤ r_sl res := by
  unfold b13_33 at h
  obtain rfl := Option.some.inj h
  show h_sz M ≤ h_sz M ∧ h_sl M ≤ h_sl M
  omega
theorem lb13_32 (G : gX) (l : Launch)  (M : hM) {res : xRes} (h : b13_32  M = some res) : h_sz M ≤ r_sz res ∧ h_sl M ≤ r_sl res := by
  unfold b13_32 at h
  have e := lb13_33 G l none M h
  omega
theorem lb13_71 (G : gX) (l : Launch)  (M : hM) {res : xRes} (h : b13_71  M = some res) : h_sz M ≤ r_sz res ∧ h_sl M ≤ r_sl res := by
  unfold b13_71 at h
  obtain rfl := Option.some.inj h
  show h_sz M ≤ h_sz M ∧ h_sl M ≤ h_sl M
  omega
theorem lb13_0 (G : gX) (l : Launch) (a0 : Nat) (v1 : Int32) (v2 : Int32) (M : hM) {res : xRes} (h : b13_0 a0 v1 v2 M = some res) : h_sz M ≤ r_sz res ∧ h_sl M ≤ r_sl res := by
  unfold b13_0 at h
  obtain ⟨b_3, h4, h⟩ := bd h
  obtain ⟨q_1, h2, h⟩ := bd h
  have eh2 := (t12 G l (c_I_some h2)).1
  by_cases q30 : q_1.1 = 0
  · rw [if_pos q30] at h
    by_cases q19 : v1 < (16 : Int32)
    · rw [if_pos q19] at h
      have e := lb13_71 G l  q_1.2 h
      omega
    · rw [if_neg q19] at h
      by_cases q18 : v2 = 0
      · rw [if_pos q18] at h
        obtain ⟨o_5, h6, h⟩ := bd h
        obtain ⟨b_9, h10, h⟩ := bd h
        obtain ⟨q_7, h8, h⟩ := bd h
        have eh8 := (t8 G l (c_I_some h8)).1
        by_cases q17 : q_7.1 = 0
        · rw [if_pos q17] at h
          have e := lb13_71 G l  q_7.2 h
          omega
        · rw [if_neg q17] at h
          obtain ⟨o_11, h12, h⟩ := bd h
          obtain ⟨o_13, h14, h⟩ := bd h
          obtain ⟨o_15, h16, h⟩ := bd h
          obtain rfl := Option.some.inj h
          show h_sz M ≤ h_sz q_7.2 ∧ h_sl M ≤ h_sl q_7.2
          omega
      · rw [if_neg q18] at h
        have e := lb13_71 G l  q_1.2 h
        omega
  · rw [if_neg q30] at h
    by_cases q29 : v2 < 0
    · rw [if_pos q29] at h
      have e := lb13_32 G l  q_1.2 h
      omega
    · rw [if_neg q29] at h
      by_cases q28 : (8 : Int32) ≤ v2
      · rw [if_pos q28] at h
        have e := lb13_32 G l  q_1.2 h
        omega
      · rw [if_neg q28] at h
        obtain ⟨o_20, h21, h⟩ := bd h
        obtain ⟨o_22, h23, h⟩ := bd h
        obtain ⟨o_24, h25, h⟩ := bd h
        obtain ⟨o_26, h27, h⟩ := bd h
        have e := lb13_33 G l o_26 q_1.2 h
        omega
section
variable {p : Program} {l : Launch} {e : Env} {s : State} {m : MethodId} {args : Array Value} {below : List Frame} {meth : Method} {c : Code} {G : gX} {z0 y0 : Nat} {r : Option aV} {M' : hM}
theorem sb13_33 (E : xE G p (xRm 1 (h_sz M' - z0) (h_sl M' - y0)) s m args c prog_1_method_29_code "ZonedFabric" z0 y0 (h_sz M') (h_sl M') 3) (B : xB ym13 (some (FieldType.object "ZonedFabric$Port")) meth) (sr0 : Option Nat) (M : hM) {res : xRes} (h : b13_33 sr0 M = some res) (hN : xN (fun _ _ _ => False) r M' res) : xV G p l e (xRm 1 (h_sz M' - z0) (h_sl M' - y0)) s m args below meth c z0 y0 (h_sz M') (h_sl M') 3 (MQ below (xQc G r M') args s (h_sz M' - z0) (h_sl M' - y0) (xFr G)) 33 [] [.inr (.inr sr0)] M := by
  unfold b13_33 at h
  obtain rfl := Option.some.inj h
  obtain ⟨rfl, rfl⟩ := Prod.mk.inj (show ((some (.inr (.inr sr0)) : Option aV), M) = (r, M') from hN)
  exact xv_rr E B.1 (Or.inl ⟨_, rfl⟩) B.2.1 (show decode prog_1_method_29_code 33 = .ok (.areturn, 1) by decide +kernel) rfl rfl
theorem sb13_32 (E : xE G p (xRm 1 (h_sz M' - z0) (h_sl M' - y0)) s m args c prog_1_method_29_code "ZonedFabric" z0 y0 (h_sz M') (h_sl M') 3) (B : xB ym13 (some (FieldType.object "ZonedFabric$Port")) meth)  (M : hM) {res : xRes} (h : b13_32  M = some res) (hN : xN (fun _ _ _ => False) r M' res) : xV G p l e (xRm 1 (h_sz M' - z0) (h_sl M' - y0)) s m args below meth c z0 y0 (h_sz M') (h_sl M') 3 (MQ below (xQc G r M') args s (h_sz M' - z0) (h_sl M' - y0) (xFr G)) 32 [] [] M := by
  unfold b13_32 at h
  refine xv_b E [.aconst_null] (pc' := 33) (lv' := []) (st' := [.inr (.inr none)]) (by decide +kernel) rfl rfl ?_
  exact xv_w (sb13_33 E B none M h hN) rfl
theorem sb13_71 (E : xE G p (xRm 1 (h_sz M' - z0) (h_sl M' - y0)) s m args c prog_1_method_29_code "ZonedFabric" z0 y0 (h_sz M') (h_sl M') 3) (B : xB ym13 (some (FieldType.object "ZonedFabric$Port")) meth)  (M : hM) {res : xRes} (h : b13_71  M = some res) (hN : xN (fun _ _ _ => False) r M' res) : xV G p l e (xRm 1 (h_sz M' - z0) (h_sl M' - y0)) s m args below meth c z0 y0 (h_sz M') (h_sl M') 3 (MQ below (xQc G r M') args s (h_sz M' - z0) (h_sl M' - y0) (xFr G)) 71 [] [] M := by
  unfold b13_71 at h
  refine xv_b E [.aconst_null] (pc' := 72) (lv' := []) (st' := [.inr (.inr none)]) (by decide +kernel) rfl rfl ?_
  obtain rfl := Option.some.inj h
  obtain ⟨rfl, rfl⟩ := Prod.mk.inj (show ((some (.inr (.inr none)) : Option aV), M) = (r, M') from hN)
  exact xv_rr E B.1 (Or.inl ⟨_, rfl⟩) B.2.1 (show decode prog_1_method_29_code 72 = .ok (.areturn, 1) by decide +kernel) rfl rfl
theorem sb13_0 (E : xE G p (xRm 1 (h_sz M' - z0) (h_sl M' - y0)) s m args c prog_1_method_29_code "ZonedFabric" z0 y0 (h_sz M') (h_sl M') 3) (B : xB ym13 (some (FieldType.object "ZonedFabric$Port")) meth) (a0 : Nat) (v1 : Int32) (v2 : Int32) (M : hM) {res : xRes} (h : b13_0 a0 v1 v2 M = some res) (hN : xN (fun _ _ _ => False) r M' res) : xV G p l e (xRm 1 (h_sz M' - z0) (h_sl M' - y0)) s m args below meth c z0 y0 (h_sz M') (h_sl M') 3 (MQ below (xQc G r M') args s (h_sz M' - z0) (h_sl M' - y0) (xFr G)) 0 [(0, .inr (.inr (some a0))), (1, .inl v1), (2, .inl v2)] [] M := by
  unfold b13_0 at h
  refine xv_b E [.aload_n 0, .iload_n 1] (pc' := 2) (lv' := [(0, .inr (.inr (some a0))), (1, .inl v1), (2, .inl v2)]) (st' := [.inl v1, .inr (.inr (some a0))]) (by decide +kernel) rfl rfl ?_
  obtain ⟨b_3, h4, h⟩ := bd h
  obtain ⟨eh4, th4⟩ := g_o_some h4
  obtain ⟨q_1, h2, h⟩ := bd h
  refine xv_cvo E eh4 11 (as := [.inl v1]) (t12 G l (c_I_some h2)) cd12 mw129 mw130 mw131 (show decode prog_1_method_29_code 2 = .ok (.invokevirtual 84, 3) by decide +kernel) th4 rfl rfl (Nat.le_of_ble_eq_true rfl) ⟨Nat.le_of_ble_eq_true rfl, Nat.le_of_ble_eq_true rfl⟩ ?_
  by_cases q30 : q_1.1 = 0
  · rw [if_pos q30] at h
    refine xv_if_eq E 34 (show decode prog_1_method_29_code 5 = .ok (.ifCond .eq (29), 3) by decide +kernel) rfl (fun _ => ?_) (fun z => absurd q30 z)
    refine xv_b E [.iload_n 1, .bipush 16] (pc' := 37) (lv' := [(0, .inr (.inr (some a0))), (1, .inl v1), (2, .inl v2)]) (st' := [.inl (16 : Int32), .inl v1]) (by decide +kernel) rfl rfl ?_
    by_cases q19 : v1 < (16 : Int32)
    · rw [if_pos q19] at h
      refine xv_icmp_lt E 71 (show decode prog_1_method_29_code 37 = .ok (.if_icmp .lt (34), 3) by decide +kernel) rfl (fun _ => ?_) (fun z => absurd q19 z)
      exact xv_w (sb13_71 E B  q_1.2 h hN) rfl
    · rw [if_neg q19] at h
      refine xv_icmp_lt E 71 (show decode prog_1_method_29_code 37 = .ok (.if_icmp .lt (34), 3) by decide +kernel) rfl (fun z => absurd z q19) (fun _ => ?_)
      refine xv_b E [.iload_n 2] (pc' := 41) (lv' := [(0, .inr (.inr (some a0))), (1, .inl v1), (2, .inl v2)]) (st' := [.inl v2]) (by decide +kernel) rfl rfl ?_
      by_cases q18 : v2 = 0
      · rw [if_pos q18] at h
        refine xv_if_ne E 71 (show decode prog_1_method_29_code 41 = .ok (.ifCond .ne (30), 3) by decide +kernel) rfl (fun z => absurd q18 z) (fun _ => ?_)
        refine xv_b E [.aload_n 0] (pc' := 45) (lv' := [(0, .inr (.inr (some a0))), (1, .inl v1), (2, .inl v2)]) (st' := [.inr (.inr (some a0))]) (by decide +kernel) rfl rfl ?_
        obtain ⟨o_5, h6, h⟩ := bd h
        refine xg_r E 11 0 h6 mw82 (show decode prog_1_method_29_code 45 = .ok (.getfield 29, 3) by decide +kernel) ?_
        refine xv_b E [.iload_n 1, .bipush 16, .isub] (pc' := 52) (lv' := [(0, .inr (.inr (some a0))), (1, .inl v1), (2, .inl v2)]) (st' := [.inl (v1 - (16 : Int32)), .inr (.inr o_5)]) (by decide +kernel) rfl rfl ?_
        obtain ⟨b_9, h10, h⟩ := bd h
        obtain ⟨eh10, th10⟩ := g_o_some h10
        obtain ⟨q_7, h8, h⟩ := bd h
        refine xv_cvo E eh10 9 (as := [.inl (v1 - (16 : Int32))]) (t8 G l (c_I_some h8)) cd8 mw116 mw117 mw118 (show decode prog_1_method_29_code 52 = .ok (.invokevirtual 58, 3) by decide +kernel) th10 rfl rfl (Nat.le_of_ble_eq_true rfl) ⟨Nat.le_of_ble_eq_true rfl, Nat.le_of_ble_eq_true rfl⟩ ?_
        by_cases q17 : q_7.1 = 0
        · rw [if_pos q17] at h
          refine xv_if_eq E 71 (show decode prog_1_method_29_code 55 = .ok (.ifCond .eq (16), 3) by decide +kernel) rfl (fun _ => ?_) (fun z => absurd q17 z)
          exact xv_w (sb13_71 E B  q_7.2 h hN) rfl
        · rw [if_neg q17] at h
          refine xv_if_eq E 71 (show decode prog_1_method_29_code 55 = .ok (.ifCond .eq (16), 3) by decide +kernel) rfl (fun z => absurd z q17) (fun _ => ?_)
          refine xv_b E [.aload_n 0] (pc' := 59) (lv' := [(0, .inr (.inr (some a0))), (1, .inl v1), (2, .inl v2)]) (st' := [.inr (.inr (some a0))]) (by decide +kernel) rfl rfl ?_
          obtain ⟨o_11, h12, h⟩ := bd h
          refine xg_r E 11 2 h12 mw86 (show decode prog_1_method_29_code 59 = .ok (.getfield 44, 3) by decide +kernel) ?_
          refine xv_b E [.iload_n 1, .bipush 16, .isub] (pc' := 66) (lv' := [(0, .inr (.inr (some a0))), (1, .inl v1), (2, .inl v2)]) (st' := [.inl (v1 - (16 : Int32)), .inr (.inr o_11)]) (by decide +kernel) rfl rfl ?_
          obtain ⟨o_13, h14, h⟩ := bd h
          refine xa_r E 35 h14 (show decode prog_1_method_29_code 66 = .ok (.aaload, 1) by decide +kernel) ?_
          obtain ⟨o_15, h16, h⟩ := bd h
          refine xg_r E 5 2 h16 mw120 (show decode prog_1_method_29_code 67 = .ok (.getfield 66, 3) by decide +kernel) ?_
          obtain rfl := Option.some.inj h
          obtain ⟨rfl, rfl⟩ := Prod.mk.inj (show ((some (.inr (.inr o_15)) : Option aV), q_7.2) = (r, M') from hN)
          exact xv_rr E B.1 (Or.inl ⟨_, rfl⟩) B.2.1 (show decode prog_1_method_29_code 70 = .ok (.areturn, 1) by decide +kernel) rfl rfl
      · rw [if_neg q18] at h
        refine xv_if_ne E 71 (show decode prog_1_method_29_code 41 = .ok (.ifCond .ne (30), 3) by decide +kernel) rfl (fun _ => ?_) (fun z => absurd z q18)
        exact xv_w (sb13_71 E B  q_1.2 h hN) rfl
  · rw [if_neg q30] at h
    refine xv_if_eq E 34 (show decode prog_1_method_29_code 5 = .ok (.ifCond .eq (29), 3) by decide +kernel) rfl (fun z => absurd z q30) (fun _ => ?_)
    refine xv_b E [.iload_n 2] (pc' := 9) (lv' := [(0, .inr (.inr (some a0))), (1, .inl v1), (2, .inl v2)]) (st' := [.inl v2]) (by decide +kernel) rfl rfl ?_
    by_cases q29 : v2 < 0
    · rw [if_pos q29] at h
      refine xv_if_lt E 32 (show decode prog_1_method_29_code 9 = .ok (.ifCond .lt (23), 3) by decide +kernel) rfl (fun _ => ?_) (fun z => absurd q29 z)
      exact xv_w (sb13_32 E B  q_1.2 h hN) rfl
    · rw [if_neg q29] at h
      refine xv_if_lt E 32 (show decode prog_1_method_29_code 9 = .ok (.ifCond .lt (23), 3) by decide +kernel) rfl (fun z => absurd z q29) (fun _ => ?_)
      refine xv_b E [.iload_n 2, .bipush 8] (pc' := 15) (lv' := [(0, .inr (.inr (some a0))), (1, .inl v1), (2, .inl v2)]) (st' := [.inl (8 : Int32), .inl v2]) (by decide +kernel) rfl rfl ?_
      by_cases q28 : (8 : Int32) ≤ v2
      · rw [if_pos q28] at h
        refine xv_icmp_ge E 32 (show decode prog_1_method_29_code 15 = .ok (.if_icmp .ge (17), 3) by decide +kernel) rfl (fun _ => ?_) (fun z => absurd q28 z)
        exact xv_w (sb13_32 E B  q_1.2 h hN) rfl
      · rw [if_neg q28] at h
        refine xv_icmp_ge E 32 (show decode prog_1_method_29_code 15 = .ok (.if_icmp .ge (17), 3) by decide +kernel) rfl (fun z => absurd z q28) (fun _ => ?_)
        refine xv_b E [.aload_n 0] (pc' := 19) (lv' := [(0, .inr (.inr (some a0))), (1, .inl v1), (2, .inl v2)]) (st' := [.inr (.inr (some a0))]) (by decide +kernel) rfl rfl ?_
        obtain ⟨o_20, h21, h⟩ := bd h
        refine xg_r E 11 1 h21 mw84 (show decode prog_1_method_29_code 19 = .ok (.getfield 35, 3) by decide +kernel) ?_
        refine xv_b E [.iload_n 1] (pc' := 23) (lv' := [(0, .inr (.inr (some a0))), (1, .inl v1), (2, .inl v2)]) (st' := [.inl v1, .inr (.inr o_20)]) (by decide +kernel) rfl rfl ?_
        obtain ⟨o_22, h23, h⟩ := bd h
        refine xa_r E 40 h23 (show decode prog_1_method_29_code 23 = .ok (.aaload, 1) by decide +kernel) ?_
        obtain ⟨o_24, h25, h⟩ := bd h
        refine xg_r E 10 2 h25 mw132 (show decode prog_1_method_29_code 24 = .ok (.getfield 249, 3) by decide +kernel) ?_
        refine xv_b E [.iload_n 2] (pc' := 28) (lv' := [(0, .inr (.inr (some a0))), (1, .inl v1), (2, .inl v2)]) (st' := [.inl v2, .inr (.inr o_24)]) (by decide +kernel) rfl rfl ?_
        obtain ⟨o_26, h27, h⟩ := bd h
        refine xa_r E 38 h27 (show decode prog_1_method_29_code 28 = .ok (.aaload, 1) by decide +kernel) ?_
        refine xv_goto E 33 (show decode prog_1_method_29_code 29 = .ok (.goto (4), 3) by decide +kernel) rfl ?_
        exact xv_w (sb13_33 E B o_26 q_1.2 h hN) rfl
end
theorem t13 (G : gX) (l : Launch) {as : List aV} {M : hM} {r : Option aV} {M' : hM} (h : f13 as M = some (r, M')) : xM G l ym13 prog_1_method_29_code 3 (some (FieldType.object "ZonedFabric$Port")) 1 as M r M' := by
  unfold f13 at h
  split at h
  · have h := x_out_ok h
    refine xM_of (by decide) (Nat.le_of_ble_eq_true rfl) (lb13_0 G l _ _ _ M h) ?_
    intro p e s m args below meth c E B
    exact sb13_0 E B _ _ _ M h rfl
  · cases h
/-! ZF.Port.comeUp()V -/
def ym14 : MethodName := ⟨"ZonedFabric$Port", "comeUp", "()V"⟩
theorem cd14 : xCd ym14 prog_10_method_2_code 1 none 0 := ⟨mw133, mw14, by decide, by decide, by decide +kernel⟩
def b14_0 (a0 : Nat) (M : hM) : Option xRes :=
  Option.bind (p_z M 8 5 (some a0) (1 : Int32)) fun M1 =>
  Option.bind (g_r M1 8 0 (some a0)) fun o_3 =>
  Option.bind (g_i M1 9 2 o_3) fun v_5 =>
  Option.bind (p_i M1 8 6 (some a0) v_5) fun M7 =>
  Option.bind (p_i M7 8 14 (some a0) (-1000 : Int32)) fun M9 =>
  some (.inl (none, M9))
def f14 (as : List aV) (M : hM) : xO := match as with
  | [.inr (.inr (some a0))] => x_out (b14_0 a0 M)
  | _ => none
theorem lb14_0 (G : gX) (l : Launch) (a0 : Nat) (M : hM) {res : xRes} (h : b14_0 a0 M = some res) : h_sz M ≤ r_sz res ∧ h_sl M ≤ r_sl res := by
  unfold b14_0 at h
  obtain ⟨M1, h2, h⟩ := bd h
  have eh2 := p_z_sz h2
  obtain ⟨o_3, h4, h⟩ := bd h
  obtain ⟨v_5, h6, h⟩ := bd h
  obtain ⟨M7, h8, h⟩ := bd h
  have eh8 := p_i_sz h8
  obtain ⟨M9, h10, h⟩ := bd h
  have eh10 := p_i_sz h10
  obtain rfl := Option.some.inj h
  show h_sz M ≤ h_sz M9 ∧ h_sl M ≤ h_sl M9
  omega
section
variable {p : Program} {l : Launch} {e : Env} {s : State} {m : MethodId} {args : Array Value} {below : List Frame} {meth : Method} {c : Code} {G : gX} {z0 y0 : Nat} {r : Option aV} {M' : hM}
theorem sb14_0 (E : xE G p (xRm 0 (h_sz M' - z0) (h_sl M' - y0)) s m args c prog_10_method_2_code "ZonedFabric$Port" z0 y0 (h_sz M') (h_sl M') 1) (B : xB ym14 none meth) (a0 : Nat) (M : hM) {res : xRes} (h : b14_0 a0 M = some res) (hN : xN (fun _ _ _ => False) r M' res) : xV G p l e (xRm 0 (h_sz M' - z0) (h_sl M' - y0)) s m args below meth c z0 y0 (h_sz M') (h_sl M') 1 (MQ below (xQc G r M') args s (h_sz M' - z0) (h_sl M' - y0) (xFr G)) 0 [(0, .inr (.inr (some a0)))] [] M := by
  unfold b14_0 at h
  refine xv_b E [.aload_n 0, .iconst 1] (pc' := 2) (lv' := [(0, .inr (.inr (some a0)))]) (st' := [.inl (1 : Int32), .inr (.inr (some a0))]) (by decide +kernel) rfl rfl ?_
  obtain ⟨M1, h2, h⟩ := bd h
  refine xp_z E 8 5 h2 mw134 (show decode prog_10_method_2_code 2 = .ok (.putfield 38, 3) by decide +kernel) (Or.inl rfl) ?_
  refine xv_b E [.aload_n 0, .aload_n 0] (pc' := 7) (lv' := [(0, .inr (.inr (some a0)))]) (st' := [.inr (.inr (some a0)), .inr (.inr (some a0))]) (by decide +kernel) rfl rfl ?_
  obtain ⟨o_3, h4, h⟩ := bd h
  refine xg_r E 8 0 h4 mw22 (show decode prog_10_method_2_code 7 = .ok (.getfield 28, 3) by decide +kernel) ?_
  obtain ⟨v_5, h6, h⟩ := bd h
  refine xg_i E 9 2 h6 mw135 (show decode prog_10_method_2_code 10 = .ok (.getfield 42, 3) by decide +kernel) ?_
  obtain ⟨M7, h8, h⟩ := bd h
  refine xp_i E 8 6 h8 mw136 (show decode prog_10_method_2_code 13 = .ok (.putfield 47, 3) by decide +kernel) (Or.inl rfl) ?_
  refine xv_b E [.aload_n 0, .sipush (-1000)] (pc' := 20) (lv' := [(0, .inr (.inr (some a0)))]) (st' := [.inl (-1000 : Int32), .inr (.inr (some a0))]) (by decide +kernel) rfl rfl ?_
  obtain ⟨M9, h10, h⟩ := bd h
  refine xp_i E 8 14 h10 mw21 (show decode prog_10_method_2_code 20 = .ok (.putfield 25, 3) by decide +kernel) (Or.inl rfl) ?_
  obtain rfl := Option.some.inj h
  obtain ⟨rfl, rfl⟩ := Prod.mk.inj (show ((none : Option aV), M9) = (r, M') from hN)
  exact xv_rv E B.1 B.2.1 (show decode prog_10_method_2_code 23 = .ok (.return_, 1) by decide +kernel) rfl rfl
end
theorem t14 (G : gX) (l : Launch) {as : List aV} {M : hM} {r : Option aV} {M' : hM} (h : f14 as M = some (r, M')) : xM G l ym14 prog_10_method_2_code 1 none 0 as M r M' := by
  unfold f14 at h
  split at h
  · have h := x_out_ok h
    refine xM_of (by decide) (Nat.le_of_ble_eq_true rfl) (lb14_0 G l _ M h) ?_
    intro p e s m args below meth c E B
    exact sb14_0 E B _ M h rfl
  · cases h
/-! ZF.wire(IIIII)I -/
def ym15 : MethodName := ⟨"ZonedFabric", "wire", "(IIIII)I"⟩
theorem cd15 : xCd ym15 prog_1_method_3_code 8 (some FieldType.int) 5 := ⟨mw137, mw71, by decide, by decide, by decide +kernel⟩
def b15_35  (M : hM) : Option xRes :=
  some (.inl (some (.inl (-1 : Int32)), M))
def b15_80  (M : hM) : Option xRes :=
  some (.inl (some (.inl (-1 : Int32)), M))
def b15_0 (a0 : Nat) (v1 : Int32) (v2 : Int32) (v3 : Int32) (v4 : Int32) (v5 : Int32) (M : hM) : Option xRes :=
  Option.bind (g_i M 11 5 (some a0)) fun v_1 =>
  if (16 : Int32) ≤ v_1 then
    (b15_35  M)
  else
    (Option.bind (g_o M 11 (some a0)) fun b_5 =>
    Option.bind (c_I (f12 [.inr (.inr (some b_5)), .inl v1] M)) fun q_3 =>
    if q_3.1 = 0 then
      (b15_35  q_3.2)
    else
      (if v1 = v3 then
        (b15_35  q_3.2)
      else
        (if v5 < (1 : Int32) then
          (b15_35  q_3.2)
        else
          (if v5 ≤ (9 : Int32) then
            (Option.bind (g_o q_3.2 11 (some a0)) fun b_9 =>
            Option.bind (c_R (f13 [.inr (.inr (some b_9)), .inl v1, .inl v2] q_3.2)) fun q_7 =>
            Option.bind (g_o q_7.2 11 (some a0)) fun b_13 =>
            Option.bind (c_R (f13 [.inr (.inr (some b_13)), .inl v3, .inl v4] q_7.2)) fun q_11 =>
            if q_7.1 = none then
              (b15_80  q_11.2)
            else
              (if q_11.1 = none then
                (b15_80  q_11.2)
              else
                (Option.bind (g_r q_11.2 8 3 q_7.1) fun o_15 =>
                if o_15 = none then
                  (Option.bind (g_r q_11.2 8 3 q_11.1) fun o_17 =>
                  if o_17 = none then
                    (Option.bind (p_r q_11.2 8 3 q_7.1 q_11.1) fun M19 =>
                    Option.bind (p_r M19 8 3 q_11.1 q_7.1) fun M21 =>
                    Option.bind (p_i M21 8 4 q_7.1 v5) fun M23 =>
                    Option.bind (p_i M23 8 4 q_11.1 v5) fun M25 =>
                    Option.bind (g_o M25 8 q_7.1) fun b_29 =>
                    Option.bind (c_V (f14 [.inr (.inr (some b_29))] M25)) fun q_27 =>
                    Option.bind (g_o q_27 8 q_11.1) fun b_33 =>
                    Option.bind (c_V (f14 [.inr (.inr (some b_33))] q_27)) fun q_31 =>
                    Option.bind (g_r q_31 11 3 (some a0)) fun o_35 =>
                    Option.bind (g_i q_31 11 5 (some a0)) fun v_37 =>
                    Option.bind (as_r q_31 8 o_35 v_37 q_7.1) fun M39 =>
                    Option.bind (g_r M39 11 4 (some a0)) fun o_41 =>
                    Option.bind (g_i M39 11 5 (some a0)) fun v_43 =>
                    Option.bind (as_r M39 8 o_41 v_43 q_11.1) fun M45 =>
                    Option.bind (g_i M45 11 5 (some a0)) fun v_47 =>
                    Option.bind (p_i M45 11 5 (some a0) (v_47 + (1 : Int32))) fun M49 =>
                    Option.bind (g_i M49 11 5 (some a0)) fun v_51 =>
                    some (.inl (some (.inl (v_51 - (1 : Int32))), M49)))
                  else
                    (b15_80  q_11.2))
                else
                  (b15_80  q_11.2))))
          else
            (b15_35  q_3.2)))))
def f15 (as : List aV) (M : hM) : xO := match as with
  | [.inr (.inr (some a0)), .inl v1, .inl v2, .inl v3, .inl v4, .inl v5] => x_out (b15_0 a0 v1 v2 v3 v4 v5 M)
  | _ => none
theorem lb15_35 (G : gX) (l : Launch)  (M : hM) {res : xRes} (h : b15_35  M = some res) : h_sz M ≤ r_sz res ∧ h_sl M ≤ r_sl res := by
  unfold b15_35 at h
  obtain rfl := Option.some.inj h
  show h_sz M ≤ h_sz M ∧ h_sl M ≤ h_sl M
  omega
theorem lb15_80 (G : gX) (l : Launch)  (M : hM) {res : xRes} (h : b15_80  M = some res) : h_sz M ≤ r_sz res ∧ h_sl M ≤ r_sl res := by
  unfold b15_80 at h
  obtain rfl := Option.some.inj h
  show h_sz M ≤ h_sz M ∧ h_sl M ≤ h_sl M
  omega
theorem lb15_0 (G : gX) (l : Launch) (a0 : Nat) (v1 : Int32) (v2 : Int32) (v3 : Int32) (v4 : Int32) (v5 : Int32) (M : hM) {res : xRes} (h : b15_0 a0 v1 v2 v3 v4 v5 M = some res) : h_sz M ≤ r_sz res ∧ h_sl M ≤ r_sl res := by
  unfold b15_0 at h
  obtain ⟨v_1, h2, h⟩ := bd h
  by_cases q61 : (16 : Int32) ≤ v_1
  · rw [if_pos q61] at h
    have e := lb15_35 G l  M h
    omega
  · rw [if_neg q61] at h
    obtain ⟨b_5, h6, h⟩ := bd h
    obtain ⟨q_3, h4, h⟩ := bd h
    have eh4 := (t12 G l (c_I_some h4)).1
    by_cases q60 : q_3.1 = 0
    · rw [if_pos q60] at h
      have e := lb15_35 G l  q_3.2 h
      omega
    · rw [if_neg q60] at h
      by_cases q59 : v1 = v3
      · rw [if_pos q59] at h
        have e := lb15_35 G l  q_3.2 h
        omega
      · rw [if_neg q59] at h
        by_cases q58 : v5 < (1 : Int32)
        · rw [if_pos q58] at h
          have e := lb15_35 G l  q_3.2 h
          omega
        · rw [if_neg q58] at h
          by_cases q57 : v5 ≤ (9 : Int32)
          · rw [if_pos q57] at h
            obtain ⟨b_9, h10, h⟩ := bd h
            obtain ⟨q_7, h8, h⟩ := bd h
            have eh8 := (t13 G l (c_R_some h8)).1
            obtain ⟨b_13, h14, h⟩ := bd h
            obtain ⟨q_11, h12, h⟩ := bd h
            have eh12 := (t13 G l (c_R_some h12)).1
            by_cases q56 : q_7.1 = none
            · rw [if_pos q56] at h
              have e := lb15_80 G l  q_11.2 h
              omega
            · rw [if_neg q56] at h
              by_cases q55 : q_11.1 = none
              · rw [if_pos q55] at h
                have e := lb15_80 G l  q_11.2 h
                omega
              · rw [if_neg q55] at h
                obtain ⟨o_15, h16, h⟩ := bd h
                by_cases q54 : o_15 = none
                · rw [if_pos q54] at h
                  obtain ⟨o_17, h18, h⟩ := bd h
                  by_cases q53 : o_17 = none
                  · rw [if_pos q53] at h
                    obtain ⟨M19, h20, h⟩ := bd h
                    have eh20 := p_r_sz h20
                    obtain ⟨M21, h22, h⟩ := bd h
                    have eh22 := p_r_sz h22
                    obtain ⟨M23, h24, h⟩ := bd h
                    have eh24 := p_i_sz h24
                    obtain ⟨M25, h26, h⟩ := bd h
                    have eh26 := p_i_sz h26
                    obtain ⟨b_29, h30, h⟩ := bd h
                    obtain ⟨q_27, h28, h⟩ := bd h
                    have eh28 := (t14 G l (c_V_some h28)).1
                    obtain ⟨b_33, h34, h⟩ := bd h
                    obtain ⟨q_31, h32, h⟩ := bd h
                    have eh32 := (t14 G l (c_V_some h32)).1
                    obtain ⟨o_35, h36, h⟩ := bd h
                    obtain ⟨v_37, h38, h⟩ := bd h
                    obtain ⟨M39, h40, h⟩ := bd h
                    have eh40 := as_r_sz h40
                    obtain ⟨o_41, h42, h⟩ := bd h
                    obtain ⟨v_43, h44, h⟩ := bd h
                    obtain ⟨M45, h46, h⟩ := bd h
                    have eh46 := as_r_sz h46
                    obtain ⟨v_47, h48, h⟩ := bd h
                    obtain ⟨M49, h50, h⟩ := bd h
                    have eh50 := p_i_sz h50
                    obtain ⟨v_51, h52, h⟩ := bd h
                    obtain rfl := Option.some.inj h
                    show h_sz M ≤ h_sz M49 ∧ h_sl M ≤ h_sl M49
                    omega
                  · rw [if_neg q53] at h
                    have e := lb15_80 G l  q_11.2 h
                    omega
                · rw [if_neg q54] at h
                  have e := lb15_80 G l  q_11.2 h
                  omega
          · rw [if_neg q57] at h
            have e := lb15_35 G l  q_3.2 h
            omega
section
variable {p : Program} {l : Launch} {e : Env} {s : State} {m : MethodId} {args : Array Value} {below : List Frame} {meth : Method} {c : Code} {G : gX} {z0 y0 : Nat} {r : Option aV} {M' : hM}
theorem sb15_35 (E : xE G p (xRm 2 (h_sz M' - z0) (h_sl M' - y0)) s m args c prog_1_method_3_code "ZonedFabric" z0 y0 (h_sz M') (h_sl M') 8) (B : xB ym15 (some FieldType.int) meth)  (M : hM) {res : xRes} (h : b15_35  M = some res) (hN : xN (fun _ _ _ => False) r M' res) : xV G p l e (xRm 2 (h_sz M' - z0) (h_sl M' - y0)) s m args below meth c z0 y0 (h_sz M') (h_sl M') 8 (MQ below (xQc G r M') args s (h_sz M' - z0) (h_sl M' - y0) (xFr G)) 35 [] [] M := by
  unfold b15_35 at h
  refine xv_b E [.iconst (-1)] (pc' := 36) (lv' := []) (st' := [.inl (-1 : Int32)]) (by decide +kernel) rfl rfl ?_
  obtain rfl := Option.some.inj h
  obtain ⟨rfl, rfl⟩ := Prod.mk.inj (show ((some (.inl (-1 : Int32)) : Option aV), M) = (r, M') from hN)
  exact xv_ri E B.1 rfl B.2.1 (show decode prog_1_method_3_code 36 = .ok (.ireturn, 1) by decide +kernel) rfl rfl
theorem sb15_80 (E : xE G p (xRm 2 (h_sz M' - z0) (h_sl M' - y0)) s m args c prog_1_method_3_code "ZonedFabric" z0 y0 (h_sz M') (h_sl M') 8) (B : xB ym15 (some FieldType.int) meth)  (M : hM) {res : xRes} (h : b15_80  M = some res) (hN : xN (fun _ _ _ => False) r M' res) : xV G p l e (xRm 2 (h_sz M' - z0) (h_sl M' - y0)) s m args below meth c z0 y0 (h_sz M') (h_sl M') 8 (MQ below (xQc G r M') args s (h_sz M' - z0) (h_sl M' - y0) (xFr G)) 80 [] [] M := by
  unfold b15_80 at h
  refine xv_b E [.iconst (-1)] (pc' := 81) (lv' := []) (st' := [.inl (-1 : Int32)]) (by decide +kernel) rfl rfl ?_
  obtain rfl := Option.some.inj h
  obtain ⟨rfl, rfl⟩ := Prod.mk.inj (show ((some (.inl (-1 : Int32)) : Option aV), M) = (r, M') from hN)
  exact xv_ri E B.1 rfl B.2.1 (show decode prog_1_method_3_code 81 = .ok (.ireturn, 1) by decide +kernel) rfl rfl
theorem sb15_0 (E : xE G p (xRm 2 (h_sz M' - z0) (h_sl M' - y0)) s m args c prog_1_method_3_code "ZonedFabric" z0 y0 (h_sz M') (h_sl M') 8) (B : xB ym15 (some FieldType.int) meth) (a0 : Nat) (v1 : Int32) (v2 : Int32) (v3 : Int32) (v4 : Int32) (v5 : Int32) (M : hM) {res : xRes} (h : b15_0 a0 v1 v2 v3 v4 v5 M = some res) (hN : xN (fun _ _ _ => False) r M' res) : xV G p l e (xRm 2 (h_sz M' - z0) (h_sl M' - y0)) s m args below meth c z0 y0 (h_sz M') (h_sl M') 8 (MQ below (xQc G r M') args s (h_sz M' - z0) (h_sl M' - y0) (xFr G)) 0 [(0, .inr (.inr (some a0))), (1, .inl v1), (2, .inl v2), (3, .inl v3), (4, .inl v4), (5, .inl v5)] [] M := by
  unfold b15_0 at h
  refine xv_b E [.aload_n 0] (pc' := 1) (lv' := [(0, .inr (.inr (some a0))), (1, .inl v1), (2, .inl v2), (3, .inl v3), (4, .inl v4), (5, .inl v5)]) (st' := [.inr (.inr (some a0))]) (by decide +kernel) rfl rfl ?_
  obtain ⟨v_1, h2, h⟩ := bd h
  refine xg_i E 11 5 h2 mw138 (show decode prog_1_method_3_code 1 = .ok (.getfield 80, 3) by decide +kernel) ?_
  refine xv_b E [.bipush 16] (pc' := 6) (lv' := [(0, .inr (.inr (some a0))), (1, .inl v1), (2, .inl v2), (3, .inl v3), (4, .inl v4), (5, .inl v5)]) (st' := [.inl (16 : Int32), .inl v_1]) (by decide +kernel) rfl rfl ?_
  by_cases q61 : (16 : Int32) ≤ v_1
  · rw [if_pos q61] at h
    refine xv_icmp_ge E 35 (show decode prog_1_method_3_code 6 = .ok (.if_icmp .ge (29), 3) by decide +kernel) rfl (fun _ => ?_) (fun z => absurd q61 z)
    exact xv_w (sb15_35 E B  M h hN) rfl
  · rw [if_neg q61] at h
    refine xv_icmp_ge E 35 (show decode prog_1_method_3_code 6 = .ok (.if_icmp .ge (29), 3) by decide +kernel) rfl (fun z => absurd z q61) (fun _ => ?_)
    refine xv_b E [.aload_n 0, .iload_n 1] (pc' := 11) (lv' := [(0, .inr (.inr (some a0))), (1, .inl v1), (2, .inl v2), (3, .inl v3), (4, .inl v4), (5, .inl v5)]) (st' := [.inl v1, .inr (.inr (some a0))]) (by decide +kernel) rfl rfl ?_
    obtain ⟨b_5, h6, h⟩ := bd h
    obtain ⟨eh6, th6⟩ := g_o_some h6
    obtain ⟨q_3, h4, h⟩ := bd h
    refine xv_cvo E eh6 11 (as := [.inl v1]) (t12 G l (c_I_some h4)) cd12 mw129 mw130 mw131 (show decode prog_1_method_3_code 11 = .ok (.invokevirtual 84, 3) by decide +kernel) th6 rfl rfl (Nat.le_of_ble_eq_true rfl) ⟨Nat.le_of_ble_eq_true rfl, Nat.le_of_ble_eq_true rfl⟩ ?_
    by_cases q60 : q_3.1 = 0
    · rw [if_pos q60] at h
      refine xv_if_eq E 35 (show decode prog_1_method_3_code 14 = .ok (.ifCond .eq (21), 3) by decide +kernel) rfl (fun _ => ?_) (fun z => absurd q60 z)
      exact xv_w (sb15_35 E B  q_3.2 h hN) rfl
    · rw [if_neg q60] at h
      refine xv_if_eq E 35 (show decode prog_1_method_3_code 14 = .ok (.ifCond .eq (21), 3) by decide +kernel) rfl (fun z => absurd z q60) (fun _ => ?_)
      refine xv_b E [.iload_n 1, .iload_n 3] (pc' := 19) (lv' := [(0, .inr (.inr (some a0))), (1, .inl v1), (2, .inl v2), (3, .inl v3), (4, .inl v4), (5, .inl v5)]) (st' := [.inl v3, .inl v1]) (by decide +kernel) rfl rfl ?_
      by_cases q59 : v1 = v3
      · rw [if_pos q59] at h
        refine xv_icmp_eq E 35 (show decode prog_1_method_3_code 19 = .ok (.if_icmp .eq (16), 3) by decide +kernel) rfl (fun _ => ?_) (fun z => absurd q59 z)
        exact xv_w (sb15_35 E B  q_3.2 h hN) rfl
      · rw [if_neg q59] at h
        refine xv_icmp_eq E 35 (show decode prog_1_method_3_code 19 = .ok (.if_icmp .eq (16), 3) by decide +kernel) rfl (fun z => absurd z q59) (fun _ => ?_)
        refine xv_b E [.iload 5, .iconst 1] (pc' := 25) (lv' := [(0, .inr (.inr (some a0))), (1, .inl v1), (2, .inl v2), (3, .inl v3), (4, .inl v4), (5, .inl v5)]) (st' := [.inl (1 : Int32), .inl v5]) (by decide +kernel) rfl rfl ?_
        by_cases q58 : v5 < (1 : Int32)
        · rw [if_pos q58] at h
          refine xv_icmp_lt E 35 (show decode prog_1_method_3_code 25 = .ok (.if_icmp .lt (10), 3) by decide +kernel) rfl (fun _ => ?_) (fun z => absurd q58 z)
          exact xv_w (sb15_35 E B  q_3.2 h hN) rfl
        · rw [if_neg q58] at h
          refine xv_icmp_lt E 35 (show decode prog_1_method_3_code 25 = .ok (.if_icmp .lt (10), 3) by decide +kernel) rfl (fun z => absurd z q58) (fun _ => ?_)
          refine xv_b E [.iload 5, .bipush 9] (pc' := 32) (lv' := [(0, .inr (.inr (some a0))), (1, .inl v1), (2, .inl v2), (3, .inl v3), (4, .inl v4), (5, .inl v5)]) (st' := [.inl (9 : Int32), .inl v5]) (by decide +kernel) rfl rfl ?_
          by_cases q57 : v5 ≤ (9 : Int32)
          · rw [if_pos q57] at h
            refine xv_icmp_le E 37 (show decode prog_1_method_3_code 32 = .ok (.if_icmp .le (5), 3) by decide +kernel) rfl (fun _ => ?_) (fun z => absurd q57 z)
            refine xv_b E [.aload_n 0, .iload_n 1, .iload_n 2] (pc' := 40) (lv' := [(0, .inr (.inr (some a0))), (1, .inl v1), (2, .inl v2), (3, .inl v3), (4, .inl v4), (5, .inl v5)]) (st' := [.inl v2, .inl v1, .inr (.inr (some a0))]) (by decide +kernel) rfl rfl ?_
            obtain ⟨b_9, h10, h⟩ := bd h
            obtain ⟨eh10, th10⟩ := g_o_some h10
            obtain ⟨q_7, h8, h⟩ := bd h
            refine xv_cvo E eh10 11 (as := [.inl v1, .inl v2]) (t13 G l (c_R_some h8)) cd13 mw139 mw140 mw141 (show decode prog_1_method_3_code 40 = .ok (.invokevirtual 87, 3) by decide +kernel) th10 rfl rfl (Nat.le_of_ble_eq_true rfl) ⟨Nat.le_of_ble_eq_true rfl, Nat.le_of_ble_eq_true rfl⟩ ?_
            refine xv_b E [.astore 6, .aload_n 0, .iload_n 3, .iload 4] (pc' := 49) (lv' := [(6, .inr (.inr q_7.1)), (0, .inr (.inr (some a0))), (1, .inl v1), (2, .inl v2), (3, .inl v3), (4, .inl v4), (5, .inl v5)]) (st' := [.inl v4, .inl v3, .inr (.inr (some a0))]) (by decide +kernel) rfl rfl ?_
            obtain ⟨b_13, h14, h⟩ := bd h
            obtain ⟨eh14, th14⟩ := g_o_some h14
            obtain ⟨q_11, h12, h⟩ := bd h
            refine xv_cvo E eh14 11 (as := [.inl v3, .inl v4]) (t13 G l (c_R_some h12)) cd13 mw139 mw140 mw141 (show decode prog_1_method_3_code 49 = .ok (.invokevirtual 87, 3) by decide +kernel) th14 rfl rfl (Nat.le_of_ble_eq_true rfl) ⟨Nat.le_of_ble_eq_true rfl, Nat.le_of_ble_eq_true rfl⟩ ?_
            refine xv_b E [.astore 7, .aload 6] (pc' := 56) (lv' := [(7, .inr (.inr q_11.1)), (6, .inr (.inr q_7.1)), (0, .inr (.inr (some a0))), (1, .inl v1), (2, .inl v2), (3, .inl v3), (4, .inl v4), (5, .inl v5)]) (st' := [.inr (.inr q_7.1)]) (by decide +kernel) rfl rfl ?_
            by_cases q56 : q_7.1 = none
            · rw [if_pos q56] at h
              refine xi_null E 80 (show decode prog_1_method_3_code 56 = .ok (.ifnull (24), 3) by decide +kernel) rfl (fun _ => ?_) (fun z => absurd q56 z)
              exact xv_w (sb15_80 E B  q_11.2 h hN) rfl
            · rw [if_neg q56] at h
              refine xi_null E 80 (show decode prog_1_method_3_code 56 = .ok (.ifnull (24), 3) by decide +kernel) rfl (fun z => absurd z q56) (fun _ => ?_)
              refine xv_b E [.aload 7] (pc' := 61) (lv' := [(7, .inr (.inr q_11.1)), (6, .inr (.inr q_7.1)), (0, .inr (.inr (some a0))), (1, .inl v1), (2, .inl v2), (3, .inl v3), (4, .inl v4), (5, .inl v5)]) (st' := [.inr (.inr q_11.1)]) (by decide +kernel) rfl rfl ?_
              by_cases q55 : q_11.1 = none
              · rw [if_pos q55] at h
                refine xi_null E 80 (show decode prog_1_method_3_code 61 = .ok (.ifnull (19), 3) by decide +kernel) rfl (fun _ => ?_) (fun z => absurd q55 z)
                exact xv_w (sb15_80 E B  q_11.2 h hN) rfl
              · rw [if_neg q55] at h
                refine xi_null E 80 (show decode prog_1_method_3_code 61 = .ok (.ifnull (19), 3) by decide +kernel) rfl (fun z => absurd z q55) (fun _ => ?_)
                refine xv_b E [.aload 6] (pc' := 66) (lv' := [(7, .inr (.inr q_11.1)), (6, .inr (.inr q_7.1)), (0, .inr (.inr (some a0))), (1, .inl v1), (2, .inl v2), (3, .inl v3), (4, .inl v4), (5, .inl v5)]) (st' := [.inr (.inr q_7.1)]) (by decide +kernel) rfl rfl ?_
                obtain ⟨o_15, h16, h⟩ := bd h
                refine xg_r E 8 3 h16 mw121 (show decode prog_1_method_3_code 66 = .ok (.getfield 70, 3) by decide +kernel) ?_
                by_cases q54 : o_15 = none
                · rw [if_pos q54] at h
                  refine xi_nonnull E 80 (show decode prog_1_method_3_code 69 = .ok (.ifnonnull (11), 3) by decide +kernel) rfl (fun z => absurd q54 z) (fun _ => ?_)
                  refine xv_b E [.aload 7] (pc' := 74) (lv' := [(7, .inr (.inr q_11.1)), (6, .inr (.inr q_7.1)), (0, .inr (.inr (some a0))), (1, .inl v1), (2, .inl v2), (3, .inl v3), (4, .inl v4), (5, .inl v5)]) (st' := [.inr (.inr q_11.1)]) (by decide +kernel) rfl rfl ?_
                  obtain ⟨o_17, h18, h⟩ := bd h
                  refine xg_r E 8 3 h18 mw121 (show decode prog_1_method_3_code 74 = .ok (.getfield 70, 3) by decide +kernel) ?_
                  by_cases q53 : o_17 = none
                  · rw [if_pos q53] at h
                    refine xi_null E 82 (show decode prog_1_method_3_code 77 = .ok (.ifnull (5), 3) by decide +kernel) rfl (fun _ => ?_) (fun z => absurd q53 z)
                    refine xv_b E [.aload 6, .aload 7] (pc' := 86) (lv' := [(7, .inr (.inr q_11.1)), (6, .inr (.inr q_7.1)), (0, .inr (.inr (some a0))), (1, .inl v1), (2, .inl v2), (3, .inl v3), (4, .inl v4), (5, .inl v5)]) (st' := [.inr (.inr q_11.1), .inr (.inr q_7.1)]) (by decide +kernel) rfl rfl ?_
                    obtain ⟨M19, h20, h⟩ := bd h
                    refine xp_r E 8 3 h20 mw121 (show decode prog_1_method_3_code 86 = .ok (.putfield 70, 3) by decide +kernel) (Or.inl rfl) ?_
                    refine xv_b E [.aload 7, .aload 6] (pc' := 93) (lv' := [(7, .inr (.inr q_11.1)), (6, .inr (.inr q_7.1)), (0, .inr (.inr (some a0))), (1, .inl v1), (2, .inl v2), (3, .inl v3), (4, .inl v4), (5, .inl v5)]) (st' := [.inr (.inr q_7.1), .inr (.inr q_11.1)]) (by decide +kernel) rfl rfl ?_
                    obtain ⟨M21, h22, h⟩ := bd h
                    refine xp_r E 8 3 h22 mw121 (show decode prog_1_method_3_code 93 = .ok (.putfield 70, 3) by decide +kernel) (Or.inl rfl) ?_
                    refine xv_b E [.aload 6, .iload 5] (pc' := 100) (lv' := [(7, .inr (.inr q_11.1)), (6, .inr (.inr q_7.1)), (0, .inr (.inr (some a0))), (1, .inl v1), (2, .inl v2), (3, .inl v3), (4, .inl v4), (5, .inl v5)]) (st' := [.inl v5, .inr (.inr q_7.1)]) (by decide +kernel) rfl rfl ?_
                    obtain ⟨M23, h24, h⟩ := bd h
                    refine xp_i E 8 4 h24 mw142 (show decode prog_1_method_3_code 100 = .ok (.putfield 91, 3) by decide +kernel) (Or.inl rfl) ?_
                    refine xv_b E [.aload 7, .iload 5] (pc' := 107) (lv' := [(7, .inr (.inr q_11.1)), (6, .inr (.inr q_7.1)), (0, .inr (.inr (some a0))), (1, .inl v1), (2, .inl v2), (3, .inl v3), (4, .inl v4), (5, .inl v5)]) (st' := [.inl v5, .inr (.inr q_11.1)]) (by decide +kernel) rfl rfl ?_
                    obtain ⟨M25, h26, h⟩ := bd h
                    refine xp_i E 8 4 h26 mw142 (show decode prog_1_method_3_code 107 = .ok (.putfield 91, 3) by decide +kernel) (Or.inl rfl) ?_
                    refine xv_b E [.aload 6] (pc' := 112) (lv' := [(7, .inr (.inr q_11.1)), (6, .inr (.inr q_7.1)), (0, .inr (.inr (some a0))), (1, .inl v1), (2, .inl v2), (3, .inl v3), (4, .inl v4), (5, .inl v5)]) (st' := [.inr (.inr q_7.1)]) (by decide +kernel) rfl rfl ?_
                    obtain ⟨b_29, h30, h⟩ := bd h
                    obtain ⟨eh30, th30⟩ := g_o_some h30
                    obtain ⟨q_27, h28, h⟩ := bd h
                    refine xv_cvo E eh30 8 (as := []) (t14 G l (c_V_some h28)) cd14 mw143 mw144 mw145 (show decode prog_1_method_3_code 112 = .ok (.invokevirtual 94, 3) by decide +kernel) th30 rfl rfl (Nat.le_of_ble_eq_true rfl) ⟨Nat.le_of_ble_eq_true rfl, Nat.le_of_ble_eq_true rfl⟩ ?_
                    refine xv_b E [.aload 7] (pc' := 117) (lv' := [(7, .inr (.inr q_11.1)), (6, .inr (.inr q_7.1)), (0, .inr (.inr (some a0))), (1, .inl v1), (2, .inl v2), (3, .inl v3), (4, .inl v4), (5, .inl v5)]) (st' := [.inr (.inr q_11.1)]) (by decide +kernel) rfl rfl ?_
                    obtain ⟨b_33, h34, h⟩ := bd h
                    obtain ⟨eh34, th34⟩ := g_o_some h34
                    obtain ⟨q_31, h32, h⟩ := bd h
                    refine xv_cvo E eh34 8 (as := []) (t14 G l (c_V_some h32)) cd14 mw143 mw144 mw145 (show decode prog_1_method_3_code 117 = .ok (.invokevirtual 94, 3) by decide +kernel) th34 rfl rfl (Nat.le_of_ble_eq_true rfl) ⟨Nat.le_of_ble_eq_true rfl, Nat.le_of_ble_eq_true rfl⟩ ?_
                    refine xv_b E [.aload_n 0] (pc' := 121) (lv' := [(7, .inr (.inr q_11.1)), (6, .inr (.inr q_7.1)), (0, .inr (.inr (some a0))), (1, .inl v1), (2, .inl v2), (3, .inl v3), (4, .inl v4), (5, .inl v5)]) (st' := [.inr (.inr (some a0))]) (by decide +kernel) rfl rfl ?_
                    obtain ⟨o_35, h36, h⟩ := bd h
                    refine xg_r E 11 3 h36 mw73 (show decode prog_1_method_3_code 121 = .ok (.getfield 11, 3) by decide +kernel) ?_
                    refine xv_b E [.aload_n 0] (pc' := 125) (lv' := [(7, .inr (.inr q_11.1)), (6, .inr (.inr q_7.1)), (0, .inr (.inr (some a0))), (1, .inl v1), (2, .inl v2), (3, .inl v3), (4, .inl v4), (5, .inl v5)]) (st' := [.inr (.inr (some a0)), .inr (.inr o_35)]) (by decide +kernel) rfl rfl ?_
                    obtain ⟨v_37, h38, h⟩ := bd h
                    refine xg_i E 11 5 h38 mw138 (show decode prog_1_method_3_code 125 = .ok (.getfield 80, 3) by decide +kernel) ?_
                    refine xv_b E [.aload 6] (pc' := 130) (lv' := [(7, .inr (.inr q_11.1)), (6, .inr (.inr q_7.1)), (0, .inr (.inr (some a0))), (1, .inl v1), (2, .inl v2), (3, .inl v3), (4, .inl v4), (5, .inl v5)]) (st' := [.inr (.inr q_7.1), .inl v_37, .inr (.inr o_35)]) (by decide +kernel) rfl rfl ?_
                    obtain ⟨M39, h40, h⟩ := bd h
                    refine xs_r E 8 h40 (show decode prog_1_method_3_code 130 = .ok (.aastore, 1) by decide +kernel) ?_
                    refine xv_b E [.aload_n 0] (pc' := 132) (lv' := [(7, .inr (.inr q_11.1)), (6, .inr (.inr q_7.1)), (0, .inr (.inr (some a0))), (1, .inl v1), (2, .inl v2), (3, .inl v3), (4, .inl v4), (5, .inl v5)]) (st' := [.inr (.inr (some a0))]) (by decide +kernel) rfl rfl ?_
                    obtain ⟨o_41, h42, h⟩ := bd h
                    refine xg_r E 11 4 h42 mw74 (show decode prog_1_method_3_code 132 = .ok (.getfield 15, 3) by decide +kernel) ?_
                    refine xv_b E [.aload_n 0] (pc' := 136) (lv' := [(7, .inr (.inr q_11.1)), (6, .inr (.inr q_7.1)), (0, .inr (.inr (some a0))), (1, .inl v1), (2, .inl v2), (3, .inl v3), (4, .inl v4), (5, .inl v5)]) (st' := [.inr (.inr (some a0)), .inr (.inr o_41)]) (by decide +kernel) rfl rfl ?_
                    obtain ⟨v_43, h44, h⟩ := bd h
                    refine xg_i E 11 5 h44 mw138 (show decode prog_1_method_3_code 136 = .ok (.getfield 80, 3) by decide +kernel) ?_
                    refine xv_b E [.aload 7] (pc' := 141) (lv' := [(7, .inr (.inr q_11.1)), (6, .inr (.inr q_7.1)), (0, .inr (.inr (some a0))), (1, .inl v1), (2, .inl v2), (3, .inl v3), (4, .inl v4), (5, .inl v5)]) (st' := [.inr (.inr q_11.1), .inl v_43, .inr (.inr o_41)]) (by decide +kernel) rfl rfl ?_
                    obtain ⟨M45, h46, h⟩ := bd h
                    refine xs_r E 8 h46 (show decode prog_1_method_3_code 141 = .ok (.aastore, 1) by decide +kernel) ?_
                    refine xv_b E [.aload_n 0, .dup] (pc' := 144) (lv' := [(7, .inr (.inr q_11.1)), (6, .inr (.inr q_7.1)), (0, .inr (.inr (some a0))), (1, .inl v1), (2, .inl v2), (3, .inl v3), (4, .inl v4), (5, .inl v5)]) (st' := [.inr (.inr (some a0)), .inr (.inr (some a0))]) (by decide +kernel) rfl rfl ?_
                    obtain ⟨v_47, h48, h⟩ := bd h
                    refine xg_i E 11 5 h48 mw138 (show decode prog_1_method_3_code 144 = .ok (.getfield 80, 3) by decide +kernel) ?_
                    refine xv_b E [.iconst 1, .iadd] (pc' := 149) (lv' := [(7, .inr (.inr q_11.1)), (6, .inr (.inr q_7.1)), (0, .inr (.inr (some a0))), (1, .inl v1), (2, .inl v2), (3, .inl v3), (4, .inl v4), (5, .inl v5)]) (st' := [.inl (v_47 + (1 : Int32)), .inr (.inr (some a0))]) (by decide +kernel) rfl rfl ?_
                    obtain ⟨M49, h50, h⟩ := bd h
                    refine xp_i E 11 5 h50 mw138 (show decode prog_1_method_3_code 149 = .ok (.putfield 80, 3) by decide +kernel) (Or.inl rfl) ?_
                    refine xv_b E [.aload_n 0] (pc' := 153) (lv' := [(7, .inr (.inr q_11.1)), (6, .inr (.inr q_7.1)), (0, .inr (.inr (some a0))), (1, .inl v1), (2, .inl v2), (3, .inl v3), (4, .inl v4), (5, .inl v5)]) (st' := [.inr (.inr (some a0))]) (by decide +kernel) rfl rfl ?_
                    obtain ⟨v_51, h52, h⟩ := bd h
                    refine xg_i E 11 5 h52 mw138 (show decode prog_1_method_3_code 153 = .ok (.getfield 80, 3) by decide +kernel) ?_
                    refine xv_b E [.iconst 1, .isub] (pc' := 158) (lv' := [(7, .inr (.inr q_11.1)), (6, .inr (.inr q_7.1)), (0, .inr (.inr (some a0))), (1, .inl v1), (2, .inl v2), (3, .inl v3), (4, .inl v4), (5, .inl v5)]) (st' := [.inl (v_51 - (1 : Int32))]) (by decide +kernel) rfl rfl ?_
                    obtain rfl := Option.some.inj h
                    obtain ⟨rfl, rfl⟩ := Prod.mk.inj (show ((some (.inl (v_51 - (1 : Int32))) : Option aV), M49) = (r, M') from hN)
                    exact xv_ri E B.1 rfl B.2.1 (show decode prog_1_method_3_code 158 = .ok (.ireturn, 1) by decide +kernel) rfl rfl
                  · rw [if_neg q53] at h
                    refine xi_null E 82 (show decode prog_1_method_3_code 77 = .ok (.ifnull (5), 3) by decide +kernel) rfl (fun z => absurd z q53) (fun _ => ?_)
                    exact xv_w (sb15_80 E B  q_11.2 h hN) rfl
                · rw [if_neg q54] at h
                  refine xi_nonnull E 80 (show decode prog_1_method_3_code 69 = .ok (.ifnonnull (11), 3) by decide +kernel) rfl (fun _ => ?_) (fun z => absurd z q54)
                  exact xv_w (sb15_80 E B  q_11.2 h hN) rfl
          · rw [if_neg q57] at h
            refine xv_icmp_le E 37 (show decode prog_1_method_3_code 32 = .ok (.if_icmp .le (5), 3) by decide +kernel) rfl (fun z => absurd z q57) (fun _ => ?_)
            exact xv_w (sb15_35 E B  q_3.2 h hN) rfl
end
theorem t15 (G : gX) (l : Launch) {as : List aV} {M : hM} {r : Option aV} {M' : hM} (h : f15 as M = some (r, M')) : xM G l ym15 prog_1_method_3_code 8 (some FieldType.int) 2 as M r M' := by
  unfold f15 at h
  split at h
  · have h := x_out_ok h
    refine xM_of (by decide) (Nat.le_of_ble_eq_true rfl) (lb15_0 G l _ _ _ _ _ _ M h) ?_
    intro p e s m args below meth c E B
    exact sb15_0 E B _ _ _ _ _ _ M h rfl
  · cases h
/-! ZF.isWire(I)Z -/
def ym16 : MethodName := ⟨"ZonedFabric", "isWire", "(I)Z"⟩
theorem cd16 : xCd ym16 prog_1_method_25_code 2 (some FieldType.boolean) 1 := ⟨mw146, mw71, by decide, by decide, by decide +kernel⟩
def b16_17 (si0 : Int32) (M : hM) : Option xRes :=
  if si0 = 0 ∨ si0 = 1 then
    (some (.inl (some (.inl si0), M)))
  else
    none
def b16_16  (M : hM) : Option xRes :=
  b16_17 (0 : Int32) M
def b16_0 (a0 : Nat) (v1 : Int32) (M : hM) : Option xRes :=
  if v1 < 0 then
    (b16_16  M)
  else
    (Option.bind (g_i M 11 5 (some a0)) fun v_1 =>
    if v_1 ≤ v1 then
      (b16_16  M)
    else
      (b16_17 (1 : Int32) M))
def f16 (as : List aV) (M : hM) : xO := match as with
  | [.inr (.inr (some a0)), .inl v1] => x_out (b16_0 a0 v1 M)
  | _ => none
theorem lb16_17 (G : gX) (l : Launch) (si0 : Int32) (M : hM) {res : xRes} (h : b16_17 si0 M = some res) : h_sz M ≤ r_sz res ∧ h_sl M ≤ r_sl res := by
  unfold b16_17 at h
  by_cases q5 : si0 = 0 ∨ si0 = 1
  · rw [if_pos q5] at h
    obtain rfl := Option.some.inj h
    show h_sz M ≤ h_sz M ∧ h_sl M ≤ h_sl M
    omega
  · rw [if_neg q5] at h
    cases h
theorem lb16_16 (G : gX) (l : Launch)  (M : hM) {res : xRes} (h : b16_16  M = some res) : h_sz M ≤ r_sz res ∧ h_sl M ≤ r_sl res := by
  unfold b16_16 at h
  have e := lb16_17 G l (0 : Int32) M h
  omega
theorem lb16_0 (G : gX) (l : Launch) (a0 : Nat) (v1 : Int32) (M : hM) {res : xRes} (h : b16_0 a0 v1 M = some res) : h_sz M ≤ r_sz res ∧ h_sl M ≤ r_sl res := by
  unfold b16_0 at h
  by_cases q4 : v1 < 0
  · rw [if_pos q4] at h
    have e := lb16_16 G l  M h
    omega
  · rw [if_neg q4] at h
    obtain ⟨v_1, h2, h⟩ := bd h
    by_cases q3 : v_1 ≤ v1
    · rw [if_pos q3] at h
      have e := lb16_16 G l  M h
      omega
    · rw [if_neg q3] at h
      have e := lb16_17 G l (1 : Int32) M h
      omega
section
variable {p : Program} {l : Launch} {e : Env} {s : State} {m : MethodId} {args : Array Value} {below : List Frame} {meth : Method} {c : Code} {G : gX} {z0 y0 : Nat} {r : Option aV} {M' : hM}
theorem sb16_17 (E : xE G p (xRm 0 (h_sz M' - z0) (h_sl M' - y0)) s m args c prog_1_method_25_code "ZonedFabric" z0 y0 (h_sz M') (h_sl M') 2) (B : xB ym16 (some FieldType.boolean) meth) (si0 : Int32) (M : hM) {res : xRes} (h : b16_17 si0 M = some res) (hN : xN (fun _ _ _ => False) r M' res) : xV G p l e (xRm 0 (h_sz M' - z0) (h_sl M' - y0)) s m args below meth c z0 y0 (h_sz M') (h_sl M') 2 (MQ below (xQc G r M') args s (h_sz M' - z0) (h_sl M' - y0) (xFr G)) 17 [] [.inl si0] M := by
  unfold b16_17 at h
  by_cases q5 : si0 = 0 ∨ si0 = 1
  · rw [if_pos q5] at h
    obtain rfl := Option.some.inj h
    obtain ⟨rfl, rfl⟩ := Prod.mk.inj (show ((some (.inl si0) : Option aV), M) = (r, M') from hN)
    exact xv_ri E B.1 (by rcases q5 with z | z <;> rw [z] <;> rfl) B.2.1 (show decode prog_1_method_25_code 17 = .ok (.ireturn, 1) by decide +kernel) rfl rfl
  · rw [if_neg q5] at h
    cases h
theorem sb16_16 (E : xE G p (xRm 0 (h_sz M' - z0) (h_sl M' - y0)) s m args c prog_1_method_25_code "ZonedFabric" z0 y0 (h_sz M') (h_sl M') 2) (B : xB ym16 (some FieldType.boolean) meth)  (M : hM) {res : xRes} (h : b16_16  M = some res) (hN : xN (fun _ _ _ => False) r M' res) : xV G p l e (xRm 0 (h_sz M' - z0) (h_sl M' - y0)) s m args below meth c z0 y0 (h_sz M') (h_sl M') 2 (MQ below (xQc G r M') args s (h_sz M' - z0) (h_sl M' - y0) (xFr G)) 16 [] [] M := by
  unfold b16_16 at h
  refine xv_b E [.iconst 0] (pc' := 17) (lv' := []) (st' := [.inl (0 : Int32)]) (by decide +kernel) rfl rfl ?_
  exact xv_w (sb16_17 E B (0 : Int32) M h hN) rfl
theorem sb16_0 (E : xE G p (xRm 0 (h_sz M' - z0) (h_sl M' - y0)) s m args c prog_1_method_25_code "ZonedFabric" z0 y0 (h_sz M') (h_sl M') 2) (B : xB ym16 (some FieldType.boolean) meth) (a0 : Nat) (v1 : Int32) (M : hM) {res : xRes} (h : b16_0 a0 v1 M = some res) (hN : xN (fun _ _ _ => False) r M' res) : xV G p l e (xRm 0 (h_sz M' - z0) (h_sl M' - y0)) s m args below meth c z0 y0 (h_sz M') (h_sl M') 2 (MQ below (xQc G r M') args s (h_sz M' - z0) (h_sl M' - y0) (xFr G)) 0 [(0, .inr (.inr (some a0))), (1, .inl v1)] [] M := by
  unfold b16_0 at h
  refine xv_b E [.iload_n 1] (pc' := 1) (lv' := [(0, .inr (.inr (some a0))), (1, .inl v1)]) (st' := [.inl v1]) (by decide +kernel) rfl rfl ?_
  by_cases q4 : v1 < 0
  · rw [if_pos q4] at h
    refine xv_if_lt E 16 (show decode prog_1_method_25_code 1 = .ok (.ifCond .lt (15), 3) by decide +kernel) rfl (fun _ => ?_) (fun z => absurd q4 z)
    exact xv_w (sb16_16 E B  M h hN) rfl
  · rw [if_neg q4] at h
    refine xv_if_lt E 16 (show decode prog_1_method_25_code 1 = .ok (.ifCond .lt (15), 3) by decide +kernel) rfl (fun z => absurd z q4) (fun _ => ?_)
    refine xv_b E [.iload_n 1, .aload_n 0] (pc' := 6) (lv' := [(0, .inr (.inr (some a0))), (1, .inl v1)]) (st' := [.inr (.inr (some a0)), .inl v1]) (by decide +kernel) rfl rfl ?_
    obtain ⟨v_1, h2, h⟩ := bd h
    refine xg_i E 11 5 h2 mw138 (show decode prog_1_method_25_code 6 = .ok (.getfield 80, 3) by decide +kernel) ?_
    by_cases q3 : v_1 ≤ v1
    · rw [if_pos q3] at h
      refine xv_icmp_ge E 16 (show decode prog_1_method_25_code 9 = .ok (.if_icmp .ge (7), 3) by decide +kernel) rfl (fun _ => ?_) (fun z => absurd q3 z)
      exact xv_w (sb16_16 E B  M h hN) rfl
    · rw [if_neg q3] at h
      refine xv_icmp_ge E 16 (show decode prog_1_method_25_code 9 = .ok (.if_icmp .ge (7), 3) by decide +kernel) rfl (fun z => absurd z q3) (fun _ => ?_)
      refine xv_b E [.iconst 1] (pc' := 13) (lv' := [(0, .inr (.inr (some a0))), (1, .inl v1)]) (st' := [.inl (1 : Int32)]) (by decide +kernel) rfl rfl ?_
      refine xv_goto E 17 (show decode prog_1_method_25_code 13 = .ok (.goto (4), 3) by decide +kernel) rfl ?_
      exact xv_w (sb16_17 E B (1 : Int32) M h hN) rfl
end
theorem t16 (G : gX) (l : Launch) {as : List aV} {M : hM} {r : Option aV} {M' : hM} (h : f16 as M = some (r, M')) : xM G l ym16 prog_1_method_25_code 2 (some FieldType.boolean) 0 as M r M' := by
  unfold f16 at h
  split at h
  · have h := x_out_ok h
    refine xM_of (by decide) (Nat.le_of_ble_eq_true rfl) (lb16_0 G l _ _ M h) ?_
    intro p e s m args below meth c E B
    exact sb16_0 E B _ _ M h rfl
  · cases h
/-! ZF.Shared.release(LZF$Frame;)V -/
def ym17 : MethodName := ⟨"ZonedFabric$Shared", "release", "(LZonedFabric$Frame;)V"⟩
theorem cd17 : xCd ym17 prog_11_method_6_code 2 none 1 := ⟨mw147, mw1, by decide, by decide, by decide +kernel⟩
def b17_17  (M : hM) : Option xRes :=
  some (.inl (none, M))
def b17_0 (a0 : Nat) (o1 : Option Nat) (M : hM) : Option xRes :=
  if o1 = none then
    (b17_17  M)
  else
    (Option.bind (g_r M 9 7 (some a0)) fun o_1 =>
    Option.bind (p_r M 2 3 o1 o_1) fun M3 =>
    Option.bind (p_r M3 9 7 (some a0) o1) fun M5 =>
    b17_17  M5)
def f17 (as : List aV) (M : hM) : xO := match as with
  | [.inr (.inr (some a0)), .inr (.inr o1)] => x_out (b17_0 a0 o1 M)
  | _ => none
theorem lb17_17 (G : gX) (l : Launch)  (M : hM) {res : xRes} (h : b17_17  M = some res) : h_sz M ≤ r_sz res ∧ h_sl M ≤ r_sl res := by
  unfold b17_17 at h
  obtain rfl := Option.some.inj h
  show h_sz M ≤ h_sz M ∧ h_sl M ≤ h_sl M
  omega
theorem lb17_0 (G : gX) (l : Launch) (a0 : Nat) (o1 : Option Nat) (M : hM) {res : xRes} (h : b17_0 a0 o1 M = some res) : h_sz M ≤ r_sz res ∧ h_sl M ≤ r_sl res := by
  unfold b17_0 at h
  by_cases q7 : o1 = none
  · rw [if_pos q7] at h
    have e := lb17_17 G l  M h
    omega
  · rw [if_neg q7] at h
    obtain ⟨o_1, h2, h⟩ := bd h
    obtain ⟨M3, h4, h⟩ := bd h
    have eh4 := p_r_sz h4
    obtain ⟨M5, h6, h⟩ := bd h
    have eh6 := p_r_sz h6
    have e := lb17_17 G l  M5 h
    omega
section
variable {p : Program} {l : Launch} {e : Env} {s : State} {m : MethodId} {args : Array Value} {below : List Frame} {meth : Method} {c : Code} {G : gX} {z0 y0 : Nat} {r : Option aV} {M' : hM}
theorem sb17_17 (E : xE G p (xRm 0 (h_sz M' - z0) (h_sl M' - y0)) s m args c prog_11_method_6_code "ZonedFabric$Shared" z0 y0 (h_sz M') (h_sl M') 2) (B : xB ym17 none meth)  (M : hM) {res : xRes} (h : b17_17  M = some res) (hN : xN (fun _ _ _ => False) r M' res) : xV G p l e (xRm 0 (h_sz M' - z0) (h_sl M' - y0)) s m args below meth c z0 y0 (h_sz M') (h_sl M') 2 (MQ below (xQc G r M') args s (h_sz M' - z0) (h_sl M' - y0) (xFr G)) 17 [] [] M := by
  unfold b17_17 at h
  obtain rfl := Option.some.inj h
  obtain ⟨rfl, rfl⟩ := Prod.mk.inj (show ((none : Option aV), M) = (r, M') from hN)
  exact xv_rv E B.1 B.2.1 (show decode prog_11_method_6_code 17 = .ok (.return_, 1) by decide +kernel) rfl rfl
theorem sb17_0 (E : xE G p (xRm 0 (h_sz M' - z0) (h_sl M' - y0)) s m args c prog_11_method_6_code "ZonedFabric$Shared" z0 y0 (h_sz M') (h_sl M') 2) (B : xB ym17 none meth) (a0 : Nat) (o1 : Option Nat) (M : hM) {res : xRes} (h : b17_0 a0 o1 M = some res) (hN : xN (fun _ _ _ => False) r M' res) : xV G p l e (xRm 0 (h_sz M' - z0) (h_sl M' - y0)) s m args below meth c z0 y0 (h_sz M') (h_sl M') 2 (MQ below (xQc G r M') args s (h_sz M' - z0) (h_sl M' - y0) (xFr G)) 0 [(0, .inr (.inr (some a0))), (1, .inr (.inr o1))] [] M := by
  unfold b17_0 at h
  refine xv_b E [.aload_n 1] (pc' := 1) (lv' := [(0, .inr (.inr (some a0))), (1, .inr (.inr o1))]) (st' := [.inr (.inr o1)]) (by decide +kernel) rfl rfl ?_
  by_cases q7 : o1 = none
  · rw [if_pos q7] at h
    refine xi_null E 17 (show decode prog_11_method_6_code 1 = .ok (.ifnull (16), 3) by decide +kernel) rfl (fun _ => ?_) (fun z => absurd q7 z)
    exact xv_w (sb17_17 E B  M h hN) rfl
  · rw [if_neg q7] at h
    refine xi_null E 17 (show decode prog_11_method_6_code 1 = .ok (.ifnull (16), 3) by decide +kernel) rfl (fun z => absurd z q7) (fun _ => ?_)
    refine xv_b E [.aload_n 1, .aload_n 0] (pc' := 6) (lv' := [(0, .inr (.inr (some a0))), (1, .inr (.inr o1))]) (st' := [.inr (.inr (some a0)), .inr (.inr o1)]) (by decide +kernel) rfl rfl ?_
    obtain ⟨o_1, h2, h⟩ := bd h
    refine xg_r E 9 7 h2 mw148 (show decode prog_11_method_6_code 6 = .ok (.getfield 36, 3) by decide +kernel) ?_
    obtain ⟨M3, h4, h⟩ := bd h
    refine xp_r E 2 3 h4 mw149 (show decode prog_11_method_6_code 9 = .ok (.putfield 43, 3) by decide +kernel) (Or.inl rfl) ?_
    refine xv_b E [.aload_n 0, .aload_n 1] (pc' := 14) (lv' := [(0, .inr (.inr (some a0))), (1, .inr (.inr o1))]) (st' := [.inr (.inr o1), .inr (.inr (some a0))]) (by decide +kernel) rfl rfl ?_
    obtain ⟨M5, h6, h⟩ := bd h
    refine xp_r E 9 7 h6 mw148 (show decode prog_11_method_6_code 14 = .ok (.putfield 36, 3) by decide +kernel) (Or.inl rfl) ?_
    exact xv_w (sb17_17 E B  M5 h hN) rfl
end
theorem t17 (G : gX) (l : Launch) {as : List aV} {M : hM} {r : Option aV} {M' : hM} (h : f17 as M = some (r, M')) : xM G l ym17 prog_11_method_6_code 2 none 0 as M r M' := by
  unfold f17 at h
  split at h
  · have h := x_out_ok h
    refine xM_of (by decide) (Nat.le_of_ble_eq_true rfl) (lb17_0 G l _ _ M h) ?_
    intro p e s m args below meth c E B
    exact sb17_0 E B _ _ M h rfl
  · cases h
/-! ZF.FrameLine.take()LZF$Frame; -/
def ym18 : MethodName := ⟨"ZonedFabric$FrameLine", "take", "()LZonedFabric$Frame;"⟩
theorem cd18 : xCd ym18 prog_5_method_3_code 2 (some (FieldType.object "ZonedFabric$Frame")) 0 := ⟨mw150, mw11, by decide, by decide, by decide +kernel⟩
def b18_44 (o1 : Option Nat) (M : hM) : Option xRes :=
  some (.inl (some (.inr (.inr o1)), M))
def b18_29 (a0 : Nat) (o1 : Option Nat) (M : hM) : Option xRes :=
  Option.bind (p_r M 2 3 o1 none) fun M13 =>
  Option.bind (g_i M13 3 2 (some a0)) fun v_15 =>
  Option.bind (p_i M13 3 2 (some a0) (v_15 - (1 : Int32))) fun M17 =>
  b18_44 o1 M17
def b18_0 (a0 : Nat) (M : hM) : Option xRes :=
  Option.bind (g_r M 3 0 (some a0)) fun o_1 =>
  if o_1 = none then
    (b18_44 o_1 M)
  else
    (Option.bind (g_r M 2 3 o_1) fun o_3 =>
    Option.bind (p_r M 3 0 (some a0) o_3) fun M5 =>
    Option.bind (g_r M5 3 0 (some a0)) fun o_7 =>
    if o_7 = none then
      (Option.bind (p_r M5 3 1 (some a0) none) fun M9 =>
      b18_29 a0 o_1 M9)
    else
      (b18_29 a0 o_1 M5))
def f18 (as : List aV) (M : hM) : xO := match as with
  | [.inr (.inr (some a0))] => x_out (b18_0 a0 M)
  | _ => none
theorem lb18_44 (G : gX) (l : Launch) (o1 : Option Nat) (M : hM) {res : xRes} (h : b18_44 o1 M = some res) : h_sz M ≤ r_sz res ∧ h_sl M ≤ r_sl res := by
  unfold b18_44 at h
  obtain rfl := Option.some.inj h
  show h_sz M ≤ h_sz M ∧ h_sl M ≤ h_sl M
  omega
theorem lb18_29 (G : gX) (l : Launch) (a0 : Nat) (o1 : Option Nat) (M : hM) {res : xRes} (h : b18_29 a0 o1 M = some res) : h_sz M ≤ r_sz res ∧ h_sl M ≤ r_sl res := by
  unfold b18_29 at h
  obtain ⟨M13, h14, h⟩ := bd h
  have eh14 := p_r_sz h14
  obtain ⟨v_15, h16, h⟩ := bd h
  obtain ⟨M17, h18, h⟩ := bd h
  have eh18 := p_i_sz h18
  have e := lb18_44 G l o1 M17 h
  omega
theorem lb18_0 (G : gX) (l : Launch) (a0 : Nat) (M : hM) {res : xRes} (h : b18_0 a0 M = some res) : h_sz M ≤ r_sz res ∧ h_sl M ≤ r_sl res := by
  unfold b18_0 at h
  obtain ⟨o_1, h2, h⟩ := bd h
  by_cases q12 : o_1 = none
  · rw [if_pos q12] at h
    have e := lb18_44 G l o_1 M h
    omega
  · rw [if_neg q12] at h
    obtain ⟨o_3, h4, h⟩ := bd h
    obtain ⟨M5, h6, h⟩ := bd h
    have eh6 := p_r_sz h6
    obtain ⟨o_7, h8, h⟩ := bd h
    by_cases q11 : o_7 = none
    · rw [if_pos q11] at h
      obtain ⟨M9, h10, h⟩ := bd h
      have eh10 := p_r_sz h10
      have e := lb18_29 G l a0 o_1 M9 h
      omega
    · rw [if_neg q11] at h
      have e := lb18_29 G l a0 o_1 M5 h
      omega
section
variable {p : Program} {l : Launch} {e : Env} {s : State} {m : MethodId} {args : Array Value} {below : List Frame} {meth : Method} {c : Code} {G : gX} {z0 y0 : Nat} {r : Option aV} {M' : hM}
theorem sb18_44 (E : xE G p (xRm 0 (h_sz M' - z0) (h_sl M' - y0)) s m args c prog_5_method_3_code "ZonedFabric$FrameLine" z0 y0 (h_sz M') (h_sl M') 2) (B : xB ym18 (some (FieldType.object "ZonedFabric$Frame")) meth) (o1 : Option Nat) (M : hM) {res : xRes} (h : b18_44 o1 M = some res) (hN : xN (fun _ _ _ => False) r M' res) : xV G p l e (xRm 0 (h_sz M' - z0) (h_sl M' - y0)) s m args below meth c z0 y0 (h_sz M') (h_sl M') 2 (MQ below (xQc G r M') args s (h_sz M' - z0) (h_sl M' - y0) (xFr G)) 44 [(1, .inr (.inr o1))] [] M := by
  unfold b18_44 at h
  refine xv_b E [.aload_n 1] (pc' := 45) (lv' := [(1, .inr (.inr o1))]) (st' := [.inr (.inr o1)]) (by decide +kernel) rfl rfl ?_
  obtain rfl := Option.some.inj h
  obtain ⟨rfl, rfl⟩ := Prod.mk.inj (show ((some (.inr (.inr o1)) : Option aV), M) = (r, M') from hN)
  exact xv_rr E B.1 (Or.inl ⟨_, rfl⟩) B.2.1 (show decode prog_5_method_3_code 45 = .ok (.areturn, 1) by decide +kernel) rfl rfl
theorem sb18_29 (E : xE G p (xRm 0 (h_sz M' - z0) (h_sl M' - y0)) s m args c prog_5_method_3_code "ZonedFabric$FrameLine" z0 y0 (h_sz M') (h_sl M') 2) (B : xB ym18 (some (FieldType.object "ZonedFabric$Frame")) meth) (a0 : Nat) (o1 : Option Nat) (M : hM) {res : xRes} (h : b18_29 a0 o1 M = some res) (hN : xN (fun _ _ _ => False) r M' res) : xV G p l e (xRm 0 (h_sz M' - z0) (h_sl M' - y0)) s m args below meth c z0 y0 (h_sz M') (h_sl M') 2 (MQ below (xQc G r M') args s (h_sz M' - z0) (h_sl M' - y0) (xFr G)) 29 [(0, .inr (.inr (some a0))), (1, .inr (.inr o1))] [] M := by
  unfold b18_29 at h
  refine xv_b E [.aload_n 1, .aconst_null] (pc' := 31) (lv' := [(0, .inr (.inr (some a0))), (1, .inr (.inr o1))]) (st' := [.inr (.inr none), .inr (.inr o1)]) (by decide +kernel) rfl rfl ?_
  obtain ⟨M13, h14, h⟩ := bd h
  refine xp_r E 2 3 h14 mw152 (show decode prog_5_method_3_code 31 = .ok (.putfield 7, 3) by decide +kernel) (Or.inl rfl) ?_
  refine xv_b E [.aload_n 0, .dup] (pc' := 36) (lv' := [(0, .inr (.inr (some a0))), (1, .inr (.inr o1))]) (st' := [.inr (.inr (some a0)), .inr (.inr (some a0))]) (by decide +kernel) rfl rfl ?_
  obtain ⟨v_15, h16, h⟩ := bd h
  refine xg_i E 3 2 h16 mw154 (show decode prog_5_method_3_code 36 = .ok (.getfield 21, 3) by decide +kernel) ?_
  refine xv_b E [.iconst 1, .isub] (pc' := 41) (lv' := [(0, .inr (.inr (some a0))), (1, .inr (.inr o1))]) (st' := [.inl (v_15 - (1 : Int32)), .inr (.inr (some a0))]) (by decide +kernel) rfl rfl ?_
  obtain ⟨M17, h18, h⟩ := bd h
  refine xp_i E 3 2 h18 mw154 (show decode prog_5_method_3_code 41 = .ok (.putfield 21, 3) by decide +kernel) (Or.inl rfl) ?_
  exact xv_w (sb18_44 E B o1 M17 h hN) rfl
theorem sb18_0 (E : xE G p (xRm 0 (h_sz M' - z0) (h_sl M' - y0)) s m args c prog_5_method_3_code "ZonedFabric$FrameLine" z0 y0 (h_sz M') (h_sl M') 2) (B : xB ym18 (some (FieldType.object "ZonedFabric$Frame")) meth) (a0 : Nat) (M : hM) {res : xRes} (h : b18_0 a0 M = some res) (hN : xN (fun _ _ _ => False) r M' res) : xV G p l e (xRm 0 (h_sz M' - z0) (h_sl M' - y0)) s m args below meth c z0 y0 (h_sz M') (h_sl M') 2 (MQ below (xQc G r M') args s (h_sz M' - z0) (h_sl M' - y0) (xFr G)) 0 [(0, .inr (.inr (some a0)))] [] M := by
  unfold b18_0 at h
  refine xv_b E [.aload_n 0] (pc' := 1) (lv' := [(0, .inr (.inr (some a0)))]) (st' := [.inr (.inr (some a0))]) (by decide +kernel) rfl rfl ?_
  obtain ⟨o_1, h2, h⟩ := bd h
  refine xg_r E 3 0 h2 mw151 (show decode prog_5_method_3_code 1 = .ok (.getfield 18, 3) by decide +kernel) ?_
  refine xv_b E [.astore_n 1, .aload_n 1] (pc' := 6) (lv' := [(1, .inr (.inr o_1)), (0, .inr (.inr (some a0)))]) (st' := [.inr (.inr o_1)]) (by decide +kernel) rfl rfl ?_
  by_cases q12 : o_1 = none
  · rw [if_pos q12] at h
    refine xi_null E 44 (show decode prog_5_method_3_code 6 = .ok (.ifnull (38), 3) by decide +kernel) rfl (fun _ => ?_) (fun z => absurd q12 z)
    exact xv_w (sb18_44 E B o_1 M h hN) rfl
  · rw [if_neg q12] at h
    refine xi_null E 44 (show decode prog_5_method_3_code 6 = .ok (.ifnull (38), 3) by decide +kernel) rfl (fun z => absurd z q12) (fun _ => ?_)
    refine xv_b E [.aload_n 0, .aload_n 1] (pc' := 11) (lv' := [(1, .inr (.inr o_1)), (0, .inr (.inr (some a0)))]) (st' := [.inr (.inr o_1), .inr (.inr (some a0))]) (by decide +kernel) rfl rfl ?_
    obtain ⟨o_3, h4, h⟩ := bd h
    refine xg_r E 2 3 h4 mw152 (show decode prog_5_method_3_code 11 = .ok (.getfield 7, 3) by decide +kernel) ?_
    obtain ⟨M5, h6, h⟩ := bd h
    refine xp_r E 3 0 h6 mw151 (show decode prog_5_method_3_code 14 = .ok (.putfield 18, 3) by decide +kernel) (Or.inl rfl) ?_
    refine xv_b E [.aload_n 0] (pc' := 18) (lv' := [(1, .inr (.inr o_1)), (0, .inr (.inr (some a0)))]) (st' := [.inr (.inr (some a0))]) (by decide +kernel) rfl rfl ?_
    obtain ⟨o_7, h8, h⟩ := bd h
    refine xg_r E 3 0 h8 mw151 (show decode prog_5_method_3_code 18 = .ok (.getfield 18, 3) by decide +kernel) ?_
    by_cases q11 : o_7 = none
    · rw [if_pos q11] at h
      refine xi_nonnull E 29 (show decode prog_5_method_3_code 21 = .ok (.ifnonnull (8), 3) by decide +kernel) rfl (fun z => absurd q11 z) (fun _ => ?_)
      refine xv_b E [.aload_n 0, .aconst_null] (pc' := 26) (lv' := [(1, .inr (.inr o_1)), (0, .inr (.inr (some a0)))]) (st' := [.inr (.inr none), .inr (.inr (some a0))]) (by decide +kernel) rfl rfl ?_
      obtain ⟨M9, h10, h⟩ := bd h
      refine xp_r E 3 1 h10 mw153 (show decode prog_5_method_3_code 26 = .ok (.putfield 13, 3) by decide +kernel) (Or.inl rfl) ?_
      exact xv_w (sb18_29 E B a0 o_1 M9 h hN) rfl
    · rw [if_neg q11] at h
      refine xi_nonnull E 29 (show decode prog_5_method_3_code 21 = .ok (.ifnonnull (8), 3) by decide +kernel) rfl (fun _ => ?_) (fun z => absurd z q11)
      exact xv_w (sb18_29 E B a0 o_1 M5 h hN) rfl
end
theorem t18 (G : gX) (l : Launch) {as : List aV} {M : hM} {r : Option aV} {M' : hM} (h : f18 as M = some (r, M')) : xM G l ym18 prog_5_method_3_code 2 (some (FieldType.object "ZonedFabric$Frame")) 0 as M r M' := by
  unfold f18 at h
  split at h
  · have h := x_out_ok h
    refine xM_of (by decide) (Nat.le_of_ble_eq_true rfl) (lb18_0 G l _ M h) ?_
    intro p e s m args below meth c E B
    exact sb18_0 E B _ M h rfl
  · cases h
/-! ZF.Port.goDown()V -/
def ym19 : MethodName := ⟨"ZonedFabric$Port", "goDown", "()V"⟩
theorem cd19 : xCd ym19 prog_10_method_3_code 2 none 0 := ⟨mw155, mw14, by decide, by decide, by decide +kernel⟩
def b19_0 (a0 : Nat) (M : hM) : Option xRes :=
  Option.bind (p_z M 8 5 (some a0) (0 : Int32)) fun M1 =>
  Option.bind (p_i M1 8 6 (some a0) (0 : Int32)) fun M3 =>
  Option.bind (p_i M3 8 7 (some a0) (0 : Int32)) fun M5 =>
  Option.bind (p_i M5 8 11 (some a0) (-1 : Int32)) fun M7 =>
  Option.bind (p_i M7 8 12 (some a0) (0 : Int32)) fun M9 =>
  Option.bind (p_i M9 8 13 (some a0) (0 : Int32)) fun M11 =>
  Option.bind (g_r M11 8 0 (some a0)) fun o_13 =>
  Option.bind (g_r M11 8 8 (some a0)) fun o_15 =>
  Option.bind (g_o M11 9 o_13) fun b_19 =>
  Option.bind (c_V (f17 [.inr (.inr (some b_19)), .inr (.inr o_15)] M11)) fun q_17 =>
  Option.bind (p_r q_17 8 8 (some a0) none) fun M21 =>
  Option.bind (g_r M21 8 9 (some a0)) fun o_23 =>
  Option.bind (g_i M21 3 2 o_23) fun v_25 =>
  some (.inr (54, [.inr (.inr (some a0)), .inl v_25], M21))
def b19_54 (a0 : Nat) (v1 : Int32) (M : hM) : Option xRes :=
  if v1 ≤ 0 then
    (Option.bind (g_r M 8 10 (some a0)) fun o_27 =>
    Option.bind (g_i M 3 2 o_27) fun v_29 =>
    some (.inr (86, [.inr (.inr (some a0)), .inl v_29], M)))
  else
    (Option.bind (g_r M 8 0 (some a0)) fun o_31 =>
    Option.bind (g_r M 8 9 (some a0)) fun o_33 =>
    Option.bind (g_o M 3 o_33) fun b_37 =>
    Option.bind (c_R (f18 [.inr (.inr (some b_37))] M)) fun q_35 =>
    Option.bind (g_o q_35.2 9 o_31) fun b_41 =>
    Option.bind (c_V (f17 [.inr (.inr (some b_41)), .inr (.inr q_35.1)] q_35.2)) fun q_39 =>
    some (.inr (54, [.inr (.inr (some a0)), .inl (v1 + (-1 : Int32))], q_39)))
def b19_86 (a0 : Nat) (v1 : Int32) (M : hM) : Option xRes :=
  if v1 ≤ 0 then
    (some (.inl (none, M)))
  else
    (Option.bind (g_r M 8 0 (some a0)) fun o_44 =>
    Option.bind (g_r M 8 10 (some a0)) fun o_46 =>
    Option.bind (g_o M 3 o_46) fun b_50 =>
    Option.bind (c_R (f18 [.inr (.inr (some b_50))] M)) fun q_48 =>
    Option.bind (g_o q_48.2 9 o_44) fun b_54 =>
    Option.bind (c_V (f17 [.inr (.inr (some b_54)), .inr (.inr q_48.1)] q_48.2)) fun q_52 =>
    some (.inr (86, [.inr (.inr (some a0)), .inl (v1 + (-1 : Int32))], q_52)))
def k19 (h : Nat) (as : List aV) (M : hM) : Option xRes :=
  if h = 54 then (match as with | [.inr (.inr (some a0)), .inl v1] => b19_54 a0 v1 M | _ => none) else
  if h = 86 then (match as with | [.inr (.inr (some a0)), .inl v1] => b19_86 a0 v1 M | _ => none) else
  none
def f19 (as : List aV) (M : hM) : xO := match as with
  | [.inr (.inr (some a0))] => x_go k19 (b19_0 a0 M)
  | _ => none
theorem lb19_0 (G : gX) (l : Launch) (a0 : Nat) (M : hM) {res : xRes} (h : b19_0 a0 M = some res) : h_sz M ≤ r_sz res ∧ h_sl M ≤ r_sl res := by
  unfold b19_0 at h
  obtain ⟨M1, h2, h⟩ := bd h
  have eh2 := p_z_sz h2
  obtain ⟨M3, h4, h⟩ := bd h
  have eh4 := p_i_sz h4
  obtain ⟨M5, h6, h⟩ := bd h
  have eh6 := p_i_sz h6
  obtain ⟨M7, h8, h⟩ := bd h
  have eh8 := p_i_sz h8
  obtain ⟨M9, h10, h⟩ := bd h
  have eh10 := p_i_sz h10
  obtain ⟨M11, h12, h⟩ := bd h
  have eh12 := p_i_sz h12
  obtain ⟨o_13, h14, h⟩ := bd h
  obtain ⟨o_15, h16, h⟩ := bd h
  obtain ⟨b_19, h20, h⟩ := bd h
  obtain ⟨q_17, h18, h⟩ := bd h
  have eh18 := (t17 G l (c_V_some h18)).1
  obtain ⟨M21, h22, h⟩ := bd h
  have eh22 := p_r_sz h22
  obtain ⟨o_23, h24, h⟩ := bd h
  obtain ⟨v_25, h26, h⟩ := bd h
  obtain rfl := Option.some.inj h
  show h_sz M ≤ h_sz M21 ∧ h_sl M ≤ h_sl M21
  omega
theorem lb19_54 (G : gX) (l : Launch) (a0 : Nat) (v1 : Int32) (M : hM) {res : xRes} (h : b19_54 a0 v1 M = some res) : h_sz M ≤ r_sz res ∧ h_sl M ≤ r_sl res := by
  unfold b19_54 at h
  by_cases q43 : v1 ≤ 0
  · rw [if_pos q43] at h
    obtain ⟨o_27, h28, h⟩ := bd h
    obtain ⟨v_29, h30, h⟩ := bd h
    obtain rfl := Option.some.inj h
    show h_sz M ≤ h_sz M ∧ h_sl M ≤ h_sl M
    omega
  · rw [if_neg q43] at h
    obtain ⟨o_31, h32, h⟩ := bd h
    obtain ⟨o_33, h34, h⟩ := bd h
    obtain ⟨b_37, h38, h⟩ := bd h
    obtain ⟨q_35, h36, h⟩ := bd h
    have eh36 := (t18 G l (c_R_some h36)).1
    obtain ⟨b_41, h42, h⟩ := bd h
    obtain ⟨q_39, h40, h⟩ := bd h
    have eh40 := (t17 G l (c_V_some h40)).1
    obtain rfl := Option.some.inj h
    show h_sz M ≤ h_sz q_39 ∧ h_sl M ≤ h_sl q_39
    omega
theorem lb19_86 (G : gX) (l : Launch) (a0 : Nat) (v1 : Int32) (M : hM) {res : xRes} (h : b19_86 a0 v1 M = some res) : h_sz M ≤ r_sz res ∧ h_sl M ≤ r_sl res := by
  unfold b19_86 at h
  by_cases q56 : v1 ≤ 0
  · rw [if_pos q56] at h
    obtain rfl := Option.some.inj h
    show h_sz M ≤ h_sz M ∧ h_sl M ≤ h_sl M
    omega
  · rw [if_neg q56] at h
    obtain ⟨o_44, h45, h⟩ := bd h
    obtain ⟨o_46, h47, h⟩ := bd h
    obtain ⟨b_50, h51, h⟩ := bd h
    obtain ⟨q_48, h49, h⟩ := bd h
    have eh49 := (t18 G l (c_R_some h49)).1
    obtain ⟨b_54, h55, h⟩ := bd h
    obtain ⟨q_52, h53, h⟩ := bd h
    have eh53 := (t17 G l (c_V_some h53)).1
    obtain rfl := Option.some.inj h
    show h_sz M ≤ h_sz q_52 ∧ h_sl M ≤ h_sl q_52
    omega
section
variable {p : Program} {l : Launch} {e : Env} {s : State} {m : MethodId} {args : Array Value} {below : List Frame} {meth : Method} {c : Code} {G : gX} {z0 y0 : Nat} {r : Option aV} {M' : hM}
def pg19 (p : Program) (l : Launch) (e : Env) (s : State) (m : MethodId) (args : Array Value) (below : List Frame) (meth : Method) (c : Code) (G : gX) (z0 y0 : Nat) (r : Option aV) (M' : hM) (h : Nat) (as : List aV) (M : hM) : Prop :=
  if h = 54 then (match as with | [.inr (.inr (some a0)), .inl v1] => xV G p l e (xRm 1 (h_sz M' - z0) (h_sl M' - y0)) s m args below meth c z0 y0 (h_sz M') (h_sl M') 2 (MQ below (xQc G r M') args s (h_sz M' - z0) (h_sl M' - y0) (xFr G)) 54 [(0, .inr (.inr (some a0))), (1, .inl v1)] [] M | _ => False) else
  if h = 86 then (match as with | [.inr (.inr (some a0)), .inl v1] => xV G p l e (xRm 1 (h_sz M' - z0) (h_sl M' - y0)) s m args below meth c z0 y0 (h_sz M') (h_sl M') 2 (MQ below (xQc G r M') args s (h_sz M' - z0) (h_sl M' - y0) (xFr G)) 86 [(0, .inr (.inr (some a0))), (1, .inl v1)] [] M | _ => False) else
  False
theorem sb19_0 (E : xE G p (xRm 1 (h_sz M' - z0) (h_sl M' - y0)) s m args c prog_10_method_3_code "ZonedFabric$Port" z0 y0 (h_sz M') (h_sl M') 2) (B : xB ym19 none meth) (a0 : Nat) (M : hM) {res : xRes} (h : b19_0 a0 M = some res) (hN : xN (pg19 p l e s m args below meth c G z0 y0 r M') r M' res) : xV G p l e (xRm 1 (h_sz M' - z0) (h_sl M' - y0)) s m args below meth c z0 y0 (h_sz M') (h_sl M') 2 (MQ below (xQc G r M') args s (h_sz M' - z0) (h_sl M' - y0) (xFr G)) 0 [(0, .inr (.inr (some a0)))] [] M := by
  unfold b19_0 at h
  refine xv_b E [.aload_n 0, .iconst 0] (pc' := 2) (lv' := [(0, .inr (.inr (some a0)))]) (st' := [.inl (0 : Int32), .inr (.inr (some a0))]) (by decide +kernel) rfl rfl ?_
  obtain ⟨M1, h2, h⟩ := bd h
  refine xp_z E 8 5 h2 mw134 (show decode prog_10_method_3_code 2 = .ok (.putfield 38, 3) by decide +kernel) (Or.inl rfl) ?_
  refine xv_b E [.aload_n 0, .iconst 0] (pc' := 7) (lv' := [(0, .inr (.inr (some a0)))]) (st' := [.inl (0 : Int32), .inr (.inr (some a0))]) (by decide +kernel) rfl rfl ?_
  obtain ⟨M3, h4, h⟩ := bd h
  refine xp_i E 8 6 h4 mw136 (show decode prog_10_method_3_code 7 = .ok (.putfield 47, 3) by decide +kernel) (Or.inl rfl) ?_
  refine xv_b E [.aload_n 0, .iconst 0] (pc' := 12) (lv' := [(0, .inr (.inr (some a0)))]) (st' := [.inl (0 : Int32), .inr (.inr (some a0))]) (by decide +kernel) rfl rfl ?_
  obtain ⟨M5, h6, h⟩ := bd h
  refine xp_i E 8 7 h6 mw156 (show decode prog_10_method_3_code 12 = .ok (.putfield 50, 3) by decide +kernel) (Or.inl rfl) ?_
  refine xv_b E [.aload_n 0, .iconst (-1)] (pc' := 17) (lv' := [(0, .inr (.inr (some a0)))]) (st' := [.inl (-1 : Int32), .inr (.inr (some a0))]) (by decide +kernel) rfl rfl ?_
  obtain ⟨M7, h8, h⟩ := bd h
  refine xp_i E 8 11 h8 mw20 (show decode prog_10_method_3_code 17 = .ok (.putfield 21, 3) by decide +kernel) (Or.inl rfl) ?_
  refine xv_b E [.aload_n 0, .iconst 0] (pc' := 22) (lv' := [(0, .inr (.inr (some a0)))]) (st' := [.inl (0 : Int32), .inr (.inr (some a0))]) (by decide +kernel) rfl rfl ?_
  obtain ⟨M9, h10, h⟩ := bd h
  refine xp_i E 8 12 h10 mw157 (show decode prog_10_method_3_code 22 = .ok (.putfield 53, 3) by decide +kernel) (Or.inl rfl) ?_
  refine xv_b E [.aload_n 0, .iconst 0] (pc' := 27) (lv' := [(0, .inr (.inr (some a0)))]) (st' := [.inl (0 : Int32), .inr (.inr (some a0))]) (by decide +kernel) rfl rfl ?_
  obtain ⟨M11, h12, h⟩ := bd h
  refine xp_i E 8 13 h12 mw158 (show decode prog_10_method_3_code 27 = .ok (.putfield 56, 3) by decide +kernel) (Or.inl rfl) ?_
  refine xv_b E [.aload_n 0] (pc' := 31) (lv' := [(0, .inr (.inr (some a0)))]) (st' := [.inr (.inr (some a0))]) (by decide +kernel) rfl rfl ?_
  obtain ⟨o_13, h14, h⟩ := bd h
  refine xg_r E 8 0 h14 mw22 (show decode prog_10_method_3_code 31 = .ok (.getfield 28, 3) by decide +kernel) ?_
  refine xv_b E [.aload_n 0] (pc' := 35) (lv' := [(0, .inr (.inr (some a0)))]) (st' := [.inr (.inr (some a0)), .inr (.inr o_13)]) (by decide +kernel) rfl rfl ?_
  obtain ⟨o_15, h16, h⟩ := bd h
  refine xg_r E 8 8 h16 mw159 (show decode prog_10_method_3_code 35 = .ok (.getfield 59, 3) by decide +kernel) ?_
  obtain ⟨b_19, h20, h⟩ := bd h
  obtain ⟨eh20, th20⟩ := g_o_some h20
  obtain ⟨q_17, h18, h⟩ := bd h
  refine xv_cvo E eh20 9 (as := [.inr (.inr o_15)]) (t17 G l (c_V_some h18)) cd17 mw160 mw161 mw162 (show decode prog_10_method_3_code 38 = .ok (.invokevirtual 63, 3) by decide +kernel) th20 rfl rfl (Nat.le_of_ble_eq_true rfl) ⟨Nat.le_of_ble_eq_true rfl, Nat.le_of_ble_eq_true rfl⟩ ?_
  refine xv_b E [.aload_n 0, .aconst_null] (pc' := 43) (lv' := [(0, .inr (.inr (some a0)))]) (st' := [.inr (.inr none), .inr (.inr (some a0))]) (by decide +kernel) rfl rfl ?_
  obtain ⟨M21, h22, h⟩ := bd h
  refine xp_r E 8 8 h22 mw159 (show decode prog_10_method_3_code 43 = .ok (.putfield 59, 3) by decide +kernel) (Or.inl rfl) ?_
  refine xv_b E [.aload_n 0] (pc' := 47) (lv' := [(0, .inr (.inr (some a0)))]) (st' := [.inr (.inr (some a0))]) (by decide +kernel) rfl rfl ?_
  obtain ⟨o_23, h24, h⟩ := bd h
  refine xg_r E 8 9 h24 mw18 (show decode prog_10_method_3_code 47 = .ok (.getfield 12, 3) by decide +kernel) ?_
  obtain ⟨v_25, h26, h⟩ := bd h
  refine xg_i E 3 2 h26 mw163 (show decode prog_10_method_3_code 50 = .ok (.getfield 67, 3) by decide +kernel) ?_
  refine xv_b E [.istore_n 1] (pc' := 54) (lv' := [(1, .inl v_25), (0, .inr (.inr (some a0)))]) (st' := []) (by decide +kernel) rfl rfl ?_
  obtain rfl := Option.some.inj h
  exact xv_w hN rfl
theorem sb19_54 (E : xE G p (xRm 1 (h_sz M' - z0) (h_sl M' - y0)) s m args c prog_10_method_3_code "ZonedFabric$Port" z0 y0 (h_sz M') (h_sl M') 2) (B : xB ym19 none meth) (a0 : Nat) (v1 : Int32) (M : hM) {res : xRes} (h : b19_54 a0 v1 M = some res) (hN : xN (pg19 p l e s m args below meth c G z0 y0 r M') r M' res) : xV G p l e (xRm 1 (h_sz M' - z0) (h_sl M' - y0)) s m args below meth c z0 y0 (h_sz M') (h_sl M') 2 (MQ below (xQc G r M') args s (h_sz M' - z0) (h_sl M' - y0) (xFr G)) 54 [(0, .inr (.inr (some a0))), (1, .inl v1)] [] M := by
  unfold b19_54 at h
  refine xv_b E [.iload_n 1] (pc' := 55) (lv' := [(0, .inr (.inr (some a0))), (1, .inl v1)]) (st' := [.inl v1]) (by decide +kernel) rfl rfl ?_
  by_cases q43 : v1 ≤ 0
  · rw [if_pos q43] at h
    refine xv_if_le E 78 (show decode prog_10_method_3_code 55 = .ok (.ifCond .le (23), 3) by decide +kernel) rfl (fun _ => ?_) (fun z => absurd q43 z)
    refine xv_b E [.aload_n 0] (pc' := 79) (lv' := [(0, .inr (.inr (some a0))), (1, .inl v1)]) (st' := [.inr (.inr (some a0))]) (by decide +kernel) rfl rfl ?_
    obtain ⟨o_27, h28, h⟩ := bd h
    refine xg_r E 8 10 h28 mw19 (show decode prog_10_method_3_code 79 = .ok (.getfield 18, 3) by decide +kernel) ?_
    obtain ⟨v_29, h30, h⟩ := bd h
    refine xg_i E 3 2 h30 mw163 (show decode prog_10_method_3_code 82 = .ok (.getfield 67, 3) by decide +kernel) ?_
    refine xv_b E [.istore_n 1] (pc' := 86) (lv' := [(1, .inl v_29), (0, .inr (.inr (some a0)))]) (st' := []) (by decide +kernel) rfl rfl ?_
    obtain rfl := Option.some.inj h
    exact xv_w hN rfl
  · rw [if_neg q43] at h
    refine xv_if_le E 78 (show decode prog_10_method_3_code 55 = .ok (.ifCond .le (23), 3) by decide +kernel) rfl (fun z => absurd z q43) (fun _ => ?_)
    refine xv_b E [.aload_n 0] (pc' := 59) (lv' := [(0, .inr (.inr (some a0))), (1, .inl v1)]) (st' := [.inr (.inr (some a0))]) (by decide +kernel) rfl rfl ?_
    obtain ⟨o_31, h32, h⟩ := bd h
    refine xg_r E 8 0 h32 mw22 (show decode prog_10_method_3_code 59 = .ok (.getfield 28, 3) by decide +kernel) ?_
    refine xv_b E [.aload_n 0] (pc' := 63) (lv' := [(0, .inr (.inr (some a0))), (1, .inl v1)]) (st' := [.inr (.inr (some a0)), .inr (.inr o_31)]) (by decide +kernel) rfl rfl ?_
    obtain ⟨o_33, h34, h⟩ := bd h
    refine xg_r E 8 9 h34 mw18 (show decode prog_10_method_3_code 63 = .ok (.getfield 12, 3) by decide +kernel) ?_
    obtain ⟨b_37, h38, h⟩ := bd h
    obtain ⟨eh38, th38⟩ := g_o_some h38
    obtain ⟨q_35, h36, h⟩ := bd h
    refine xv_cvo E eh38 3 (as := []) (t18 G l (c_R_some h36)) cd18 mw164 mw165 mw166 (show decode prog_10_method_3_code 66 = .ok (.invokevirtual 70, 3) by decide +kernel) th38 rfl rfl (Nat.le_of_ble_eq_true rfl) ⟨Nat.le_of_ble_eq_true rfl, Nat.le_of_ble_eq_true rfl⟩ ?_
    obtain ⟨b_41, h42, h⟩ := bd h
    obtain ⟨eh42, th42⟩ := g_o_some h42
    obtain ⟨q_39, h40, h⟩ := bd h
    refine xv_cvo E eh42 9 (as := [.inr (.inr q_35.1)]) (t17 G l (c_V_some h40)) cd17 mw160 mw161 mw162 (show decode prog_10_method_3_code 69 = .ok (.invokevirtual 63, 3) by decide +kernel) th42 rfl rfl (Nat.le_of_ble_eq_true rfl) ⟨Nat.le_of_ble_eq_true rfl, Nat.le_of_ble_eq_true rfl⟩ ?_
    refine xv_b E [.iinc 1 (-1)] (pc' := 75) (lv' := [(1, .inl (v1 + (-1 : Int32))), (0, .inr (.inr (some a0)))]) (st' := []) (by decide +kernel) rfl rfl ?_
    refine xv_goto E 54 (show decode prog_10_method_3_code 75 = .ok (.goto (-21), 3) by decide +kernel) rfl ?_
    obtain rfl := Option.some.inj h
    exact xv_w hN rfl
theorem sb19_86 (E : xE G p (xRm 1 (h_sz M' - z0) (h_sl M' - y0)) s m args c prog_10_method_3_code "ZonedFabric$Port" z0 y0 (h_sz M') (h_sl M') 2) (B : xB ym19 none meth) (a0 : Nat) (v1 : Int32) (M : hM) {res : xRes} (h : b19_86 a0 v1 M = some res) (hN : xN (pg19 p l e s m args below meth c G z0 y0 r M') r M' res) : xV G p l e (xRm 1 (h_sz M' - z0) (h_sl M' - y0)) s m args below meth c z0 y0 (h_sz M') (h_sl M') 2 (MQ below (xQc G r M') args s (h_sz M' - z0) (h_sl M' - y0) (xFr G)) 86 [(0, .inr (.inr (some a0))), (1, .inl v1)] [] M := by
  unfold b19_86 at h
  refine xv_b E [.iload_n 1] (pc' := 87) (lv' := [(0, .inr (.inr (some a0))), (1, .inl v1)]) (st' := [.inl v1]) (by decide +kernel) rfl rfl ?_
  by_cases q56 : v1 ≤ 0
  · rw [if_pos q56] at h
    refine xv_if_le E 110 (show decode prog_10_method_3_code 87 = .ok (.ifCond .le (23), 3) by decide +kernel) rfl (fun _ => ?_) (fun z => absurd q56 z)
    obtain rfl := Option.some.inj h
    obtain ⟨rfl, rfl⟩ := Prod.mk.inj (show ((none : Option aV), M) = (r, M') from hN)
    exact xv_rv E B.1 B.2.1 (show decode prog_10_method_3_code 110 = .ok (.return_, 1) by decide +kernel) rfl rfl
  · rw [if_neg q56] at h
    refine xv_if_le E 110 (show decode prog_10_method_3_code 87 = .ok (.ifCond .le (23), 3) by decide +kernel) rfl (fun z => absurd z q56) (fun _ => ?_)
    refine xv_b E [.aload_n 0] (pc' := 91) (lv' := [(0, .inr (.inr (some a0))), (1, .inl v1)]) (st' := [.inr (.inr (some a0))]) (by decide +kernel) rfl rfl ?_
    obtain ⟨o_44, h45, h⟩ := bd h
    refine xg_r E 8 0 h45 mw22 (show decode prog_10_method_3_code 91 = .ok (.getfield 28, 3) by decide +kernel) ?_
    refine xv_b E [.aload_n 0] (pc' := 95) (lv' := [(0, .inr (.inr (some a0))), (1, .inl v1)]) (st' := [.inr (.inr (some a0)), .inr (.inr o_44)]) (by decide +kernel) rfl rfl ?_
    obtain ⟨o_46, h47, h⟩ := bd h
    refine xg_r E 8 10 h47 mw19 (show decode prog_10_method_3_code 95 = .ok (.getfield 18, 3) by decide +kernel) ?_
    obtain ⟨b_50, h51, h⟩ := bd h
    obtain ⟨eh51, th51⟩ := g_o_some h51
    obtain ⟨q_48, h49, h⟩ := bd h
    refine xv_cvo E eh51 3 (as := []) (t18 G l (c_R_some h49)) cd18 mw164 mw165 mw166 (show decode prog_10_method_3_code 98 = .ok (.invokevirtual 70, 3) by decide +kernel) th51 rfl rfl (Nat.le_of_ble_eq_true rfl) ⟨Nat.le_of_ble_eq_true rfl, Nat.le_of_ble_eq_true rfl⟩ ?_
    obtain ⟨b_54, h55, h⟩ := bd h
    obtain ⟨eh55, th55⟩ := g_o_some h55
    obtain ⟨q_52, h53, h⟩ := bd h
    refine xv_cvo E eh55 9 (as := [.inr (.inr q_48.1)]) (t17 G l (c_V_some h53)) cd17 mw160 mw161 mw162 (show decode prog_10_method_3_code 101 = .ok (.invokevirtual 63, 3) by decide +kernel) th55 rfl rfl (Nat.le_of_ble_eq_true rfl) ⟨Nat.le_of_ble_eq_true rfl, Nat.le_of_ble_eq_true rfl⟩ ?_
    refine xv_b E [.iinc 1 (-1)] (pc' := 107) (lv' := [(1, .inl (v1 + (-1 : Int32))), (0, .inr (.inr (some a0)))]) (st' := []) (by decide +kernel) rfl rfl ?_
    refine xv_goto E 86 (show decode prog_10_method_3_code 107 = .ok (.goto (-21), 3) by decide +kernel) rfl ?_
    obtain rfl := Option.some.inj h
    exact xv_w hN rfl
end
theorem t19 (G : gX) (l : Launch) {as : List aV} {M : hM} {r : Option aV} {M' : hM} (h : f19 as M = some (r, M')) : xM G l ym19 prog_10_method_3_code 2 none 1 as M r M' := by
  unfold f19 at h
  split at h
  · have hle : ∀ h as M res, k19 h as M = some res → h_sz M ≤ r_sz res ∧ h_sl M ≤ r_sl res := by
      intro h as M res hb
      unfold k19 at hb
      by_cases e0 : h = 54
      · rw [if_pos e0] at hb
        split at hb
        · exact lb19_54 G l _ _ M hb
        · cases hb
      · rw [if_neg e0] at hb
        by_cases e1 : h = 86
        · rw [if_pos e1] at hb
          split at hb
          · exact lb19_86 G l _ _ M hb
          · cases hb
        · rw [if_neg e1] at hb
          cases hb
    obtain ⟨res, hx, hres⟩ := x_go_ok h
    refine xM_of (by decide) (Nat.le_of_ble_eq_true rfl) ?_ ?_
    · have e1 := lb19_0 G l _ M hx
      have e2 := x_go_le hle hres
      omega
    · intro p e s m args below meth c E B
      refine sb19_0 E B _ M hx (hres _ ?_)
      intro h as M res hb hN
      unfold k19 at hb
      unfold pg19
      by_cases e0 : h = 54
      · rw [if_pos e0] at hb ⊢
        split at hb
        · exact sb19_54 E B _ _ M hb hN
        · cases hb
      · rw [if_neg e0] at hb ⊢
        by_cases e1 : h = 86
        · rw [if_pos e1] at hb ⊢
          split at hb
          · exact sb19_86 E B _ _ M hb hN
          · cases hb
        · rw [if_neg e1] at hb ⊢
          cases hb
  · cases h
