theorem mw167 : Cond.code ⟨"ZonedFabric$Disc", "forgetLogins", "()V"⟩ prog_3_method_2_code 2 none ∈ xTs := xTs_in (tk2 (List.mem_of_getElem? (i := 209) (by decide +kernel))) rfl
theorem mw168 : Cond.fieldLink "ZonedFabric$Disc" 34 "ZonedFabric$Disc" "loginCount" "I" ∈ xTs := xTs_in (tk2 (List.mem_of_getElem? (i := 140) (by decide +kernel))) rfl
theorem mw169 : Cond.fieldLink "ZonedFabric$Disc" 38 "ZonedFabric$OpenWrite" "open" "Z" ∈ xTs := xTs_in (tk2 (List.mem_of_getElem? (i := 101) (by decide +kernel))) rfl
theorem mw170 : Cond.code ⟨"ZonedFabric$Host", "forgetLogins", "()V"⟩ prog_6_method_4_code 2 none ∈ xTs := xTs_in (tk2 (List.mem_of_getElem? (i := 205) (by decide +kernel))) rfl
theorem mw171 : Cond.code ⟨"ZonedFabric$Node", "forgetLogins", "()V"⟩ prog_7_method_4_code 1 none ∈ xTs := xTs_in (tk2 (List.mem_of_getElem? (i := 201) (by decide +kernel))) rfl
theorem mw172 : Cond.fieldLink "ZonedFabric$Node" 70 "ZonedFabric$Node" "host" "LZonedFabric$Host;" ∈ xTs := xTs_in (tk2 (List.mem_of_getElem? (i := 11) (by decide +kernel))) rfl
theorem mw173 : Cond.methodLink "ZonedFabric$Node" 103 ⟨"ZonedFabric$Host", "forgetLogins", "()V"⟩ ∈ xTs := xTs_in (tk2 (List.mem_of_getElem? (i := 202) (by decide +kernel))) rfl
theorem mw174 : Cond.instanceMethod ⟨"ZonedFabric$Host", "forgetLogins", "()V"⟩ ∈ xTs := xTs_in (tk2 (List.mem_of_getElem? (i := 203) (by decide +kernel))) rfl
theorem mw175 : Cond.selects "ZonedFabric$Host" ⟨"ZonedFabric$Host", "forgetLogins", "()V"⟩ ⟨"ZonedFabric$Host", "forgetLogins", "()V"⟩ ∈ xTs := xTs_in (tk2 (List.mem_of_getElem? (i := 204) (by decide +kernel))) rfl
theorem mw176 : Cond.fieldLink "ZonedFabric$Node" 80 "ZonedFabric$Node" "disc" "LZonedFabric$Disc;" ∈ xTs := xTs_in (tk2 (List.mem_of_getElem? (i := 13) (by decide +kernel))) rfl
theorem mw177 : Cond.methodLink "ZonedFabric$Node" 104 ⟨"ZonedFabric$Disc", "forgetLogins", "()V"⟩ ∈ xTs := xTs_in (tk2 (List.mem_of_getElem? (i := 206) (by decide +kernel))) rfl
theorem mw178 : Cond.instanceMethod ⟨"ZonedFabric$Disc", "forgetLogins", "()V"⟩ ∈ xTs := xTs_in (tk2 (List.mem_of_getElem? (i := 207) (by decide +kernel))) rfl
theorem mw179 : Cond.selects "ZonedFabric$Disc" ⟨"ZonedFabric$Disc", "forgetLogins", "()V"⟩ ⟨"ZonedFabric$Disc", "forgetLogins", "()V"⟩ ∈ xTs := xTs_in (tk2 (List.mem_of_getElem? (i := 208) (by decide +kernel))) rfl
theorem mw180 : Cond.code ⟨"ZonedFabric$Node", "loseWire", "()V"⟩ prog_7_method_5_code 1 none ∈ xTs := xTs_in (tk2 (List.mem_of_getElem? (i := 197) (by decide +kernel))) rfl
theorem mw181 : Cond.fieldLink "ZonedFabric$Node" 67 "ZonedFabric$Node" "address" "I" ∈ xTs := xTs_in (tk2 (List.mem_of_getElem? (i := 6) (by decide +kernel))) rfl
theorem mw182 : Cond.methodLink "ZonedFabric$Node" 100 ⟨"ZonedFabric$Node", "forgetLogins", "()V"⟩ ∈ xTs := xTs_in (tk2 (List.mem_of_getElem? (i := 198) (by decide +kernel))) rfl
theorem mw183 : Cond.instanceMethod ⟨"ZonedFabric$Node", "forgetLogins", "()V"⟩ ∈ xTs := xTs_in (tk2 (List.mem_of_getElem? (i := 200) (by decide +kernel))) rfl
theorem mw184 : Cond.selects "ZonedFabric$Node" ⟨"ZonedFabric$Node", "forgetLogins", "()V"⟩ ⟨"ZonedFabric$Node", "forgetLogins", "()V"⟩ ∈ xTs := xTs_in (List.mem_append_left _ (List.mem_of_getElem? (i := 3) (by decide +kernel))) rfl
theorem mw185 : Cond.code ⟨"ZonedFabric", "cut", "(I)Z"⟩ prog_1_method_4_code 3 (some FieldType.boolean) ∈ xTs := xTs_in (tk2 (List.mem_of_getElem? (i := 177) (by decide +kernel))) rfl
theorem mw186 : Cond.methodLink "ZonedFabric" 97 ⟨"ZonedFabric", "isWire", "(I)Z"⟩ ∈ xTs := xTs_in (tk2 (List.mem_of_getElem? (i := 178) (by decide +kernel))) rfl
theorem mw187 : Cond.instanceMethod ⟨"ZonedFabric", "isWire", "(I)Z"⟩ ∈ xTs := xTs_in (tk2 (List.mem_of_getElem? (i := 180) (by decide +kernel))) rfl
theorem mw188 : Cond.selects "ZonedFabric" ⟨"ZonedFabric", "isWire", "(I)Z"⟩ ⟨"ZonedFabric", "isWire", "(I)Z"⟩ ∈ xTs := xTs_in (List.mem_append_left _ (List.mem_of_getElem? (i := 2) (by decide +kernel))) rfl
theorem mw189 : Cond.fieldLink "ZonedFabric" 100 "ZonedFabric$Port" "up" "Z" ∈ xTs := xTs_in (tk1 (List.mem_of_getElem? (i := 138) (by decide +kernel))) rfl
theorem mw190 : Cond.methodLink "ZonedFabric" 103 ⟨"ZonedFabric$Port", "goDown", "()V"⟩ ∈ xTs := xTs_in (tk2 (List.mem_of_getElem? (i := 182) (by decide +kernel))) rfl
theorem mw191 : Cond.instanceMethod ⟨"ZonedFabric$Port", "goDown", "()V"⟩ ∈ xTs := xTs_in (tk2 (List.mem_of_getElem? (i := 183) (by decide +kernel))) rfl
theorem mw192 : Cond.selects "ZonedFabric$Port" ⟨"ZonedFabric$Port", "goDown", "()V"⟩ ⟨"ZonedFabric$Port", "goDown", "()V"⟩ ∈ xTs := xTs_in (tk2 (List.mem_of_getElem? (i := 184) (by decide +kernel))) rfl
theorem mw193 : Cond.fieldLink "ZonedFabric" 106 "ZonedFabric$Port" "owner" "I" ∈ xTs := xTs_in (tk1 (List.mem_of_getElem? (i := 130) (by decide +kernel))) rfl
theorem mw194 : Cond.methodLink "ZonedFabric" 109 ⟨"ZonedFabric$Node", "loseWire", "()V"⟩ ∈ xTs := xTs_in (tk2 (List.mem_of_getElem? (i := 194) (by decide +kernel))) rfl
theorem mw195 : Cond.instanceMethod ⟨"ZonedFabric$Node", "loseWire", "()V"⟩ ∈ xTs := xTs_in (tk2 (List.mem_of_getElem? (i := 195) (by decide +kernel))) rfl
theorem mw196 : Cond.selects "ZonedFabric$Node" ⟨"ZonedFabric$Node", "loseWire", "()V"⟩ ⟨"ZonedFabric$Node", "loseWire", "()V"⟩ ∈ xTs := xTs_in (tk2 (List.mem_of_getElem? (i := 196) (by decide +kernel))) rfl
theorem mw197 : Cond.code ⟨"ZonedFabric", "join", "(I)Z"⟩ prog_1_method_5_code 2 (some FieldType.boolean) ∈ xTs := xTs_in (tk2 (List.mem_of_getElem? (i := 213) (by decide +kernel))) rfl
theorem mw198 : Cond.code ⟨"ZonedFabric", "zone", "(IIZ)Z"⟩ prog_1_method_6_code 5 (some FieldType.boolean) ∈ xTs := xTs_in (tk2 (List.mem_of_getElem? (i := 217) (by decide +kernel))) rfl
theorem mw199 : Cond.fieldLink "ZonedFabric" 112 "ZonedFabric$Shared" "zones" "[I" ∈ xTs := xTs_in (tk1 (List.mem_of_getElem? (i := 49) (by decide +kernel))) rfl
theorem mw200 : Cond.code ⟨"ZonedFabric", "zoning", "(Z)V"⟩ prog_1_method_7_code 2 none ∈ xTs := xTs_in (tk2 (List.mem_of_getElem? (i := 221) (by decide +kernel))) rfl
theorem mw201 : Cond.fieldLink "ZonedFabric" 116 "ZonedFabric$Shared" "zonesOn" "Z" ∈ xTs := xTs_in (tk1 (List.mem_of_getElem? (i := 51) (by decide +kernel))) rfl
theorem mw202 : Cond.code ⟨"ZonedFabric", "domain", "(II)Z"⟩ prog_1_method_8_code 3 (some FieldType.boolean) ∈ xTs := xTs_in (tk2 (List.mem_of_getElem? (i := 225) (by decide +kernel))) rfl
theorem mw203 : Cond.fieldLink "ZonedFabric" 119 "ZonedFabric$Switch" "domainNow" "I" ∈ xTs := xTs_in (tk1 (List.mem_of_getElem? (i := 197) (by decide +kernel))) rfl
theorem mw204 : Cond.code ⟨"ZonedFabric", "onTheWay", "(II)LZonedFabric$Frame;"⟩ prog_1_method_30_code 3 (some (FieldType.object "ZonedFabric$Frame")) ∈ xTs := xTs_in (tk2 (List.mem_of_getElem? (i := 233) (by decide +kernel))) rfl
theorem mw205 : Cond.fieldLink "ZonedFabric" 252 "ZonedFabric$Port" "sent" "LZonedFabric$Frame;" ∈ xTs := xTs_in (tk1 (List.mem_of_getElem? (i := 145) (by decide +kernel))) rfl
theorem mw206 : Cond.code ⟨"ZonedFabric$Frame", "turnOver", "(I)V"⟩ prog_4_method_17_code 3 none ∈ xTs := xTs_in (tk2 (List.mem_of_getElem? (i := 237) (by decide +kernel))) rfl
theorem mw207 : Cond.initialized "ZonedFabric$Frame" ∈ xTs := xTs_in (tk1 (List.mem_of_getElem? (i := 12) (by decide +kernel))) rfl
theorem mw208 : Cond.fieldLink "ZonedFabric$Frame" 9 "ZonedFabric$Frame" "bytes" "[B" ∈ xTs := xTs_in (tk3 (List.mem_of_getElem? (i := 29) (by decide +kernel))) rfl
theorem mw209 : Cond.fieldLink "ZonedFabric$Frame" 19 "ZonedFabric$Frame" "flipped" "Z" ∈ xTs := xTs_in (tk3 (List.mem_of_getElem? (i := 33) (by decide +kernel))) rfl
theorem mw210 : Cond.code ⟨"ZonedFabric", "flip", "(III)Z"⟩ prog_1_method_9_code 5 (some FieldType.boolean) ∈ xTs := xTs_in (tk2 (List.mem_of_getElem? (i := 229) (by decide +kernel))) rfl
theorem mw211 : Cond.methodLink "ZonedFabric" 122 ⟨"ZonedFabric", "onTheWay", "(II)LZonedFabric$Frame;"⟩ ∈ xTs := xTs_in (tk2 (List.mem_of_getElem? (i := 230) (by decide +kernel))) rfl
theorem mw212 : Cond.instanceMethod ⟨"ZonedFabric", "onTheWay", "(II)LZonedFabric$Frame;"⟩ ∈ xTs := xTs_in (tk2 (List.mem_of_getElem? (i := 232) (by decide +kernel))) rfl
theorem mw213 : Cond.selects "ZonedFabric" ⟨"ZonedFabric", "onTheWay", "(II)LZonedFabric$Frame;"⟩ ⟨"ZonedFabric", "onTheWay", "(II)LZonedFabric$Frame;"⟩ ∈ xTs := xTs_in (List.mem_append_left _ (List.mem_of_getElem? (i := 4) (by decide +kernel))) rfl
theorem mw214 : Cond.fieldLink "ZonedFabric" 126 "ZonedFabric$Frame" "length" "I" ∈ xTs := xTs_in (tk3 (List.mem_of_getElem? (i := 31) (by decide +kernel))) rfl
theorem mw215 : Cond.methodLink "ZonedFabric" 131 ⟨"ZonedFabric$Frame", "turnOver", "(I)V"⟩ ∈ xTs := xTs_in (tk2 (List.mem_of_getElem? (i := 234) (by decide +kernel))) rfl
theorem mw216 : Cond.instanceMethod ⟨"ZonedFabric$Frame", "turnOver", "(I)V"⟩ ∈ xTs := xTs_in (tk2 (List.mem_of_getElem? (i := 235) (by decide +kernel))) rfl
theorem mw217 : Cond.selects "ZonedFabric$Frame" ⟨"ZonedFabric$Frame", "turnOver", "(I)V"⟩ ⟨"ZonedFabric$Frame", "turnOver", "(I)V"⟩ ∈ xTs := xTs_in (tk2 (List.mem_of_getElem? (i := 236) (by decide +kernel))) rfl
theorem mw218 : Cond.code ⟨"ZonedFabric$Frame", "start", "(IIII)V"⟩ prog_4_method_2_code 6 none ∈ xTs := xTs_in (tk3 (List.mem_of_getElem? (i := 48) (by decide +kernel))) rfl
theorem mw219 : Cond.fieldLink "ZonedFabric$Frame" 15 "ZonedFabric$Frame" "length" "I" ∈ xTs := xTs_in (tk3 (List.mem_of_getElem? (i := 30) (by decide +kernel))) rfl
theorem mw220 : Cond.code ⟨"ZonedFabric$Frame", "<init>", "()V"⟩ prog_4_method_1_code 1 none ∈ xTs := xTs_in (tk3 (List.mem_of_getElem? (i := 27) (by decide +kernel))) rfl
theorem mw221 : Cond.methodLink "ZonedFabric$Frame" 3 ⟨"java/lang/Object", "<init>", "()V"⟩ ∈ xTs := xTs_in (tk3 (List.mem_of_getElem? (i := 28) (by decide +kernel))) rfl
theorem mw222 : Cond.code ⟨"ZonedFabric$Shared", "draft", "(IIII)LZonedFabric$Frame;"⟩ prog_11_method_5_code 6 (some (FieldType.object "ZonedFabric$Frame")) ∈ xTs := xTs_in (tk3 (List.mem_of_getElem? (i := 22) (by decide +kernel))) rfl
theorem mw223 : Cond.classLink "ZonedFabric$Shared" 40 "ZonedFabric$Frame" ∈ xTs := xTs_in (tk3 (List.mem_of_getElem? (i := 23) (by decide +kernel))) rfl
theorem mw224 : Cond.instantiable "ZonedFabric$Frame" 4 ∈ xTs := xTs_in (tk3 (List.mem_of_getElem? (i := 24) (by decide +kernel))) rfl
theorem mw225 : Cond.instanceMethod ⟨"ZonedFabric$Frame", "<init>", "()V"⟩ ∈ xTs := xTs_in (tk3 (List.mem_of_getElem? (i := 26) (by decide +kernel))) rfl
theorem mw226 : Cond.methodLink "ZonedFabric$Shared" 46 ⟨"ZonedFabric$Frame", "start", "(IIII)V"⟩ ∈ xTs := xTs_in (tk3 (List.mem_of_getElem? (i := 45) (by decide +kernel))) rfl
theorem mw227 : Cond.instanceMethod ⟨"ZonedFabric$Frame", "start", "(IIII)V"⟩ ∈ xTs := xTs_in (tk3 (List.mem_of_getElem? (i := 46) (by decide +kernel))) rfl
theorem mw228 : Cond.selects "ZonedFabric$Frame" ⟨"ZonedFabric$Frame", "start", "(IIII)V"⟩ ⟨"ZonedFabric$Frame", "start", "(IIII)V"⟩ ∈ xTs := xTs_in (tk3 (List.mem_of_getElem? (i := 47) (by decide +kernel))) rfl
theorem mw229 : Cond.code ⟨"ZonedFabric$Frame", "put", "(IIJ)V"⟩ prog_4_method_3_code 6 none ∈ xTs := xTs_in (tk3 (List.mem_of_getElem? (i := 141) (by decide +kernel))) rfl
theorem mw230 : Cond.code ⟨"ZonedFabric$Frame", "addLoad", "(IJ)V"⟩ prog_4_method_4_code 4 none ∈ xTs := xTs_in (tk3 (List.mem_of_getElem? (i := 137) (by decide +kernel))) rfl
theorem mw231 : Cond.methodLink "ZonedFabric$Frame" 23 ⟨"ZonedFabric$Frame", "put", "(IIJ)V"⟩ ∈ xTs := xTs_in (tk3 (List.mem_of_getElem? (i := 138) (by decide +kernel))) rfl
theorem mw232 : Cond.instanceMethod ⟨"ZonedFabric$Frame", "put", "(IIJ)V"⟩ ∈ xTs := xTs_in (tk3 (List.mem_of_getElem? (i := 139) (by decide +kernel))) rfl
theorem mw233 : Cond.selects "ZonedFabric$Frame" ⟨"ZonedFabric$Frame", "put", "(IIJ)V"⟩ ⟨"ZonedFabric$Frame", "put", "(IIJ)V"⟩ ∈ xTs := xTs_in (tk3 (List.mem_of_getElem? (i := 140) (by decide +kernel))) rfl
theorem mw234 : Cond.methodLink "ZonedFabric$Frame" 27 ⟨"java/lang/Math", "min", "(II)I"⟩ ∈ xTs := xTs_in (tk3 (List.mem_of_getElem? (i := 142) (by decide +kernel))) rfl
theorem mw235 : Cond.static ⟨"java/lang/Math", "min", "(II)I"⟩ ∈ xTs := xTs_in (tk3 (List.mem_of_getElem? (i := 95) (by decide +kernel))) rfl
theorem mw236 : Cond.initialized "java/lang/Math" ∈ xTs := xTs_in (tk1 (List.mem_of_getElem? (i := 13) (by decide +kernel))) rfl
theorem mw237 : Cond.code ⟨"ZonedFabric$Shared", "tally", "(I)V"⟩ prog_11_method_4_code 2 none ∈ xTs := xTs_in (tk3 (List.mem_of_getElem? (i := 56) (by decide +kernel))) rfl
theorem mw238 : Cond.code ⟨"ZonedFabric$FrameLine", "add", "(LZonedFabric$Frame;)V"⟩ prog_5_method_2_code 2 none ∈ xTs := xTs_in (tk3 (List.mem_of_getElem? (i := 9) (by decide +kernel))) rfl
theorem mw239 : Cond.code ⟨"ZonedFabric$Port", "post", "(LZonedFabric$Frame;)V"⟩ prog_10_method_12_code 2 none ∈ xTs := xTs_in (tk3 (List.mem_of_getElem? (i := 52) (by decide +kernel))) rfl
theorem mw240 : Cond.methodLink "ZonedFabric$Port" 86 ⟨"ZonedFabric$FrameLine", "add", "(LZonedFabric$Frame;)V"⟩ ∈ xTs := xTs_in (tk3 (List.mem_of_getElem? (i := 6) (by decide +kernel))) rfl
theorem mw241 : Cond.instanceMethod ⟨"ZonedFabric$FrameLine", "add", "(LZonedFabric$Frame;)V"⟩ ∈ xTs := xTs_in (tk3 (List.mem_of_getElem? (i := 7) (by decide +kernel))) rfl
theorem mw242 : Cond.selects "ZonedFabric$FrameLine" ⟨"ZonedFabric$FrameLine", "add", "(LZonedFabric$Frame;)V"⟩ ⟨"ZonedFabric$FrameLine", "add", "(LZonedFabric$Frame;)V"⟩ ∈ xTs := xTs_in (tk3 (List.mem_of_getElem? (i := 8) (by decide +kernel))) rfl
theorem mw243 : Cond.methodLink "ZonedFabric$Port" 89 ⟨"ZonedFabric$Shared", "tally", "(I)V"⟩ ∈ xTs := xTs_in (tk3 (List.mem_of_getElem? (i := 53) (by decide +kernel))) rfl
theorem mw244 : Cond.instanceMethod ⟨"ZonedFabric$Shared", "tally", "(I)V"⟩ ∈ xTs := xTs_in (tk3 (List.mem_of_getElem? (i := 54) (by decide +kernel))) rfl
theorem mw245 : Cond.selects "ZonedFabric$Shared" ⟨"ZonedFabric$Shared", "tally", "(I)V"⟩ ⟨"ZonedFabric$Shared", "tally", "(I)V"⟩ ∈ xTs := xTs_in (tk3 (List.mem_of_getElem? (i := 55) (by decide +kernel))) rfl
theorem mw246 : Cond.code ⟨"ZonedFabric$Node", "callSwitch", "()V"⟩ prog_7_method_6_code 3 none ∈ xTs := xTs_in (tk5 (List.mem_of_getElem? (i := 19) (by decide +kernel))) rfl
theorem mw247 : Cond.fieldLink "ZonedFabric$Node" 105 "ZonedFabric$Port" "up" "Z" ∈ xTs := xTs_in (tk1 (List.mem_of_getElem? (i := 140) (by decide +kernel))) rfl
theorem mw248 : Cond.fieldLink "ZonedFabric$Node" 109 "ZonedFabric$Shared" "time" "I" ∈ xTs := xTs_in (tk1 (List.mem_of_getElem? (i := 44) (by decide +kernel))) rfl
theorem mw249 : Cond.fieldLink "ZonedFabric$Node" 112 "ZonedFabric$Port" "calledAt" "I" ∈ xTs := xTs_in (tk1 (List.mem_of_getElem? (i := 160) (by decide +kernel))) rfl
theorem mw250 : Cond.methodLink "ZonedFabric$Node" 115 ⟨"ZonedFabric$Shared", "draft", "(IIII)LZonedFabric$Frame;"⟩ ∈ xTs := xTs_in (tk5 (List.mem_of_getElem? (i := 20) (by decide +kernel))) rfl
theorem mw251 : Cond.instanceMethod ⟨"ZonedFabric$Shared", "draft", "(IIII)LZonedFabric$Frame;"⟩ ∈ xTs := xTs_in (tk3 (List.mem_of_getElem? (i := 20) (by decide +kernel))) rfl
theorem mw252 : Cond.selects "ZonedFabric$Shared" ⟨"ZonedFabric$Shared", "draft", "(IIII)LZonedFabric$Frame;"⟩ ⟨"ZonedFabric$Shared", "draft", "(IIII)LZonedFabric$Frame;"⟩ ∈ xTs := xTs_in (tk3 (List.mem_of_getElem? (i := 21) (by decide +kernel))) rfl
theorem mw253 : Cond.methodLink "ZonedFabric$Node" 119 ⟨"ZonedFabric$Frame", "addLoad", "(IJ)V"⟩ ∈ xTs := xTs_in (tk5 (List.mem_of_getElem? (i := 21) (by decide +kernel))) rfl
theorem mw254 : Cond.instanceMethod ⟨"ZonedFabric$Frame", "addLoad", "(IJ)V"⟩ ∈ xTs := xTs_in (tk3 (List.mem_of_getElem? (i := 135) (by decide +kernel))) rfl
theorem mw255 : Cond.selects "ZonedFabric$Frame" ⟨"ZonedFabric$Frame", "addLoad", "(IJ)V"⟩ ⟨"ZonedFabric$Frame", "addLoad", "(IJ)V"⟩ ∈ xTs := xTs_in (tk3 (List.mem_of_getElem? (i := 136) (by decide +kernel))) rfl
theorem mw256 : Cond.methodLink "ZonedFabric$Node" 123 ⟨"ZonedFabric$Port", "post", "(LZonedFabric$Frame;)V"⟩ ∈ xTs := xTs_in (tk5 (List.mem_of_getElem? (i := 22) (by decide +kernel))) rfl
theorem mw257 : Cond.instanceMethod ⟨"ZonedFabric$Port", "post", "(LZonedFabric$Frame;)V"⟩ ∈ xTs := xTs_in (tk3 (List.mem_of_getElem? (i := 50) (by decide +kernel))) rfl
theorem mw258 : Cond.selects "ZonedFabric$Port" ⟨"ZonedFabric$Port", "post", "(LZonedFabric$Frame;)V"⟩ ⟨"ZonedFabric$Port", "post", "(LZonedFabric$Frame;)V"⟩ ∈ xTs := xTs_in (tk3 (List.mem_of_getElem? (i := 51) (by decide +kernel))) rfl
theorem mw259 : Cond.constant "ZonedFabric$Node" 60 (16777214) ∈ xTs := xTs_in (tk4 (List.mem_of_getElem? (i := 92) (by decide +kernel))) rfl
theorem mw260 : Cond.code ⟨"ZonedFabric$Port", "canSend", "()Z"⟩ prog_10_method_9_code 1 (some FieldType.boolean) ∈ xTs := xTs_in (tk3 (List.mem_of_getElem? (i := 196) (by decide +kernel))) rfl
theorem mw261 : Cond.code ⟨"ZonedFabric$Frame", "reckonCheck", "(I)I"⟩ prog_4_method_7_code 4 (some FieldType.int) ∈ xTs := xTs_in (tk3 (List.mem_of_getElem? (i := 204) (by decide +kernel))) rfl
theorem mw262 : Cond.code ⟨"ZonedFabric$Frame", "seal", "()V"⟩ prog_4_method_6_code 1 none ∈ xTs := xTs_in (tk3 (List.mem_of_getElem? (i := 200) (by decide +kernel))) rfl
theorem mw263 : Cond.methodLink "ZonedFabric$Frame" 42 ⟨"ZonedFabric$Frame", "reckonCheck", "(I)I"⟩ ∈ xTs := xTs_in (tk3 (List.mem_of_getElem? (i := 201) (by decide +kernel))) rfl
theorem mw264 : Cond.instanceMethod ⟨"ZonedFabric$Frame", "reckonCheck", "(I)I"⟩ ∈ xTs := xTs_in (tk3 (List.mem_of_getElem? (i := 203) (by decide +kernel))) rfl
theorem mw265 : Cond.selects "ZonedFabric$Frame" ⟨"ZonedFabric$Frame", "reckonCheck", "(I)I"⟩ ⟨"ZonedFabric$Frame", "reckonCheck", "(I)I"⟩ ∈ xTs := xTs_in (List.mem_append_left _ (List.mem_of_getElem? (i := 19) (by decide +kernel))) rfl
/-! ZF.Disc.forgetLogins()V -/
def ym20 : MethodName := ⟨"ZonedFabric$Disc", "forgetLogins", "()V"⟩
theorem cd20 : xCd ym20 prog_3_method_2_code 2 none 0 := ⟨mw167, mw105, by decide, by decide, by decide +kernel⟩
def b20_0 (a0 : Nat) (M : hM) : Option xRes :=
  Option.bind (p_i M 1 4 (some a0) (0 : Int32)) fun M1 =>
  some (.inr (7, [.inr (.inr (some a0)), .inl (0 : Int32)], M1))
def b20_7 (a0 : Nat) (v1 : Int32) (M : hM) : Option xRes :=
  if (6 : Int32) ≤ v1 then
    (some (.inl (none, M)))
  else
    (Option.bind (g_r M 1 5 (some a0)) fun o_3 =>
    Option.bind (al_r M 37 o_3 v1) fun o_5 =>
    Option.bind (p_z M 7 0 o_5 (0 : Int32)) fun M7 =>
    some (.inr (7, [.inr (.inr (some a0)), .inl (v1 + (1 : Int32))], M7)))
def k20 (h : Nat) (as : List aV) (M : hM) : Option xRes :=
  if h = 7 then (match as with | [.inr (.inr (some a0)), .inl v1] => b20_7 a0 v1 M | _ => none) else
  none
def f20 (as : List aV) (M : hM) : xO := match as with
  | [.inr (.inr (some a0))] => x_go k20 (b20_0 a0 M)
  | _ => none
theorem lb20_0 (G : gX) (l : Launch) (a0 : Nat) (M : hM) {res : xRes} (h : b20_0 a0 M = some res) : h_sz M ≤ r_sz res ∧ h_sl M ≤ r_sl res := by
  unfold b20_0 at h
  obtain ⟨M1, h2, h⟩ := bd h
  have eh2 := p_i_sz h2
  obtain rfl := Option.some.inj h
  show h_sz M ≤ h_sz M1 ∧ h_sl M ≤ h_sl M1
  omega
theorem lb20_7 (G : gX) (l : Launch) (a0 : Nat) (v1 : Int32) (M : hM) {res : xRes} (h : b20_7 a0 v1 M = some res) : h_sz M ≤ r_sz res ∧ h_sl M ≤ r_sl res := by
  unfold b20_7 at h
  by_cases q9 : (6 : Int32) ≤ v1
  · rw [if_pos q9] at h
    obtain rfl := Option.some.inj h
    show h_sz M ≤ h_sz M ∧ h_sl M ≤ h_sl M
    omega
  · rw [if_neg q9] at h
    obtain ⟨o_3, h4, h⟩ := bd h
    obtain ⟨o_5, h6, h⟩ := bd h
    obtain ⟨M7, h8, h⟩ := bd h
    have eh8 := p_z_sz h8
    obtain rfl := Option.some.inj h
    show h_sz M ≤ h_sz M7 ∧ h_sl M ≤ h_sl M7
    omega
section
variable {p : Program} {l : Launch} {e : Env} {s : State} {m : MethodId} {args : Array Value} {below : List Frame} {meth : Method} {c : Code} {G : gX} {z0 y0 : Nat} {r : Option aV} {M' : hM}
def pg20 (p : Program) (l : Launch) (e : Env) (s : State) (m : MethodId) (args : Array Value) (below : List Frame) (meth : Method) (c : Code) (G : gX) (z0 y0 : Nat) (r : Option aV) (M' : hM) (h : Nat) (as : List aV) (M : hM) : Prop :=
  if h = 7 then (match as with | [.inr (.inr (some a0)), .inl v1] => xV G p l e (xRm 0 (h_sz M' - z0) (h_sl M' - y0)) s m args below meth c z0 y0 (h_sz M') (h_sl M') 2 (MQ below (xQc G r M') args s (h_sz M' - z0) (h_sl M' - y0) (xFr G)) 7 [(0, .inr (.inr (some a0))), (1, .inl v1)] [] M | _ => False) else
  False
theorem sb20_0 (E : xE G p (xRm 0 (h_sz M' - z0) (h_sl M' - y0)) s m args c prog_3_method_2_code "ZonedFabric$Disc" z0 y0 (h_sz M') (h_sl M') 2) (B : xB ym20 none meth) (a0 : Nat) (M : hM) {res : xRes} (h : b20_0 a0 M = some res) (hN : xN (pg20 p l e s m args below meth c G z0 y0 r M') r M' res) : xV G p l e (xRm 0 (h_sz M' - z0) (h_sl M' - y0)) s m args below meth c z0 y0 (h_sz M') (h_sl M') 2 (MQ below (xQc G r M') args s (h_sz M' - z0) (h_sl M' - y0) (xFr G)) 0 [(0, .inr (.inr (some a0)))] [] M := by
  unfold b20_0 at h
  refine xv_b E [.aload_n 0, .iconst 0] (pc' := 2) (lv' := [(0, .inr (.inr (some a0)))]) (st' := [.inl (0 : Int32), .inr (.inr (some a0))]) (by decide +kernel) rfl rfl ?_
  obtain ⟨M1, h2, h⟩ := bd h
  refine xp_i E 1 4 h2 mw168 (show decode prog_3_method_2_code 2 = .ok (.putfield 34, 3) by decide +kernel) (Or.inl rfl) ?_
  refine xv_b E [.iconst 0, .istore_n 1] (pc' := 7) (lv' := [(1, .inl (0 : Int32)), (0, .inr (.inr (some a0)))]) (st' := []) (by decide +kernel) rfl rfl ?_
  obtain rfl := Option.some.inj h
  exact xv_w hN rfl
theorem sb20_7 (E : xE G p (xRm 0 (h_sz M' - z0) (h_sl M' - y0)) s m args c prog_3_method_2_code "ZonedFabric$Disc" z0 y0 (h_sz M') (h_sl M') 2) (B : xB ym20 none meth) (a0 : Nat) (v1 : Int32) (M : hM) {res : xRes} (h : b20_7 a0 v1 M = some res) (hN : xN (pg20 p l e s m args below meth c G z0 y0 r M') r M' res) : xV G p l e (xRm 0 (h_sz M' - z0) (h_sl M' - y0)) s m args below meth c z0 y0 (h_sz M') (h_sl M') 2 (MQ below (xQc G r M') args s (h_sz M' - z0) (h_sl M' - y0) (xFr G)) 7 [(0, .inr (.inr (some a0))), (1, .inl v1)] [] M := by
  unfold b20_7 at h
  refine xv_b E [.iload_n 1, .bipush 6] (pc' := 10) (lv' := [(0, .inr (.inr (some a0))), (1, .inl v1)]) (st' := [.inl (6 : Int32), .inl v1]) (by decide +kernel) rfl rfl ?_
  by_cases q9 : (6 : Int32) ≤ v1
  · rw [if_pos q9] at h
    refine xv_icmp_ge E 29 (show decode prog_3_method_2_code 10 = .ok (.if_icmp .ge (19), 3) by decide +kernel) rfl (fun _ => ?_) (fun z => absurd q9 z)
    obtain rfl := Option.some.inj h
    obtain ⟨rfl, rfl⟩ := Prod.mk.inj (show ((none : Option aV), M) = (r, M') from hN)
    exact xv_rv E B.1 B.2.1 (show decode prog_3_method_2_code 29 = .ok (.return_, 1) by decide +kernel) rfl rfl
  · rw [if_neg q9] at h
    refine xv_icmp_ge E 29 (show decode prog_3_method_2_code 10 = .ok (.if_icmp .ge (19), 3) by decide +kernel) rfl (fun z => absurd z q9) (fun _ => ?_)
    refine xv_b E [.aload_n 0] (pc' := 14) (lv' := [(0, .inr (.inr (some a0))), (1, .inl v1)]) (st' := [.inr (.inr (some a0))]) (by decide +kernel) rfl rfl ?_
    obtain ⟨o_3, h4, h⟩ := bd h
    refine xg_r E 1 5 h4 mw109 (show decode prog_3_method_2_code 14 = .ok (.getfield 21, 3) by decide +kernel) ?_
    refine xv_b E [.iload_n 1] (pc' := 18) (lv' := [(0, .inr (.inr (some a0))), (1, .inl v1)]) (st' := [.inl v1, .inr (.inr o_3)]) (by decide +kernel) rfl rfl ?_
    obtain ⟨o_5, h6, h⟩ := bd h
    refine xa_r E 37 h6 (show decode prog_3_method_2_code 18 = .ok (.aaload, 1) by decide +kernel) ?_
    refine xv_b E [.iconst 0] (pc' := 20) (lv' := [(0, .inr (.inr (some a0))), (1, .inl v1)]) (st' := [.inl (0 : Int32), .inr (.inr o_5)]) (by decide +kernel) rfl rfl ?_
    obtain ⟨M7, h8, h⟩ := bd h
    refine xp_z E 7 0 h8 mw169 (show decode prog_3_method_2_code 20 = .ok (.putfield 38, 3) by decide +kernel) (Or.inl rfl) ?_
    refine xv_b E [.iinc 1 1] (pc' := 26) (lv' := [(1, .inl (v1 + (1 : Int32))), (0, .inr (.inr (some a0)))]) (st' := []) (by decide +kernel) rfl rfl ?_
    refine xv_goto E 7 (show decode prog_3_method_2_code 26 = .ok (.goto (-19), 3) by decide +kernel) rfl ?_
    obtain rfl := Option.some.inj h
    exact xv_w hN rfl
end
theorem t20 (G : gX) (l : Launch) {as : List aV} {M : hM} {r : Option aV} {M' : hM} (h : f20 as M = some (r, M')) : xM G l ym20 prog_3_method_2_code 2 none 0 as M r M' := by
  unfold f20 at h
  split at h
  · have hle : ∀ h as M res, k20 h as M = some res → h_sz M ≤ r_sz res ∧ h_sl M ≤ r_sl res := by
      intro h as M res hb
      unfold k20 at hb
      by_cases e0 : h = 7
      · rw [if_pos e0] at hb
        split at hb
        · exact lb20_7 G l _ _ M hb
        · cases hb
      · rw [if_neg e0] at hb
        cases hb
    obtain ⟨res, hx, hres⟩ := x_go_ok h
    refine xM_of (by decide) (Nat.le_of_ble_eq_true rfl) ?_ ?_
    · have e1 := lb20_0 G l _ M hx
      have e2 := x_go_le hle hres
      omega
    · intro p e s m args below meth c E B
      refine sb20_0 E B _ M hx (hres _ ?_)
      intro h as M res hb hN
      unfold k20 at hb
      unfold pg20
      by_cases e0 : h = 7
      · rw [if_pos e0] at hb ⊢
        split at hb
        · exact sb20_7 E B _ _ M hb hN
        · cases hb
      · rw [if_neg e0] at hb ⊢
        cases hb
  · cases h
/-! ZF.Host.forgetLogins()V -/
def ym21 : MethodName := ⟨"ZonedFabric$Host", "forgetLogins", "()V"⟩
theorem cd21 : xCd ym21 prog_6_method_4_code 2 none 0 := ⟨mw170, mw37, by decide, by decide, by decide +kernel⟩
def b21_0 (a0 : Nat) (M : hM) : Option xRes :=
  some (.inr (2, [.inr (.inr (some a0)), .inl (0 : Int32)], M))
def b21_2 (a0 : Nat) (v1 : Int32) (M : hM) : Option xRes :=
  Option.bind (g_r M 4 3 (some a0)) fun o_1 =>
  Option.bind (a_ln M 20 o_1) fun v_3 =>
  if v_3 ≤ v1 then
    (some (.inl (none, M)))
  else
    (Option.bind (g_r M 4 3 (some a0)) fun o_5 =>
    Option.bind (as_i M 20 o_5 v1 (0 : Int32)) fun M7 =>
    some (.inr (2, [.inr (.inr (some a0)), .inl (v1 + (1 : Int32))], M7)))
def k21 (h : Nat) (as : List aV) (M : hM) : Option xRes :=
  if h = 2 then (match as with | [.inr (.inr (some a0)), .inl v1] => b21_2 a0 v1 M | _ => none) else
  none
def f21 (as : List aV) (M : hM) : xO := match as with
  | [.inr (.inr (some a0))] => x_go k21 (b21_0 a0 M)
  | _ => none
theorem lb21_0 (G : gX) (l : Launch) (a0 : Nat) (M : hM) {res : xRes} (h : b21_0 a0 M = some res) : h_sz M ≤ r_sz res ∧ h_sl M ≤ r_sl res := by
  unfold b21_0 at h
  obtain rfl := Option.some.inj h
  show h_sz M ≤ h_sz M ∧ h_sl M ≤ h_sl M
  omega
theorem lb21_2 (G : gX) (l : Launch) (a0 : Nat) (v1 : Int32) (M : hM) {res : xRes} (h : b21_2 a0 v1 M = some res) : h_sz M ≤ r_sz res ∧ h_sl M ≤ r_sl res := by
  unfold b21_2 at h
  obtain ⟨o_1, h2, h⟩ := bd h
  obtain ⟨v_3, h4, h⟩ := bd h
  by_cases q9 : v_3 ≤ v1
  · rw [if_pos q9] at h
    obtain rfl := Option.some.inj h
    show h_sz M ≤ h_sz M ∧ h_sl M ≤ h_sl M
    omega
  · rw [if_neg q9] at h
    obtain ⟨o_5, h6, h⟩ := bd h
    obtain ⟨M7, h8, h⟩ := bd h
    have eh8 := as_i_sz h8
    obtain rfl := Option.some.inj h
    show h_sz M ≤ h_sz M7 ∧ h_sl M ≤ h_sl M7
    omega
section
variable {p : Program} {l : Launch} {e : Env} {s : State} {m : MethodId} {args : Array Value} {below : List Frame} {meth : Method} {c : Code} {G : gX} {z0 y0 : Nat} {r : Option aV} {M' : hM}
def pg21 (p : Program) (l : Launch) (e : Env) (s : State) (m : MethodId) (args : Array Value) (below : List Frame) (meth : Method) (c : Code) (G : gX) (z0 y0 : Nat) (r : Option aV) (M' : hM) (h : Nat) (as : List aV) (M : hM) : Prop :=
  if h = 2 then (match as with | [.inr (.inr (some a0)), .inl v1] => xV G p l e (xRm 0 (h_sz M' - z0) (h_sl M' - y0)) s m args below meth c z0 y0 (h_sz M') (h_sl M') 2 (MQ below (xQc G r M') args s (h_sz M' - z0) (h_sl M' - y0) (xFr G)) 2 [(0, .inr (.inr (some a0))), (1, .inl v1)] [] M | _ => False) else
  False
theorem sb21_0 (E : xE G p (xRm 0 (h_sz M' - z0) (h_sl M' - y0)) s m args c prog_6_method_4_code "ZonedFabric$Host" z0 y0 (h_sz M') (h_sl M') 2) (B : xB ym21 none meth) (a0 : Nat) (M : hM) {res : xRes} (h : b21_0 a0 M = some res) (hN : xN (pg21 p l e s m args below meth c G z0 y0 r M') r M' res) : xV G p l e (xRm 0 (h_sz M' - z0) (h_sl M' - y0)) s m args below meth c z0 y0 (h_sz M') (h_sl M') 2 (MQ below (xQc G r M') args s (h_sz M' - z0) (h_sl M' - y0) (xFr G)) 0 [(0, .inr (.inr (some a0)))] [] M := by
  unfold b21_0 at h
  refine xv_b E [.iconst 0, .istore_n 1] (pc' := 2) (lv' := [(1, .inl (0 : Int32)), (0, .inr (.inr (some a0)))]) (st' := []) (by decide +kernel) rfl rfl ?_
  obtain rfl := Option.some.inj h
  exact xv_w hN rfl
theorem sb21_2 (E : xE G p (xRm 0 (h_sz M' - z0) (h_sl M' - y0)) s m args c prog_6_method_4_code "ZonedFabric$Host" z0 y0 (h_sz M') (h_sl M') 2) (B : xB ym21 none meth) (a0 : Nat) (v1 : Int32) (M : hM) {res : xRes} (h : b21_2 a0 v1 M = some res) (hN : xN (pg21 p l e s m args below meth c G z0 y0 r M') r M' res) : xV G p l e (xRm 0 (h_sz M' - z0) (h_sl M' - y0)) s m args below meth c z0 y0 (h_sz M') (h_sl M') 2 (MQ below (xQc G r M') args s (h_sz M' - z0) (h_sl M' - y0) (xFr G)) 2 [(0, .inr (.inr (some a0))), (1, .inl v1)] [] M := by
  unfold b21_2 at h
  refine xv_b E [.iload_n 1, .aload_n 0] (pc' := 4) (lv' := [(0, .inr (.inr (some a0))), (1, .inl v1)]) (st' := [.inr (.inr (some a0)), .inl v1]) (by decide +kernel) rfl rfl ?_
  obtain ⟨o_1, h2, h⟩ := bd h
  refine xg_r E 4 3 h2 mw43 (show decode prog_6_method_4_code 4 = .ok (.getfield 31, 3) by decide +kernel) ?_
  obtain ⟨v_3, h4, h⟩ := bd h
  refine xa_n E 20 h4 (show decode prog_6_method_4_code 7 = .ok (.arraylength, 1) by decide +kernel) ?_
  by_cases q9 : v_3 ≤ v1
  · rw [if_pos q9] at h
    refine xv_icmp_ge E 24 (show decode prog_6_method_4_code 8 = .ok (.if_icmp .ge (16), 3) by decide +kernel) rfl (fun _ => ?_) (fun z => absurd q9 z)
    obtain rfl := Option.some.inj h
    obtain ⟨rfl, rfl⟩ := Prod.mk.inj (show ((none : Option aV), M) = (r, M') from hN)
    exact xv_rv E B.1 B.2.1 (show decode prog_6_method_4_code 24 = .ok (.return_, 1) by decide +kernel) rfl rfl
  · rw [if_neg q9] at h
    refine xv_icmp_ge E 24 (show decode prog_6_method_4_code 8 = .ok (.if_icmp .ge (16), 3) by decide +kernel) rfl (fun z => absurd z q9) (fun _ => ?_)
    refine xv_b E [.aload_n 0] (pc' := 12) (lv' := [(0, .inr (.inr (some a0))), (1, .inl v1)]) (st' := [.inr (.inr (some a0))]) (by decide +kernel) rfl rfl ?_
    obtain ⟨o_5, h6, h⟩ := bd h
    refine xg_r E 4 3 h6 mw43 (show decode prog_6_method_4_code 12 = .ok (.getfield 31, 3) by decide +kernel) ?_
    refine xv_b E [.iload_n 1, .iconst 0] (pc' := 17) (lv' := [(0, .inr (.inr (some a0))), (1, .inl v1)]) (st' := [.inl (0 : Int32), .inl v1, .inr (.inr o_5)]) (by decide +kernel) rfl rfl ?_
    obtain ⟨M7, h8, h⟩ := bd h
    refine xs_i E h8 (show decode prog_6_method_4_code 17 = .ok (.iastore, 1) by decide +kernel) ?_
    refine xv_b E [.iinc 1 1] (pc' := 21) (lv' := [(1, .inl (v1 + (1 : Int32))), (0, .inr (.inr (some a0)))]) (st' := []) (by decide +kernel) rfl rfl ?_
    refine xv_goto E 2 (show decode prog_6_method_4_code 21 = .ok (.goto (-19), 3) by decide +kernel) rfl ?_
    obtain rfl := Option.some.inj h
    exact xv_w hN rfl
end
theorem t21 (G : gX) (l : Launch) {as : List aV} {M : hM} {r : Option aV} {M' : hM} (h : f21 as M = some (r, M')) : xM G l ym21 prog_6_method_4_code 2 none 0 as M r M' := by
  unfold f21 at h
  split at h
  · have hle : ∀ h as M res, k21 h as M = some res → h_sz M ≤ r_sz res ∧ h_sl M ≤ r_sl res := by
      intro h as M res hb
      unfold k21 at hb
      by_cases e0 : h = 2
      · rw [if_pos e0] at hb
        split at hb
        · exact lb21_2 G l _ _ M hb
        · cases hb
      · rw [if_neg e0] at hb
        cases hb
    obtain ⟨res, hx, hres⟩ := x_go_ok h
    refine xM_of (by decide) (Nat.le_of_ble_eq_true rfl) ?_ ?_
    · have e1 := lb21_0 G l _ M hx
      have e2 := x_go_le hle hres
      omega
    · intro p e s m args below meth c E B
      refine sb21_0 E B _ M hx (hres _ ?_)
      intro h as M res hb hN
      unfold k21 at hb
      unfold pg21
      by_cases e0 : h = 2
      · rw [if_pos e0] at hb ⊢
        split at hb
        · exact sb21_2 E B _ _ M hb hN
        · cases hb
      · rw [if_neg e0] at hb ⊢
        cases hb
  · cases h
/-! ZF.Node.forgetLogins()V -/
def ym22 : MethodName := ⟨"ZonedFabric$Node", "forgetLogins", "()V"⟩
theorem cd22 : xCd ym22 prog_7_method_4_code 1 none 0 := ⟨mw171, mw27, by decide, by decide, by decide +kernel⟩
def b22_28  (M : hM) : Option xRes :=
  some (.inl (none, M))
def b22_14 (a0 : Nat) (M : hM) : Option xRes :=
  Option.bind (g_r M 5 5 (some a0)) fun o_10 =>
  if o_10 = none then
    (b22_28  M)
  else
    (Option.bind (g_r M 5 5 (some a0)) fun o_12 =>
    Option.bind (g_o M 1 o_12) fun b_16 =>
    Option.bind (c_V (f20 [.inr (.inr (some b_16))] M)) fun q_14 =>
    b22_28  q_14)
def b22_0 (a0 : Nat) (M : hM) : Option xRes :=
  Option.bind (g_r M 5 4 (some a0)) fun o_1 =>
  if o_1 = none then
    (b22_14 a0 M)
  else
    (Option.bind (g_r M 5 4 (some a0)) fun o_3 =>
    Option.bind (g_o M 4 o_3) fun b_7 =>
    Option.bind (c_V (f21 [.inr (.inr (some b_7))] M)) fun q_5 =>
    b22_14 a0 q_5)
def f22 (as : List aV) (M : hM) : xO := match as with
  | [.inr (.inr (some a0))] => x_out (b22_0 a0 M)
  | _ => none
theorem lb22_28 (G : gX) (l : Launch)  (M : hM) {res : xRes} (h : b22_28  M = some res) : h_sz M ≤ r_sz res ∧ h_sl M ≤ r_sl res := by
  unfold b22_28 at h
  obtain rfl := Option.some.inj h
  show h_sz M ≤ h_sz M ∧ h_sl M ≤ h_sl M
  omega
theorem lb22_14 (G : gX) (l : Launch) (a0 : Nat) (M : hM) {res : xRes} (h : b22_14 a0 M = some res) : h_sz M ≤ r_sz res ∧ h_sl M ≤ r_sl res := by
  unfold b22_14 at h
  obtain ⟨o_10, h11, h⟩ := bd h
  by_cases q18 : o_10 = none
  · rw [if_pos q18] at h
    have e := lb22_28 G l  M h
    omega
  · rw [if_neg q18] at h
    obtain ⟨o_12, h13, h⟩ := bd h
    obtain ⟨b_16, h17, h⟩ := bd h
    obtain ⟨q_14, h15, h⟩ := bd h
    have eh15 := (t20 G l (c_V_some h15)).1
    have e := lb22_28 G l  q_14 h
    omega
theorem lb22_0 (G : gX) (l : Launch) (a0 : Nat) (M : hM) {res : xRes} (h : b22_0 a0 M = some res) : h_sz M ≤ r_sz res ∧ h_sl M ≤ r_sl res := by
  unfold b22_0 at h
  obtain ⟨o_1, h2, h⟩ := bd h
  by_cases q9 : o_1 = none
  · rw [if_pos q9] at h
    have e := lb22_14 G l a0 M h
    omega
  · rw [if_neg q9] at h
    obtain ⟨o_3, h4, h⟩ := bd h
    obtain ⟨b_7, h8, h⟩ := bd h
    obtain ⟨q_5, h6, h⟩ := bd h
    have eh6 := (t21 G l (c_V_some h6)).1
    have e := lb22_14 G l a0 q_5 h
    omega
section
variable {p : Program} {l : Launch} {e : Env} {s : State} {m : MethodId} {args : Array Value} {below : List Frame} {meth : Method} {c : Code} {G : gX} {z0 y0 : Nat} {r : Option aV} {M' : hM}
theorem sb22_28 (E : xE G p (xRm 1 (h_sz M' - z0) (h_sl M' - y0)) s m args c prog_7_method_4_code "ZonedFabric$Node" z0 y0 (h_sz M') (h_sl M') 1) (B : xB ym22 none meth)  (M : hM) {res : xRes} (h : b22_28  M = some res) (hN : xN (fun _ _ _ => False) r M' res) : xV G p l e (xRm 1 (h_sz M' - z0) (h_sl M' - y0)) s m args below meth c z0 y0 (h_sz M') (h_sl M') 1 (MQ below (xQc G r M') args s (h_sz M' - z0) (h_sl M' - y0) (xFr G)) 28 [] [] M := by
  unfold b22_28 at h
  obtain rfl := Option.some.inj h
  obtain ⟨rfl, rfl⟩ := Prod.mk.inj (show ((none : Option aV), M) = (r, M') from hN)
  exact xv_rv E B.1 B.2.1 (show decode prog_7_method_4_code 28 = .ok (.return_, 1) by decide +kernel) rfl rfl
theorem sb22_14 (E : xE G p (xRm 1 (h_sz M' - z0) (h_sl M' - y0)) s m args c prog_7_method_4_code "ZonedFabric$Node" z0 y0 (h_sz M') (h_sl M') 1) (B : xB ym22 none meth) (a0 : Nat) (M : hM) {res : xRes} (h : b22_14 a0 M = some res) (hN : xN (fun _ _ _ => False) r M' res) : xV G p l e (xRm 1 (h_sz M' - z0) (h_sl M' - y0)) s m args below meth c z0 y0 (h_sz M') (h_sl M') 1 (MQ below (xQc G r M') args s (h_sz M' - z0) (h_sl M' - y0) (xFr G)) 14 [(0, .inr (.inr (some a0)))] [] M := by
  unfold b22_14 at h
  refine xv_b E [.aload_n 0] (pc' := 15) (lv' := [(0, .inr (.inr (some a0)))]) (st' := [.inr (.inr (some a0))]) (by decide +kernel) rfl rfl ?_
  obtain ⟨o_10, h11, h⟩ := bd h
  refine xg_r E 5 5 h11 mw176 (show decode prog_7_method_4_code 15 = .ok (.getfield 80, 3) by decide +kernel) ?_
  by_cases q18 : o_10 = none
  · rw [if_pos q18] at h
    refine xi_null E 28 (show decode prog_7_method_4_code 18 = .ok (.ifnull (10), 3) by decide +kernel) rfl (fun _ => ?_) (fun z => absurd q18 z)
    exact xv_w (sb22_28 E B  M h hN) rfl
  · rw [if_neg q18] at h
    refine xi_null E 28 (show decode prog_7_method_4_code 18 = .ok (.ifnull (10), 3) by decide +kernel) rfl (fun z => absurd z q18) (fun _ => ?_)
    refine xv_b E [.aload_n 0] (pc' := 22) (lv' := [(0, .inr (.inr (some a0)))]) (st' := [.inr (.inr (some a0))]) (by decide +kernel) rfl rfl ?_
    obtain ⟨o_12, h13, h⟩ := bd h
    refine xg_r E 5 5 h13 mw176 (show decode prog_7_method_4_code 22 = .ok (.getfield 80, 3) by decide +kernel) ?_
    obtain ⟨b_16, h17, h⟩ := bd h
    obtain ⟨eh17, th17⟩ := g_o_some h17
    obtain ⟨q_14, h15, h⟩ := bd h
    refine xv_cvo E eh17 1 (as := []) (t20 G l (c_V_some h15)) cd20 mw177 mw178 mw179 (show decode prog_7_method_4_code 25 = .ok (.invokevirtual 104, 3) by decide +kernel) th17 rfl rfl (Nat.le_of_ble_eq_true rfl) ⟨Nat.le_of_ble_eq_true rfl, Nat.le_of_ble_eq_true rfl⟩ ?_
    exact xv_w (sb22_28 E B  q_14 h hN) rfl
theorem sb22_0 (E : xE G p (xRm 1 (h_sz M' - z0) (h_sl M' - y0)) s m args c prog_7_method_4_code "ZonedFabric$Node" z0 y0 (h_sz M') (h_sl M') 1) (B : xB ym22 none meth) (a0 : Nat) (M : hM) {res : xRes} (h : b22_0 a0 M = some res) (hN : xN (fun _ _ _ => False) r M' res) : xV G p l e (xRm 1 (h_sz M' - z0) (h_sl M' - y0)) s m args below meth c z0 y0 (h_sz M') (h_sl M') 1 (MQ below (xQc G r M') args s (h_sz M' - z0) (h_sl M' - y0) (xFr G)) 0 [(0, .inr (.inr (some a0)))] [] M := by
  unfold b22_0 at h
  refine xv_b E [.aload_n 0] (pc' := 1) (lv' := [(0, .inr (.inr (some a0)))]) (st' := [.inr (.inr (some a0))]) (by decide +kernel) rfl rfl ?_
  obtain ⟨o_1, h2, h⟩ := bd h
  refine xg_r E 5 4 h2 mw172 (show decode prog_7_method_4_code 1 = .ok (.getfield 70, 3) by decide +kernel) ?_
  by_cases q9 : o_1 = none
  · rw [if_pos q9] at h
    refine xi_null E 14 (show decode prog_7_method_4_code 4 = .ok (.ifnull (10), 3) by decide +kernel) rfl (fun _ => ?_) (fun z => absurd q9 z)
    exact xv_w (sb22_14 E B a0 M h hN) rfl
  · rw [if_neg q9] at h
    refine xi_null E 14 (show decode prog_7_method_4_code 4 = .ok (.ifnull (10), 3) by decide +kernel) rfl (fun z => absurd z q9) (fun _ => ?_)
    refine xv_b E [.aload_n 0] (pc' := 8) (lv' := [(0, .inr (.inr (some a0)))]) (st' := [.inr (.inr (some a0))]) (by decide +kernel) rfl rfl ?_
    obtain ⟨o_3, h4, h⟩ := bd h
    refine xg_r E 5 4 h4 mw172 (show decode prog_7_method_4_code 8 = .ok (.getfield 70, 3) by decide +kernel) ?_
    obtain ⟨b_7, h8, h⟩ := bd h
    obtain ⟨eh8, th8⟩ := g_o_some h8
    obtain ⟨q_5, h6, h⟩ := bd h
    refine xv_cvo E eh8 4 (as := []) (t21 G l (c_V_some h6)) cd21 mw173 mw174 mw175 (show decode prog_7_method_4_code 11 = .ok (.invokevirtual 103, 3) by decide +kernel) th8 rfl rfl (Nat.le_of_ble_eq_true rfl) ⟨Nat.le_of_ble_eq_true rfl, Nat.le_of_ble_eq_true rfl⟩ ?_
    exact xv_w (sb22_14 E B a0 q_5 h hN) rfl
end
theorem t22 (G : gX) (l : Launch) {as : List aV} {M : hM} {r : Option aV} {M' : hM} (h : f22 as M = some (r, M')) : xM G l ym22 prog_7_method_4_code 1 none 1 as M r M' := by
  unfold f22 at h
  split at h
  · have h := x_out_ok h
    refine xM_of (by decide) (Nat.le_of_ble_eq_true rfl) (lb22_0 G l _ M h) ?_
    intro p e s m args below meth c E B
    exact sb22_0 E B _ M h rfl
  · cases h
/-! ZF.Node.loseWire()V -/
def ym23 : MethodName := ⟨"ZonedFabric$Node", "loseWire", "()V"⟩
theorem cd23 : xCd ym23 prog_7_method_5_code 1 none 0 := ⟨mw180, mw27, by decide, by decide, by decide +kernel⟩
def b23_0 (a0 : Nat) (M : hM) : Option xRes :=
  Option.bind (p_i M 5 3 (some a0) (0 : Int32)) fun M1 =>
  Option.bind (g_o M1 5 (some a0)) fun b_5 =>
  Option.bind (c_V (f22 [.inr (.inr (some b_5))] M1)) fun q_3 =>
  some (.inl (none, q_3))
def f23 (as : List aV) (M : hM) : xO := match as with
  | [.inr (.inr (some a0))] => x_out (b23_0 a0 M)
  | _ => none
theorem lb23_0 (G : gX) (l : Launch) (a0 : Nat) (M : hM) {res : xRes} (h : b23_0 a0 M = some res) : h_sz M ≤ r_sz res ∧ h_sl M ≤ r_sl res := by
  unfold b23_0 at h
  obtain ⟨M1, h2, h⟩ := bd h
  have eh2 := p_i_sz h2
  obtain ⟨b_5, h6, h⟩ := bd h
  obtain ⟨q_3, h4, h⟩ := bd h
  have eh4 := (t22 G l (c_V_some h4)).1
  obtain rfl := Option.some.inj h
  show h_sz M ≤ h_sz q_3 ∧ h_sl M ≤ h_sl q_3
  omega
section
variable {p : Program} {l : Launch} {e : Env} {s : State} {m : MethodId} {args : Array Value} {below : List Frame} {meth : Method} {c : Code} {G : gX} {z0 y0 : Nat} {r : Option aV} {M' : hM}
theorem sb23_0 (E : xE G p (xRm 2 (h_sz M' - z0) (h_sl M' - y0)) s m args c prog_7_method_5_code "ZonedFabric$Node" z0 y0 (h_sz M') (h_sl M') 1) (B : xB ym23 none meth) (a0 : Nat) (M : hM) {res : xRes} (h : b23_0 a0 M = some res) (hN : xN (fun _ _ _ => False) r M' res) : xV G p l e (xRm 2 (h_sz M' - z0) (h_sl M' - y0)) s m args below meth c z0 y0 (h_sz M') (h_sl M') 1 (MQ below (xQc G r M') args s (h_sz M' - z0) (h_sl M' - y0) (xFr G)) 0 [(0, .inr (.inr (some a0)))] [] M := by
  unfold b23_0 at h
  refine xv_b E [.aload_n 0, .iconst 0] (pc' := 2) (lv' := [(0, .inr (.inr (some a0)))]) (st' := [.inl (0 : Int32), .inr (.inr (some a0))]) (by decide +kernel) rfl rfl ?_
  obtain ⟨M1, h2, h⟩ := bd h
  refine xp_i E 5 3 h2 mw181 (show decode prog_7_method_5_code 2 = .ok (.putfield 67, 3) by decide +kernel) (Or.inl rfl) ?_
  refine xv_b E [.aload_n 0] (pc' := 6) (lv' := [(0, .inr (.inr (some a0)))]) (st' := [.inr (.inr (some a0))]) (by decide +kernel) rfl rfl ?_
  obtain ⟨b_5, h6, h⟩ := bd h
  obtain ⟨eh6, th6⟩ := g_o_some h6
  obtain ⟨q_3, h4, h⟩ := bd h
  refine xv_cvo E eh6 5 (as := []) (t22 G l (c_V_some h4)) cd22 mw182 mw183 mw184 (show decode prog_7_method_5_code 6 = .ok (.invokevirtual 100, 3) by decide +kernel) th6 rfl rfl (Nat.le_of_ble_eq_true rfl) ⟨Nat.le_of_ble_eq_true rfl, Nat.le_of_ble_eq_true rfl⟩ ?_
  obtain rfl := Option.some.inj h
  obtain ⟨rfl, rfl⟩ := Prod.mk.inj (show ((none : Option aV), q_3) = (r, M') from hN)
  exact xv_rv E B.1 B.2.1 (show decode prog_7_method_5_code 9 = .ok (.return_, 1) by decide +kernel) rfl rfl
end
theorem t23 (G : gX) (l : Launch) {as : List aV} {M : hM} {r : Option aV} {M' : hM} (h : f23 as M = some (r, M')) : xM G l ym23 prog_7_method_5_code 1 none 2 as M r M' := by
  unfold f23 at h
  split at h
  · have h := x_out_ok h
    refine xM_of (by decide) (Nat.le_of_ble_eq_true rfl) (lb23_0 G l _ M h) ?_
    intro p e s m args below meth c E B
    exact sb23_0 E B _ M h rfl
  · cases h
/-! ZF.cut(I)Z -/
def ym24 : MethodName := ⟨"ZonedFabric", "cut", "(I)Z"⟩
theorem cd24 : xCd ym24 prog_1_method_4_code 3 (some FieldType.boolean) 1 := ⟨mw185, mw71, by decide, by decide, by decide +kernel⟩
def b24_20  (M : hM) : Option xRes :=
  some (.inl (some (.inl (0 : Int32)), M))
def b24_73  (M : hM) : Option xRes :=
  some (.inl (some (.inl (1 : Int32)), M))
def b24_0 (a0 : Nat) (v1 : Int32) (M : hM) : Option xRes :=
  Option.bind (g_o M 11 (some a0)) fun b_3 =>
  Option.bind (c_I (f16 [.inr (.inr (some b_3)), .inl v1] M)) fun q_1 =>
  if q_1.1 = 0 then
    (b24_20  q_1.2)
  else
    (Option.bind (g_r q_1.2 11 3 (some a0)) fun o_5 =>
    Option.bind (al_r q_1.2 38 o_5 v1) fun o_7 =>
    Option.bind (g_i q_1.2 8 5 o_7) fun v_9 =>
    if v_9 = 0 then
      (b24_20  q_1.2)
    else
      (Option.bind (g_r q_1.2 11 3 (some a0)) fun o_11 =>
      Option.bind (al_r q_1.2 38 o_11 v1) fun o_13 =>
      Option.bind (g_o q_1.2 8 o_13) fun b_17 =>
      Option.bind (c_V (f19 [.inr (.inr (some b_17))] q_1.2)) fun q_15 =>
      Option.bind (g_r q_15 11 4 (some a0)) fun o_19 =>
      Option.bind (al_r q_15 38 o_19 v1) fun o_21 =>
      Option.bind (g_o q_15 8 o_21) fun b_25 =>
      Option.bind (c_V (f19 [.inr (.inr (some b_25))] q_15)) fun q_23 =>
      Option.bind (g_r q_23 11 4 (some a0)) fun o_27 =>
      Option.bind (al_r q_23 38 o_27 v1) fun o_29 =>
      Option.bind (g_i q_23 8 1 o_29) fun v_31 =>
      Option.bind (g_r q_23 11 0 (some a0)) fun o_33 =>
      Option.bind (g_o q_23 9 o_33) fun b_37 =>
      Option.bind (c_I (f8 [.inr (.inr (some b_37)), .inl (v_31 - (16 : Int32))] q_23)) fun q_35 =>
      if q_35.1 = 0 then
        (b24_73  q_35.2)
      else
        (Option.bind (g_r q_35.2 11 2 (some a0)) fun o_39 =>
        Option.bind (al_r q_35.2 35 o_39 (v_31 - (16 : Int32))) fun o_41 =>
        Option.bind (g_o q_35.2 5 o_41) fun b_45 =>
        Option.bind (c_V (f23 [.inr (.inr (some b_45))] q_35.2)) fun q_43 =>
        b24_73  q_43)))
def f24 (as : List aV) (M : hM) : xO := match as with
  | [.inr (.inr (some a0)), .inl v1] => x_out (b24_0 a0 v1 M)
  | _ => none
theorem lb24_20 (G : gX) (l : Launch)  (M : hM) {res : xRes} (h : b24_20  M = some res) : h_sz M ≤ r_sz res ∧ h_sl M ≤ r_sl res := by
  unfold b24_20 at h
  obtain rfl := Option.some.inj h
  show h_sz M ≤ h_sz M ∧ h_sl M ≤ h_sl M
  omega
theorem lb24_73 (G : gX) (l : Launch)  (M : hM) {res : xRes} (h : b24_73  M = some res) : h_sz M ≤ r_sz res ∧ h_sl M ≤ r_sl res := by
  unfold b24_73 at h
  obtain rfl := Option.some.inj h
  show h_sz M ≤ h_sz M ∧ h_sl M ≤ h_sl M
  omega
theorem lb24_0 (G : gX) (l : Launch) (a0 : Nat) (v1 : Int32) (M : hM) {res : xRes} (h : b24_0 a0 v1 M = some res) : h_sz M ≤ r_sz res ∧ h_sl M ≤ r_sl res := by
  unfold b24_0 at h
  obtain ⟨b_3, h4, h⟩ := bd h
  obtain ⟨q_1, h2, h⟩ := bd h
  have eh2 := (t16 G l (c_I_some h2)).1
  by_cases q49 : q_1.1 = 0
  · rw [if_pos q49] at h
    have e := lb24_20 G l  q_1.2 h
    omega
  · rw [if_neg q49] at h
    obtain ⟨o_5, h6, h⟩ := bd h
    obtain ⟨o_7, h8, h⟩ := bd h
    obtain ⟨v_9, h10, h⟩ := bd h
    by_cases q48 : v_9 = 0
    · rw [if_pos q48] at h
      have e := lb24_20 G l  q_1.2 h
      omega
    · rw [if_neg q48] at h
      obtain ⟨o_11, h12, h⟩ := bd h
      obtain ⟨o_13, h14, h⟩ := bd h
      obtain ⟨b_17, h18, h⟩ := bd h
      obtain ⟨q_15, h16, h⟩ := bd h
      have eh16 := (t19 G l (c_V_some h16)).1
      obtain ⟨o_19, h20, h⟩ := bd h
      obtain ⟨o_21, h22, h⟩ := bd h
      obtain ⟨b_25, h26, h⟩ := bd h
      obtain ⟨q_23, h24, h⟩ := bd h
      have eh24 := (t19 G l (c_V_some h24)).1
      obtain ⟨o_27, h28, h⟩ := bd h
      obtain ⟨o_29, h30, h⟩ := bd h
      obtain ⟨v_31, h32, h⟩ := bd h
      obtain ⟨o_33, h34, h⟩ := bd h
      obtain ⟨b_37, h38, h⟩ := bd h
      obtain ⟨q_35, h36, h⟩ := bd h
      have eh36 := (t8 G l (c_I_some h36)).1
      by_cases q47 : q_35.1 = 0
      · rw [if_pos q47] at h
        have e := lb24_73 G l  q_35.2 h
        omega
      · rw [if_neg q47] at h
        obtain ⟨o_39, h40, h⟩ := bd h
        obtain ⟨o_41, h42, h⟩ := bd h
        obtain ⟨b_45, h46, h⟩ := bd h
        obtain ⟨q_43, h44, h⟩ := bd h
        have eh44 := (t23 G l (c_V_some h44)).1
        have e := lb24_73 G l  q_43 h
        omega
section
variable {p : Program} {l : Launch} {e : Env} {s : State} {m : MethodId} {args : Array Value} {below : List Frame} {meth : Method} {c : Code} {G : gX} {z0 y0 : Nat} {r : Option aV} {M' : hM}
theorem sb24_20 (E : xE G p (xRm 3 (h_sz M' - z0) (h_sl M' - y0)) s m args c prog_1_method_4_code "ZonedFabric" z0 y0 (h_sz M') (h_sl M') 3) (B : xB ym24 (some FieldType.boolean) meth)  (M : hM) {res : xRes} (h : b24_20  M = some res) (hN : xN (fun _ _ _ => False) r M' res) : xV G p l e (xRm 3 (h_sz M' - z0) (h_sl M' - y0)) s m args below meth c z0 y0 (h_sz M') (h_sl M') 3 (MQ below (xQc G r M') args s (h_sz M' - z0) (h_sl M' - y0) (xFr G)) 20 [] [] M := by
  unfold b24_20 at h
  refine xv_b E [.iconst 0] (pc' := 21) (lv' := []) (st' := [.inl (0 : Int32)]) (by decide +kernel) rfl rfl ?_
  obtain rfl := Option.some.inj h
  obtain ⟨rfl, rfl⟩ := Prod.mk.inj (show ((some (.inl (0 : Int32)) : Option aV), M) = (r, M') from hN)
  exact xv_ri E B.1 rfl B.2.1 (show decode prog_1_method_4_code 21 = .ok (.ireturn, 1) by decide +kernel) rfl rfl
theorem sb24_73 (E : xE G p (xRm 3 (h_sz M' - z0) (h_sl M' - y0)) s m args c prog_1_method_4_code "ZonedFabric" z0 y0 (h_sz M') (h_sl M') 3) (B : xB ym24 (some FieldType.boolean) meth)  (M : hM) {res : xRes} (h : b24_73  M = some res) (hN : xN (fun _ _ _ => False) r M' res) : xV G p l e (xRm 3 (h_sz M' - z0) (h_sl M' - y0)) s m args below meth c z0 y0 (h_sz M') (h_sl M') 3 (MQ below (xQc G r M') args s (h_sz M' - z0) (h_sl M' - y0) (xFr G)) 73 [] [] M := by
  unfold b24_73 at h
  refine xv_b E [.iconst 1] (pc' := 74) (lv' := []) (st' := [.inl (1 : Int32)]) (by decide +kernel) rfl rfl ?_
  obtain rfl := Option.some.inj h
  obtain ⟨rfl, rfl⟩ := Prod.mk.inj (show ((some (.inl (1 : Int32)) : Option aV), M) = (r, M') from hN)
  exact xv_ri E B.1 rfl B.2.1 (show decode prog_1_method_4_code 74 = .ok (.ireturn, 1) by decide +kernel) rfl rfl
theorem sb24_0 (E : xE G p (xRm 3 (h_sz M' - z0) (h_sl M' - y0)) s m args c prog_1_method_4_code "ZonedFabric" z0 y0 (h_sz M') (h_sl M') 3) (B : xB ym24 (some FieldType.boolean) meth) (a0 : Nat) (v1 : Int32) (M : hM) {res : xRes} (h : b24_0 a0 v1 M = some res) (hN : xN (fun _ _ _ => False) r M' res) : xV G p l e (xRm 3 (h_sz M' - z0) (h_sl M' - y0)) s m args below meth c z0 y0 (h_sz M') (h_sl M') 3 (MQ below (xQc G r M') args s (h_sz M' - z0) (h_sl M' - y0) (xFr G)) 0 [(0, .inr (.inr (some a0))), (1, .inl v1)] [] M := by
  unfold b24_0 at h
  refine xv_b E [.aload_n 0, .iload_n 1] (pc' := 2) (lv' := [(0, .inr (.inr (some a0))), (1, .inl v1)]) (st' := [.inl v1, .inr (.inr (some a0))]) (by decide +kernel) rfl rfl ?_
  obtain ⟨b_3, h4, h⟩ := bd h
  obtain ⟨eh4, th4⟩ := g_o_some h4
  obtain ⟨q_1, h2, h⟩ := bd h
  refine xv_cvo E eh4 11 (as := [.inl v1]) (t16 G l (c_I_some h2)) cd16 mw186 mw187 mw188 (show decode prog_1_method_4_code 2 = .ok (.invokevirtual 97, 3) by decide +kernel) th4 rfl rfl (Nat.le_of_ble_eq_true rfl) ⟨Nat.le_of_ble_eq_true rfl, Nat.le_of_ble_eq_true rfl⟩ ?_
  by_cases q49 : q_1.1 = 0
  · rw [if_pos q49] at h
    refine xv_if_eq E 20 (show decode prog_1_method_4_code 5 = .ok (.ifCond .eq (15), 3) by decide +kernel) rfl (fun _ => ?_) (fun z => absurd q49 z)
    exact xv_w (sb24_20 E B  q_1.2 h hN) rfl
  · rw [if_neg q49] at h
    refine xv_if_eq E 20 (show decode prog_1_method_4_code 5 = .ok (.ifCond .eq (15), 3) by decide +kernel) rfl (fun z => absurd z q49) (fun _ => ?_)
    refine xv_b E [.aload_n 0] (pc' := 9) (lv' := [(0, .inr (.inr (some a0))), (1, .inl v1)]) (st' := [.inr (.inr (some a0))]) (by decide +kernel) rfl rfl ?_
    obtain ⟨o_5, h6, h⟩ := bd h
    refine xg_r E 11 3 h6 mw73 (show decode prog_1_method_4_code 9 = .ok (.getfield 11, 3) by decide +kernel) ?_
    refine xv_b E [.iload_n 1] (pc' := 13) (lv' := [(0, .inr (.inr (some a0))), (1, .inl v1)]) (st' := [.inl v1, .inr (.inr o_5)]) (by decide +kernel) rfl rfl ?_
    obtain ⟨o_7, h8, h⟩ := bd h
    refine xa_r E 38 h8 (show decode prog_1_method_4_code 13 = .ok (.aaload, 1) by decide +kernel) ?_
    obtain ⟨v_9, h10, h⟩ := bd h
    refine xg_i E 8 5 h10 mw189 (show decode prog_1_method_4_code 14 = .ok (.getfield 100, 3) by decide +kernel) ?_
    by_cases q48 : v_9 = 0
    · rw [if_pos q48] at h
      refine xv_if_ne E 22 (show decode prog_1_method_4_code 17 = .ok (.ifCond .ne (5), 3) by decide +kernel) rfl (fun z => absurd q48 z) (fun _ => ?_)
      exact xv_w (sb24_20 E B  q_1.2 h hN) rfl
    · rw [if_neg q48] at h
      refine xv_if_ne E 22 (show decode prog_1_method_4_code 17 = .ok (.ifCond .ne (5), 3) by decide +kernel) rfl (fun _ => ?_) (fun z => absurd z q48)
      refine xv_b E [.aload_n 0] (pc' := 23) (lv' := [(0, .inr (.inr (some a0))), (1, .inl v1)]) (st' := [.inr (.inr (some a0))]) (by decide +kernel) rfl rfl ?_
      obtain ⟨o_11, h12, h⟩ := bd h
      refine xg_r E 11 3 h12 mw73 (show decode prog_1_method_4_code 23 = .ok (.getfield 11, 3) by decide +kernel) ?_
      refine xv_b E [.iload_n 1] (pc' := 27) (lv' := [(0, .inr (.inr (some a0))), (1, .inl v1)]) (st' := [.inl v1, .inr (.inr o_11)]) (by decide +kernel) rfl rfl ?_
      obtain ⟨o_13, h14, h⟩ := bd h
      refine xa_r E 38 h14 (show decode prog_1_method_4_code 27 = .ok (.aaload, 1) by decide +kernel) ?_
      obtain ⟨b_17, h18, h⟩ := bd h
      obtain ⟨eh18, th18⟩ := g_o_some h18
      obtain ⟨q_15, h16, h⟩ := bd h
      refine xv_cvo E eh18 8 (as := []) (t19 G l (c_V_some h16)) cd19 mw190 mw191 mw192 (show decode prog_1_method_4_code 28 = .ok (.invokevirtual 103, 3) by decide +kernel) th18 rfl rfl (Nat.le_of_ble_eq_true rfl) ⟨Nat.le_of_ble_eq_true rfl, Nat.le_of_ble_eq_true rfl⟩ ?_
      refine xv_b E [.aload_n 0] (pc' := 32) (lv' := [(0, .inr (.inr (some a0))), (1, .inl v1)]) (st' := [.inr (.inr (some a0))]) (by decide +kernel) rfl rfl ?_
      obtain ⟨o_19, h20, h⟩ := bd h
      refine xg_r E 11 4 h20 mw74 (show decode prog_1_method_4_code 32 = .ok (.getfield 15, 3) by decide +kernel) ?_
      refine xv_b E [.iload_n 1] (pc' := 36) (lv' := [(0, .inr (.inr (some a0))), (1, .inl v1)]) (st' := [.inl v1, .inr (.inr o_19)]) (by decide +kernel) rfl rfl ?_
      obtain ⟨o_21, h22, h⟩ := bd h
      refine xa_r E 38 h22 (show decode prog_1_method_4_code 36 = .ok (.aaload, 1) by decide +kernel) ?_
      obtain ⟨b_25, h26, h⟩ := bd h
      obtain ⟨eh26, th26⟩ := g_o_some h26
      obtain ⟨q_23, h24, h⟩ := bd h
      refine xv_cvo E eh26 8 (as := []) (t19 G l (c_V_some h24)) cd19 mw190 mw191 mw192 (show decode prog_1_method_4_code 37 = .ok (.invokevirtual 103, 3) by decide +kernel) th26 rfl rfl (Nat.le_of_ble_eq_true rfl) ⟨Nat.le_of_ble_eq_true rfl, Nat.le_of_ble_eq_true rfl⟩ ?_
      refine xv_b E [.aload_n 0] (pc' := 41) (lv' := [(0, .inr (.inr (some a0))), (1, .inl v1)]) (st' := [.inr (.inr (some a0))]) (by decide +kernel) rfl rfl ?_
      obtain ⟨o_27, h28, h⟩ := bd h
      refine xg_r E 11 4 h28 mw74 (show decode prog_1_method_4_code 41 = .ok (.getfield 15, 3) by decide +kernel) ?_
      refine xv_b E [.iload_n 1] (pc' := 45) (lv' := [(0, .inr (.inr (some a0))), (1, .inl v1)]) (st' := [.inl v1, .inr (.inr o_27)]) (by decide +kernel) rfl rfl ?_
      obtain ⟨o_29, h30, h⟩ := bd h
      refine xa_r E 38 h30 (show decode prog_1_method_4_code 45 = .ok (.aaload, 1) by decide +kernel) ?_
      obtain ⟨v_31, h32, h⟩ := bd h
      refine xg_i E 8 1 h32 mw193 (show decode prog_1_method_4_code 46 = .ok (.getfield 106, 3) by decide +kernel) ?_
      refine xv_b E [.bipush 16, .isub, .istore_n 2, .aload_n 0] (pc' := 54) (lv' := [(2, .inl (v_31 - (16 : Int32))), (0, .inr (.inr (some a0))), (1, .inl v1)]) (st' := [.inr (.inr (some a0))]) (by decide +kernel) rfl rfl ?_
      obtain ⟨o_33, h34, h⟩ := bd h
      refine xg_r E 11 0 h34 mw82 (show decode prog_1_method_4_code 54 = .ok (.getfield 29, 3) by decide +kernel) ?_
      refine xv_b E [.iload_n 2] (pc' := 58) (lv' := [(2, .inl (v_31 - (16 : Int32))), (0, .inr (.inr (some a0))), (1, .inl v1)]) (st' := [.inl (v_31 - (16 : Int32)), .inr (.inr o_33)]) (by decide +kernel) rfl rfl ?_
      obtain ⟨b_37, h38, h⟩ := bd h
      obtain ⟨eh38, th38⟩ := g_o_some h38
      obtain ⟨q_35, h36, h⟩ := bd h
      refine xv_cvo E eh38 9 (as := [.inl (v_31 - (16 : Int32))]) (t8 G l (c_I_some h36)) cd8 mw116 mw117 mw118 (show decode prog_1_method_4_code 58 = .ok (.invokevirtual 58, 3) by decide +kernel) th38 rfl rfl (Nat.le_of_ble_eq_true rfl) ⟨Nat.le_of_ble_eq_true rfl, Nat.le_of_ble_eq_true rfl⟩ ?_
      by_cases q47 : q_35.1 = 0
      · rw [if_pos q47] at h
        refine xv_if_eq E 73 (show decode prog_1_method_4_code 61 = .ok (.ifCond .eq (12), 3) by decide +kernel) rfl (fun _ => ?_) (fun z => absurd q47 z)
        exact xv_w (sb24_73 E B  q_35.2 h hN) rfl
      · rw [if_neg q47] at h
        refine xv_if_eq E 73 (show decode prog_1_method_4_code 61 = .ok (.ifCond .eq (12), 3) by decide +kernel) rfl (fun z => absurd z q47) (fun _ => ?_)
        refine xv_b E [.aload_n 0] (pc' := 65) (lv' := [(2, .inl (v_31 - (16 : Int32))), (0, .inr (.inr (some a0))), (1, .inl v1)]) (st' := [.inr (.inr (some a0))]) (by decide +kernel) rfl rfl ?_
        obtain ⟨o_39, h40, h⟩ := bd h
        refine xg_r E 11 2 h40 mw86 (show decode prog_1_method_4_code 65 = .ok (.getfield 44, 3) by decide +kernel) ?_
        refine xv_b E [.iload_n 2] (pc' := 69) (lv' := [(2, .inl (v_31 - (16 : Int32))), (0, .inr (.inr (some a0))), (1, .inl v1)]) (st' := [.inl (v_31 - (16 : Int32)), .inr (.inr o_39)]) (by decide +kernel) rfl rfl ?_
        obtain ⟨o_41, h42, h⟩ := bd h
        refine xa_r E 35 h42 (show decode prog_1_method_4_code 69 = .ok (.aaload, 1) by decide +kernel) ?_
        obtain ⟨b_45, h46, h⟩ := bd h
        obtain ⟨eh46, th46⟩ := g_o_some h46
        obtain ⟨q_43, h44, h⟩ := bd h
        refine xv_cvo E eh46 5 (as := []) (t23 G l (c_V_some h44)) cd23 mw194 mw195 mw196 (show decode prog_1_method_4_code 70 = .ok (.invokevirtual 109, 3) by decide +kernel) th46 rfl rfl (Nat.le_of_ble_eq_true rfl) ⟨Nat.le_of_ble_eq_true rfl, Nat.le_of_ble_eq_true rfl⟩ ?_
        exact xv_w (sb24_73 E B  q_43 h hN) rfl
end
theorem t24 (G : gX) (l : Launch) {as : List aV} {M : hM} {r : Option aV} {M' : hM} (h : f24 as M = some (r, M')) : xM G l ym24 prog_1_method_4_code 3 (some FieldType.boolean) 3 as M r M' := by
  unfold f24 at h
  split at h
  · have h := x_out_ok h
    refine xM_of (by decide) (Nat.le_of_ble_eq_true rfl) (lb24_0 G l _ _ M h) ?_
    intro p e s m args below meth c E B
    exact sb24_0 E B _ _ M h rfl
  · cases h
/-! ZF.join(I)Z -/
def ym25 : MethodName := ⟨"ZonedFabric", "join", "(I)Z"⟩
theorem cd25 : xCd ym25 prog_1_method_5_code 2 (some FieldType.boolean) 1 := ⟨mw197, mw71, by decide, by decide, by decide +kernel⟩
def b25_20  (M : hM) : Option xRes :=
  some (.inl (some (.inl (0 : Int32)), M))
def b25_0 (a0 : Nat) (v1 : Int32) (M : hM) : Option xRes :=
  Option.bind (g_o M 11 (some a0)) fun b_3 =>
  Option.bind (c_I (f16 [.inr (.inr (some b_3)), .inl v1] M)) fun q_1 =>
  if q_1.1 = 0 then
    (b25_20  q_1.2)
  else
    (Option.bind (g_r q_1.2 11 3 (some a0)) fun o_5 =>
    Option.bind (al_r q_1.2 38 o_5 v1) fun o_7 =>
    Option.bind (g_i q_1.2 8 5 o_7) fun v_9 =>
    if v_9 = 0 then
      (Option.bind (g_r q_1.2 11 3 (some a0)) fun o_11 =>
      Option.bind (al_r q_1.2 38 o_11 v1) fun o_13 =>
      Option.bind (g_o q_1.2 8 o_13) fun b_17 =>
      Option.bind (c_V (f14 [.inr (.inr (some b_17))] q_1.2)) fun q_15 =>
      Option.bind (g_r q_15 11 4 (some a0)) fun o_19 =>
      Option.bind (al_r q_15 38 o_19 v1) fun o_21 =>
      Option.bind (g_o q_15 8 o_21) fun b_25 =>
      Option.bind (c_V (f14 [.inr (.inr (some b_25))] q_15)) fun q_23 =>
      some (.inl (some (.inl (1 : Int32)), q_23)))
    else
      (b25_20  q_1.2))
def f25 (as : List aV) (M : hM) : xO := match as with
  | [.inr (.inr (some a0)), .inl v1] => x_out (b25_0 a0 v1 M)
  | _ => none
theorem lb25_20 (G : gX) (l : Launch)  (M : hM) {res : xRes} (h : b25_20  M = some res) : h_sz M ≤ r_sz res ∧ h_sl M ≤ r_sl res := by
  unfold b25_20 at h
  obtain rfl := Option.some.inj h
  show h_sz M ≤ h_sz M ∧ h_sl M ≤ h_sl M
  omega
theorem lb25_0 (G : gX) (l : Launch) (a0 : Nat) (v1 : Int32) (M : hM) {res : xRes} (h : b25_0 a0 v1 M = some res) : h_sz M ≤ r_sz res ∧ h_sl M ≤ r_sl res := by
  unfold b25_0 at h
  obtain ⟨b_3, h4, h⟩ := bd h
  obtain ⟨q_1, h2, h⟩ := bd h
  have eh2 := (t16 G l (c_I_some h2)).1
  by_cases q28 : q_1.1 = 0
  · rw [if_pos q28] at h
    have e := lb25_20 G l  q_1.2 h
    omega
  · rw [if_neg q28] at h
    obtain ⟨o_5, h6, h⟩ := bd h
    obtain ⟨o_7, h8, h⟩ := bd h
    obtain ⟨v_9, h10, h⟩ := bd h
    by_cases q27 : v_9 = 0
    · rw [if_pos q27] at h
      obtain ⟨o_11, h12, h⟩ := bd h
      obtain ⟨o_13, h14, h⟩ := bd h
      obtain ⟨b_17, h18, h⟩ := bd h
      obtain ⟨q_15, h16, h⟩ := bd h
      have eh16 := (t14 G l (c_V_some h16)).1
      obtain ⟨o_19, h20, h⟩ := bd h
      obtain ⟨o_21, h22, h⟩ := bd h
      obtain ⟨b_25, h26, h⟩ := bd h
      obtain ⟨q_23, h24, h⟩ := bd h
      have eh24 := (t14 G l (c_V_some h24)).1
      obtain rfl := Option.some.inj h
      show h_sz M ≤ h_sz q_23 ∧ h_sl M ≤ h_sl q_23
      omega
    · rw [if_neg q27] at h
      have e := lb25_20 G l  q_1.2 h
      omega
section
variable {p : Program} {l : Launch} {e : Env} {s : State} {m : MethodId} {args : Array Value} {below : List Frame} {meth : Method} {c : Code} {G : gX} {z0 y0 : Nat} {r : Option aV} {M' : hM}
theorem sb25_20 (E : xE G p (xRm 1 (h_sz M' - z0) (h_sl M' - y0)) s m args c prog_1_method_5_code "ZonedFabric" z0 y0 (h_sz M') (h_sl M') 2) (B : xB ym25 (some FieldType.boolean) meth)  (M : hM) {res : xRes} (h : b25_20  M = some res) (hN : xN (fun _ _ _ => False) r M' res) : xV G p l e (xRm 1 (h_sz M' - z0) (h_sl M' - y0)) s m args below meth c z0 y0 (h_sz M') (h_sl M') 2 (MQ below (xQc G r M') args s (h_sz M' - z0) (h_sl M' - y0) (xFr G)) 20 [] [] M := by
  unfold b25_20 at h
  refine xv_b E [.iconst 0] (pc' := 21) (lv' := []) (st' := [.inl (0 : Int32)]) (by decide +kernel) rfl rfl ?_
  obtain rfl := Option.some.inj h
  obtain ⟨rfl, rfl⟩ := Prod.mk.inj (show ((some (.inl (0 : Int32)) : Option aV), M) = (r, M') from hN)
  exact xv_ri E B.1 rfl B.2.1 (show decode prog_1_method_5_code 21 = .ok (.ireturn, 1) by decide +kernel) rfl rfl
theorem sb25_0 (E : xE G p (xRm 1 (h_sz M' - z0) (h_sl M' - y0)) s m args c prog_1_method_5_code "ZonedFabric" z0 y0 (h_sz M') (h_sl M') 2) (B : xB ym25 (some FieldType.boolean) meth) (a0 : Nat) (v1 : Int32) (M : hM) {res : xRes} (h : b25_0 a0 v1 M = some res) (hN : xN (fun _ _ _ => False) r M' res) : xV G p l e (xRm 1 (h_sz M' - z0) (h_sl M' - y0)) s m args below meth c z0 y0 (h_sz M') (h_sl M') 2 (MQ below (xQc G r M') args s (h_sz M' - z0) (h_sl M' - y0) (xFr G)) 0 [(0, .inr (.inr (some a0))), (1, .inl v1)] [] M := by
  unfold b25_0 at h
  refine xv_b E [.aload_n 0, .iload_n 1] (pc' := 2) (lv' := [(0, .inr (.inr (some a0))), (1, .inl v1)]) (st' := [.inl v1, .inr (.inr (some a0))]) (by decide +kernel) rfl rfl ?_
  obtain ⟨b_3, h4, h⟩ := bd h
  obtain ⟨eh4, th4⟩ := g_o_some h4
  obtain ⟨q_1, h2, h⟩ := bd h
  refine xv_cvo E eh4 11 (as := [.inl v1]) (t16 G l (c_I_some h2)) cd16 mw186 mw187 mw188 (show decode prog_1_method_5_code 2 = .ok (.invokevirtual 97, 3) by decide +kernel) th4 rfl rfl (Nat.le_of_ble_eq_true rfl) ⟨Nat.le_of_ble_eq_true rfl, Nat.le_of_ble_eq_true rfl⟩ ?_
  by_cases q28 : q_1.1 = 0
  · rw [if_pos q28] at h
    refine xv_if_eq E 20 (show decode prog_1_method_5_code 5 = .ok (.ifCond .eq (15), 3) by decide +kernel) rfl (fun _ => ?_) (fun z => absurd q28 z)
    exact xv_w (sb25_20 E B  q_1.2 h hN) rfl
  · rw [if_neg q28] at h
    refine xv_if_eq E 20 (show decode prog_1_method_5_code 5 = .ok (.ifCond .eq (15), 3) by decide +kernel) rfl (fun z => absurd z q28) (fun _ => ?_)
    refine xv_b E [.aload_n 0] (pc' := 9) (lv' := [(0, .inr (.inr (some a0))), (1, .inl v1)]) (st' := [.inr (.inr (some a0))]) (by decide +kernel) rfl rfl ?_
    obtain ⟨o_5, h6, h⟩ := bd h
    refine xg_r E 11 3 h6 mw73 (show decode prog_1_method_5_code 9 = .ok (.getfield 11, 3) by decide +kernel) ?_
    refine xv_b E [.iload_n 1] (pc' := 13) (lv' := [(0, .inr (.inr (some a0))), (1, .inl v1)]) (st' := [.inl v1, .inr (.inr o_5)]) (by decide +kernel) rfl rfl ?_
    obtain ⟨o_7, h8, h⟩ := bd h
    refine xa_r E 38 h8 (show decode prog_1_method_5_code 13 = .ok (.aaload, 1) by decide +kernel) ?_
    obtain ⟨v_9, h10, h⟩ := bd h
    refine xg_i E 8 5 h10 mw189 (show decode prog_1_method_5_code 14 = .ok (.getfield 100, 3) by decide +kernel) ?_
    by_cases q27 : v_9 = 0
    · rw [if_pos q27] at h
      refine xv_if_eq E 22 (show decode prog_1_method_5_code 17 = .ok (.ifCond .eq (5), 3) by decide +kernel) rfl (fun _ => ?_) (fun z => absurd q27 z)
      refine xv_b E [.aload_n 0] (pc' := 23) (lv' := [(0, .inr (.inr (some a0))), (1, .inl v1)]) (st' := [.inr (.inr (some a0))]) (by decide +kernel) rfl rfl ?_
      obtain ⟨o_11, h12, h⟩ := bd h
      refine xg_r E 11 3 h12 mw73 (show decode prog_1_method_5_code 23 = .ok (.getfield 11, 3) by decide +kernel) ?_
      refine xv_b E [.iload_n 1] (pc' := 27) (lv' := [(0, .inr (.inr (some a0))), (1, .inl v1)]) (st' := [.inl v1, .inr (.inr o_11)]) (by decide +kernel) rfl rfl ?_
      obtain ⟨o_13, h14, h⟩ := bd h
      refine xa_r E 38 h14 (show decode prog_1_method_5_code 27 = .ok (.aaload, 1) by decide +kernel) ?_
      obtain ⟨b_17, h18, h⟩ := bd h
      obtain ⟨eh18, th18⟩ := g_o_some h18
      obtain ⟨q_15, h16, h⟩ := bd h
      refine xv_cvo E eh18 8 (as := []) (t14 G l (c_V_some h16)) cd14 mw143 mw144 mw145 (show decode prog_1_method_5_code 28 = .ok (.invokevirtual 94, 3) by decide +kernel) th18 rfl rfl (Nat.le_of_ble_eq_true rfl) ⟨Nat.le_of_ble_eq_true rfl, Nat.le_of_ble_eq_true rfl⟩ ?_
      refine xv_b E [.aload_n 0] (pc' := 32) (lv' := [(0, .inr (.inr (some a0))), (1, .inl v1)]) (st' := [.inr (.inr (some a0))]) (by decide +kernel) rfl rfl ?_
      obtain ⟨o_19, h20, h⟩ := bd h
      refine xg_r E 11 4 h20 mw74 (show decode prog_1_method_5_code 32 = .ok (.getfield 15, 3) by decide +kernel) ?_
      refine xv_b E [.iload_n 1] (pc' := 36) (lv' := [(0, .inr (.inr (some a0))), (1, .inl v1)]) (st' := [.inl v1, .inr (.inr o_19)]) (by decide +kernel) rfl rfl ?_
      obtain ⟨o_21, h22, h⟩ := bd h
      refine xa_r E 38 h22 (show decode prog_1_method_5_code 36 = .ok (.aaload, 1) by decide +kernel) ?_
      obtain ⟨b_25, h26, h⟩ := bd h
      obtain ⟨eh26, th26⟩ := g_o_some h26
      obtain ⟨q_23, h24, h⟩ := bd h
      refine xv_cvo E eh26 8 (as := []) (t14 G l (c_V_some h24)) cd14 mw143 mw144 mw145 (show decode prog_1_method_5_code 37 = .ok (.invokevirtual 94, 3) by decide +kernel) th26 rfl rfl (Nat.le_of_ble_eq_true rfl) ⟨Nat.le_of_ble_eq_true rfl, Nat.le_of_ble_eq_true rfl⟩ ?_
      refine xv_b E [.iconst 1] (pc' := 41) (lv' := [(0, .inr (.inr (some a0))), (1, .inl v1)]) (st' := [.inl (1 : Int32)]) (by decide +kernel) rfl rfl ?_
      obtain rfl := Option.some.inj h
      obtain ⟨rfl, rfl⟩ := Prod.mk.inj (show ((some (.inl (1 : Int32)) : Option aV), q_23) = (r, M') from hN)
      exact xv_ri E B.1 rfl B.2.1 (show decode prog_1_method_5_code 41 = .ok (.ireturn, 1) by decide +kernel) rfl rfl
    · rw [if_neg q27] at h
      refine xv_if_eq E 22 (show decode prog_1_method_5_code 17 = .ok (.ifCond .eq (5), 3) by decide +kernel) rfl (fun z => absurd z q27) (fun _ => ?_)
      exact xv_w (sb25_20 E B  q_1.2 h hN) rfl
end
theorem t25 (G : gX) (l : Launch) {as : List aV} {M : hM} {r : Option aV} {M' : hM} (h : f25 as M = some (r, M')) : xM G l ym25 prog_1_method_5_code 2 (some FieldType.boolean) 1 as M r M' := by
  unfold f25 at h
  split at h
  · have h := x_out_ok h
    refine xM_of (by decide) (Nat.le_of_ble_eq_true rfl) (lb25_0 G l _ _ M h) ?_
    intro p e s m args below meth c E B
    exact sb25_0 E B _ _ M h rfl
  · cases h
/-! ZF.zone(IIZ)Z -/
def ym26 : MethodName := ⟨"ZonedFabric", "zone", "(IIZ)Z"⟩
theorem cd26 : xCd ym26 prog_1_method_6_code 5 (some FieldType.boolean) 3 := ⟨mw198, mw71, by decide, by decide, by decide +kernel⟩
def b26_21  (M : hM) : Option xRes :=
  some (.inl (some (.inl (0 : Int32)), M))
def b26_69 (si0 : Int32) (si1 : Int32) (sr2 : Option Nat) (M : hM) : Option xRes :=
  Option.bind (as_i M 20 sr2 si1 si0) fun M27 =>
  some (.inl (some (.inl (1 : Int32)), M27))
def b26_0 (a0 : Nat) (v1 : Int32) (v2 : Int32) (v3 : Int32) (M : hM) : Option xRes :=
  if v1 < 0 then
    (b26_21  M)
  else
    (if (8 : Int32) ≤ v1 then
      (b26_21  M)
    else
      (Option.bind (g_r M 11 0 (some a0)) fun o_1 =>
      Option.bind (g_o M 9 o_1) fun b_5 =>
      Option.bind (c_I (f8 [.inr (.inr (some b_5)), .inl v2] M)) fun q_3 =>
      if q_3.1 = 0 then
        (b26_21  q_3.2)
      else
        (Option.bind (g_r q_3.2 11 0 (some a0)) fun o_7 =>
        Option.bind (g_r q_3.2 9 5 o_7) fun o_9 =>
        if v3 = 0 then
          (Option.bind (g_r q_3.2 11 0 (some a0)) fun o_11 =>
          Option.bind (g_r q_3.2 9 5 o_11) fun o_13 =>
          Option.bind (al_i q_3.2 20 o_13 v1) fun v_15 =>
          b26_69 (v_15 &&& (((1 : Int32) <<< (v2 &&& 31)) ^^^ (-1 : Int32))) v1 o_9 q_3.2)
        else
          (Option.bind (g_r q_3.2 11 0 (some a0)) fun o_17 =>
          Option.bind (g_r q_3.2 9 5 o_17) fun o_19 =>
          Option.bind (al_i q_3.2 20 o_19 v1) fun v_21 =>
          b26_69 (v_21 ||| ((1 : Int32) <<< (v2 &&& 31))) v1 o_9 q_3.2))))
def f26 (as : List aV) (M : hM) : xO := match as with
  | [.inr (.inr (some a0)), .inl v1, .inl v2, .inl v3] => x_out (b26_0 a0 v1 v2 v3 M)
  | _ => none
theorem lb26_21 (G : gX) (l : Launch)  (M : hM) {res : xRes} (h : b26_21  M = some res) : h_sz M ≤ r_sz res ∧ h_sl M ≤ r_sl res := by
  unfold b26_21 at h
  obtain rfl := Option.some.inj h
  show h_sz M ≤ h_sz M ∧ h_sl M ≤ h_sl M
  omega
theorem lb26_69 (G : gX) (l : Launch) (si0 : Int32) (si1 : Int32) (sr2 : Option Nat) (M : hM) {res : xRes} (h : b26_69 si0 si1 sr2 M = some res) : h_sz M ≤ r_sz res ∧ h_sl M ≤ r_sl res := by
  unfold b26_69 at h
  obtain ⟨M27, h28, h⟩ := bd h
  have eh28 := as_i_sz h28
  obtain rfl := Option.some.inj h
  show h_sz M ≤ h_sz M27 ∧ h_sl M ≤ h_sl M27
  omega
theorem lb26_0 (G : gX) (l : Launch) (a0 : Nat) (v1 : Int32) (v2 : Int32) (v3 : Int32) (M : hM) {res : xRes} (h : b26_0 a0 v1 v2 v3 M = some res) : h_sz M ≤ r_sz res ∧ h_sl M ≤ r_sl res := by
  unfold b26_0 at h
  by_cases q26 : v1 < 0
  · rw [if_pos q26] at h
    have e := lb26_21 G l  M h
    omega
  · rw [if_neg q26] at h
    by_cases q25 : (8 : Int32) ≤ v1
    · rw [if_pos q25] at h
      have e := lb26_21 G l  M h
      omega
    · rw [if_neg q25] at h
      obtain ⟨o_1, h2, h⟩ := bd h
      obtain ⟨b_5, h6, h⟩ := bd h
      obtain ⟨q_3, h4, h⟩ := bd h
      have eh4 := (t8 G l (c_I_some h4)).1
      by_cases q24 : q_3.1 = 0
      · rw [if_pos q24] at h
        have e := lb26_21 G l  q_3.2 h
        omega
      · rw [if_neg q24] at h
        obtain ⟨o_7, h8, h⟩ := bd h
        obtain ⟨o_9, h10, h⟩ := bd h
        by_cases q23 : v3 = 0
        · rw [if_pos q23] at h
          obtain ⟨o_11, h12, h⟩ := bd h
          obtain ⟨o_13, h14, h⟩ := bd h
          obtain ⟨v_15, h16, h⟩ := bd h
          have e := lb26_69 G l (v_15 &&& (((1 : Int32) <<< (v2 &&& 31)) ^^^ (-1 : Int32))) v1 o_9 q_3.2 h
          omega
        · rw [if_neg q23] at h
          obtain ⟨o_17, h18, h⟩ := bd h
          obtain ⟨o_19, h20, h⟩ := bd h
          obtain ⟨v_21, h22, h⟩ := bd h
          have e := lb26_69 G l (v_21 ||| ((1 : Int32) <<< (v2 &&& 31))) v1 o_9 q_3.2 h
          omega
section
variable {p : Program} {l : Launch} {e : Env} {s : State} {m : MethodId} {args : Array Value} {below : List Frame} {meth : Method} {c : Code} {G : gX} {z0 y0 : Nat} {r : Option aV} {M' : hM}
theorem sb26_21 (E : xE G p (xRm 1 (h_sz M' - z0) (h_sl M' - y0)) s m args c prog_1_method_6_code "ZonedFabric" z0 y0 (h_sz M') (h_sl M') 5) (B : xB ym26 (some FieldType.boolean) meth)  (M : hM) {res : xRes} (h : b26_21  M = some res) (hN : xN (fun _ _ _ => False) r M' res) : xV G p l e (xRm 1 (h_sz M' - z0) (h_sl M' - y0)) s m args below meth c z0 y0 (h_sz M') (h_sl M') 5 (MQ below (xQc G r M') args s (h_sz M' - z0) (h_sl M' - y0) (xFr G)) 21 [] [] M := by
  unfold b26_21 at h
  refine xv_b E [.iconst 0] (pc' := 22) (lv' := []) (st' := [.inl (0 : Int32)]) (by decide +kernel) rfl rfl ?_
  obtain rfl := Option.some.inj h
  obtain ⟨rfl, rfl⟩ := Prod.mk.inj (show ((some (.inl (0 : Int32)) : Option aV), M) = (r, M') from hN)
  exact xv_ri E B.1 rfl B.2.1 (show decode prog_1_method_6_code 22 = .ok (.ireturn, 1) by decide +kernel) rfl rfl
theorem sb26_69 (E : xE G p (xRm 1 (h_sz M' - z0) (h_sl M' - y0)) s m args c prog_1_method_6_code "ZonedFabric" z0 y0 (h_sz M') (h_sl M') 5) (B : xB ym26 (some FieldType.boolean) meth) (si0 : Int32) (si1 : Int32) (sr2 : Option Nat) (M : hM) {res : xRes} (h : b26_69 si0 si1 sr2 M = some res) (hN : xN (fun _ _ _ => False) r M' res) : xV G p l e (xRm 1 (h_sz M' - z0) (h_sl M' - y0)) s m args below meth c z0 y0 (h_sz M') (h_sl M') 5 (MQ below (xQc G r M') args s (h_sz M' - z0) (h_sl M' - y0) (xFr G)) 69 [] [.inl si0, .inl si1, .inr (.inr sr2)] M := by
  unfold b26_69 at h
  obtain ⟨M27, h28, h⟩ := bd h
  refine xs_i E h28 (show decode prog_1_method_6_code 69 = .ok (.iastore, 1) by decide +kernel) ?_
  refine xv_b E [.iconst 1] (pc' := 71) (lv' := []) (st' := [.inl (1 : Int32)]) (by decide +kernel) rfl rfl ?_
  obtain rfl := Option.some.inj h
  obtain ⟨rfl, rfl⟩ := Prod.mk.inj (show ((some (.inl (1 : Int32)) : Option aV), M27) = (r, M') from hN)
  exact xv_ri E B.1 rfl B.2.1 (show decode prog_1_method_6_code 71 = .ok (.ireturn, 1) by decide +kernel) rfl rfl
theorem sb26_0 (E : xE G p (xRm 1 (h_sz M' - z0) (h_sl M' - y0)) s m args c prog_1_method_6_code "ZonedFabric" z0 y0 (h_sz M') (h_sl M') 5) (B : xB ym26 (some FieldType.boolean) meth) (a0 : Nat) (v1 : Int32) (v2 : Int32) (v3 : Int32) (M : hM) {res : xRes} (h : b26_0 a0 v1 v2 v3 M = some res) (hN : xN (fun _ _ _ => False) r M' res) : xV G p l e (xRm 1 (h_sz M' - z0) (h_sl M' - y0)) s m args below meth c z0 y0 (h_sz M') (h_sl M') 5 (MQ below (xQc G r M') args s (h_sz M' - z0) (h_sl M' - y0) (xFr G)) 0 [(0, .inr (.inr (some a0))), (1, .inl v1), (2, .inl v2), (3, .inl v3)] [] M := by
  unfold b26_0 at h
  refine xv_b E [.iload_n 1] (pc' := 1) (lv' := [(0, .inr (.inr (some a0))), (1, .inl v1), (2, .inl v2), (3, .inl v3)]) (st' := [.inl v1]) (by decide +kernel) rfl rfl ?_
  by_cases q26 : v1 < 0
  · rw [if_pos q26] at h
    refine xv_if_lt E 21 (show decode prog_1_method_6_code 1 = .ok (.ifCond .lt (20), 3) by decide +kernel) rfl (fun _ => ?_) (fun z => absurd q26 z)
    exact xv_w (sb26_21 E B  M h hN) rfl
  · rw [if_neg q26] at h
    refine xv_if_lt E 21 (show decode prog_1_method_6_code 1 = .ok (.ifCond .lt (20), 3) by decide +kernel) rfl (fun z => absurd z q26) (fun _ => ?_)
    refine xv_b E [.iload_n 1, .bipush 8] (pc' := 7) (lv' := [(0, .inr (.inr (some a0))), (1, .inl v1), (2, .inl v2), (3, .inl v3)]) (st' := [.inl (8 : Int32), .inl v1]) (by decide +kernel) rfl rfl ?_
    by_cases q25 : (8 : Int32) ≤ v1
    · rw [if_pos q25] at h
      refine xv_icmp_ge E 21 (show decode prog_1_method_6_code 7 = .ok (.if_icmp .ge (14), 3) by decide +kernel) rfl (fun _ => ?_) (fun z => absurd q25 z)
      exact xv_w (sb26_21 E B  M h hN) rfl
    · rw [if_neg q25] at h
      refine xv_icmp_ge E 21 (show decode prog_1_method_6_code 7 = .ok (.if_icmp .ge (14), 3) by decide +kernel) rfl (fun z => absurd z q25) (fun _ => ?_)
      refine xv_b E [.aload_n 0] (pc' := 11) (lv' := [(0, .inr (.inr (some a0))), (1, .inl v1), (2, .inl v2), (3, .inl v3)]) (st' := [.inr (.inr (some a0))]) (by decide +kernel) rfl rfl ?_
      obtain ⟨o_1, h2, h⟩ := bd h
      refine xg_r E 11 0 h2 mw82 (show decode prog_1_method_6_code 11 = .ok (.getfield 29, 3) by decide +kernel) ?_
      refine xv_b E [.iload_n 2] (pc' := 15) (lv' := [(0, .inr (.inr (some a0))), (1, .inl v1), (2, .inl v2), (3, .inl v3)]) (st' := [.inl v2, .inr (.inr o_1)]) (by decide +kernel) rfl rfl ?_
      obtain ⟨b_5, h6, h⟩ := bd h
      obtain ⟨eh6, th6⟩ := g_o_some h6
      obtain ⟨q_3, h4, h⟩ := bd h
      refine xv_cvo E eh6 9 (as := [.inl v2]) (t8 G l (c_I_some h4)) cd8 mw116 mw117 mw118 (show decode prog_1_method_6_code 15 = .ok (.invokevirtual 58, 3) by decide +kernel) th6 rfl rfl (Nat.le_of_ble_eq_true rfl) ⟨Nat.le_of_ble_eq_true rfl, Nat.le_of_ble_eq_true rfl⟩ ?_
      by_cases q24 : q_3.1 = 0
      · rw [if_pos q24] at h
        refine xv_if_ne E 23 (show decode prog_1_method_6_code 18 = .ok (.ifCond .ne (5), 3) by decide +kernel) rfl (fun z => absurd q24 z) (fun _ => ?_)
        exact xv_w (sb26_21 E B  q_3.2 h hN) rfl
      · rw [if_neg q24] at h
        refine xv_if_ne E 23 (show decode prog_1_method_6_code 18 = .ok (.ifCond .ne (5), 3) by decide +kernel) rfl (fun _ => ?_) (fun z => absurd z q24)
        refine xv_b E [.iconst 1, .iload_n 2, .ishl, .istore 4, .aload_n 0] (pc' := 29) (lv' := [(4, .inl ((1 : Int32) <<< (v2 &&& 31))), (0, .inr (.inr (some a0))), (1, .inl v1), (2, .inl v2), (3, .inl v3)]) (st' := [.inr (.inr (some a0))]) (by decide +kernel) rfl rfl ?_
        obtain ⟨o_7, h8, h⟩ := bd h
        refine xg_r E 11 0 h8 mw82 (show decode prog_1_method_6_code 29 = .ok (.getfield 29, 3) by decide +kernel) ?_
        obtain ⟨o_9, h10, h⟩ := bd h
        refine xg_r E 9 5 h10 mw199 (show decode prog_1_method_6_code 32 = .ok (.getfield 112, 3) by decide +kernel) ?_
        refine xv_b E [.iload_n 1, .iload_n 3] (pc' := 37) (lv' := [(4, .inl ((1 : Int32) <<< (v2 &&& 31))), (0, .inr (.inr (some a0))), (1, .inl v1), (2, .inl v2), (3, .inl v3)]) (st' := [.inl v3, .inl v1, .inr (.inr o_9)]) (by decide +kernel) rfl rfl ?_
        by_cases q23 : v3 = 0
        · rw [if_pos q23] at h
          refine xv_if_eq E 55 (show decode prog_1_method_6_code 37 = .ok (.ifCond .eq (18), 3) by decide +kernel) rfl (fun _ => ?_) (fun z => absurd q23 z)
          refine xv_b E [.aload_n 0] (pc' := 56) (lv' := [(4, .inl ((1 : Int32) <<< (v2 &&& 31))), (0, .inr (.inr (some a0))), (1, .inl v1), (2, .inl v2), (3, .inl v3)]) (st' := [.inr (.inr (some a0)), .inl v1, .inr (.inr o_9)]) (by decide +kernel) rfl rfl ?_
          obtain ⟨o_11, h12, h⟩ := bd h
          refine xg_r E 11 0 h12 mw82 (show decode prog_1_method_6_code 56 = .ok (.getfield 29, 3) by decide +kernel) ?_
          obtain ⟨o_13, h14, h⟩ := bd h
          refine xg_r E 9 5 h14 mw199 (show decode prog_1_method_6_code 59 = .ok (.getfield 112, 3) by decide +kernel) ?_
          refine xv_b E [.iload_n 1] (pc' := 63) (lv' := [(4, .inl ((1 : Int32) <<< (v2 &&& 31))), (0, .inr (.inr (some a0))), (1, .inl v1), (2, .inl v2), (3, .inl v3)]) (st' := [.inl v1, .inr (.inr o_13), .inl v1, .inr (.inr o_9)]) (by decide +kernel) rfl rfl ?_
          obtain ⟨v_15, h16, h⟩ := bd h
          refine xa_i E h16 (show decode prog_1_method_6_code 63 = .ok (.iaload, 1) by decide +kernel) ?_
          refine xv_b E [.iload 4, .iconst (-1), .ixor, .iand] (pc' := 69) (lv' := [(4, .inl ((1 : Int32) <<< (v2 &&& 31))), (0, .inr (.inr (some a0))), (1, .inl v1), (2, .inl v2), (3, .inl v3)]) (st' := [.inl (v_15 &&& (((1 : Int32) <<< (v2 &&& 31)) ^^^ (-1 : Int32))), .inl v1, .inr (.inr o_9)]) (by decide +kernel) rfl rfl ?_
          exact xv_w (sb26_69 E B (v_15 &&& (((1 : Int32) <<< (v2 &&& 31)) ^^^ (-1 : Int32))) v1 o_9 q_3.2 h hN) rfl
        · rw [if_neg q23] at h
          refine xv_if_eq E 55 (show decode prog_1_method_6_code 37 = .ok (.ifCond .eq (18), 3) by decide +kernel) rfl (fun z => absurd z q23) (fun _ => ?_)
          refine xv_b E [.aload_n 0] (pc' := 41) (lv' := [(4, .inl ((1 : Int32) <<< (v2 &&& 31))), (0, .inr (.inr (some a0))), (1, .inl v1), (2, .inl v2), (3, .inl v3)]) (st' := [.inr (.inr (some a0)), .inl v1, .inr (.inr o_9)]) (by decide +kernel) rfl rfl ?_
          obtain ⟨o_17, h18, h⟩ := bd h
          refine xg_r E 11 0 h18 mw82 (show decode prog_1_method_6_code 41 = .ok (.getfield 29, 3) by decide +kernel) ?_
          obtain ⟨o_19, h20, h⟩ := bd h
          refine xg_r E 9 5 h20 mw199 (show decode prog_1_method_6_code 44 = .ok (.getfield 112, 3) by decide +kernel) ?_
          refine xv_b E [.iload_n 1] (pc' := 48) (lv' := [(4, .inl ((1 : Int32) <<< (v2 &&& 31))), (0, .inr (.inr (some a0))), (1, .inl v1), (2, .inl v2), (3, .inl v3)]) (st' := [.inl v1, .inr (.inr o_19), .inl v1, .inr (.inr o_9)]) (by decide +kernel) rfl rfl ?_
          obtain ⟨v_21, h22, h⟩ := bd h
          refine xa_i E h22 (show decode prog_1_method_6_code 48 = .ok (.iaload, 1) by decide +kernel) ?_
          refine xv_b E [.iload 4, .ior] (pc' := 52) (lv' := [(4, .inl ((1 : Int32) <<< (v2 &&& 31))), (0, .inr (.inr (some a0))), (1, .inl v1), (2, .inl v2), (3, .inl v3)]) (st' := [.inl (v_21 ||| ((1 : Int32) <<< (v2 &&& 31))), .inl v1, .inr (.inr o_9)]) (by decide +kernel) rfl rfl ?_
          refine xv_goto E 69 (show decode prog_1_method_6_code 52 = .ok (.goto (17), 3) by decide +kernel) rfl ?_
          exact xv_w (sb26_69 E B (v_21 ||| ((1 : Int32) <<< (v2 &&& 31))) v1 o_9 q_3.2 h hN) rfl
end
theorem t26 (G : gX) (l : Launch) {as : List aV} {M : hM} {r : Option aV} {M' : hM} (h : f26 as M = some (r, M')) : xM G l ym26 prog_1_method_6_code 5 (some FieldType.boolean) 1 as M r M' := by
  unfold f26 at h
  split at h
  · have h := x_out_ok h
    refine xM_of (by decide) (Nat.le_of_ble_eq_true rfl) (lb26_0 G l _ _ _ _ M h) ?_
    intro p e s m args below meth c E B
    exact sb26_0 E B _ _ _ _ M h rfl
  · cases h
/-! ZF.zoning(Z)V -/
def ym27 : MethodName := ⟨"ZonedFabric", "zoning", "(Z)V"⟩
theorem cd27 : xCd ym27 prog_1_method_7_code 2 none 1 := ⟨mw200, mw71, by decide, by decide, by decide +kernel⟩
def b27_0 (a0 : Nat) (v1 : Int32) (M : hM) : Option xRes :=
  Option.bind (g_r M 11 0 (some a0)) fun o_1 =>
  Option.bind (p_z M 9 6 o_1 v1) fun M3 =>
  some (.inl (none, M3))
def f27 (as : List aV) (M : hM) : xO := match as with
  | [.inr (.inr (some a0)), .inl v1] => x_out (b27_0 a0 v1 M)
  | _ => none
theorem lb27_0 (G : gX) (l : Launch) (a0 : Nat) (v1 : Int32) (M : hM) {res : xRes} (h : b27_0 a0 v1 M = some res) : h_sz M ≤ r_sz res ∧ h_sl M ≤ r_sl res := by
  unfold b27_0 at h
  obtain ⟨o_1, h2, h⟩ := bd h
  obtain ⟨M3, h4, h⟩ := bd h
  have eh4 := p_z_sz h4
  obtain rfl := Option.some.inj h
  show h_sz M ≤ h_sz M3 ∧ h_sl M ≤ h_sl M3
  omega
section
variable {p : Program} {l : Launch} {e : Env} {s : State} {m : MethodId} {args : Array Value} {below : List Frame} {meth : Method} {c : Code} {G : gX} {z0 y0 : Nat} {r : Option aV} {M' : hM}
theorem sb27_0 (E : xE G p (xRm 0 (h_sz M' - z0) (h_sl M' - y0)) s m args c prog_1_method_7_code "ZonedFabric" z0 y0 (h_sz M') (h_sl M') 2) (B : xB ym27 none meth) (a0 : Nat) (v1 : Int32) (M : hM) {res : xRes} (h : b27_0 a0 v1 M = some res) (hN : xN (fun _ _ _ => False) r M' res) : xV G p l e (xRm 0 (h_sz M' - z0) (h_sl M' - y0)) s m args below meth c z0 y0 (h_sz M') (h_sl M') 2 (MQ below (xQc G r M') args s (h_sz M' - z0) (h_sl M' - y0) (xFr G)) 0 [(0, .inr (.inr (some a0))), (1, .inl v1)] [] M := by
  unfold b27_0 at h
  refine xv_b E [.aload_n 0] (pc' := 1) (lv' := [(0, .inr (.inr (some a0))), (1, .inl v1)]) (st' := [.inr (.inr (some a0))]) (by decide +kernel) rfl rfl ?_
  obtain ⟨o_1, h2, h⟩ := bd h
  refine xg_r E 11 0 h2 mw82 (show decode prog_1_method_7_code 1 = .ok (.getfield 29, 3) by decide +kernel) ?_
  refine xv_b E [.iload_n 1] (pc' := 5) (lv' := [(0, .inr (.inr (some a0))), (1, .inl v1)]) (st' := [.inl v1, .inr (.inr o_1)]) (by decide +kernel) rfl rfl ?_
  obtain ⟨M3, h4, h⟩ := bd h
  refine xp_z E 9 6 h4 mw201 (show decode prog_1_method_7_code 5 = .ok (.putfield 116, 3) by decide +kernel) (Or.inl rfl) ?_
  obtain rfl := Option.some.inj h
  obtain ⟨rfl, rfl⟩ := Prod.mk.inj (show ((none : Option aV), M3) = (r, M') from hN)
  exact xv_rv E B.1 B.2.1 (show decode prog_1_method_7_code 8 = .ok (.return_, 1) by decide +kernel) rfl rfl
end
theorem t27 (G : gX) (l : Launch) {as : List aV} {M : hM} {r : Option aV} {M' : hM} (h : f27 as M = some (r, M')) : xM G l ym27 prog_1_method_7_code 2 none 0 as M r M' := by
  unfold f27 at h
  split at h
  · have h := x_out_ok h
    refine xM_of (by decide) (Nat.le_of_ble_eq_true rfl) (lb27_0 G l _ _ M h) ?_
    intro p e s m args below meth c E B
    exact sb27_0 E B _ _ M h rfl
  · cases h
/-! ZF.domain(II)Z -/
def ym28 : MethodName := ⟨"ZonedFabric", "domain", "(II)Z"⟩
theorem cd28 : xCd ym28 prog_1_method_8_code 3 (some FieldType.boolean) 2 := ⟨mw202, mw71, by decide, by decide, by decide +kernel⟩
def b28_32  (M : hM) : Option xRes :=
  some (.inl (some (.inl (0 : Int32)), M))
def b28_0 (a0 : Nat) (v1 : Int32) (v2 : Int32) (M : hM) : Option xRes :=
  Option.bind (g_o M 11 (some a0)) fun b_3 =>
  Option.bind (c_I (f12 [.inr (.inr (some b_3)), .inl v1] M)) fun q_1 =>
  if q_1.1 = 0 then
    (b28_32  q_1.2)
  else
    (if v2 < (1 : Int32) then
      (b28_32  q_1.2)
    else
      (if (15 : Int32) < v2 then
        (b28_32  q_1.2)
      else
        (Option.bind (g_r q_1.2 11 1 (some a0)) fun o_5 =>
        Option.bind (al_r q_1.2 40 o_5 v1) fun o_7 =>
        Option.bind (g_i q_1.2 10 3 o_7) fun v_9 =>
        if v_9 = v2 then
          (b28_32  q_1.2)
        else
          (Option.bind (g_r q_1.2 11 1 (some a0)) fun o_11 =>
          Option.bind (al_r q_1.2 40 o_11 v1) fun o_13 =>
          Option.bind (p_i q_1.2 10 3 o_13 v2) fun M15 =>
          some (.inl (some (.inl (1 : Int32)), M15))))))
def f28 (as : List aV) (M : hM) : xO := match as with
  | [.inr (.inr (some a0)), .inl v1, .inl v2] => x_out (b28_0 a0 v1 v2 M)
  | _ => none
theorem lb28_32 (G : gX) (l : Launch)  (M : hM) {res : xRes} (h : b28_32  M = some res) : h_sz M ≤ r_sz res ∧ h_sl M ≤ r_sl res := by
  unfold b28_32 at h
  obtain rfl := Option.some.inj h
  show h_sz M ≤ h_sz M ∧ h_sl M ≤ h_sl M
  omega
theorem lb28_0 (G : gX) (l : Launch) (a0 : Nat) (v1 : Int32) (v2 : Int32) (M : hM) {res : xRes} (h : b28_0 a0 v1 v2 M = some res) : h_sz M ≤ r_sz res ∧ h_sl M ≤ r_sl res := by
  unfold b28_0 at h
  obtain ⟨b_3, h4, h⟩ := bd h
  obtain ⟨q_1, h2, h⟩ := bd h
  have eh2 := (t12 G l (c_I_some h2)).1
  by_cases q20 : q_1.1 = 0
  · rw [if_pos q20] at h
    have e := lb28_32 G l  q_1.2 h
    omega
  · rw [if_neg q20] at h
    by_cases q19 : v2 < (1 : Int32)
    · rw [if_pos q19] at h
      have e := lb28_32 G l  q_1.2 h
      omega
    · rw [if_neg q19] at h
      by_cases q18 : (15 : Int32) < v2
      · rw [if_pos q18] at h
        have e := lb28_32 G l  q_1.2 h
        omega
      · rw [if_neg q18] at h
        obtain ⟨o_5, h6, h⟩ := bd h
        obtain ⟨o_7, h8, h⟩ := bd h
        obtain ⟨v_9, h10, h⟩ := bd h
        by_cases q17 : v_9 = v2
        · rw [if_pos q17] at h
          have e := lb28_32 G l  q_1.2 h
          omega
        · rw [if_neg q17] at h
          obtain ⟨o_11, h12, h⟩ := bd h
          obtain ⟨o_13, h14, h⟩ := bd h
          obtain ⟨M15, h16, h⟩ := bd h
          have eh16 := p_i_sz h16
          obtain rfl := Option.some.inj h
          show h_sz M ≤ h_sz M15 ∧ h_sl M ≤ h_sl M15
          omega
section
variable {p : Program} {l : Launch} {e : Env} {s : State} {m : MethodId} {args : Array Value} {below : List Frame} {meth : Method} {c : Code} {G : gX} {z0 y0 : Nat} {r : Option aV} {M' : hM}
theorem sb28_32 (E : xE G p (xRm 1 (h_sz M' - z0) (h_sl M' - y0)) s m args c prog_1_method_8_code "ZonedFabric" z0 y0 (h_sz M') (h_sl M') 3) (B : xB ym28 (some FieldType.boolean) meth)  (M : hM) {res : xRes} (h : b28_32  M = some res) (hN : xN (fun _ _ _ => False) r M' res) : xV G p l e (xRm 1 (h_sz M' - z0) (h_sl M' - y0)) s m args below meth c z0 y0 (h_sz M') (h_sl M') 3 (MQ below (xQc G r M') args s (h_sz M' - z0) (h_sl M' - y0) (xFr G)) 32 [] [] M := by
  unfold b28_32 at h
  refine xv_b E [.iconst 0] (pc' := 33) (lv' := []) (st' := [.inl (0 : Int32)]) (by decide +kernel) rfl rfl ?_
  obtain rfl := Option.some.inj h
  obtain ⟨rfl, rfl⟩ := Prod.mk.inj (show ((some (.inl (0 : Int32)) : Option aV), M) = (r, M') from hN)
  exact xv_ri E B.1 rfl B.2.1 (show decode prog_1_method_8_code 33 = .ok (.ireturn, 1) by decide +kernel) rfl rfl
theorem sb28_0 (E : xE G p (xRm 1 (h_sz M' - z0) (h_sl M' - y0)) s m args c prog_1_method_8_code "ZonedFabric" z0 y0 (h_sz M') (h_sl M') 3) (B : xB ym28 (some FieldType.boolean) meth) (a0 : Nat) (v1 : Int32) (v2 : Int32) (M : hM) {res : xRes} (h : b28_0 a0 v1 v2 M = some res) (hN : xN (fun _ _ _ => False) r M' res) : xV G p l e (xRm 1 (h_sz M' - z0) (h_sl M' - y0)) s m args below meth c z0 y0 (h_sz M') (h_sl M') 3 (MQ below (xQc G r M') args s (h_sz M' - z0) (h_sl M' - y0) (xFr G)) 0 [(0, .inr (.inr (some a0))), (1, .inl v1), (2, .inl v2)] [] M := by
  unfold b28_0 at h
  refine xv_b E [.aload_n 0, .iload_n 1] (pc' := 2) (lv' := [(0, .inr (.inr (some a0))), (1, .inl v1), (2, .inl v2)]) (st' := [.inl v1, .inr (.inr (some a0))]) (by decide +kernel) rfl rfl ?_
  obtain ⟨b_3, h4, h⟩ := bd h
  obtain ⟨eh4, th4⟩ := g_o_some h4
  obtain ⟨q_1, h2, h⟩ := bd h
  refine xv_cvo E eh4 11 (as := [.inl v1]) (t12 G l (c_I_some h2)) cd12 mw129 mw130 mw131 (show decode prog_1_method_8_code 2 = .ok (.invokevirtual 84, 3) by decide +kernel) th4 rfl rfl (Nat.le_of_ble_eq_true rfl) ⟨Nat.le_of_ble_eq_true rfl, Nat.le_of_ble_eq_true rfl⟩ ?_
  by_cases q20 : q_1.1 = 0
  · rw [if_pos q20] at h
    refine xv_if_eq E 32 (show decode prog_1_method_8_code 5 = .ok (.ifCond .eq (27), 3) by decide +kernel) rfl (fun _ => ?_) (fun z => absurd q20 z)
    exact xv_w (sb28_32 E B  q_1.2 h hN) rfl
  · rw [if_neg q20] at h
    refine xv_if_eq E 32 (show decode prog_1_method_8_code 5 = .ok (.ifCond .eq (27), 3) by decide +kernel) rfl (fun z => absurd z q20) (fun _ => ?_)
    refine xv_b E [.iload_n 2, .iconst 1] (pc' := 10) (lv' := [(0, .inr (.inr (some a0))), (1, .inl v1), (2, .inl v2)]) (st' := [.inl (1 : Int32), .inl v2]) (by decide +kernel) rfl rfl ?_
    by_cases q19 : v2 < (1 : Int32)
    · rw [if_pos q19] at h
      refine xv_icmp_lt E 32 (show decode prog_1_method_8_code 10 = .ok (.if_icmp .lt (22), 3) by decide +kernel) rfl (fun _ => ?_) (fun z => absurd q19 z)
      exact xv_w (sb28_32 E B  q_1.2 h hN) rfl
    · rw [if_neg q19] at h
      refine xv_icmp_lt E 32 (show decode prog_1_method_8_code 10 = .ok (.if_icmp .lt (22), 3) by decide +kernel) rfl (fun z => absurd z q19) (fun _ => ?_)
      refine xv_b E [.iload_n 2, .bipush 15] (pc' := 16) (lv' := [(0, .inr (.inr (some a0))), (1, .inl v1), (2, .inl v2)]) (st' := [.inl (15 : Int32), .inl v2]) (by decide +kernel) rfl rfl ?_
      by_cases q18 : (15 : Int32) < v2
      · rw [if_pos q18] at h
        refine xv_icmp_gt E 32 (show decode prog_1_method_8_code 16 = .ok (.if_icmp .gt (16), 3) by decide +kernel) rfl (fun _ => ?_) (fun z => absurd q18 z)
        exact xv_w (sb28_32 E B  q_1.2 h hN) rfl
      · rw [if_neg q18] at h
        refine xv_icmp_gt E 32 (show decode prog_1_method_8_code 16 = .ok (.if_icmp .gt (16), 3) by decide +kernel) rfl (fun z => absurd z q18) (fun _ => ?_)
        refine xv_b E [.aload_n 0] (pc' := 20) (lv' := [(0, .inr (.inr (some a0))), (1, .inl v1), (2, .inl v2)]) (st' := [.inr (.inr (some a0))]) (by decide +kernel) rfl rfl ?_
        obtain ⟨o_5, h6, h⟩ := bd h
        refine xg_r E 11 1 h6 mw84 (show decode prog_1_method_8_code 20 = .ok (.getfield 35, 3) by decide +kernel) ?_
        refine xv_b E [.iload_n 1] (pc' := 24) (lv' := [(0, .inr (.inr (some a0))), (1, .inl v1), (2, .inl v2)]) (st' := [.inl v1, .inr (.inr o_5)]) (by decide +kernel) rfl rfl ?_
        obtain ⟨o_7, h8, h⟩ := bd h
        refine xa_r E 40 h8 (show decode prog_1_method_8_code 24 = .ok (.aaload, 1) by decide +kernel) ?_
        obtain ⟨v_9, h10, h⟩ := bd h
        refine xg_i E 10 3 h10 mw203 (show decode prog_1_method_8_code 25 = .ok (.getfield 119, 3) by decide +kernel) ?_
        refine xv_b E [.iload_n 2] (pc' := 29) (lv' := [(0, .inr (.inr (some a0))), (1, .inl v1), (2, .inl v2)]) (st' := [.inl v2, .inl v_9]) (by decide +kernel) rfl rfl ?_
        by_cases q17 : v_9 = v2
        · rw [if_pos q17] at h
          refine xv_icmp_ne E 34 (show decode prog_1_method_8_code 29 = .ok (.if_icmp .ne (5), 3) by decide +kernel) rfl (fun z => absurd q17 z) (fun _ => ?_)
          exact xv_w (sb28_32 E B  q_1.2 h hN) rfl
        · rw [if_neg q17] at h
          refine xv_icmp_ne E 34 (show decode prog_1_method_8_code 29 = .ok (.if_icmp .ne (5), 3) by decide +kernel) rfl (fun _ => ?_) (fun z => absurd z q17)
          refine xv_b E [.aload_n 0] (pc' := 35) (lv' := [(0, .inr (.inr (some a0))), (1, .inl v1), (2, .inl v2)]) (st' := [.inr (.inr (some a0))]) (by decide +kernel) rfl rfl ?_
          obtain ⟨o_11, h12, h⟩ := bd h
          refine xg_r E 11 1 h12 mw84 (show decode prog_1_method_8_code 35 = .ok (.getfield 35, 3) by decide +kernel) ?_
          refine xv_b E [.iload_n 1] (pc' := 39) (lv' := [(0, .inr (.inr (some a0))), (1, .inl v1), (2, .inl v2)]) (st' := [.inl v1, .inr (.inr o_11)]) (by decide +kernel) rfl rfl ?_
          obtain ⟨o_13, h14, h⟩ := bd h
          refine xa_r E 40 h14 (show decode prog_1_method_8_code 39 = .ok (.aaload, 1) by decide +kernel) ?_
          refine xv_b E [.iload_n 2] (pc' := 41) (lv' := [(0, .inr (.inr (some a0))), (1, .inl v1), (2, .inl v2)]) (st' := [.inl v2, .inr (.inr o_13)]) (by decide +kernel) rfl rfl ?_
          obtain ⟨M15, h16, h⟩ := bd h
          refine xp_i E 10 3 h16 mw203 (show decode prog_1_method_8_code 41 = .ok (.putfield 119, 3) by decide +kernel) (Or.inl rfl) ?_
          refine xv_b E [.iconst 1] (pc' := 45) (lv' := [(0, .inr (.inr (some a0))), (1, .inl v1), (2, .inl v2)]) (st' := [.inl (1 : Int32)]) (by decide +kernel) rfl rfl ?_
          obtain rfl := Option.some.inj h
          obtain ⟨rfl, rfl⟩ := Prod.mk.inj (show ((some (.inl (1 : Int32)) : Option aV), M15) = (r, M') from hN)
          exact xv_ri E B.1 rfl B.2.1 (show decode prog_1_method_8_code 45 = .ok (.ireturn, 1) by decide +kernel) rfl rfl
end
theorem t28 (G : gX) (l : Launch) {as : List aV} {M : hM} {r : Option aV} {M' : hM} (h : f28 as M = some (r, M')) : xM G l ym28 prog_1_method_8_code 3 (some FieldType.boolean) 1 as M r M' := by
  unfold f28 at h
  split at h
  · have h := x_out_ok h
    refine xM_of (by decide) (Nat.le_of_ble_eq_true rfl) (lb28_0 G l _ _ _ M h) ?_
    intro p e s m args below meth c E B
    exact sb28_0 E B _ _ _ M h rfl
  · cases h
/-! ZF.onTheWay(II)LZF$Frame; -/
def ym29 : MethodName := ⟨"ZonedFabric", "onTheWay", "(II)LZonedFabric$Frame;"⟩
theorem cd29 : xCd ym29 prog_1_method_30_code 3 (some (FieldType.object "ZonedFabric$Frame")) 2 := ⟨mw204, mw71, by decide, by decide, by decide +kernel⟩
def b29_17  (M : hM) : Option xRes :=
  some (.inl (some (.inr (.inr none)), M))
def b29_44 (sr0 : Option Nat) (M : hM) : Option xRes :=
  some (.inl (some (.inr (.inr sr0)), M))
def b29_0 (a0 : Nat) (v1 : Int32) (v2 : Int32) (M : hM) : Option xRes :=
  Option.bind (g_o M 11 (some a0)) fun b_3 =>
  Option.bind (c_I (f16 [.inr (.inr (some b_3)), .inl v1] M)) fun q_1 =>
  if q_1.1 = 0 then
    (b29_17  q_1.2)
  else
    (if v2 < 0 then
      (b29_17  q_1.2)
    else
      (if v2 ≤ (1 : Int32) then
        (if v2 = 0 then
          (Option.bind (g_r q_1.2 11 3 (some a0)) fun o_11 =>
          Option.bind (al_r q_1.2 38 o_11 v1) fun o_13 =>
          Option.bind (g_r q_1.2 8 8 o_13) fun o_15 =>
          b29_44 o_15 q_1.2)
        else
          (Option.bind (g_r q_1.2 11 4 (some a0)) fun o_5 =>
          Option.bind (al_r q_1.2 38 o_5 v1) fun o_7 =>
          Option.bind (g_r q_1.2 8 8 o_7) fun o_9 =>
          b29_44 o_9 q_1.2))
      else
        (b29_17  q_1.2)))
def f29 (as : List aV) (M : hM) : xO := match as with
  | [.inr (.inr (some a0)), .inl v1, .inl v2] => x_out (b29_0 a0 v1 v2 M)
  | _ => none
theorem lb29_17 (G : gX) (l : Launch)  (M : hM) {res : xRes} (h : b29_17  M = some res) : h_sz M ≤ r_sz res ∧ h_sl M ≤ r_sl res := by
  unfold b29_17 at h
  obtain rfl := Option.some.inj h
  show h_sz M ≤ h_sz M ∧ h_sl M ≤ h_sl M
  omega
theorem lb29_44 (G : gX) (l : Launch) (sr0 : Option Nat) (M : hM) {res : xRes} (h : b29_44 sr0 M = some res) : h_sz M ≤ r_sz res ∧ h_sl M ≤ r_sl res := by
  unfold b29_44 at h
  obtain rfl := Option.some.inj h
  show h_sz M ≤ h_sz M ∧ h_sl M ≤ h_sl M
  omega
theorem lb29_0 (G : gX) (l : Launch) (a0 : Nat) (v1 : Int32) (v2 : Int32) (M : hM) {res : xRes} (h : b29_0 a0 v1 v2 M = some res) : h_sz M ≤ r_sz res ∧ h_sl M ≤ r_sl res := by
  unfold b29_0 at h
  obtain ⟨b_3, h4, h⟩ := bd h
  obtain ⟨q_1, h2, h⟩ := bd h
  have eh2 := (t16 G l (c_I_some h2)).1
  by_cases q20 : q_1.1 = 0
  · rw [if_pos q20] at h
    have e := lb29_17 G l  q_1.2 h
    omega
  · rw [if_neg q20] at h
    by_cases q19 : v2 < 0
    · rw [if_pos q19] at h
      have e := lb29_17 G l  q_1.2 h
      omega
    · rw [if_neg q19] at h
      by_cases q18 : v2 ≤ (1 : Int32)
      · rw [if_pos q18] at h
        by_cases q17 : v2 = 0
        · rw [if_pos q17] at h
          obtain ⟨o_11, h12, h⟩ := bd h
          obtain ⟨o_13, h14, h⟩ := bd h
          obtain ⟨o_15, h16, h⟩ := bd h
          have e := lb29_44 G l o_15 q_1.2 h
          omega
        · rw [if_neg q17] at h
          obtain ⟨o_5, h6, h⟩ := bd h
          obtain ⟨o_7, h8, h⟩ := bd h
          obtain ⟨o_9, h10, h⟩ := bd h
          have e := lb29_44 G l o_9 q_1.2 h
          omega
      · rw [if_neg q18] at h
        have e := lb29_17 G l  q_1.2 h
        omega
section
variable {p : Program} {l : Launch} {e : Env} {s : State} {m : MethodId} {args : Array Value} {below : List Frame} {meth : Method} {c : Code} {G : gX} {z0 y0 : Nat} {r : Option aV} {M' : hM}
theorem sb29_17 (E : xE G p (xRm 1 (h_sz M' - z0) (h_sl M' - y0)) s m args c prog_1_method_30_code "ZonedFabric" z0 y0 (h_sz M') (h_sl M') 3) (B : xB ym29 (some (FieldType.object "ZonedFabric$Frame")) meth)  (M : hM) {res : xRes} (h : b29_17  M = some res) (hN : xN (fun _ _ _ => False) r M' res) : xV G p l e (xRm 1 (h_sz M' - z0) (h_sl M' - y0)) s m args below meth c z0 y0 (h_sz M') (h_sl M') 3 (MQ below (xQc G r M') args s (h_sz M' - z0) (h_sl M' - y0) (xFr G)) 17 [] [] M := by
  unfold b29_17 at h
  refine xv_b E [.aconst_null] (pc' := 18) (lv' := []) (st' := [.inr (.inr none)]) (by decide +kernel) rfl rfl ?_
  obtain rfl := Option.some.inj h
  obtain ⟨rfl, rfl⟩ := Prod.mk.inj (show ((some (.inr (.inr none)) : Option aV), M) = (r, M') from hN)
  exact xv_rr E B.1 (Or.inl ⟨_, rfl⟩) B.2.1 (show decode prog_1_method_30_code 18 = .ok (.areturn, 1) by decide +kernel) rfl rfl
theorem sb29_44 (E : xE G p (xRm 1 (h_sz M' - z0) (h_sl M' - y0)) s m args c prog_1_method_30_code "ZonedFabric" z0 y0 (h_sz M') (h_sl M') 3) (B : xB ym29 (some (FieldType.object "ZonedFabric$Frame")) meth) (sr0 : Option Nat) (M : hM) {res : xRes} (h : b29_44 sr0 M = some res) (hN : xN (fun _ _ _ => False) r M' res) : xV G p l e (xRm 1 (h_sz M' - z0) (h_sl M' - y0)) s m args below meth c z0 y0 (h_sz M') (h_sl M') 3 (MQ below (xQc G r M') args s (h_sz M' - z0) (h_sl M' - y0) (xFr G)) 44 [] [.inr (.inr sr0)] M := by
  unfold b29_44 at h
  obtain rfl := Option.some.inj h
  obtain ⟨rfl, rfl⟩ := Prod.mk.inj (show ((some (.inr (.inr sr0)) : Option aV), M) = (r, M') from hN)
  exact xv_rr E B.1 (Or.inl ⟨_, rfl⟩) B.2.1 (show decode prog_1_method_30_code 44 = .ok (.areturn, 1) by decide +kernel) rfl rfl
theorem sb29_0 (E : xE G p (xRm 1 (h_sz M' - z0) (h_sl M' - y0)) s m args c prog_1_method_30_code "ZonedFabric" z0 y0 (h_sz M') (h_sl M') 3) (B : xB ym29 (some (FieldType.object "ZonedFabric$Frame")) meth) (a0 : Nat) (v1 : Int32) (v2 : Int32) (M : hM) {res : xRes} (h : b29_0 a0 v1 v2 M = some res) (hN : xN (fun _ _ _ => False) r M' res) : xV G p l e (xRm 1 (h_sz M' - z0) (h_sl M' - y0)) s m args below meth c z0 y0 (h_sz M') (h_sl M') 3 (MQ below (xQc G r M') args s (h_sz M' - z0) (h_sl M' - y0) (xFr G)) 0 [(0, .inr (.inr (some a0))), (1, .inl v1), (2, .inl v2)] [] M := by
  unfold b29_0 at h
  refine xv_b E [.aload_n 0, .iload_n 1] (pc' := 2) (lv' := [(0, .inr (.inr (some a0))), (1, .inl v1), (2, .inl v2)]) (st' := [.inl v1, .inr (.inr (some a0))]) (by decide +kernel) rfl rfl ?_
  obtain ⟨b_3, h4, h⟩ := bd h
  obtain ⟨eh4, th4⟩ := g_o_some h4
  obtain ⟨q_1, h2, h⟩ := bd h
  refine xv_cvo E eh4 11 (as := [.inl v1]) (t16 G l (c_I_some h2)) cd16 mw186 mw187 mw188 (show decode prog_1_method_30_code 2 = .ok (.invokevirtual 97, 3) by decide +kernel) th4 rfl rfl (Nat.le_of_ble_eq_true rfl) ⟨Nat.le_of_ble_eq_true rfl, Nat.le_of_ble_eq_true rfl⟩ ?_
  by_cases q20 : q_1.1 = 0
  · rw [if_pos q20] at h
    refine xv_if_eq E 17 (show decode prog_1_method_30_code 5 = .ok (.ifCond .eq (12), 3) by decide +kernel) rfl (fun _ => ?_) (fun z => absurd q20 z)
    exact xv_w (sb29_17 E B  q_1.2 h hN) rfl
  · rw [if_neg q20] at h
    refine xv_if_eq E 17 (show decode prog_1_method_30_code 5 = .ok (.ifCond .eq (12), 3) by decide +kernel) rfl (fun z => absurd z q20) (fun _ => ?_)
    refine xv_b E [.iload_n 2] (pc' := 9) (lv' := [(0, .inr (.inr (some a0))), (1, .inl v1), (2, .inl v2)]) (st' := [.inl v2]) (by decide +kernel) rfl rfl ?_
    by_cases q19 : v2 < 0
    · rw [if_pos q19] at h
      refine xv_if_lt E 17 (show decode prog_1_method_30_code 9 = .ok (.ifCond .lt (8), 3) by decide +kernel) rfl (fun _ => ?_) (fun z => absurd q19 z)
      exact xv_w (sb29_17 E B  q_1.2 h hN) rfl
    · rw [if_neg q19] at h
      refine xv_if_lt E 17 (show decode prog_1_method_30_code 9 = .ok (.ifCond .lt (8), 3) by decide +kernel) rfl (fun z => absurd z q19) (fun _ => ?_)
      refine xv_b E [.iload_n 2, .iconst 1] (pc' := 14) (lv' := [(0, .inr (.inr (some a0))), (1, .inl v1), (2, .inl v2)]) (st' := [.inl (1 : Int32), .inl v2]) (by decide +kernel) rfl rfl ?_
      by_cases q18 : v2 ≤ (1 : Int32)
      · rw [if_pos q18] at h
        refine xv_icmp_le E 19 (show decode prog_1_method_30_code 14 = .ok (.if_icmp .le (5), 3) by decide +kernel) rfl (fun _ => ?_) (fun z => absurd q18 z)
        refine xv_b E [.iload_n 2] (pc' := 20) (lv' := [(0, .inr (.inr (some a0))), (1, .inl v1), (2, .inl v2)]) (st' := [.inl v2]) (by decide +kernel) rfl rfl ?_
        by_cases q17 : v2 = 0
        · rw [if_pos q17] at h
          refine xv_if_ne E 35 (show decode prog_1_method_30_code 20 = .ok (.ifCond .ne (15), 3) by decide +kernel) rfl (fun z => absurd q17 z) (fun _ => ?_)
          refine xv_b E [.aload_n 0] (pc' := 24) (lv' := [(0, .inr (.inr (some a0))), (1, .inl v1), (2, .inl v2)]) (st' := [.inr (.inr (some a0))]) (by decide +kernel) rfl rfl ?_
          obtain ⟨o_11, h12, h⟩ := bd h
          refine xg_r E 11 3 h12 mw73 (show decode prog_1_method_30_code 24 = .ok (.getfield 11, 3) by decide +kernel) ?_
          refine xv_b E [.iload_n 1] (pc' := 28) (lv' := [(0, .inr (.inr (some a0))), (1, .inl v1), (2, .inl v2)]) (st' := [.inl v1, .inr (.inr o_11)]) (by decide +kernel) rfl rfl ?_
          obtain ⟨o_13, h14, h⟩ := bd h
          refine xa_r E 38 h14 (show decode prog_1_method_30_code 28 = .ok (.aaload, 1) by decide +kernel) ?_
          obtain ⟨o_15, h16, h⟩ := bd h
          refine xg_r E 8 8 h16 mw205 (show decode prog_1_method_30_code 29 = .ok (.getfield 252, 3) by decide +kernel) ?_
          refine xv_goto E 44 (show decode prog_1_method_30_code 32 = .ok (.goto (12), 3) by decide +kernel) rfl ?_
          exact xv_w (sb29_44 E B o_15 q_1.2 h hN) rfl
        · rw [if_neg q17] at h
          refine xv_if_ne E 35 (show decode prog_1_method_30_code 20 = .ok (.ifCond .ne (15), 3) by decide +kernel) rfl (fun _ => ?_) (fun z => absurd z q17)
          refine xv_b E [.aload_n 0] (pc' := 36) (lv' := [(0, .inr (.inr (some a0))), (1, .inl v1), (2, .inl v2)]) (st' := [.inr (.inr (some a0))]) (by decide +kernel) rfl rfl ?_
          obtain ⟨o_5, h6, h⟩ := bd h
          refine xg_r E 11 4 h6 mw74 (show decode prog_1_method_30_code 36 = .ok (.getfield 15, 3) by decide +kernel) ?_
          refine xv_b E [.iload_n 1] (pc' := 40) (lv' := [(0, .inr (.inr (some a0))), (1, .inl v1), (2, .inl v2)]) (st' := [.inl v1, .inr (.inr o_5)]) (by decide +kernel) rfl rfl ?_
          obtain ⟨o_7, h8, h⟩ := bd h
          refine xa_r E 38 h8 (show decode prog_1_method_30_code 40 = .ok (.aaload, 1) by decide +kernel) ?_
          obtain ⟨o_9, h10, h⟩ := bd h
          refine xg_r E 8 8 h10 mw205 (show decode prog_1_method_30_code 41 = .ok (.getfield 252, 3) by decide +kernel) ?_
          exact xv_w (sb29_44 E B o_9 q_1.2 h hN) rfl
      · rw [if_neg q18] at h
        refine xv_icmp_le E 19 (show decode prog_1_method_30_code 14 = .ok (.if_icmp .le (5), 3) by decide +kernel) rfl (fun z => absurd z q18) (fun _ => ?_)
        exact xv_w (sb29_17 E B  q_1.2 h hN) rfl
end
theorem t29 (G : gX) (l : Launch) {as : List aV} {M : hM} {r : Option aV} {M' : hM} (h : f29 as M = some (r, M')) : xM G l ym29 prog_1_method_30_code 3 (some (FieldType.object "ZonedFabric$Frame")) 1 as M r M' := by
  unfold f29 at h
  split at h
  · have h := x_out_ok h
    refine xM_of (by decide) (Nat.le_of_ble_eq_true rfl) (lb29_0 G l _ _ _ M h) ?_
    intro p e s m args below meth c E B
    exact sb29_0 E B _ _ _ M h rfl
  · cases h
/-! ZF.Frame.turnOver(I)V -/
def ym30 : MethodName := ⟨"ZonedFabric$Frame", "turnOver", "(I)V"⟩
theorem cd30 : xCd ym30 prog_4_method_17_code 3 none 1 := ⟨mw206, mw207, by decide, by decide, by decide +kernel⟩
def b30_40  (M : hM) : Option xRes :=
  some (.inl (none, M))
def b30_0 (a0 : Nat) (v1 : Int32) (M : hM) : Option xRes :=
  Option.bind (d_v v1 (8 : Int32)) fun v_1 =>
  if v_1 < 0 then
    (b30_40  M)
  else
    (Option.bind (g_r M 2 0 (some a0)) fun o_3 =>
    Option.bind (a_ln M 21 o_3) fun v_5 =>
    if v_5 ≤ v_1 then
      (b30_40  M)
    else
      (Option.bind (g_r M 2 0 (some a0)) fun o_7 =>
      Option.bind (al_i M 21 o_7 v_1) fun v_9 =>
      Option.bind (d_m v1 (8 : Int32)) fun v_11 =>
      Option.bind (as_b M 21 o_7 v_1 (Int32.toInt8 (v_9 ^^^ (Int32.toInt8 ((1 : Int32) <<< (v_11 &&& 31))).toInt32)).toInt32) fun M13 =>
      Option.bind (p_z M13 2 2 (some a0) (1 : Int32)) fun M15 =>
      b30_40  M15))
def f30 (as : List aV) (M : hM) : xO := match as with
  | [.inr (.inr (some a0)), .inl v1] => x_out (b30_0 a0 v1 M)
  | _ => none
theorem lb30_40 (G : gX) (l : Launch)  (M : hM) {res : xRes} (h : b30_40  M = some res) : h_sz M ≤ r_sz res ∧ h_sl M ≤ r_sl res := by
  unfold b30_40 at h
  obtain rfl := Option.some.inj h
  show h_sz M ≤ h_sz M ∧ h_sl M ≤ h_sl M
  omega
theorem lb30_0 (G : gX) (l : Launch) (a0 : Nat) (v1 : Int32) (M : hM) {res : xRes} (h : b30_0 a0 v1 M = some res) : h_sz M ≤ r_sz res ∧ h_sl M ≤ r_sl res := by
  unfold b30_0 at h
  obtain ⟨v_1, h2, h⟩ := bd h
  by_cases q18 : v_1 < 0
  · rw [if_pos q18] at h
    have e := lb30_40 G l  M h
    omega
  · rw [if_neg q18] at h
    obtain ⟨o_3, h4, h⟩ := bd h
    obtain ⟨v_5, h6, h⟩ := bd h
    by_cases q17 : v_5 ≤ v_1
    · rw [if_pos q17] at h
      have e := lb30_40 G l  M h
      omega
    · rw [if_neg q17] at h
      obtain ⟨o_7, h8, h⟩ := bd h
      obtain ⟨v_9, h10, h⟩ := bd h
      obtain ⟨v_11, h12, h⟩ := bd h
      obtain ⟨M13, h14, h⟩ := bd h
      have eh14 := as_b_sz h14
      obtain ⟨M15, h16, h⟩ := bd h
      have eh16 := p_z_sz h16
      have e := lb30_40 G l  M15 h
      omega
section
variable {p : Program} {l : Launch} {e : Env} {s : State} {m : MethodId} {args : Array Value} {below : List Frame} {meth : Method} {c : Code} {G : gX} {z0 y0 : Nat} {r : Option aV} {M' : hM}
theorem sb30_40 (E : xE G p (xRm 0 (h_sz M' - z0) (h_sl M' - y0)) s m args c prog_4_method_17_code "ZonedFabric$Frame" z0 y0 (h_sz M') (h_sl M') 3) (B : xB ym30 none meth)  (M : hM) {res : xRes} (h : b30_40  M = some res) (hN : xN (fun _ _ _ => False) r M' res) : xV G p l e (xRm 0 (h_sz M' - z0) (h_sl M' - y0)) s m args below meth c z0 y0 (h_sz M') (h_sl M') 3 (MQ below (xQc G r M') args s (h_sz M' - z0) (h_sl M' - y0) (xFr G)) 40 [] [] M := by
  unfold b30_40 at h
  obtain rfl := Option.some.inj h
  obtain ⟨rfl, rfl⟩ := Prod.mk.inj (show ((none : Option aV), M) = (r, M') from hN)
  exact xv_rv E B.1 B.2.1 (show decode prog_4_method_17_code 40 = .ok (.return_, 1) by decide +kernel) rfl rfl
theorem sb30_0 (E : xE G p (xRm 0 (h_sz M' - z0) (h_sl M' - y0)) s m args c prog_4_method_17_code "ZonedFabric$Frame" z0 y0 (h_sz M') (h_sl M') 3) (B : xB ym30 none meth) (a0 : Nat) (v1 : Int32) (M : hM) {res : xRes} (h : b30_0 a0 v1 M = some res) (hN : xN (fun _ _ _ => False) r M' res) : xV G p l e (xRm 0 (h_sz M' - z0) (h_sl M' - y0)) s m args below meth c z0 y0 (h_sz M') (h_sl M') 3 (MQ below (xQc G r M') args s (h_sz M' - z0) (h_sl M' - y0) (xFr G)) 0 [(0, .inr (.inr (some a0))), (1, .inl v1)] [] M := by
  unfold b30_0 at h
  refine xv_b E [.iload_n 1, .bipush 8] (pc' := 3) (lv' := [(0, .inr (.inr (some a0))), (1, .inl v1)]) (st' := [.inl (8 : Int32), .inl v1]) (by decide +kernel) rfl rfl ?_
  obtain ⟨v_1, h2, h⟩ := bd h
  refine xd_v E h2 (show decode prog_4_method_17_code 3 = .ok (.idiv, 1) by decide +kernel) ?_
  refine xv_b E [.istore_n 2, .iload_n 2] (pc' := 6) (lv' := [(2, .inl v_1), (0, .inr (.inr (some a0))), (1, .inl v1)]) (st' := [.inl v_1]) (by decide +kernel) rfl rfl ?_
  by_cases q18 : v_1 < 0
  · rw [if_pos q18] at h
    refine xv_if_lt E 40 (show decode prog_4_method_17_code 6 = .ok (.ifCond .lt (34), 3) by decide +kernel) rfl (fun _ => ?_) (fun z => absurd q18 z)
    exact xv_w (sb30_40 E B  M h hN) rfl
  · rw [if_neg q18] at h
    refine xv_if_lt E 40 (show decode prog_4_method_17_code 6 = .ok (.ifCond .lt (34), 3) by decide +kernel) rfl (fun z => absurd z q18) (fun _ => ?_)
    refine xv_b E [.iload_n 2, .aload_n 0] (pc' := 11) (lv' := [(2, .inl v_1), (0, .inr (.inr (some a0))), (1, .inl v1)]) (st' := [.inr (.inr (some a0)), .inl v_1]) (by decide +kernel) rfl rfl ?_
    obtain ⟨o_3, h4, h⟩ := bd h
    refine xg_r E 2 0 h4 mw208 (show decode prog_4_method_17_code 11 = .ok (.getfield 9, 3) by decide +kernel) ?_
    obtain ⟨v_5, h6, h⟩ := bd h
    refine xa_n E 21 h6 (show decode prog_4_method_17_code 14 = .ok (.arraylength, 1) by decide +kernel) ?_
    by_cases q17 : v_5 ≤ v_1
    · rw [if_pos q17] at h
      refine xv_icmp_ge E 40 (show decode prog_4_method_17_code 15 = .ok (.if_icmp .ge (25), 3) by decide +kernel) rfl (fun _ => ?_) (fun z => absurd q17 z)
      exact xv_w (sb30_40 E B  M h hN) rfl
    · rw [if_neg q17] at h
      refine xv_icmp_ge E 40 (show decode prog_4_method_17_code 15 = .ok (.if_icmp .ge (25), 3) by decide +kernel) rfl (fun z => absurd z q17) (fun _ => ?_)
      refine xv_b E [.aload_n 0] (pc' := 19) (lv' := [(2, .inl v_1), (0, .inr (.inr (some a0))), (1, .inl v1)]) (st' := [.inr (.inr (some a0))]) (by decide +kernel) rfl rfl ?_
      obtain ⟨o_7, h8, h⟩ := bd h
      refine xg_r E 2 0 h8 mw208 (show decode prog_4_method_17_code 19 = .ok (.getfield 9, 3) by decide +kernel) ?_
      refine xv_b E [.iload_n 2, .dup2] (pc' := 24) (lv' := [(2, .inl v_1), (0, .inr (.inr (some a0))), (1, .inl v1)]) (st' := [.inl v_1, .inr (.inr o_7), .inl v_1, .inr (.inr o_7)]) (by decide +kernel) rfl rfl ?_
      obtain ⟨v_9, h10, h⟩ := bd h
      refine xa_b E h10 (show decode prog_4_method_17_code 24 = .ok (.baload, 1) by decide +kernel) ?_
      refine xv_b E [.iconst 1, .iload_n 1, .bipush 8] (pc' := 29) (lv' := [(2, .inl v_1), (0, .inr (.inr (some a0))), (1, .inl v1)]) (st' := [.inl (8 : Int32), .inl v1, .inl (1 : Int32), .inl v_9, .inl v_1, .inr (.inr o_7)]) (by decide +kernel) rfl rfl ?_
      obtain ⟨v_11, h12, h⟩ := bd h
      refine xd_m E h12 (show decode prog_4_method_17_code 29 = .ok (.irem, 1) by decide +kernel) ?_
      refine xv_b E [.ishl, .i2b, .ixor, .i2b] (pc' := 34) (lv' := [(2, .inl v_1), (0, .inr (.inr (some a0))), (1, .inl v1)]) (st' := [.inl (Int32.toInt8 (v_9 ^^^ (Int32.toInt8 ((1 : Int32) <<< (v_11 &&& 31))).toInt32)).toInt32, .inl v_1, .inr (.inr o_7)]) (by decide +kernel) rfl rfl ?_
      obtain ⟨M13, h14, h⟩ := bd h
      refine xs_b E h14 (show decode prog_4_method_17_code 34 = .ok (.bastore, 1) by decide +kernel) ?_
      refine xv_b E [.aload_n 0, .iconst 1] (pc' := 37) (lv' := [(2, .inl v_1), (0, .inr (.inr (some a0))), (1, .inl v1)]) (st' := [.inl (1 : Int32), .inr (.inr (some a0))]) (by decide +kernel) rfl rfl ?_
      obtain ⟨M15, h16, h⟩ := bd h
      refine xp_z E 2 2 h16 mw209 (show decode prog_4_method_17_code 37 = .ok (.putfield 19, 3) by decide +kernel) (Or.inl rfl) ?_
      exact xv_w (sb30_40 E B  M15 h hN) rfl
end
theorem t30 (G : gX) (l : Launch) {as : List aV} {M : hM} {r : Option aV} {M' : hM} (h : f30 as M = some (r, M')) : xM G l ym30 prog_4_method_17_code 3 none 0 as M r M' := by
  unfold f30 at h
  split at h
  · have h := x_out_ok h
    refine xM_of (by decide) (Nat.le_of_ble_eq_true rfl) (lb30_0 G l _ _ M h) ?_
    intro p e s m args below meth c E B
    exact sb30_0 E B _ _ M h rfl
  · cases h
/-! ZF.flip(III)Z -/
def ym31 : MethodName := ⟨"ZonedFabric", "flip", "(III)Z"⟩
theorem cd31 : xCd ym31 prog_1_method_9_code 5 (some FieldType.boolean) 3 := ⟨mw210, mw71, by decide, by decide, by decide +kernel⟩
def b31_29  (M : hM) : Option xRes :=
  some (.inl (some (.inl (0 : Int32)), M))
def b31_0 (a0 : Nat) (v1 : Int32) (v2 : Int32) (v3 : Int32) (M : hM) : Option xRes :=
  Option.bind (g_o M 11 (some a0)) fun b_3 =>
  Option.bind (c_R (f29 [.inr (.inr (some b_3)), .inl v1, .inl v2] M)) fun q_1 =>
  if q_1.1 = none then
    (b31_29  q_1.2)
  else
    (if v3 < 0 then
      (b31_29  q_1.2)
    else
      (Option.bind (g_i q_1.2 2 1 q_1.1) fun v_5 =>
      if v3 < ((8 : Int32) * v_5) then
        (Option.bind (g_o q_1.2 2 q_1.1) fun b_9 =>
        Option.bind (c_V (f30 [.inr (.inr (some b_9)), .inl v3] q_1.2)) fun q_7 =>
        some (.inl (some (.inl (1 : Int32)), q_7)))
      else
        (b31_29  q_1.2)))
def f31 (as : List aV) (M : hM) : xO := match as with
  | [.inr (.inr (some a0)), .inl v1, .inl v2, .inl v3] => x_out (b31_0 a0 v1 v2 v3 M)
  | _ => none
theorem lb31_29 (G : gX) (l : Launch)  (M : hM) {res : xRes} (h : b31_29  M = some res) : h_sz M ≤ r_sz res ∧ h_sl M ≤ r_sl res := by
  unfold b31_29 at h
  obtain rfl := Option.some.inj h
  show h_sz M ≤ h_sz M ∧ h_sl M ≤ h_sl M
  omega
theorem lb31_0 (G : gX) (l : Launch) (a0 : Nat) (v1 : Int32) (v2 : Int32) (v3 : Int32) (M : hM) {res : xRes} (h : b31_0 a0 v1 v2 v3 M = some res) : h_sz M ≤ r_sz res ∧ h_sl M ≤ r_sl res := by
  unfold b31_0 at h
  obtain ⟨b_3, h4, h⟩ := bd h
  obtain ⟨q_1, h2, h⟩ := bd h
  have eh2 := (t29 G l (c_R_some h2)).1
  by_cases q13 : q_1.1 = none
  · rw [if_pos q13] at h
    have e := lb31_29 G l  q_1.2 h
    omega
  · rw [if_neg q13] at h
    by_cases q12 : v3 < 0
    · rw [if_pos q12] at h
      have e := lb31_29 G l  q_1.2 h
      omega
    · rw [if_neg q12] at h
      obtain ⟨v_5, h6, h⟩ := bd h
      by_cases q11 : v3 < ((8 : Int32) * v_5)
      · rw [if_pos q11] at h
        obtain ⟨b_9, h10, h⟩ := bd h
        obtain ⟨q_7, h8, h⟩ := bd h
        have eh8 := (t30 G l (c_V_some h8)).1
        obtain rfl := Option.some.inj h
        show h_sz M ≤ h_sz q_7 ∧ h_sl M ≤ h_sl q_7
        omega
      · rw [if_neg q11] at h
        have e := lb31_29 G l  q_1.2 h
        omega
section
variable {p : Program} {l : Launch} {e : Env} {s : State} {m : MethodId} {args : Array Value} {below : List Frame} {meth : Method} {c : Code} {G : gX} {z0 y0 : Nat} {r : Option aV} {M' : hM}
theorem sb31_29 (E : xE G p (xRm 2 (h_sz M' - z0) (h_sl M' - y0)) s m args c prog_1_method_9_code "ZonedFabric" z0 y0 (h_sz M') (h_sl M') 5) (B : xB ym31 (some FieldType.boolean) meth)  (M : hM) {res : xRes} (h : b31_29  M = some res) (hN : xN (fun _ _ _ => False) r M' res) : xV G p l e (xRm 2 (h_sz M' - z0) (h_sl M' - y0)) s m args below meth c z0 y0 (h_sz M') (h_sl M') 5 (MQ below (xQc G r M') args s (h_sz M' - z0) (h_sl M' - y0) (xFr G)) 29 [] [] M := by
  unfold b31_29 at h
  refine xv_b E [.iconst 0] (pc' := 30) (lv' := []) (st' := [.inl (0 : Int32)]) (by decide +kernel) rfl rfl ?_
  obtain rfl := Option.some.inj h
  obtain ⟨rfl, rfl⟩ := Prod.mk.inj (show ((some (.inl (0 : Int32)) : Option aV), M) = (r, M') from hN)
  exact xv_ri E B.1 rfl B.2.1 (show decode prog_1_method_9_code 30 = .ok (.ireturn, 1) by decide +kernel) rfl rfl
theorem sb31_0 (E : xE G p (xRm 2 (h_sz M' - z0) (h_sl M' - y0)) s m args c prog_1_method_9_code "ZonedFabric" z0 y0 (h_sz M') (h_sl M') 5) (B : xB ym31 (some FieldType.boolean) meth) (a0 : Nat) (v1 : Int32) (v2 : Int32) (v3 : Int32) (M : hM) {res : xRes} (h : b31_0 a0 v1 v2 v3 M = some res) (hN : xN (fun _ _ _ => False) r M' res) : xV G p l e (xRm 2 (h_sz M' - z0) (h_sl M' - y0)) s m args below meth c z0 y0 (h_sz M') (h_sl M') 5 (MQ below (xQc G r M') args s (h_sz M' - z0) (h_sl M' - y0) (xFr G)) 0 [(0, .inr (.inr (some a0))), (1, .inl v1), (2, .inl v2), (3, .inl v3)] [] M := by
  unfold b31_0 at h
  refine xv_b E [.aload_n 0, .iload_n 1, .iload_n 2] (pc' := 3) (lv' := [(0, .inr (.inr (some a0))), (1, .inl v1), (2, .inl v2), (3, .inl v3)]) (st' := [.inl v2, .inl v1, .inr (.inr (some a0))]) (by decide +kernel) rfl rfl ?_
  obtain ⟨b_3, h4, h⟩ := bd h
  obtain ⟨eh4, th4⟩ := g_o_some h4
  obtain ⟨q_1, h2, h⟩ := bd h
  refine xv_cvo E eh4 11 (as := [.inl v1, .inl v2]) (t29 G l (c_R_some h2)) cd29 mw211 mw212 mw213 (show decode prog_1_method_9_code 3 = .ok (.invokevirtual 122, 3) by decide +kernel) th4 rfl rfl (Nat.le_of_ble_eq_true rfl) ⟨Nat.le_of_ble_eq_true rfl, Nat.le_of_ble_eq_true rfl⟩ ?_
  refine xv_b E [.astore 4, .aload 4] (pc' := 10) (lv' := [(4, .inr (.inr q_1.1)), (0, .inr (.inr (some a0))), (1, .inl v1), (2, .inl v2), (3, .inl v3)]) (st' := [.inr (.inr q_1.1)]) (by decide +kernel) rfl rfl ?_
  by_cases q13 : q_1.1 = none
  · rw [if_pos q13] at h
    refine xi_null E 29 (show decode prog_1_method_9_code 10 = .ok (.ifnull (19), 3) by decide +kernel) rfl (fun _ => ?_) (fun z => absurd q13 z)
    exact xv_w (sb31_29 E B  q_1.2 h hN) rfl
  · rw [if_neg q13] at h
    refine xi_null E 29 (show decode prog_1_method_9_code 10 = .ok (.ifnull (19), 3) by decide +kernel) rfl (fun z => absurd z q13) (fun _ => ?_)
    refine xv_b E [.iload_n 3] (pc' := 14) (lv' := [(4, .inr (.inr q_1.1)), (0, .inr (.inr (some a0))), (1, .inl v1), (2, .inl v2), (3, .inl v3)]) (st' := [.inl v3]) (by decide +kernel) rfl rfl ?_
    by_cases q12 : v3 < 0
    · rw [if_pos q12] at h
      refine xv_if_lt E 29 (show decode prog_1_method_9_code 14 = .ok (.ifCond .lt (15), 3) by decide +kernel) rfl (fun _ => ?_) (fun z => absurd q12 z)
      exact xv_w (sb31_29 E B  q_1.2 h hN) rfl
    · rw [if_neg q12] at h
      refine xv_if_lt E 29 (show decode prog_1_method_9_code 14 = .ok (.ifCond .lt (15), 3) by decide +kernel) rfl (fun z => absurd z q12) (fun _ => ?_)
      refine xv_b E [.iload_n 3, .bipush 8, .aload 4] (pc' := 22) (lv' := [(4, .inr (.inr q_1.1)), (0, .inr (.inr (some a0))), (1, .inl v1), (2, .inl v2), (3, .inl v3)]) (st' := [.inr (.inr q_1.1), .inl (8 : Int32), .inl v3]) (by decide +kernel) rfl rfl ?_
      obtain ⟨v_5, h6, h⟩ := bd h
      refine xg_i E 2 1 h6 mw214 (show decode prog_1_method_9_code 22 = .ok (.getfield 126, 3) by decide +kernel) ?_
      refine xv_b E [.imul] (pc' := 26) (lv' := [(4, .inr (.inr q_1.1)), (0, .inr (.inr (some a0))), (1, .inl v1), (2, .inl v2), (3, .inl v3)]) (st' := [.inl ((8 : Int32) * v_5), .inl v3]) (by decide +kernel) rfl rfl ?_
      by_cases q11 : v3 < ((8 : Int32) * v_5)
      · rw [if_pos q11] at h
        refine xv_icmp_lt E 31 (show decode prog_1_method_9_code 26 = .ok (.if_icmp .lt (5), 3) by decide +kernel) rfl (fun _ => ?_) (fun z => absurd q11 z)
        refine xv_b E [.aload 4, .iload_n 3] (pc' := 34) (lv' := [(4, .inr (.inr q_1.1)), (0, .inr (.inr (some a0))), (1, .inl v1), (2, .inl v2), (3, .inl v3)]) (st' := [.inl v3, .inr (.inr q_1.1)]) (by decide +kernel) rfl rfl ?_
        obtain ⟨b_9, h10, h⟩ := bd h
        obtain ⟨eh10, th10⟩ := g_o_some h10
        obtain ⟨q_7, h8, h⟩ := bd h
        refine xv_cvo E eh10 2 (as := [.inl v3]) (t30 G l (c_V_some h8)) cd30 mw215 mw216 mw217 (show decode prog_1_method_9_code 34 = .ok (.invokevirtual 131, 3) by decide +kernel) th10 rfl rfl (Nat.le_of_ble_eq_true rfl) ⟨Nat.le_of_ble_eq_true rfl, Nat.le_of_ble_eq_true rfl⟩ ?_
        refine xv_b E [.iconst 1] (pc' := 38) (lv' := [(4, .inr (.inr q_1.1)), (0, .inr (.inr (some a0))), (1, .inl v1), (2, .inl v2), (3, .inl v3)]) (st' := [.inl (1 : Int32)]) (by decide +kernel) rfl rfl ?_
        obtain rfl := Option.some.inj h
        obtain ⟨rfl, rfl⟩ := Prod.mk.inj (show ((some (.inl (1 : Int32)) : Option aV), q_7) = (r, M') from hN)
        exact xv_ri E B.1 rfl B.2.1 (show decode prog_1_method_9_code 38 = .ok (.ireturn, 1) by decide +kernel) rfl rfl
      · rw [if_neg q11] at h
        refine xv_icmp_lt E 31 (show decode prog_1_method_9_code 26 = .ok (.if_icmp .lt (5), 3) by decide +kernel) rfl (fun z => absurd z q11) (fun _ => ?_)
        exact xv_w (sb31_29 E B  q_1.2 h hN) rfl
end
theorem t31 (G : gX) (l : Launch) {as : List aV} {M : hM} {r : Option aV} {M' : hM} (h : f31 as M = some (r, M')) : xM G l ym31 prog_1_method_9_code 5 (some FieldType.boolean) 2 as M r M' := by
  unfold f31 at h
  split at h
  · have h := x_out_ok h
    refine xM_of (by decide) (Nat.le_of_ble_eq_true rfl) (lb31_0 G l _ _ _ _ M h) ?_
    intro p e s m args below meth c E B
    exact sb31_0 E B _ _ _ _ M h rfl
  · cases h
/-! ZF.Frame.start(IIII)V -/
def ym32 : MethodName := ⟨"ZonedFabric$Frame", "start", "(IIII)V"⟩
theorem cd32 : xCd ym32 prog_4_method_2_code 6 none 4 := ⟨mw218, mw207, by decide, by decide, by decide +kernel⟩
def b32_0 (a0 : Nat) (v1 : Int32) (v2 : Int32) (v3 : Int32) (v4 : Int32) (M : hM) : Option xRes :=
  Option.bind (p_i M 2 1 (some a0) (13 : Int32)) fun M1 =>
  Option.bind (p_z M1 2 2 (some a0) (0 : Int32)) fun M3 =>
  Option.bind (g_r M3 2 0 (some a0)) fun o_5 =>
  Option.bind (as_b M3 21 o_5 (0 : Int32) (Int32.toInt8 v1).toInt32) fun M7 =>
  some (.inr (22, [.inr (.inr (some a0)), .inl v2, .inl v3, .inl v4, .inl (0 : Int32)], M7))
def b32_22 (a0 : Nat) (v2 : Int32) (v3 : Int32) (v4 : Int32) (v5 : Int32) (M : hM) : Option xRes :=
  if (3 : Int32) ≤ v5 then
    (Option.bind (g_r M 2 0 (some a0)) fun o_9 =>
    Option.bind (as_b M 21 o_9 (7 : Int32) (Int32.toInt8 (v4 >>> ((8 : Int32) &&& 31))).toInt32) fun M11 =>
    Option.bind (g_r M11 2 0 (some a0)) fun o_13 =>
    Option.bind (as_b M11 21 o_13 (8 : Int32) (Int32.toInt8 v4).toInt32) fun M15 =>
    some (.inr (101, [.inr (.inr (some a0)), .inl (9 : Int32)], M15)))
  else
    (Option.bind (g_r M 2 0 (some a0)) fun o_17 =>
    Option.bind (as_b M 21 o_17 ((1 : Int32) + v5) (Int32.toInt8 (v2 >>> (((16 : Int32) - ((8 : Int32) * v5)) &&& 31))).toInt32) fun M19 =>
    Option.bind (g_r M19 2 0 (some a0)) fun o_21 =>
    Option.bind (as_b M19 21 o_21 ((4 : Int32) + v5) (Int32.toInt8 (v3 >>> (((16 : Int32) - ((8 : Int32) * v5)) &&& 31))).toInt32) fun M23 =>
    some (.inr (22, [.inr (.inr (some a0)), .inl v2, .inl v3, .inl v4, .inl (v5 + (1 : Int32))], M23)))
def b32_101 (a0 : Nat) (v5 : Int32) (M : hM) : Option xRes :=
  if (13 : Int32) ≤ v5 then
    (some (.inl (none, M)))
  else
    (Option.bind (g_r M 2 0 (some a0)) fun o_26 =>
    Option.bind (as_b M 21 o_26 v5 (0 : Int32)) fun M28 =>
    some (.inr (101, [.inr (.inr (some a0)), .inl (v5 + (1 : Int32))], M28)))
def k32 (h : Nat) (as : List aV) (M : hM) : Option xRes :=
  if h = 22 then (match as with | [.inr (.inr (some a0)), .inl v2, .inl v3, .inl v4, .inl v5] => b32_22 a0 v2 v3 v4 v5 M | _ => none) else
  if h = 101 then (match as with | [.inr (.inr (some a0)), .inl v5] => b32_101 a0 v5 M | _ => none) else
  none
def f32 (as : List aV) (M : hM) : xO := match as with
  | [.inr (.inr (some a0)), .inl v1, .inl v2, .inl v3, .inl v4] => x_go k32 (b32_0 a0 v1 v2 v3 v4 M)
  | _ => none
theorem lb32_0 (G : gX) (l : Launch) (a0 : Nat) (v1 : Int32) (v2 : Int32) (v3 : Int32) (v4 : Int32) (M : hM) {res : xRes} (h : b32_0 a0 v1 v2 v3 v4 M = some res) : h_sz M ≤ r_sz res ∧ h_sl M ≤ r_sl res := by
  unfold b32_0 at h
  obtain ⟨M1, h2, h⟩ := bd h
  have eh2 := p_i_sz h2
  obtain ⟨M3, h4, h⟩ := bd h
  have eh4 := p_z_sz h4
  obtain ⟨o_5, h6, h⟩ := bd h
  obtain ⟨M7, h8, h⟩ := bd h
  have eh8 := as_b_sz h8
  obtain rfl := Option.some.inj h
  show h_sz M ≤ h_sz M7 ∧ h_sl M ≤ h_sl M7
  omega
theorem lb32_22 (G : gX) (l : Launch) (a0 : Nat) (v2 : Int32) (v3 : Int32) (v4 : Int32) (v5 : Int32) (M : hM) {res : xRes} (h : b32_22 a0 v2 v3 v4 v5 M = some res) : h_sz M ≤ r_sz res ∧ h_sl M ≤ r_sl res := by
  unfold b32_22 at h
  by_cases q25 : (3 : Int32) ≤ v5
  · rw [if_pos q25] at h
    obtain ⟨o_9, h10, h⟩ := bd h
    obtain ⟨M11, h12, h⟩ := bd h
    have eh12 := as_b_sz h12
    obtain ⟨o_13, h14, h⟩ := bd h
    obtain ⟨M15, h16, h⟩ := bd h
    have eh16 := as_b_sz h16
    obtain rfl := Option.some.inj h
    show h_sz M ≤ h_sz M15 ∧ h_sl M ≤ h_sl M15
    omega
  · rw [if_neg q25] at h
    obtain ⟨o_17, h18, h⟩ := bd h
    obtain ⟨M19, h20, h⟩ := bd h
    have eh20 := as_b_sz h20
    obtain ⟨o_21, h22, h⟩ := bd h
    obtain ⟨M23, h24, h⟩ := bd h
    have eh24 := as_b_sz h24
    obtain rfl := Option.some.inj h
    show h_sz M ≤ h_sz M23 ∧ h_sl M ≤ h_sl M23
    omega
theorem lb32_101 (G : gX) (l : Launch) (a0 : Nat) (v5 : Int32) (M : hM) {res : xRes} (h : b32_101 a0 v5 M = some res) : h_sz M ≤ r_sz res ∧ h_sl M ≤ r_sl res := by
  unfold b32_101 at h
  by_cases q30 : (13 : Int32) ≤ v5
  · rw [if_pos q30] at h
    obtain rfl := Option.some.inj h
    show h_sz M ≤ h_sz M ∧ h_sl M ≤ h_sl M
    omega
  · rw [if_neg q30] at h
    obtain ⟨o_26, h27, h⟩ := bd h
    obtain ⟨M28, h29, h⟩ := bd h
    have eh29 := as_b_sz h29
    obtain rfl := Option.some.inj h
    show h_sz M ≤ h_sz M28 ∧ h_sl M ≤ h_sl M28
    omega
section
variable {p : Program} {l : Launch} {e : Env} {s : State} {m : MethodId} {args : Array Value} {below : List Frame} {meth : Method} {c : Code} {G : gX} {z0 y0 : Nat} {r : Option aV} {M' : hM}
def pg32 (p : Program) (l : Launch) (e : Env) (s : State) (m : MethodId) (args : Array Value) (below : List Frame) (meth : Method) (c : Code) (G : gX) (z0 y0 : Nat) (r : Option aV) (M' : hM) (h : Nat) (as : List aV) (M : hM) : Prop :=
  if h = 22 then (match as with | [.inr (.inr (some a0)), .inl v2, .inl v3, .inl v4, .inl v5] => xV G p l e (xRm 0 (h_sz M' - z0) (h_sl M' - y0)) s m args below meth c z0 y0 (h_sz M') (h_sl M') 6 (MQ below (xQc G r M') args s (h_sz M' - z0) (h_sl M' - y0) (xFr G)) 22 [(0, .inr (.inr (some a0))), (2, .inl v2), (3, .inl v3), (4, .inl v4), (5, .inl v5)] [] M | _ => False) else
  if h = 101 then (match as with | [.inr (.inr (some a0)), .inl v5] => xV G p l e (xRm 0 (h_sz M' - z0) (h_sl M' - y0)) s m args below meth c z0 y0 (h_sz M') (h_sl M') 6 (MQ below (xQc G r M') args s (h_sz M' - z0) (h_sl M' - y0) (xFr G)) 101 [(0, .inr (.inr (some a0))), (5, .inl v5)] [] M | _ => False) else
  False
theorem sb32_0 (E : xE G p (xRm 0 (h_sz M' - z0) (h_sl M' - y0)) s m args c prog_4_method_2_code "ZonedFabric$Frame" z0 y0 (h_sz M') (h_sl M') 6) (B : xB ym32 none meth) (a0 : Nat) (v1 : Int32) (v2 : Int32) (v3 : Int32) (v4 : Int32) (M : hM) {res : xRes} (h : b32_0 a0 v1 v2 v3 v4 M = some res) (hN : xN (pg32 p l e s m args below meth c G z0 y0 r M') r M' res) : xV G p l e (xRm 0 (h_sz M' - z0) (h_sl M' - y0)) s m args below meth c z0 y0 (h_sz M') (h_sl M') 6 (MQ below (xQc G r M') args s (h_sz M' - z0) (h_sl M' - y0) (xFr G)) 0 [(0, .inr (.inr (some a0))), (1, .inl v1), (2, .inl v2), (3, .inl v3), (4, .inl v4)] [] M := by
  unfold b32_0 at h
  refine xv_b E [.aload_n 0, .bipush 13] (pc' := 3) (lv' := [(0, .inr (.inr (some a0))), (1, .inl v1), (2, .inl v2), (3, .inl v3), (4, .inl v4)]) (st' := [.inl (13 : Int32), .inr (.inr (some a0))]) (by decide +kernel) rfl rfl ?_
  obtain ⟨M1, h2, h⟩ := bd h
  refine xp_i E 2 1 h2 mw219 (show decode prog_4_method_2_code 3 = .ok (.putfield 15, 3) by decide +kernel) (Or.inl rfl) ?_
  refine xv_b E [.aload_n 0, .iconst 0] (pc' := 8) (lv' := [(0, .inr (.inr (some a0))), (1, .inl v1), (2, .inl v2), (3, .inl v3), (4, .inl v4)]) (st' := [.inl (0 : Int32), .inr (.inr (some a0))]) (by decide +kernel) rfl rfl ?_
  obtain ⟨M3, h4, h⟩ := bd h
  refine xp_z E 2 2 h4 mw209 (show decode prog_4_method_2_code 8 = .ok (.putfield 19, 3) by decide +kernel) (Or.inl rfl) ?_
  refine xv_b E [.aload_n 0] (pc' := 12) (lv' := [(0, .inr (.inr (some a0))), (1, .inl v1), (2, .inl v2), (3, .inl v3), (4, .inl v4)]) (st' := [.inr (.inr (some a0))]) (by decide +kernel) rfl rfl ?_
  obtain ⟨o_5, h6, h⟩ := bd h
  refine xg_r E 2 0 h6 mw208 (show decode prog_4_method_2_code 12 = .ok (.getfield 9, 3) by decide +kernel) ?_
  refine xv_b E [.iconst 0, .iload_n 1, .i2b] (pc' := 18) (lv' := [(0, .inr (.inr (some a0))), (1, .inl v1), (2, .inl v2), (3, .inl v3), (4, .inl v4)]) (st' := [.inl (Int32.toInt8 v1).toInt32, .inl (0 : Int32), .inr (.inr o_5)]) (by decide +kernel) rfl rfl ?_
  obtain ⟨M7, h8, h⟩ := bd h
  refine xs_b E h8 (show decode prog_4_method_2_code 18 = .ok (.bastore, 1) by decide +kernel) ?_
  refine xv_b E [.iconst 0, .istore 5] (pc' := 22) (lv' := [(5, .inl (0 : Int32)), (0, .inr (.inr (some a0))), (1, .inl v1), (2, .inl v2), (3, .inl v3), (4, .inl v4)]) (st' := []) (by decide +kernel) rfl rfl ?_
  obtain rfl := Option.some.inj h
  exact xv_w hN rfl
theorem sb32_22 (E : xE G p (xRm 0 (h_sz M' - z0) (h_sl M' - y0)) s m args c prog_4_method_2_code "ZonedFabric$Frame" z0 y0 (h_sz M') (h_sl M') 6) (B : xB ym32 none meth) (a0 : Nat) (v2 : Int32) (v3 : Int32) (v4 : Int32) (v5 : Int32) (M : hM) {res : xRes} (h : b32_22 a0 v2 v3 v4 v5 M = some res) (hN : xN (pg32 p l e s m args below meth c G z0 y0 r M') r M' res) : xV G p l e (xRm 0 (h_sz M' - z0) (h_sl M' - y0)) s m args below meth c z0 y0 (h_sz M') (h_sl M') 6 (MQ below (xQc G r M') args s (h_sz M' - z0) (h_sl M' - y0) (xFr G)) 22 [(0, .inr (.inr (some a0))), (2, .inl v2), (3, .inl v3), (4, .inl v4), (5, .inl v5)] [] M := by
  unfold b32_22 at h
  refine xv_b E [.iload 5, .iconst 3] (pc' := 25) (lv' := [(0, .inr (.inr (some a0))), (2, .inl v2), (3, .inl v3), (4, .inl v4), (5, .inl v5)]) (st' := [.inl (3 : Int32), .inl v5]) (by decide +kernel) rfl rfl ?_
  by_cases q25 : (3 : Int32) ≤ v5
  · rw [if_pos q25] at h
    refine xv_icmp_ge E 74 (show decode prog_4_method_2_code 25 = .ok (.if_icmp .ge (49), 3) by decide +kernel) rfl (fun _ => ?_) (fun z => absurd q25 z)
    refine xv_b E [.aload_n 0] (pc' := 75) (lv' := [(0, .inr (.inr (some a0))), (2, .inl v2), (3, .inl v3), (4, .inl v4), (5, .inl v5)]) (st' := [.inr (.inr (some a0))]) (by decide +kernel) rfl rfl ?_
    obtain ⟨o_9, h10, h⟩ := bd h
    refine xg_r E 2 0 h10 mw208 (show decode prog_4_method_2_code 75 = .ok (.getfield 9, 3) by decide +kernel) ?_
    refine xv_b E [.bipush 7, .iload 4, .bipush 8, .ishr, .i2b] (pc' := 86) (lv' := [(0, .inr (.inr (some a0))), (2, .inl v2), (3, .inl v3), (4, .inl v4), (5, .inl v5)]) (st' := [.inl (Int32.toInt8 (v4 >>> ((8 : Int32) &&& 31))).toInt32, .inl (7 : Int32), .inr (.inr o_9)]) (by decide +kernel) rfl rfl ?_
    obtain ⟨M11, h12, h⟩ := bd h
    refine xs_b E h12 (show decode prog_4_method_2_code 86 = .ok (.bastore, 1) by decide +kernel) ?_
    refine xv_b E [.aload_n 0] (pc' := 88) (lv' := [(0, .inr (.inr (some a0))), (2, .inl v2), (3, .inl v3), (4, .inl v4), (5, .inl v5)]) (st' := [.inr (.inr (some a0))]) (by decide +kernel) rfl rfl ?_
    obtain ⟨o_13, h14, h⟩ := bd h
    refine xg_r E 2 0 h14 mw208 (show decode prog_4_method_2_code 88 = .ok (.getfield 9, 3) by decide +kernel) ?_
    refine xv_b E [.bipush 8, .iload 4, .i2b] (pc' := 96) (lv' := [(0, .inr (.inr (some a0))), (2, .inl v2), (3, .inl v3), (4, .inl v4), (5, .inl v5)]) (st' := [.inl (Int32.toInt8 v4).toInt32, .inl (8 : Int32), .inr (.inr o_13)]) (by decide +kernel) rfl rfl ?_
    obtain ⟨M15, h16, h⟩ := bd h
    refine xs_b E h16 (show decode prog_4_method_2_code 96 = .ok (.bastore, 1) by decide +kernel) ?_
    refine xv_b E [.bipush 9, .istore 5] (pc' := 101) (lv' := [(5, .inl (9 : Int32)), (0, .inr (.inr (some a0))), (2, .inl v2), (3, .inl v3), (4, .inl v4)]) (st' := []) (by decide +kernel) rfl rfl ?_
    obtain rfl := Option.some.inj h
    exact xv_w hN rfl
  · rw [if_neg q25] at h
    refine xv_icmp_ge E 74 (show decode prog_4_method_2_code 25 = .ok (.if_icmp .ge (49), 3) by decide +kernel) rfl (fun z => absurd z q25) (fun _ => ?_)
    refine xv_b E [.aload_n 0] (pc' := 29) (lv' := [(0, .inr (.inr (some a0))), (2, .inl v2), (3, .inl v3), (4, .inl v4), (5, .inl v5)]) (st' := [.inr (.inr (some a0))]) (by decide +kernel) rfl rfl ?_
    obtain ⟨o_17, h18, h⟩ := bd h
    refine xg_r E 2 0 h18 mw208 (show decode prog_4_method_2_code 29 = .ok (.getfield 9, 3) by decide +kernel) ?_
    refine xv_b E [.iconst 1, .iload 5, .iadd, .iload_n 2, .bipush 16, .bipush 8, .iload 5, .imul, .isub, .ishr, .i2b] (pc' := 47) (lv' := [(0, .inr (.inr (some a0))), (2, .inl v2), (3, .inl v3), (4, .inl v4), (5, .inl v5)]) (st' := [.inl (Int32.toInt8 (v2 >>> (((16 : Int32) - ((8 : Int32) * v5)) &&& 31))).toInt32, .inl ((1 : Int32) + v5), .inr (.inr o_17)]) (by decide +kernel) rfl rfl ?_
    obtain ⟨M19, h20, h⟩ := bd h
    refine xs_b E h20 (show decode prog_4_method_2_code 47 = .ok (.bastore, 1) by decide +kernel) ?_
    refine xv_b E [.aload_n 0] (pc' := 49) (lv' := [(0, .inr (.inr (some a0))), (2, .inl v2), (3, .inl v3), (4, .inl v4), (5, .inl v5)]) (st' := [.inr (.inr (some a0))]) (by decide +kernel) rfl rfl ?_
    obtain ⟨o_21, h22, h⟩ := bd h
    refine xg_r E 2 0 h22 mw208 (show decode prog_4_method_2_code 49 = .ok (.getfield 9, 3) by decide +kernel) ?_
    refine xv_b E [.iconst 4, .iload 5, .iadd, .iload_n 3, .bipush 16, .bipush 8, .iload 5, .imul, .isub, .ishr, .i2b] (pc' := 67) (lv' := [(0, .inr (.inr (some a0))), (2, .inl v2), (3, .inl v3), (4, .inl v4), (5, .inl v5)]) (st' := [.inl (Int32.toInt8 (v3 >>> (((16 : Int32) - ((8 : Int32) * v5)) &&& 31))).toInt32, .inl ((4 : Int32) + v5), .inr (.inr o_21)]) (by decide +kernel) rfl rfl ?_
    obtain ⟨M23, h24, h⟩ := bd h
    refine xs_b E h24 (show decode prog_4_method_2_code 67 = .ok (.bastore, 1) by decide +kernel) ?_
    refine xv_b E [.iinc 5 1] (pc' := 71) (lv' := [(5, .inl (v5 + (1 : Int32))), (0, .inr (.inr (some a0))), (2, .inl v2), (3, .inl v3), (4, .inl v4)]) (st' := []) (by decide +kernel) rfl rfl ?_
    refine xv_goto E 22 (show decode prog_4_method_2_code 71 = .ok (.goto (-49), 3) by decide +kernel) rfl ?_
    obtain rfl := Option.some.inj h
    exact xv_w hN rfl
theorem sb32_101 (E : xE G p (xRm 0 (h_sz M' - z0) (h_sl M' - y0)) s m args c prog_4_method_2_code "ZonedFabric$Frame" z0 y0 (h_sz M') (h_sl M') 6) (B : xB ym32 none meth) (a0 : Nat) (v5 : Int32) (M : hM) {res : xRes} (h : b32_101 a0 v5 M = some res) (hN : xN (pg32 p l e s m args below meth c G z0 y0 r M') r M' res) : xV G p l e (xRm 0 (h_sz M' - z0) (h_sl M' - y0)) s m args below meth c z0 y0 (h_sz M') (h_sl M') 6 (MQ below (xQc G r M') args s (h_sz M' - z0) (h_sl M' - y0) (xFr G)) 101 [(0, .inr (.inr (some a0))), (5, .inl v5)] [] M := by
  unfold b32_101 at h
  refine xv_b E [.iload 5, .bipush 13] (pc' := 105) (lv' := [(0, .inr (.inr (some a0))), (5, .inl v5)]) (st' := [.inl (13 : Int32), .inl v5]) (by decide +kernel) rfl rfl ?_
  by_cases q30 : (13 : Int32) ≤ v5
  · rw [if_pos q30] at h
    refine xv_icmp_ge E 122 (show decode prog_4_method_2_code 105 = .ok (.if_icmp .ge (17), 3) by decide +kernel) rfl (fun _ => ?_) (fun z => absurd q30 z)
    obtain rfl := Option.some.inj h
    obtain ⟨rfl, rfl⟩ := Prod.mk.inj (show ((none : Option aV), M) = (r, M') from hN)
    exact xv_rv E B.1 B.2.1 (show decode prog_4_method_2_code 122 = .ok (.return_, 1) by decide +kernel) rfl rfl
  · rw [if_neg q30] at h
    refine xv_icmp_ge E 122 (show decode prog_4_method_2_code 105 = .ok (.if_icmp .ge (17), 3) by decide +kernel) rfl (fun z => absurd z q30) (fun _ => ?_)
    refine xv_b E [.aload_n 0] (pc' := 109) (lv' := [(0, .inr (.inr (some a0))), (5, .inl v5)]) (st' := [.inr (.inr (some a0))]) (by decide +kernel) rfl rfl ?_
    obtain ⟨o_26, h27, h⟩ := bd h
    refine xg_r E 2 0 h27 mw208 (show decode prog_4_method_2_code 109 = .ok (.getfield 9, 3) by decide +kernel) ?_
    refine xv_b E [.iload 5, .iconst 0] (pc' := 115) (lv' := [(0, .inr (.inr (some a0))), (5, .inl v5)]) (st' := [.inl (0 : Int32), .inl v5, .inr (.inr o_26)]) (by decide +kernel) rfl rfl ?_
    obtain ⟨M28, h29, h⟩ := bd h
    refine xs_b E h29 (show decode prog_4_method_2_code 115 = .ok (.bastore, 1) by decide +kernel) ?_
    refine xv_b E [.iinc 5 1] (pc' := 119) (lv' := [(5, .inl (v5 + (1 : Int32))), (0, .inr (.inr (some a0)))]) (st' := []) (by decide +kernel) rfl rfl ?_
    refine xv_goto E 101 (show decode prog_4_method_2_code 119 = .ok (.goto (-18), 3) by decide +kernel) rfl ?_
    obtain rfl := Option.some.inj h
    exact xv_w hN rfl
end
theorem t32 (G : gX) (l : Launch) {as : List aV} {M : hM} {r : Option aV} {M' : hM} (h : f32 as M = some (r, M')) : xM G l ym32 prog_4_method_2_code 6 none 0 as M r M' := by
  unfold f32 at h
  split at h
  · have hle : ∀ h as M res, k32 h as M = some res → h_sz M ≤ r_sz res ∧ h_sl M ≤ r_sl res := by
      intro h as M res hb
      unfold k32 at hb
      by_cases e0 : h = 22
      · rw [if_pos e0] at hb
        split at hb
        · exact lb32_22 G l _ _ _ _ _ M hb
        · cases hb
      · rw [if_neg e0] at hb
        by_cases e1 : h = 101
        · rw [if_pos e1] at hb
          split at hb
          · exact lb32_101 G l _ _ M hb
          · cases hb
        · rw [if_neg e1] at hb
          cases hb
    obtain ⟨res, hx, hres⟩ := x_go_ok h
    refine xM_of (by decide) (Nat.le_of_ble_eq_true rfl) ?_ ?_
    · have e1 := lb32_0 G l _ _ _ _ _ M hx
      have e2 := x_go_le hle hres
      omega
    · intro p e s m args below meth c E B
      refine sb32_0 E B _ _ _ _ _ M hx (hres _ ?_)
      intro h as M res hb hN
      unfold k32 at hb
      unfold pg32
      by_cases e0 : h = 22
      · rw [if_pos e0] at hb ⊢
        split at hb
        · exact sb32_22 E B _ _ _ _ _ M hb hN
        · cases hb
      · rw [if_neg e0] at hb ⊢
        by_cases e1 : h = 101
        · rw [if_pos e1] at hb ⊢
          split at hb
          · exact sb32_101 E B _ _ M hb hN
          · cases hb
        · rw [if_neg e1] at hb ⊢
          cases hb
  · cases h
/-! ZF.Frame.init()V -/
def ym33 : MethodName := ⟨"ZonedFabric$Frame", "<init>", "()V"⟩
theorem cd33 : xCd ym33 prog_4_method_1_code 1 none 0 := ⟨mw220, mw207, by decide, by decide, by decide +kernel⟩
def b33_0 (a0 : Nat) (M : hM) : Option xRes :=
  Option.bind (n_a M 21 (48 : Int32)) fun M1 =>
  Option.bind (p_r M1 2 0 (some a0) (some (h_sz M))) fun M3 =>
  some (.inl (none, M3))
def f33 (as : List aV) (M : hM) : xO := match as with
  | [.inr (.inr (some a0))] => x_out (b33_0 a0 M)
  | _ => none
theorem lb33_0 (G : gX) (l : Launch) (a0 : Nat) (M : hM) {res : xRes} (h : b33_0 a0 M = some res) : h_sz M ≤ r_sz res ∧ h_sl M ≤ r_sl res := by
  unfold b33_0 at h
  obtain ⟨M1, h2, h⟩ := bd h
  have eh2 := n_a_sz h2
  obtain ⟨M3, h4, h⟩ := bd h
  have eh4 := p_r_sz h4
  obtain rfl := Option.some.inj h
  show h_sz M ≤ h_sz M3 ∧ h_sl M ≤ h_sl M3
  omega
section
variable {p : Program} {l : Launch} {e : Env} {s : State} {m : MethodId} {args : Array Value} {below : List Frame} {meth : Method} {c : Code} {G : gX} {z0 y0 : Nat} {r : Option aV} {M' : hM}
theorem sb33_0 (E : xE G p (xRm 1 (h_sz M' - z0) (h_sl M' - y0)) s m args c prog_4_method_1_code "ZonedFabric$Frame" z0 y0 (h_sz M') (h_sl M') 1) (B : xB ym33 none meth) (a0 : Nat) (M : hM) {res : xRes} (h : b33_0 a0 M = some res) (hN : xN (fun _ _ _ => False) r M' res) : xV G p l e (xRm 1 (h_sz M' - z0) (h_sl M' - y0)) s m args below meth c z0 y0 (h_sz M') (h_sl M') 1 (MQ below (xQc G r M') args s (h_sz M' - z0) (h_sl M' - y0) (xFr G)) 0 [(0, .inr (.inr (some a0)))] [] M := by
  unfold b33_0 at h
  refine xv_b E [.aload_n 0] (pc' := 1) (lv' := [(0, .inr (.inr (some a0)))]) (st' := [.inr (.inr (some a0))]) (by decide +kernel) rfl rfl ?_
  refine xv_co E mw221 mw9 mwObj (show decode prog_4_method_1_code 1 = .ok (.invokespecial 3, 3) by decide +kernel) (Nat.le_of_ble_eq_true rfl) ⟨Nat.le_of_ble_eq_true rfl, Nat.le_of_ble_eq_true rfl⟩ ?_
  refine xv_b E [.aload_n 0, .bipush 48] (pc' := 7) (lv' := [(0, .inr (.inr (some a0)))]) (st' := [.inl (48 : Int32), .inr (.inr (some a0))]) (by decide +kernel) rfl rfl ?_
  obtain ⟨M1, h2, h⟩ := bd h
  refine xn_a E 21 h2 mw47 (show decode prog_4_method_1_code 7 = .ok (.newarray .byte, 2) by decide +kernel) ?_
  obtain ⟨M3, h4, h⟩ := bd h
  refine xp_r E 2 0 h4 mw208 (show decode prog_4_method_1_code 9 = .ok (.putfield 9, 3) by decide +kernel) (Or.inr ⟨rfl, B.2.2, rfl⟩) ?_
  obtain rfl := Option.some.inj h
  obtain ⟨rfl, rfl⟩ := Prod.mk.inj (show ((none : Option aV), M3) = (r, M') from hN)
  exact xv_rv E B.1 B.2.1 (show decode prog_4_method_1_code 12 = .ok (.return_, 1) by decide +kernel) rfl rfl
end
theorem t33 (G : gX) (l : Launch) {as : List aV} {M : hM} {r : Option aV} {M' : hM} (h : f33 as M = some (r, M')) : xM G l ym33 prog_4_method_1_code 1 none 1 as M r M' := by
  unfold f33 at h
  split at h
  · have h := x_out_ok h
    refine xM_of (by decide) (Nat.le_of_ble_eq_true rfl) (lb33_0 G l _ M h) ?_
    intro p e s m args below meth c E B
    exact sb33_0 E B _ M h rfl
  · cases h
/-! ZF.Shared.draft(IIII)LZF$Frame; -/
def ym34 : MethodName := ⟨"ZonedFabric$Shared", "draft", "(IIII)LZonedFabric$Frame;"⟩
theorem cd34 : xCd ym34 prog_11_method_5_code 6 (some (FieldType.object "ZonedFabric$Frame")) 4 := ⟨mw222, mw1, by decide, by decide, by decide +kernel⟩
def b34_32 (v1 : Int32) (v2 : Int32) (v3 : Int32) (v4 : Int32) (o5 : Option Nat) (M : hM) : Option xRes :=
  Option.bind (p_r M 2 3 o5 none) fun M12 =>
  Option.bind (g_o M12 2 o5) fun b_16 =>
  Option.bind (c_V (f32 [.inr (.inr (some b_16)), .inl v1, .inl v2, .inl v3, .inl v4] M12)) fun q_14 =>
  some (.inl (some (.inr (.inr o5)), q_14))
def b34_0 (a0 : Nat) (v1 : Int32) (v2 : Int32) (v3 : Int32) (v4 : Int32) (M : hM) : Option xRes :=
  Option.bind (g_r M 9 7 (some a0)) fun o_1 =>
  if o_1 = none then
    (Option.bind (n_o M 2 4) fun M7 =>
    Option.bind (c_V (f33 [.inr (.inr (some (h_sz M)))] M7)) fun q_9 =>
    b34_32 v1 v2 v3 v4 (some (h_sz M)) q_9)
  else
    (Option.bind (g_r M 2 3 o_1) fun o_3 =>
    Option.bind (p_r M 9 7 (some a0) o_3) fun M5 =>
    b34_32 v1 v2 v3 v4 o_1 M5)
def f34 (as : List aV) (M : hM) : xO := match as with
  | [.inr (.inr (some a0)), .inl v1, .inl v2, .inl v3, .inl v4] => x_out (b34_0 a0 v1 v2 v3 v4 M)
  | _ => none
theorem lb34_32 (G : gX) (l : Launch) (v1 : Int32) (v2 : Int32) (v3 : Int32) (v4 : Int32) (o5 : Option Nat) (M : hM) {res : xRes} (h : b34_32 v1 v2 v3 v4 o5 M = some res) : h_sz M ≤ r_sz res ∧ h_sl M ≤ r_sl res := by
  unfold b34_32 at h
  obtain ⟨M12, h13, h⟩ := bd h
  have eh13 := p_r_sz h13
  obtain ⟨b_16, h17, h⟩ := bd h
  obtain ⟨q_14, h15, h⟩ := bd h
  have eh15 := (t32 G l (c_V_some h15)).1
  obtain rfl := Option.some.inj h
  show h_sz M ≤ h_sz q_14 ∧ h_sl M ≤ h_sl q_14
  omega
theorem lb34_0 (G : gX) (l : Launch) (a0 : Nat) (v1 : Int32) (v2 : Int32) (v3 : Int32) (v4 : Int32) (M : hM) {res : xRes} (h : b34_0 a0 v1 v2 v3 v4 M = some res) : h_sz M ≤ r_sz res ∧ h_sl M ≤ r_sl res := by
  unfold b34_0 at h
  obtain ⟨o_1, h2, h⟩ := bd h
  by_cases q11 : o_1 = none
  · rw [if_pos q11] at h
    obtain ⟨M7, h8, h⟩ := bd h
    have eh8 := n_o_sz h8
    obtain ⟨q_9, h10, h⟩ := bd h
    have eh10 := (t33 G l (c_V_some h10)).1
    have e := lb34_32 G l v1 v2 v3 v4 (some (h_sz M)) q_9 h
    omega
  · rw [if_neg q11] at h
    obtain ⟨o_3, h4, h⟩ := bd h
    obtain ⟨M5, h6, h⟩ := bd h
    have eh6 := p_r_sz h6
    have e := lb34_32 G l v1 v2 v3 v4 o_1 M5 h
    omega
section
variable {p : Program} {l : Launch} {e : Env} {s : State} {m : MethodId} {args : Array Value} {below : List Frame} {meth : Method} {c : Code} {G : gX} {z0 y0 : Nat} {r : Option aV} {M' : hM}
theorem sb34_32 (E : xE G p (xRm 2 (h_sz M' - z0) (h_sl M' - y0)) s m args c prog_11_method_5_code "ZonedFabric$Shared" z0 y0 (h_sz M') (h_sl M') 6) (B : xB ym34 (some (FieldType.object "ZonedFabric$Frame")) meth) (v1 : Int32) (v2 : Int32) (v3 : Int32) (v4 : Int32) (o5 : Option Nat) (M : hM) {res : xRes} (h : b34_32 v1 v2 v3 v4 o5 M = some res) (hN : xN (fun _ _ _ => False) r M' res) : xV G p l e (xRm 2 (h_sz M' - z0) (h_sl M' - y0)) s m args below meth c z0 y0 (h_sz M') (h_sl M') 6 (MQ below (xQc G r M') args s (h_sz M' - z0) (h_sl M' - y0) (xFr G)) 32 [(1, .inl v1), (2, .inl v2), (3, .inl v3), (4, .inl v4), (5, .inr (.inr o5))] [] M := by
  unfold b34_32 at h
  refine xv_b E [.aload 5, .aconst_null] (pc' := 35) (lv' := [(1, .inl v1), (2, .inl v2), (3, .inl v3), (4, .inl v4), (5, .inr (.inr o5))]) (st' := [.inr (.inr none), .inr (.inr o5)]) (by decide +kernel) rfl rfl ?_
  obtain ⟨M12, h13, h⟩ := bd h
  refine xp_r E 2 3 h13 mw149 (show decode prog_11_method_5_code 35 = .ok (.putfield 43, 3) by decide +kernel) (Or.inl rfl) ?_
  refine xv_b E [.aload 5, .iload_n 1, .iload_n 2, .iload_n 3, .iload 4] (pc' := 45) (lv' := [(1, .inl v1), (2, .inl v2), (3, .inl v3), (4, .inl v4), (5, .inr (.inr o5))]) (st' := [.inl v4, .inl v3, .inl v2, .inl v1, .inr (.inr o5)]) (by decide +kernel) rfl rfl ?_
  obtain ⟨b_16, h17, h⟩ := bd h
  obtain ⟨eh17, th17⟩ := g_o_some h17
  obtain ⟨q_14, h15, h⟩ := bd h
  refine xv_cvo E eh17 2 (as := [.inl v1, .inl v2, .inl v3, .inl v4]) (t32 G l (c_V_some h15)) cd32 mw226 mw227 mw228 (show decode prog_11_method_5_code 45 = .ok (.invokevirtual 46, 3) by decide +kernel) th17 rfl rfl (Nat.le_of_ble_eq_true rfl) ⟨Nat.le_of_ble_eq_true rfl, Nat.le_of_ble_eq_true rfl⟩ ?_
  refine xv_b E [.aload 5] (pc' := 50) (lv' := [(1, .inl v1), (2, .inl v2), (3, .inl v3), (4, .inl v4), (5, .inr (.inr o5))]) (st' := [.inr (.inr o5)]) (by decide +kernel) rfl rfl ?_
  obtain rfl := Option.some.inj h
  obtain ⟨rfl, rfl⟩ := Prod.mk.inj (show ((some (.inr (.inr o5)) : Option aV), q_14) = (r, M') from hN)
  exact xv_rr E B.1 (Or.inl ⟨_, rfl⟩) B.2.1 (show decode prog_11_method_5_code 50 = .ok (.areturn, 1) by decide +kernel) rfl rfl
theorem sb34_0 (E : xE G p (xRm 2 (h_sz M' - z0) (h_sl M' - y0)) s m args c prog_11_method_5_code "ZonedFabric$Shared" z0 y0 (h_sz M') (h_sl M') 6) (B : xB ym34 (some (FieldType.object "ZonedFabric$Frame")) meth) (a0 : Nat) (v1 : Int32) (v2 : Int32) (v3 : Int32) (v4 : Int32) (M : hM) {res : xRes} (h : b34_0 a0 v1 v2 v3 v4 M = some res) (hN : xN (fun _ _ _ => False) r M' res) : xV G p l e (xRm 2 (h_sz M' - z0) (h_sl M' - y0)) s m args below meth c z0 y0 (h_sz M') (h_sl M') 6 (MQ below (xQc G r M') args s (h_sz M' - z0) (h_sl M' - y0) (xFr G)) 0 [(0, .inr (.inr (some a0))), (1, .inl v1), (2, .inl v2), (3, .inl v3), (4, .inl v4)] [] M := by
  unfold b34_0 at h
  refine xv_b E [.aload_n 0] (pc' := 1) (lv' := [(0, .inr (.inr (some a0))), (1, .inl v1), (2, .inl v2), (3, .inl v3), (4, .inl v4)]) (st' := [.inr (.inr (some a0))]) (by decide +kernel) rfl rfl ?_
  obtain ⟨o_1, h2, h⟩ := bd h
  refine xg_r E 9 7 h2 mw148 (show decode prog_11_method_5_code 1 = .ok (.getfield 36, 3) by decide +kernel) ?_
  refine xv_b E [.astore 5, .aload 5] (pc' := 8) (lv' := [(5, .inr (.inr o_1)), (0, .inr (.inr (some a0))), (1, .inl v1), (2, .inl v2), (3, .inl v3), (4, .inl v4)]) (st' := [.inr (.inr o_1)]) (by decide +kernel) rfl rfl ?_
  by_cases q11 : o_1 = none
  · rw [if_pos q11] at h
    refine xi_nonnull E 23 (show decode prog_11_method_5_code 8 = .ok (.ifnonnull (15), 3) by decide +kernel) rfl (fun z => absurd q11 z) (fun _ => ?_)
    obtain ⟨M7, h8, h⟩ := bd h
    refine xn_o E 2 h8 rfl mw223 mw224 mw207 (show decode prog_11_method_5_code 11 = .ok (.new 40, 3) by decide +kernel) ?_
    refine xv_b E [.dup] (pc' := 15) (lv' := [(5, .inr (.inr o_1)), (0, .inr (.inr (some a0))), (1, .inl v1), (2, .inl v2), (3, .inl v3), (4, .inl v4)]) (st' := [.inr (.inr (some (h_sz M))), .inr (.inr (some (h_sz M)))]) (by decide +kernel) rfl rfl ?_
    obtain ⟨q_9, h10, h⟩ := bd h
    refine xv_ci E (as := []) (t33 G l (c_V_some h10)) cd33 (Or.inr ⟨_, E.2.2.2.2.2.1.2.2.2.1.2.2.2.1⟩) mw225 rfl (show decode prog_11_method_5_code 15 = .ok (.invokespecial 42, 3) by decide +kernel) rfl rfl (Nat.le_of_ble_eq_true rfl) ⟨Nat.le_of_ble_eq_true rfl, Nat.le_of_ble_eq_true rfl⟩ ?_
    refine xv_b E [.astore 5] (pc' := 20) (lv' := [(5, .inr (.inr (some (h_sz M)))), (0, .inr (.inr (some a0))), (1, .inl v1), (2, .inl v2), (3, .inl v3), (4, .inl v4)]) (st' := []) (by decide +kernel) rfl rfl ?_
    refine xv_goto E 32 (show decode prog_11_method_5_code 20 = .ok (.goto (12), 3) by decide +kernel) rfl ?_
    exact xv_w (sb34_32 E B v1 v2 v3 v4 (some (h_sz M)) q_9 h hN) rfl
  · rw [if_neg q11] at h
    refine xi_nonnull E 23 (show decode prog_11_method_5_code 8 = .ok (.ifnonnull (15), 3) by decide +kernel) rfl (fun _ => ?_) (fun z => absurd z q11)
    refine xv_b E [.aload_n 0, .aload 5] (pc' := 26) (lv' := [(5, .inr (.inr o_1)), (0, .inr (.inr (some a0))), (1, .inl v1), (2, .inl v2), (3, .inl v3), (4, .inl v4)]) (st' := [.inr (.inr o_1), .inr (.inr (some a0))]) (by decide +kernel) rfl rfl ?_
    obtain ⟨o_3, h4, h⟩ := bd h
    refine xg_r E 2 3 h4 mw149 (show decode prog_11_method_5_code 26 = .ok (.getfield 43, 3) by decide +kernel) ?_
    obtain ⟨M5, h6, h⟩ := bd h
    refine xp_r E 9 7 h6 mw148 (show decode prog_11_method_5_code 29 = .ok (.putfield 36, 3) by decide +kernel) (Or.inl rfl) ?_
    exact xv_w (sb34_32 E B v1 v2 v3 v4 o_1 M5 h hN) rfl
end
theorem t34 (G : gX) (l : Launch) {as : List aV} {M : hM} {r : Option aV} {M' : hM} (h : f34 as M = some (r, M')) : xM G l ym34 prog_11_method_5_code 6 (some (FieldType.object "ZonedFabric$Frame")) 2 as M r M' := by
  unfold f34 at h
  split at h
  · have h := x_out_ok h
    refine xM_of (by decide) (Nat.le_of_ble_eq_true rfl) (lb34_0 G l _ _ _ _ _ M h) ?_
    intro p e s m args below meth c E B
    exact sb34_0 E B _ _ _ _ _ M h rfl
  · cases h
/-! ZF.Frame.put(IIJ)V -/
def ym35 : MethodName := ⟨"ZonedFabric$Frame", "put", "(IIJ)V"⟩
theorem cd35 : xCd ym35 prog_4_method_3_code 6 none 3 := ⟨mw229, mw207, by decide, by decide, by decide +kernel⟩
def b35_0 (a0 : Nat) (v1 : Int32) (v2 : Int32) (w3 : Int64) (M : hM) : Option xRes :=
  some (.inr (3, [.inr (.inr (some a0)), .inl v1, .inl v2, .inr (.inl w3), .inl (0 : Int32)], M))
def b35_50 (a0 : Nat) (v1 : Int32) (v2 : Int32) (w3 : Int64) (v5 : Int32) (M : hM) : Option xRes :=
  some (.inr (3, [.inr (.inr (some a0)), .inl v1, .inl v2, .inr (.inl w3), .inl (v5 + (1 : Int32))], M))
def b35_3 (a0 : Nat) (v1 : Int32) (v2 : Int32) (w3 : Int64) (v5 : Int32) (M : hM) : Option xRes :=
  if v2 ≤ v5 then
    (some (.inl (none, M)))
  else
    (if (v1 + v5) < 0 then
      (b35_50 a0 v1 v2 w3 v5 M)
    else
      (Option.bind (g_r M 2 0 (some a0)) fun o_1 =>
      Option.bind (a_ln M 21 o_1) fun v_3 =>
      if v_3 ≤ (v1 + v5) then
        (b35_50 a0 v1 v2 w3 v5 M)
      else
        (Option.bind (g_r M 2 0 (some a0)) fun o_5 =>
        Option.bind (as_b M 21 o_5 (v1 + v5) (Int32.toInt8 (Int64.toInt32 (Int64.toUInt64 w3 >>> ((Int32.toInt64 ((8 : Int32) * ((v2 - (1 : Int32)) - v5))).toUInt64 &&& Int64.toUInt64 63)).toInt64)).toInt32) fun M7 =>
        b35_50 a0 v1 v2 w3 v5 M7)))
def k35 (h : Nat) (as : List aV) (M : hM) : Option xRes :=
  if h = 3 then (match as with | [.inr (.inr (some a0)), .inl v1, .inl v2, .inr (.inl w3), .inl v5] => b35_3 a0 v1 v2 w3 v5 M | _ => none) else
  none
def f35 (as : List aV) (M : hM) : xO := match as with
  | [.inr (.inr (some a0)), .inl v1, .inl v2, .inr (.inl w3)] => x_go k35 (b35_0 a0 v1 v2 w3 M)
  | _ => none
theorem lb35_0 (G : gX) (l : Launch) (a0 : Nat) (v1 : Int32) (v2 : Int32) (w3 : Int64) (M : hM) {res : xRes} (h : b35_0 a0 v1 v2 w3 M = some res) : h_sz M ≤ r_sz res ∧ h_sl M ≤ r_sl res := by
  unfold b35_0 at h
  obtain rfl := Option.some.inj h
  show h_sz M ≤ h_sz M ∧ h_sl M ≤ h_sl M
  omega
theorem lb35_50 (G : gX) (l : Launch) (a0 : Nat) (v1 : Int32) (v2 : Int32) (w3 : Int64) (v5 : Int32) (M : hM) {res : xRes} (h : b35_50 a0 v1 v2 w3 v5 M = some res) : h_sz M ≤ r_sz res ∧ h_sl M ≤ r_sl res := by
  unfold b35_50 at h
  obtain rfl := Option.some.inj h
  show h_sz M ≤ h_sz M ∧ h_sl M ≤ h_sl M
  omega
theorem lb35_3 (G : gX) (l : Launch) (a0 : Nat) (v1 : Int32) (v2 : Int32) (w3 : Int64) (v5 : Int32) (M : hM) {res : xRes} (h : b35_3 a0 v1 v2 w3 v5 M = some res) : h_sz M ≤ r_sz res ∧ h_sl M ≤ r_sl res := by
  unfold b35_3 at h
  by_cases q11 : v2 ≤ v5
  · rw [if_pos q11] at h
    obtain rfl := Option.some.inj h
    show h_sz M ≤ h_sz M ∧ h_sl M ≤ h_sl M
    omega
  · rw [if_neg q11] at h
    by_cases q10 : (v1 + v5) < 0
    · rw [if_pos q10] at h
      have e := lb35_50 G l a0 v1 v2 w3 v5 M h
      omega
    · rw [if_neg q10] at h
      obtain ⟨o_1, h2, h⟩ := bd h
      obtain ⟨v_3, h4, h⟩ := bd h
      by_cases q9 : v_3 ≤ (v1 + v5)
      · rw [if_pos q9] at h
        have e := lb35_50 G l a0 v1 v2 w3 v5 M h
        omega
      · rw [if_neg q9] at h
        obtain ⟨o_5, h6, h⟩ := bd h
        obtain ⟨M7, h8, h⟩ := bd h
        have eh8 := as_b_sz h8
        have e := lb35_50 G l a0 v1 v2 w3 v5 M7 h
        omega
section
variable {p : Program} {l : Launch} {e : Env} {s : State} {m : MethodId} {args : Array Value} {below : List Frame} {meth : Method} {c : Code} {G : gX} {z0 y0 : Nat} {r : Option aV} {M' : hM}
def pg35 (p : Program) (l : Launch) (e : Env) (s : State) (m : MethodId) (args : Array Value) (below : List Frame) (meth : Method) (c : Code) (G : gX) (z0 y0 : Nat) (r : Option aV) (M' : hM) (h : Nat) (as : List aV) (M : hM) : Prop :=
  if h = 3 then (match as with | [.inr (.inr (some a0)), .inl v1, .inl v2, .inr (.inl w3), .inl v5] => xV G p l e (xRm 0 (h_sz M' - z0) (h_sl M' - y0)) s m args below meth c z0 y0 (h_sz M') (h_sl M') 6 (MQ below (xQc G r M') args s (h_sz M' - z0) (h_sl M' - y0) (xFr G)) 3 [(0, .inr (.inr (some a0))), (1, .inl v1), (2, .inl v2), (3, .inr (.inl w3)), (5, .inl v5)] [] M | _ => False) else
  False
theorem sb35_0 (E : xE G p (xRm 0 (h_sz M' - z0) (h_sl M' - y0)) s m args c prog_4_method_3_code "ZonedFabric$Frame" z0 y0 (h_sz M') (h_sl M') 6) (B : xB ym35 none meth) (a0 : Nat) (v1 : Int32) (v2 : Int32) (w3 : Int64) (M : hM) {res : xRes} (h : b35_0 a0 v1 v2 w3 M = some res) (hN : xN (pg35 p l e s m args below meth c G z0 y0 r M') r M' res) : xV G p l e (xRm 0 (h_sz M' - z0) (h_sl M' - y0)) s m args below meth c z0 y0 (h_sz M') (h_sl M') 6 (MQ below (xQc G r M') args s (h_sz M' - z0) (h_sl M' - y0) (xFr G)) 0 [(0, .inr (.inr (some a0))), (1, .inl v1), (2, .inl v2), (3, .inr (.inl w3))] [] M := by
  unfold b35_0 at h
  refine xv_b E [.iconst 0, .istore 5] (pc' := 3) (lv' := [(5, .inl (0 : Int32)), (0, .inr (.inr (some a0))), (1, .inl v1), (2, .inl v2), (3, .inr (.inl w3))]) (st' := []) (by decide +kernel) rfl rfl ?_
  obtain rfl := Option.some.inj h
  exact xv_w hN rfl
theorem sb35_50 (E : xE G p (xRm 0 (h_sz M' - z0) (h_sl M' - y0)) s m args c prog_4_method_3_code "ZonedFabric$Frame" z0 y0 (h_sz M') (h_sl M') 6) (B : xB ym35 none meth) (a0 : Nat) (v1 : Int32) (v2 : Int32) (w3 : Int64) (v5 : Int32) (M : hM) {res : xRes} (h : b35_50 a0 v1 v2 w3 v5 M = some res) (hN : xN (pg35 p l e s m args below meth c G z0 y0 r M') r M' res) : xV G p l e (xRm 0 (h_sz M' - z0) (h_sl M' - y0)) s m args below meth c z0 y0 (h_sz M') (h_sl M') 6 (MQ below (xQc G r M') args s (h_sz M' - z0) (h_sl M' - y0) (xFr G)) 50 [(0, .inr (.inr (some a0))), (1, .inl v1), (2, .inl v2), (3, .inr (.inl w3)), (5, .inl v5)] [] M := by
  unfold b35_50 at h
  refine xv_b E [.iinc 5 1] (pc' := 53) (lv' := [(5, .inl (v5 + (1 : Int32))), (0, .inr (.inr (some a0))), (1, .inl v1), (2, .inl v2), (3, .inr (.inl w3))]) (st' := []) (by decide +kernel) rfl rfl ?_
  refine xv_goto E 3 (show decode prog_4_method_3_code 53 = .ok (.goto (-50), 3) by decide +kernel) rfl ?_
  obtain rfl := Option.some.inj h
  exact xv_w hN rfl
theorem sb35_3 (E : xE G p (xRm 0 (h_sz M' - z0) (h_sl M' - y0)) s m args c prog_4_method_3_code "ZonedFabric$Frame" z0 y0 (h_sz M') (h_sl M') 6) (B : xB ym35 none meth) (a0 : Nat) (v1 : Int32) (v2 : Int32) (w3 : Int64) (v5 : Int32) (M : hM) {res : xRes} (h : b35_3 a0 v1 v2 w3 v5 M = some res) (hN : xN (pg35 p l e s m args below meth c G z0 y0 r M') r M' res) : xV G p l e (xRm 0 (h_sz M' - z0) (h_sl M' - y0)) s m args below meth c z0 y0 (h_sz M') (h_sl M') 6 (MQ below (xQc G r M') args s (h_sz M' - z0) (h_sl M' - y0) (xFr G)) 3 [(0, .inr (.inr (some a0))), (1, .inl v1), (2, .inl v2), (3, .inr (.inl w3)), (5, .inl v5)] [] M := by
  unfold b35_3 at h
  refine xv_b E [.iload 5, .iload_n 2] (pc' := 6) (lv' := [(0, .inr (.inr (some a0))), (1, .inl v1), (2, .inl v2), (3, .inr (.inl w3)), (5, .inl v5)]) (st' := [.inl v2, .inl v5]) (by decide +kernel) rfl rfl ?_
  by_cases q11 : v2 ≤ v5
  · rw [if_pos q11] at h
    refine xv_icmp_ge E 56 (show decode prog_4_method_3_code 6 = .ok (.if_icmp .ge (50), 3) by decide +kernel) rfl (fun _ => ?_) (fun z => absurd q11 z)
    obtain rfl := Option.some.inj h
    obtain ⟨rfl, rfl⟩ := Prod.mk.inj (show ((none : Option aV), M) = (r, M') from hN)
    exact xv_rv E B.1 B.2.1 (show decode prog_4_method_3_code 56 = .ok (.return_, 1) by decide +kernel) rfl rfl
  · rw [if_neg q11] at h
    refine xv_icmp_ge E 56 (show decode prog_4_method_3_code 6 = .ok (.if_icmp .ge (50), 3) by decide +kernel) rfl (fun z => absurd z q11) (fun _ => ?_)
    refine xv_b E [.iload_n 1, .iload 5, .iadd] (pc' := 13) (lv' := [(0, .inr (.inr (some a0))), (1, .inl v1), (2, .inl v2), (3, .inr (.inl w3)), (5, .inl v5)]) (st' := [.inl (v1 + v5)]) (by decide +kernel) rfl rfl ?_
    by_cases q10 : (v1 + v5) < 0
    · rw [if_pos q10] at h
      refine xv_if_lt E 50 (show decode prog_4_method_3_code 13 = .ok (.ifCond .lt (37), 3) by decide +kernel) rfl (fun _ => ?_) (fun z => absurd q10 z)
      exact xv_w (sb35_50 E B a0 v1 v2 w3 v5 M h hN) rfl
    · rw [if_neg q10] at h
      refine xv_if_lt E 50 (show decode prog_4_method_3_code 13 = .ok (.ifCond .lt (37), 3) by decide +kernel) rfl (fun z => absurd z q10) (fun _ => ?_)
      refine xv_b E [.iload_n 1, .iload 5, .iadd, .aload_n 0] (pc' := 21) (lv' := [(0, .inr (.inr (some a0))), (1, .inl v1), (2, .inl v2), (3, .inr (.inl w3)), (5, .inl v5)]) (st' := [.inr (.inr (some a0)), .inl (v1 + v5)]) (by decide +kernel) rfl rfl ?_
      obtain ⟨o_1, h2, h⟩ := bd h
      refine xg_r E 2 0 h2 mw208 (show decode prog_4_method_3_code 21 = .ok (.getfield 9, 3) by decide +kernel) ?_
      obtain ⟨v_3, h4, h⟩ := bd h
      refine xa_n E 21 h4 (show decode prog_4_method_3_code 24 = .ok (.arraylength, 1) by decide +kernel) ?_
      by_cases q9 : v_3 ≤ (v1 + v5)
      · rw [if_pos q9] at h
        refine xv_icmp_ge E 50 (show decode prog_4_method_3_code 25 = .ok (.if_icmp .ge (25), 3) by decide +kernel) rfl (fun _ => ?_) (fun z => absurd q9 z)
        exact xv_w (sb35_50 E B a0 v1 v2 w3 v5 M h hN) rfl
      · rw [if_neg q9] at h
        refine xv_icmp_ge E 50 (show decode prog_4_method_3_code 25 = .ok (.if_icmp .ge (25), 3) by decide +kernel) rfl (fun z => absurd z q9) (fun _ => ?_)
        refine xv_b E [.aload_n 0] (pc' := 29) (lv' := [(0, .inr (.inr (some a0))), (1, .inl v1), (2, .inl v2), (3, .inr (.inl w3)), (5, .inl v5)]) (st' := [.inr (.inr (some a0))]) (by decide +kernel) rfl rfl ?_
        obtain ⟨o_5, h6, h⟩ := bd h
        refine xg_r E 2 0 h6 mw208 (show decode prog_4_method_3_code 29 = .ok (.getfield 9, 3) by decide +kernel) ?_
        refine xv_b E [.iload_n 1, .iload 5, .iadd, .lload_n 3, .bipush 8, .iload_n 2, .iconst 1, .isub, .iload 5, .isub, .imul, .lushr, .l2i, .i2b] (pc' := 49) (lv' := [(0, .inr (.inr (some a0))), (1, .inl v1), (2, .inl v2), (3, .inr (.inl w3)), (5, .inl v5)]) (st' := [.inl (Int32.toInt8 (Int64.toInt32 (Int64.toUInt64 w3 >>> ((Int32.toInt64 ((8 : Int32) * ((v2 - (1 : Int32)) - v5))).toUInt64 &&& Int64.toUInt64 63)).toInt64)).toInt32, .inl (v1 + v5), .inr (.inr o_5)]) (by decide +kernel) rfl rfl ?_
        obtain ⟨M7, h8, h⟩ := bd h
        refine xs_b E h8 (show decode prog_4_method_3_code 49 = .ok (.bastore, 1) by decide +kernel) ?_
        exact xv_w (sb35_50 E B a0 v1 v2 w3 v5 M7 h hN) rfl
end
theorem t35 (G : gX) (l : Launch) {as : List aV} {M : hM} {r : Option aV} {M' : hM} (h : f35 as M = some (r, M')) : xM G l ym35 prog_4_method_3_code 6 none 0 as M r M' := by
  unfold f35 at h
  split at h
  · have hle : ∀ h as M res, k35 h as M = some res → h_sz M ≤ r_sz res ∧ h_sl M ≤ r_sl res := by
      intro h as M res hb
      unfold k35 at hb
      by_cases e0 : h = 3
      · rw [if_pos e0] at hb
        split at hb
        · exact lb35_3 G l _ _ _ _ _ M hb
        · cases hb
      · rw [if_neg e0] at hb
        cases hb
    obtain ⟨res, hx, hres⟩ := x_go_ok h
    refine xM_of (by decide) (Nat.le_of_ble_eq_true rfl) ?_ ?_
    · have e1 := lb35_0 G l _ _ _ _ M hx
      have e2 := x_go_le hle hres
      omega
    · intro p e s m args below meth c E B
      refine sb35_0 E B _ _ _ _ M hx (hres _ ?_)
      intro h as M res hb hN
      unfold k35 at hb
      unfold pg35
      by_cases e0 : h = 3
      · rw [if_pos e0] at hb ⊢
        split at hb
        · exact sb35_3 E B _ _ _ _ _ M hb hN
        · cases hb
      · rw [if_neg e0] at hb ⊢
        cases hb
  · cases h
/-! ZF.Frame.addLoad(IJ)V -/
def ym36 : MethodName := ⟨"ZonedFabric$Frame", "addLoad", "(IJ)V"⟩
theorem cd36 : xCd ym36 prog_4_method_4_code 4 none 2 := ⟨mw230, mw207, by decide, by decide, by decide +kernel⟩
def b36_0 (a0 : Nat) (v1 : Int32) (w2 : Int64) (M : hM) : Option xRes :=
  Option.bind (g_i M 2 1 (some a0)) fun v_1 =>
  Option.bind (g_o M 2 (some a0)) fun b_5 =>
  Option.bind (c_V (f35 [.inr (.inr (some b_5)), .inl v_1, .inl v1, .inr (.inl w2)] M)) fun q_3 =>
  Option.bind (g_i q_3 2 1 (some a0)) fun v_7 =>
  Option.bind (p_i q_3 2 1 (some a0) (if (44 : Int32) < (v_7 + v1) then (44 : Int32) else (v_7 + v1))) fun M9 =>
  some (.inl (none, M9))
def f36 (as : List aV) (M : hM) : xO := match as with
  | [.inr (.inr (some a0)), .inl v1, .inr (.inl w2)] => x_out (b36_0 a0 v1 w2 M)
  | _ => none
theorem lb36_0 (G : gX) (l : Launch) (a0 : Nat) (v1 : Int32) (w2 : Int64) (M : hM) {res : xRes} (h : b36_0 a0 v1 w2 M = some res) : h_sz M ≤ r_sz res ∧ h_sl M ≤ r_sl res := by
  unfold b36_0 at h
  obtain ⟨v_1, h2, h⟩ := bd h
  obtain ⟨b_5, h6, h⟩ := bd h
  obtain ⟨q_3, h4, h⟩ := bd h
  have eh4 := (t35 G l (c_V_some h4)).1
  obtain ⟨v_7, h8, h⟩ := bd h
  obtain ⟨M9, h10, h⟩ := bd h
  have eh10 := p_i_sz h10
  obtain rfl := Option.some.inj h
  show h_sz M ≤ h_sz M9 ∧ h_sl M ≤ h_sl M9
  omega
section
variable {p : Program} {l : Launch} {e : Env} {s : State} {m : MethodId} {args : Array Value} {below : List Frame} {meth : Method} {c : Code} {G : gX} {z0 y0 : Nat} {r : Option aV} {M' : hM}
theorem sb36_0 (E : xE G p (xRm 1 (h_sz M' - z0) (h_sl M' - y0)) s m args c prog_4_method_4_code "ZonedFabric$Frame" z0 y0 (h_sz M') (h_sl M') 4) (B : xB ym36 none meth) (a0 : Nat) (v1 : Int32) (w2 : Int64) (M : hM) {res : xRes} (h : b36_0 a0 v1 w2 M = some res) (hN : xN (fun _ _ _ => False) r M' res) : xV G p l e (xRm 1 (h_sz M' - z0) (h_sl M' - y0)) s m args below meth c z0 y0 (h_sz M') (h_sl M') 4 (MQ below (xQc G r M') args s (h_sz M' - z0) (h_sl M' - y0) (xFr G)) 0 [(0, .inr (.inr (some a0))), (1, .inl v1), (2, .inr (.inl w2))] [] M := by
  unfold b36_0 at h
  refine xv_b E [.aload_n 0, .aload_n 0] (pc' := 2) (lv' := [(0, .inr (.inr (some a0))), (1, .inl v1), (2, .inr (.inl w2))]) (st' := [.inr (.inr (some a0)), .inr (.inr (some a0))]) (by decide +kernel) rfl rfl ?_
  obtain ⟨v_1, h2, h⟩ := bd h
  refine xg_i E 2 1 h2 mw219 (show decode prog_4_method_4_code 2 = .ok (.getfield 15, 3) by decide +kernel) ?_
  refine xv_b E [.iload_n 1, .lload_n 2] (pc' := 7) (lv' := [(0, .inr (.inr (some a0))), (1, .inl v1), (2, .inr (.inl w2))]) (st' := [.inr (.inl w2), .inl v1, .inl v_1, .inr (.inr (some a0))]) (by decide +kernel) rfl rfl ?_
  obtain ⟨b_5, h6, h⟩ := bd h
  obtain ⟨eh6, th6⟩ := g_o_some h6
  obtain ⟨q_3, h4, h⟩ := bd h
  refine xv_cvo E eh6 2 (as := [.inl v_1, .inl v1, .inr (.inl w2)]) (t35 G l (c_V_some h4)) cd35 mw231 mw232 mw233 (show decode prog_4_method_4_code 7 = .ok (.invokevirtual 23, 3) by decide +kernel) th6 rfl rfl (Nat.le_of_ble_eq_true rfl) ⟨Nat.le_of_ble_eq_true rfl, Nat.le_of_ble_eq_true rfl⟩ ?_
  refine xv_b E [.aload_n 0, .aload_n 0] (pc' := 12) (lv' := [(0, .inr (.inr (some a0))), (1, .inl v1), (2, .inr (.inl w2))]) (st' := [.inr (.inr (some a0)), .inr (.inr (some a0))]) (by decide +kernel) rfl rfl ?_
  obtain ⟨v_7, h8, h⟩ := bd h
  refine xg_i E 2 1 h8 mw219 (show decode prog_4_method_4_code 12 = .ok (.getfield 15, 3) by decide +kernel) ?_
  refine xv_b E [.iload_n 1, .iadd, .bipush 44] (pc' := 19) (lv' := [(0, .inr (.inr (some a0))), (1, .inl v1), (2, .inr (.inl w2))]) (st' := [.inl (44 : Int32), .inl (v_7 + v1), .inr (.inr (some a0))]) (by decide +kernel) rfl rfl ?_
  refine xv_min E mw234 mw235 mw236 mwMin (show decode prog_4_method_4_code 19 = .ok (.invokestatic 27, 3) by decide +kernel) (Nat.le_of_ble_eq_true rfl) ⟨Nat.le_of_ble_eq_true rfl, Nat.le_of_ble_eq_true rfl⟩ ?_
  obtain ⟨M9, h10, h⟩ := bd h
  refine xp_i E 2 1 h10 mw219 (show decode prog_4_method_4_code 22 = .ok (.putfield 15, 3) by decide +kernel) (Or.inl rfl) ?_
  obtain rfl := Option.some.inj h
  obtain ⟨rfl, rfl⟩ := Prod.mk.inj (show ((none : Option aV), M9) = (r, M') from hN)
  exact xv_rv E B.1 B.2.1 (show decode prog_4_method_4_code 25 = .ok (.return_, 1) by decide +kernel) rfl rfl
end
theorem t36 (G : gX) (l : Launch) {as : List aV} {M : hM} {r : Option aV} {M' : hM} (h : f36 as M = some (r, M')) : xM G l ym36 prog_4_method_4_code 4 none 1 as M r M' := by
  unfold f36 at h
  split at h
  · have h := x_out_ok h
    refine xM_of (by decide) (Nat.le_of_ble_eq_true rfl) (lb36_0 G l _ _ _ M h) ?_
    intro p e s m args below meth c E B
    exact sb36_0 E B _ _ _ M h rfl
  · cases h
/-! ZF.Shared.tally(I)V -/
def ym37 : MethodName := ⟨"ZonedFabric$Shared", "tally", "(I)V"⟩
theorem cd37 : xCd ym37 prog_11_method_4_code 2 none 1 := ⟨mw237, mw1, by decide, by decide, by decide +kernel⟩
def b37_20  (M : hM) : Option xRes :=
  some (.inl (none, M))
def b37_0 (a0 : Nat) (v1 : Int32) (M : hM) : Option xRes :=
  if v1 ≤ 0 then
    (b37_20  M)
  else
    (if (9 : Int32) ≤ v1 then
      (b37_20  M)
    else
      (Option.bind (g_r M 9 4 (some a0)) fun o_1 =>
      Option.bind (al_i M 20 o_1 v1) fun v_3 =>
      Option.bind (as_i M 20 o_1 v1 (v_3 + (1 : Int32))) fun M5 =>
      b37_20  M5))
def f37 (as : List aV) (M : hM) : xO := match as with
  | [.inr (.inr (some a0)), .inl v1] => x_out (b37_0 a0 v1 M)
  | _ => none
theorem lb37_20 (G : gX) (l : Launch)  (M : hM) {res : xRes} (h : b37_20  M = some res) : h_sz M ≤ r_sz res ∧ h_sl M ≤ r_sl res := by
  unfold b37_20 at h
  obtain rfl := Option.some.inj h
  show h_sz M ≤ h_sz M ∧ h_sl M ≤ h_sl M
  omega
theorem lb37_0 (G : gX) (l : Launch) (a0 : Nat) (v1 : Int32) (M : hM) {res : xRes} (h : b37_0 a0 v1 M = some res) : h_sz M ≤ r_sz res ∧ h_sl M ≤ r_sl res := by
  unfold b37_0 at h
  by_cases q8 : v1 ≤ 0
  · rw [if_pos q8] at h
    have e := lb37_20 G l  M h
    omega
  · rw [if_neg q8] at h
    by_cases q7 : (9 : Int32) ≤ v1
    · rw [if_pos q7] at h
      have e := lb37_20 G l  M h
      omega
    · rw [if_neg q7] at h
      obtain ⟨o_1, h2, h⟩ := bd h
      obtain ⟨v_3, h4, h⟩ := bd h
      obtain ⟨M5, h6, h⟩ := bd h
      have eh6 := as_i_sz h6
      have e := lb37_20 G l  M5 h
      omega
section
variable {p : Program} {l : Launch} {e : Env} {s : State} {m : MethodId} {args : Array Value} {below : List Frame} {meth : Method} {c : Code} {G : gX} {z0 y0 : Nat} {r : Option aV} {M' : hM}
theorem sb37_20 (E : xE G p (xRm 0 (h_sz M' - z0) (h_sl M' - y0)) s m args c prog_11_method_4_code "ZonedFabric$Shared" z0 y0 (h_sz M') (h_sl M') 2) (B : xB ym37 none meth)  (M : hM) {res : xRes} (h : b37_20  M = some res) (hN : xN (fun _ _ _ => False) r M' res) : xV G p l e (xRm 0 (h_sz M' - z0) (h_sl M' - y0)) s m args below meth c z0 y0 (h_sz M') (h_sl M') 2 (MQ below (xQc G r M') args s (h_sz M' - z0) (h_sl M' - y0) (xFr G)) 20 [] [] M := by
  unfold b37_20 at h
  obtain rfl := Option.some.inj h
  obtain ⟨rfl, rfl⟩ := Prod.mk.inj (show ((none : Option aV), M) = (r, M') from hN)
  exact xv_rv E B.1 B.2.1 (show decode prog_11_method_4_code 20 = .ok (.return_, 1) by decide +kernel) rfl rfl
theorem sb37_0 (E : xE G p (xRm 0 (h_sz M' - z0) (h_sl M' - y0)) s m args c prog_11_method_4_code "ZonedFabric$Shared" z0 y0 (h_sz M') (h_sl M') 2) (B : xB ym37 none meth) (a0 : Nat) (v1 : Int32) (M : hM) {res : xRes} (h : b37_0 a0 v1 M = some res) (hN : xN (fun _ _ _ => False) r M' res) : xV G p l e (xRm 0 (h_sz M' - z0) (h_sl M' - y0)) s m args below meth c z0 y0 (h_sz M') (h_sl M') 2 (MQ below (xQc G r M') args s (h_sz M' - z0) (h_sl M' - y0) (xFr G)) 0 [(0, .inr (.inr (some a0))), (1, .inl v1)] [] M := by
  unfold b37_0 at h
  refine xv_b E [.iload_n 1] (pc' := 1) (lv' := [(0, .inr (.inr (some a0))), (1, .inl v1)]) (st' := [.inl v1]) (by decide +kernel) rfl rfl ?_
  by_cases q8 : v1 ≤ 0
  · rw [if_pos q8] at h
    refine xv_if_le E 20 (show decode prog_11_method_4_code 1 = .ok (.ifCond .le (19), 3) by decide +kernel) rfl (fun _ => ?_) (fun z => absurd q8 z)
    exact xv_w (sb37_20 E B  M h hN) rfl
  · rw [if_neg q8] at h
    refine xv_if_le E 20 (show decode prog_11_method_4_code 1 = .ok (.ifCond .le (19), 3) by decide +kernel) rfl (fun z => absurd z q8) (fun _ => ?_)
    refine xv_b E [.iload_n 1, .bipush 9] (pc' := 7) (lv' := [(0, .inr (.inr (some a0))), (1, .inl v1)]) (st' := [.inl (9 : Int32), .inl v1]) (by decide +kernel) rfl rfl ?_
    by_cases q7 : (9 : Int32) ≤ v1
    · rw [if_pos q7] at h
      refine xv_icmp_ge E 20 (show decode prog_11_method_4_code 7 = .ok (.if_icmp .ge (13), 3) by decide +kernel) rfl (fun _ => ?_) (fun z => absurd q7 z)
      exact xv_w (sb37_20 E B  M h hN) rfl
    · rw [if_neg q7] at h
      refine xv_icmp_ge E 20 (show decode prog_11_method_4_code 7 = .ok (.if_icmp .ge (13), 3) by decide +kernel) rfl (fun z => absurd z q7) (fun _ => ?_)
      refine xv_b E [.aload_n 0] (pc' := 11) (lv' := [(0, .inr (.inr (some a0))), (1, .inl v1)]) (st' := [.inr (.inr (some a0))]) (by decide +kernel) rfl rfl ?_
      obtain ⟨o_1, h2, h⟩ := bd h
      refine xg_r E 9 4 h2 mw3 (show decode prog_11_method_4_code 11 = .ok (.getfield 9, 3) by decide +kernel) ?_
      refine xv_b E [.iload_n 1, .dup2] (pc' := 16) (lv' := [(0, .inr (.inr (some a0))), (1, .inl v1)]) (st' := [.inl v1, .inr (.inr o_1), .inl v1, .inr (.inr o_1)]) (by decide +kernel) rfl rfl ?_
      obtain ⟨v_3, h4, h⟩ := bd h
      refine xa_i E h4 (show decode prog_11_method_4_code 16 = .ok (.iaload, 1) by decide +kernel) ?_
      refine xv_b E [.iconst 1, .iadd] (pc' := 19) (lv' := [(0, .inr (.inr (some a0))), (1, .inl v1)]) (st' := [.inl (v_3 + (1 : Int32)), .inl v1, .inr (.inr o_1)]) (by decide +kernel) rfl rfl ?_
      obtain ⟨M5, h6, h⟩ := bd h
      refine xs_i E h6 (show decode prog_11_method_4_code 19 = .ok (.iastore, 1) by decide +kernel) ?_
      exact xv_w (sb37_20 E B  M5 h hN) rfl
end
theorem t37 (G : gX) (l : Launch) {as : List aV} {M : hM} {r : Option aV} {M' : hM} (h : f37 as M = some (r, M')) : xM G l ym37 prog_11_method_4_code 2 none 0 as M r M' := by
  unfold f37 at h
  split at h
  · have h := x_out_ok h
    refine xM_of (by decide) (Nat.le_of_ble_eq_true rfl) (lb37_0 G l _ _ M h) ?_
    intro p e s m args below meth c E B
    exact sb37_0 E B _ _ M h rfl
  · cases h
/-! ZF.FrameLine.add(LZF$Frame;)V -/
def ym38 : MethodName := ⟨"ZonedFabric$FrameLine", "add", "(LZonedFabric$Frame;)V"⟩
theorem cd38 : xCd ym38 prog_5_method_2_code 2 none 1 := ⟨mw238, mw11, by decide, by decide, by decide +kernel⟩
def b38_28 (a0 : Nat) (o1 : Option Nat) (M : hM) : Option xRes :=
  Option.bind (p_r M 3 1 (some a0) o1) fun M12 =>
  Option.bind (g_i M12 3 2 (some a0)) fun v_14 =>
  Option.bind (p_i M12 3 2 (some a0) (v_14 + (1 : Int32))) fun M16 =>
  some (.inl (none, M16))
def b38_0 (a0 : Nat) (o1 : Option Nat) (M : hM) : Option xRes :=
  Option.bind (p_r M 2 3 o1 none) fun M1 =>
  Option.bind (g_r M1 3 1 (some a0)) fun o_3 =>
  if o_3 = none then
    (Option.bind (p_r M1 3 0 (some a0) o1) fun M9 =>
    b38_28 a0 o1 M9)
  else
    (Option.bind (g_r M1 3 1 (some a0)) fun o_5 =>
    Option.bind (p_r M1 2 3 o_5 o1) fun M7 =>
    b38_28 a0 o1 M7)
def f38 (as : List aV) (M : hM) : xO := match as with
  | [.inr (.inr (some a0)), .inr (.inr o1)] => x_out (b38_0 a0 o1 M)
  | _ => none
theorem lb38_28 (G : gX) (l : Launch) (a0 : Nat) (o1 : Option Nat) (M : hM) {res : xRes} (h : b38_28 a0 o1 M = some res) : h_sz M ≤ r_sz res ∧ h_sl M ≤ r_sl res := by
  unfold b38_28 at h
  obtain ⟨M12, h13, h⟩ := bd h
  have eh13 := p_r_sz h13
  obtain ⟨v_14, h15, h⟩ := bd h
  obtain ⟨M16, h17, h⟩ := bd h
  have eh17 := p_i_sz h17
  obtain rfl := Option.some.inj h
  show h_sz M ≤ h_sz M16 ∧ h_sl M ≤ h_sl M16
  omega
theorem lb38_0 (G : gX) (l : Launch) (a0 : Nat) (o1 : Option Nat) (M : hM) {res : xRes} (h : b38_0 a0 o1 M = some res) : h_sz M ≤ r_sz res ∧ h_sl M ≤ r_sl res := by
  unfold b38_0 at h
  obtain ⟨M1, h2, h⟩ := bd h
  have eh2 := p_r_sz h2
  obtain ⟨o_3, h4, h⟩ := bd h
  by_cases q11 : o_3 = none
  · rw [if_pos q11] at h
    obtain ⟨M9, h10, h⟩ := bd h
    have eh10 := p_r_sz h10
    have e := lb38_28 G l a0 o1 M9 h
    omega
  · rw [if_neg q11] at h
    obtain ⟨o_5, h6, h⟩ := bd h
    obtain ⟨M7, h8, h⟩ := bd h
    have eh8 := p_r_sz h8
    have e := lb38_28 G l a0 o1 M7 h
    omega
section
variable {p : Program} {l : Launch} {e : Env} {s : State} {m : MethodId} {args : Array Value} {below : List Frame} {meth : Method} {c : Code} {G : gX} {z0 y0 : Nat} {r : Option aV} {M' : hM}
theorem sb38_28 (E : xE G p (xRm 0 (h_sz M' - z0) (h_sl M' - y0)) s m args c prog_5_method_2_code "ZonedFabric$FrameLine" z0 y0 (h_sz M') (h_sl M') 2) (B : xB ym38 none meth) (a0 : Nat) (o1 : Option Nat) (M : hM) {res : xRes} (h : b38_28 a0 o1 M = some res) (hN : xN (fun _ _ _ => False) r M' res) : xV G p l e (xRm 0 (h_sz M' - z0) (h_sl M' - y0)) s m args below meth c z0 y0 (h_sz M') (h_sl M') 2 (MQ below (xQc G r M') args s (h_sz M' - z0) (h_sl M' - y0) (xFr G)) 28 [(0, .inr (.inr (some a0))), (1, .inr (.inr o1))] [] M := by
  unfold b38_28 at h
  refine xv_b E [.aload_n 0, .aload_n 1] (pc' := 30) (lv' := [(0, .inr (.inr (some a0))), (1, .inr (.inr o1))]) (st' := [.inr (.inr o1), .inr (.inr (some a0))]) (by decide +kernel) rfl rfl ?_
  obtain ⟨M12, h13, h⟩ := bd h
  refine xp_r E 3 1 h13 mw153 (show decode prog_5_method_2_code 30 = .ok (.putfield 13, 3) by decide +kernel) (Or.inl rfl) ?_
  refine xv_b E [.aload_n 0, .dup] (pc' := 35) (lv' := [(0, .inr (.inr (some a0))), (1, .inr (.inr o1))]) (st' := [.inr (.inr (some a0)), .inr (.inr (some a0))]) (by decide +kernel) rfl rfl ?_
  obtain ⟨v_14, h15, h⟩ := bd h
  refine xg_i E 3 2 h15 mw154 (show decode prog_5_method_2_code 35 = .ok (.getfield 21, 3) by decide +kernel) ?_
  refine xv_b E [.iconst 1, .iadd] (pc' := 40) (lv' := [(0, .inr (.inr (some a0))), (1, .inr (.inr o1))]) (st' := [.inl (v_14 + (1 : Int32)), .inr (.inr (some a0))]) (by decide +kernel) rfl rfl ?_
  obtain ⟨M16, h17, h⟩ := bd h
  refine xp_i E 3 2 h17 mw154 (show decode prog_5_method_2_code 40 = .ok (.putfield 21, 3) by decide +kernel) (Or.inl rfl) ?_
  obtain rfl := Option.some.inj h
  obtain ⟨rfl, rfl⟩ := Prod.mk.inj (show ((none : Option aV), M16) = (r, M') from hN)
  exact xv_rv E B.1 B.2.1 (show decode prog_5_method_2_code 43 = .ok (.return_, 1) by decide +kernel) rfl rfl
theorem sb38_0 (E : xE G p (xRm 0 (h_sz M' - z0) (h_sl M' - y0)) s m args c prog_5_method_2_code "ZonedFabric$FrameLine" z0 y0 (h_sz M') (h_sl M') 2) (B : xB ym38 none meth) (a0 : Nat) (o1 : Option Nat) (M : hM) {res : xRes} (h : b38_0 a0 o1 M = some res) (hN : xN (fun _ _ _ => False) r M' res) : xV G p l e (xRm 0 (h_sz M' - z0) (h_sl M' - y0)) s m args below meth c z0 y0 (h_sz M') (h_sl M') 2 (MQ below (xQc G r M') args s (h_sz M' - z0) (h_sl M' - y0) (xFr G)) 0 [(0, .inr (.inr (some a0))), (1, .inr (.inr o1))] [] M := by
  unfold b38_0 at h
  refine xv_b E [.aload_n 1, .aconst_null] (pc' := 2) (lv' := [(0, .inr (.inr (some a0))), (1, .inr (.inr o1))]) (st' := [.inr (.inr none), .inr (.inr o1)]) (by decide +kernel) rfl rfl ?_
  obtain ⟨M1, h2, h⟩ := bd h
  refine xp_r E 2 3 h2 mw152 (show decode prog_5_method_2_code 2 = .ok (.putfield 7, 3) by decide +kernel) (Or.inl rfl) ?_
  refine xv_b E [.aload_n 0] (pc' := 6) (lv' := [(0, .inr (.inr (some a0))), (1, .inr (.inr o1))]) (st' := [.inr (.inr (some a0))]) (by decide +kernel) rfl rfl ?_
  obtain ⟨o_3, h4, h⟩ := bd h
  refine xg_r E 3 1 h4 mw153 (show decode prog_5_method_2_code 6 = .ok (.getfield 13, 3) by decide +kernel) ?_
  by_cases q11 : o_3 = none
  · rw [if_pos q11] at h
    refine xi_nonnull E 20 (show decode prog_5_method_2_code 9 = .ok (.ifnonnull (11), 3) by decide +kernel) rfl (fun z => absurd q11 z) (fun _ => ?_)
    refine xv_b E [.aload_n 0, .aload_n 1] (pc' := 14) (lv' := [(0, .inr (.inr (some a0))), (1, .inr (.inr o1))]) (st' := [.inr (.inr o1), .inr (.inr (some a0))]) (by decide +kernel) rfl rfl ?_
    obtain ⟨M9, h10, h⟩ := bd h
    refine xp_r E 3 0 h10 mw151 (show decode prog_5_method_2_code 14 = .ok (.putfield 18, 3) by decide +kernel) (Or.inl rfl) ?_
    refine xv_goto E 28 (show decode prog_5_method_2_code 17 = .ok (.goto (11), 3) by decide +kernel) rfl ?_
    exact xv_w (sb38_28 E B a0 o1 M9 h hN) rfl
  · rw [if_neg q11] at h
    refine xi_nonnull E 20 (show decode prog_5_method_2_code 9 = .ok (.ifnonnull (11), 3) by decide +kernel) rfl (fun _ => ?_) (fun z => absurd z q11)
    refine xv_b E [.aload_n 0] (pc' := 21) (lv' := [(0, .inr (.inr (some a0))), (1, .inr (.inr o1))]) (st' := [.inr (.inr (some a0))]) (by decide +kernel) rfl rfl ?_
    obtain ⟨o_5, h6, h⟩ := bd h
    refine xg_r E 3 1 h6 mw153 (show decode prog_5_method_2_code 21 = .ok (.getfield 13, 3) by decide +kernel) ?_
    refine xv_b E [.aload_n 1] (pc' := 25) (lv' := [(0, .inr (.inr (some a0))), (1, .inr (.inr o1))]) (st' := [.inr (.inr o1), .inr (.inr o_5)]) (by decide +kernel) rfl rfl ?_
    obtain ⟨M7, h8, h⟩ := bd h
    refine xp_r E 2 3 h8 mw152 (show decode prog_5_method_2_code 25 = .ok (.putfield 7, 3) by decide +kernel) (Or.inl rfl) ?_
    exact xv_w (sb38_28 E B a0 o1 M7 h hN) rfl
end
theorem t38 (G : gX) (l : Launch) {as : List aV} {M : hM} {r : Option aV} {M' : hM} (h : f38 as M = some (r, M')) : xM G l ym38 prog_5_method_2_code 2 none 0 as M r M' := by
  unfold f38 at h
  split at h
  · have h := x_out_ok h
    refine xM_of (by decide) (Nat.le_of_ble_eq_true rfl) (lb38_0 G l _ _ M h) ?_
    intro p e s m args below meth c E B
    exact sb38_0 E B _ _ M h rfl
  · cases h
/-! ZF.Port.post(LZF$Frame;)V -/
def ym39 : MethodName := ⟨"ZonedFabric$Port", "post", "(LZonedFabric$Frame;)V"⟩
theorem cd39 : xCd ym39 prog_10_method_12_code 2 none 1 := ⟨mw239, mw14, by decide, by decide, by decide +kernel⟩
def b39_43 (a0 : Nat) (o1 : Option Nat) (M : hM) : Option xRes :=
  Option.bind (g_r M 8 0 (some a0)) fun o_24 =>
  Option.bind (g_o M 9 o_24) fun b_28 =>
  Option.bind (c_V (f17 [.inr (.inr (some b_28)), .inr (.inr o1)] M)) fun q_26 =>
  some (.inl (none, q_26))
def b39_28 (a0 : Nat) (o1 : Option Nat) (M : hM) : Option xRes :=
  Option.bind (g_i M 8 5 (some a0)) fun v_15 =>
  if v_15 = 0 then
    (b39_43 a0 o1 M)
  else
    (Option.bind (g_r M 8 0 (some a0)) fun o_17 =>
    Option.bind (g_o M 9 o_17) fun b_21 =>
    Option.bind (c_V (f37 [.inr (.inr (some b_21)), .inl (5 : Int32)] M)) fun q_19 =>
    b39_43 a0 o1 q_19)
def b39_0 (a0 : Nat) (o1 : Option Nat) (M : hM) : Option xRes :=
  Option.bind (g_i M 8 5 (some a0)) fun v_1 =>
  if v_1 = 0 then
    (b39_28 a0 o1 M)
  else
    (Option.bind (g_r M 8 9 (some a0)) fun o_3 =>
    Option.bind (g_i M 3 2 o_3) fun v_5 =>
    if (32 : Int32) ≤ v_5 then
      (b39_28 a0 o1 M)
    else
      (Option.bind (g_r M 8 9 (some a0)) fun o_7 =>
      Option.bind (g_o M 3 o_7) fun b_11 =>
      Option.bind (c_V (f38 [.inr (.inr (some b_11)), .inr (.inr o1)] M)) fun q_9 =>
      some (.inl (none, q_9))))
def f39 (as : List aV) (M : hM) : xO := match as with
  | [.inr (.inr (some a0)), .inr (.inr o1)] => x_out (b39_0 a0 o1 M)
  | _ => none
theorem lb39_43 (G : gX) (l : Launch) (a0 : Nat) (o1 : Option Nat) (M : hM) {res : xRes} (h : b39_43 a0 o1 M = some res) : h_sz M ≤ r_sz res ∧ h_sl M ≤ r_sl res := by
  unfold b39_43 at h
  obtain ⟨o_24, h25, h⟩ := bd h
  obtain ⟨b_28, h29, h⟩ := bd h
  obtain ⟨q_26, h27, h⟩ := bd h
  have eh27 := (t17 G l (c_V_some h27)).1
  obtain rfl := Option.some.inj h
  show h_sz M ≤ h_sz q_26 ∧ h_sl M ≤ h_sl q_26
  omega
theorem lb39_28 (G : gX) (l : Launch) (a0 : Nat) (o1 : Option Nat) (M : hM) {res : xRes} (h : b39_28 a0 o1 M = some res) : h_sz M ≤ r_sz res ∧ h_sl M ≤ r_sl res := by
  unfold b39_28 at h
  obtain ⟨v_15, h16, h⟩ := bd h
  by_cases q23 : v_15 = 0
  · rw [if_pos q23] at h
    have e := lb39_43 G l a0 o1 M h
    omega
  · rw [if_neg q23] at h
    obtain ⟨o_17, h18, h⟩ := bd h
    obtain ⟨b_21, h22, h⟩ := bd h
    obtain ⟨q_19, h20, h⟩ := bd h
    have eh20 := (t37 G l (c_V_some h20)).1
    have e := lb39_43 G l a0 o1 q_19 h
    omega
theorem lb39_0 (G : gX) (l : Launch) (a0 : Nat) (o1 : Option Nat) (M : hM) {res : xRes} (h : b39_0 a0 o1 M = some res) : h_sz M ≤ r_sz res ∧ h_sl M ≤ r_sl res := by
  unfold b39_0 at h
  obtain ⟨v_1, h2, h⟩ := bd h
  by_cases q14 : v_1 = 0
  · rw [if_pos q14] at h
    have e := lb39_28 G l a0 o1 M h
    omega
  · rw [if_neg q14] at h
    obtain ⟨o_3, h4, h⟩ := bd h
    obtain ⟨v_5, h6, h⟩ := bd h
    by_cases q13 : (32 : Int32) ≤ v_5
    · rw [if_pos q13] at h
      have e := lb39_28 G l a0 o1 M h
      omega
    · rw [if_neg q13] at h
      obtain ⟨o_7, h8, h⟩ := bd h
      obtain ⟨b_11, h12, h⟩ := bd h
      obtain ⟨q_9, h10, h⟩ := bd h
      have eh10 := (t38 G l (c_V_some h10)).1
      obtain rfl := Option.some.inj h
      show h_sz M ≤ h_sz q_9 ∧ h_sl M ≤ h_sl q_9
      omega
section
variable {p : Program} {l : Launch} {e : Env} {s : State} {m : MethodId} {args : Array Value} {below : List Frame} {meth : Method} {c : Code} {G : gX} {z0 y0 : Nat} {r : Option aV} {M' : hM}
theorem sb39_43 (E : xE G p (xRm 1 (h_sz M' - z0) (h_sl M' - y0)) s m args c prog_10_method_12_code "ZonedFabric$Port" z0 y0 (h_sz M') (h_sl M') 2) (B : xB ym39 none meth) (a0 : Nat) (o1 : Option Nat) (M : hM) {res : xRes} (h : b39_43 a0 o1 M = some res) (hN : xN (fun _ _ _ => False) r M' res) : xV G p l e (xRm 1 (h_sz M' - z0) (h_sl M' - y0)) s m args below meth c z0 y0 (h_sz M') (h_sl M') 2 (MQ below (xQc G r M') args s (h_sz M' - z0) (h_sl M' - y0) (xFr G)) 43 [(0, .inr (.inr (some a0))), (1, .inr (.inr o1))] [] M := by
  unfold b39_43 at h
  refine xv_b E [.aload_n 0] (pc' := 44) (lv' := [(0, .inr (.inr (some a0))), (1, .inr (.inr o1))]) (st' := [.inr (.inr (some a0))]) (by decide +kernel) rfl rfl ?_
  obtain ⟨o_24, h25, h⟩ := bd h
  refine xg_r E 8 0 h25 mw22 (show decode prog_10_method_12_code 44 = .ok (.getfield 28, 3) by decide +kernel) ?_
  refine xv_b E [.aload_n 1] (pc' := 48) (lv' := [(0, .inr (.inr (some a0))), (1, .inr (.inr o1))]) (st' := [.inr (.inr o1), .inr (.inr o_24)]) (by decide +kernel) rfl rfl ?_
  obtain ⟨b_28, h29, h⟩ := bd h
  obtain ⟨eh29, th29⟩ := g_o_some h29
  obtain ⟨q_26, h27, h⟩ := bd h
  refine xv_cvo E eh29 9 (as := [.inr (.inr o1)]) (t17 G l (c_V_some h27)) cd17 mw160 mw161 mw162 (show decode prog_10_method_12_code 48 = .ok (.invokevirtual 63, 3) by decide +kernel) th29 rfl rfl (Nat.le_of_ble_eq_true rfl) ⟨Nat.le_of_ble_eq_true rfl, Nat.le_of_ble_eq_true rfl⟩ ?_
  obtain rfl := Option.some.inj h
  obtain ⟨rfl, rfl⟩ := Prod.mk.inj (show ((none : Option aV), q_26) = (r, M') from hN)
  exact xv_rv E B.1 B.2.1 (show decode prog_10_method_12_code 51 = .ok (.return_, 1) by decide +kernel) rfl rfl
theorem sb39_28 (E : xE G p (xRm 1 (h_sz M' - z0) (h_sl M' - y0)) s m args c prog_10_method_12_code "ZonedFabric$Port" z0 y0 (h_sz M') (h_sl M') 2) (B : xB ym39 none meth) (a0 : Nat) (o1 : Option Nat) (M : hM) {res : xRes} (h : b39_28 a0 o1 M = some res) (hN : xN (fun _ _ _ => False) r M' res) : xV G p l e (xRm 1 (h_sz M' - z0) (h_sl M' - y0)) s m args below meth c z0 y0 (h_sz M') (h_sl M') 2 (MQ below (xQc G r M') args s (h_sz M' - z0) (h_sl M' - y0) (xFr G)) 28 [(0, .inr (.inr (some a0))), (1, .inr (.inr o1))] [] M := by
  unfold b39_28 at h
  refine xv_b E [.aload_n 0] (pc' := 29) (lv' := [(0, .inr (.inr (some a0))), (1, .inr (.inr o1))]) (st' := [.inr (.inr (some a0))]) (by decide +kernel) rfl rfl ?_
  obtain ⟨v_15, h16, h⟩ := bd h
  refine xg_i E 8 5 h16 mw134 (show decode prog_10_method_12_code 29 = .ok (.getfield 38, 3) by decide +kernel) ?_
  by_cases q23 : v_15 = 0
  · rw [if_pos q23] at h
    refine xv_if_eq E 43 (show decode prog_10_method_12_code 32 = .ok (.ifCond .eq (11), 3) by decide +kernel) rfl (fun _ => ?_) (fun z => absurd q23 z)
    exact xv_w (sb39_43 E B a0 o1 M h hN) rfl
  · rw [if_neg q23] at h
    refine xv_if_eq E 43 (show decode prog_10_method_12_code 32 = .ok (.ifCond .eq (11), 3) by decide +kernel) rfl (fun z => absurd z q23) (fun _ => ?_)
    refine xv_b E [.aload_n 0] (pc' := 36) (lv' := [(0, .inr (.inr (some a0))), (1, .inr (.inr o1))]) (st' := [.inr (.inr (some a0))]) (by decide +kernel) rfl rfl ?_
    obtain ⟨o_17, h18, h⟩ := bd h
    refine xg_r E 8 0 h18 mw22 (show decode prog_10_method_12_code 36 = .ok (.getfield 28, 3) by decide +kernel) ?_
    refine xv_b E [.iconst 5] (pc' := 40) (lv' := [(0, .inr (.inr (some a0))), (1, .inr (.inr o1))]) (st' := [.inl (5 : Int32), .inr (.inr o_17)]) (by decide +kernel) rfl rfl ?_
    obtain ⟨b_21, h22, h⟩ := bd h
    obtain ⟨eh22, th22⟩ := g_o_some h22
    obtain ⟨q_19, h20, h⟩ := bd h
    refine xv_cvo E eh22 9 (as := [.inl (5 : Int32)]) (t37 G l (c_V_some h20)) cd37 mw243 mw244 mw245 (show decode prog_10_method_12_code 40 = .ok (.invokevirtual 89, 3) by decide +kernel) th22 rfl rfl (Nat.le_of_ble_eq_true rfl) ⟨Nat.le_of_ble_eq_true rfl, Nat.le_of_ble_eq_true rfl⟩ ?_
    exact xv_w (sb39_43 E B a0 o1 q_19 h hN) rfl
theorem sb39_0 (E : xE G p (xRm 1 (h_sz M' - z0) (h_sl M' - y0)) s m args c prog_10_method_12_code "ZonedFabric$Port" z0 y0 (h_sz M') (h_sl M') 2) (B : xB ym39 none meth) (a0 : Nat) (o1 : Option Nat) (M : hM) {res : xRes} (h : b39_0 a0 o1 M = some res) (hN : xN (fun _ _ _ => False) r M' res) : xV G p l e (xRm 1 (h_sz M' - z0) (h_sl M' - y0)) s m args below meth c z0 y0 (h_sz M') (h_sl M') 2 (MQ below (xQc G r M') args s (h_sz M' - z0) (h_sl M' - y0) (xFr G)) 0 [(0, .inr (.inr (some a0))), (1, .inr (.inr o1))] [] M := by
  unfold b39_0 at h
  refine xv_b E [.aload_n 0] (pc' := 1) (lv' := [(0, .inr (.inr (some a0))), (1, .inr (.inr o1))]) (st' := [.inr (.inr (some a0))]) (by decide +kernel) rfl rfl ?_
  obtain ⟨v_1, h2, h⟩ := bd h
  refine xg_i E 8 5 h2 mw134 (show decode prog_10_method_12_code 1 = .ok (.getfield 38, 3) by decide +kernel) ?_
  by_cases q14 : v_1 = 0
  · rw [if_pos q14] at h
    refine xv_if_eq E 28 (show decode prog_10_method_12_code 4 = .ok (.ifCond .eq (24), 3) by decide +kernel) rfl (fun _ => ?_) (fun z => absurd q14 z)
    exact xv_w (sb39_28 E B a0 o1 M h hN) rfl
  · rw [if_neg q14] at h
    refine xv_if_eq E 28 (show decode prog_10_method_12_code 4 = .ok (.ifCond .eq (24), 3) by decide +kernel) rfl (fun z => absurd z q14) (fun _ => ?_)
    refine xv_b E [.aload_n 0] (pc' := 8) (lv' := [(0, .inr (.inr (some a0))), (1, .inr (.inr o1))]) (st' := [.inr (.inr (some a0))]) (by decide +kernel) rfl rfl ?_
    obtain ⟨o_3, h4, h⟩ := bd h
    refine xg_r E 8 9 h4 mw18 (show decode prog_10_method_12_code 8 = .ok (.getfield 12, 3) by decide +kernel) ?_
    obtain ⟨v_5, h6, h⟩ := bd h
    refine xg_i E 3 2 h6 mw163 (show decode prog_10_method_12_code 11 = .ok (.getfield 67, 3) by decide +kernel) ?_
    refine xv_b E [.bipush 32] (pc' := 16) (lv' := [(0, .inr (.inr (some a0))), (1, .inr (.inr o1))]) (st' := [.inl (32 : Int32), .inl v_5]) (by decide +kernel) rfl rfl ?_
    by_cases q13 : (32 : Int32) ≤ v_5
    · rw [if_pos q13] at h
      refine xv_icmp_ge E 28 (show decode prog_10_method_12_code 16 = .ok (.if_icmp .ge (12), 3) by decide +kernel) rfl (fun _ => ?_) (fun z => absurd q13 z)
      exact xv_w (sb39_28 E B a0 o1 M h hN) rfl
    · rw [if_neg q13] at h
      refine xv_icmp_ge E 28 (show decode prog_10_method_12_code 16 = .ok (.if_icmp .ge (12), 3) by decide +kernel) rfl (fun z => absurd z q13) (fun _ => ?_)
      refine xv_b E [.aload_n 0] (pc' := 20) (lv' := [(0, .inr (.inr (some a0))), (1, .inr (.inr o1))]) (st' := [.inr (.inr (some a0))]) (by decide +kernel) rfl rfl ?_
      obtain ⟨o_7, h8, h⟩ := bd h
      refine xg_r E 8 9 h8 mw18 (show decode prog_10_method_12_code 20 = .ok (.getfield 12, 3) by decide +kernel) ?_
      refine xv_b E [.aload_n 1] (pc' := 24) (lv' := [(0, .inr (.inr (some a0))), (1, .inr (.inr o1))]) (st' := [.inr (.inr o1), .inr (.inr o_7)]) (by decide +kernel) rfl rfl ?_
      obtain ⟨b_11, h12, h⟩ := bd h
      obtain ⟨eh12, th12⟩ := g_o_some h12
      obtain ⟨q_9, h10, h⟩ := bd h
      refine xv_cvo E eh12 3 (as := [.inr (.inr o1)]) (t38 G l (c_V_some h10)) cd38 mw240 mw241 mw242 (show decode prog_10_method_12_code 24 = .ok (.invokevirtual 86, 3) by decide +kernel) th12 rfl rfl (Nat.le_of_ble_eq_true rfl) ⟨Nat.le_of_ble_eq_true rfl, Nat.le_of_ble_eq_true rfl⟩ ?_
      obtain rfl := Option.some.inj h
      obtain ⟨rfl, rfl⟩ := Prod.mk.inj (show ((none : Option aV), q_9) = (r, M') from hN)
      exact xv_rv E B.1 B.2.1 (show decode prog_10_method_12_code 27 = .ok (.return_, 1) by decide +kernel) rfl rfl
end
theorem t39 (G : gX) (l : Launch) {as : List aV} {M : hM} {r : Option aV} {M' : hM} (h : f39 as M = some (r, M')) : xM G l ym39 prog_10_method_12_code 2 none 1 as M r M' := by
  unfold f39 at h
  split at h
  · have h := x_out_ok h
    refine xM_of (by decide) (Nat.le_of_ble_eq_true rfl) (lb39_0 G l _ _ M h) ?_
    intro p e s m args below meth c E B
    exact sb39_0 E B _ _ M h rfl
  · cases h
/-! ZF.Node.callSwitch()V -/
def ym40 : MethodName := ⟨"ZonedFabric$Node", "callSwitch", "()V"⟩
theorem cd40 : xCd ym40 prog_7_method_6_code 3 none 0 := ⟨mw246, mw27, by decide, by decide, by decide +kernel⟩
def b40_92  (M : hM) : Option xRes :=
  some (.inl (none, M))
def b40_14 (a0 : Nat) (si0 : Int32) (M : hM) : Option xRes :=
  Option.bind (g_r M 5 2 (some a0)) fun o_4 =>
  Option.bind (g_i M 8 5 o_4) fun v_6 =>
  if v_6 = 0 then
    (b40_92  M)
  else
    (Option.bind (g_r M 5 0 (some a0)) fun o_8 =>
    Option.bind (g_i M 9 3 o_8) fun v_10 =>
    Option.bind (g_r M 5 2 (some a0)) fun o_12 =>
    Option.bind (g_i M 8 14 o_12) fun v_14 =>
    if (v_10 - v_14) < si0 then
      (b40_92  M)
    else
      (Option.bind (g_r M 5 2 (some a0)) fun o_16 =>
      Option.bind (g_r M 5 0 (some a0)) fun o_18 =>
      Option.bind (g_i M 9 3 o_18) fun v_20 =>
      Option.bind (p_i M 8 14 o_16 v_20) fun M22 =>
      Option.bind (g_r M22 5 0 (some a0)) fun o_24 =>
      Option.bind (g_i M22 5 3 (some a0)) fun v_26 =>
      Option.bind (g_o M22 9 o_24) fun b_30 =>
      Option.bind (c_R (f34 [.inr (.inr (some b_30)), .inl (3 : Int32), .inl (16777214 : Int32), .inl v_26, .inl (0 : Int32)] M22)) fun q_28 =>
      Option.bind (g_i q_28.2 5 1 (some a0)) fun v_32 =>
      Option.bind (g_o q_28.2 2 q_28.1) fun b_36 =>
      Option.bind (c_V (f36 [.inr (.inr (some b_36)), .inl (1 : Int32), .inr (.inl (Int32.toInt64 v_32))] q_28.2)) fun q_34 =>
      Option.bind (g_r q_34 5 2 (some a0)) fun o_38 =>
      Option.bind (g_o q_34 8 o_38) fun b_42 =>
      Option.bind (c_V (f39 [.inr (.inr (some b_42)), .inr (.inr q_28.1)] q_34)) fun q_40 =>
      b40_92  q_40))
def b40_0 (a0 : Nat) (M : hM) : Option xRes :=
  Option.bind (g_i M 5 3 (some a0)) fun v_1 =>
  if v_1 = 0 then
    (b40_14 a0 (30 : Int32) M)
  else
    (b40_14 a0 (90 : Int32) M)
def f40 (as : List aV) (M : hM) : xO := match as with
  | [.inr (.inr (some a0))] => x_out (b40_0 a0 M)
  | _ => none
theorem lb40_92 (G : gX) (l : Launch)  (M : hM) {res : xRes} (h : b40_92  M = some res) : h_sz M ≤ r_sz res ∧ h_sl M ≤ r_sl res := by
  unfold b40_92 at h
  obtain rfl := Option.some.inj h
  show h_sz M ≤ h_sz M ∧ h_sl M ≤ h_sl M
  omega
theorem lb40_14 (G : gX) (l : Launch) (a0 : Nat) (si0 : Int32) (M : hM) {res : xRes} (h : b40_14 a0 si0 M = some res) : h_sz M ≤ r_sz res ∧ h_sl M ≤ r_sl res := by
  unfold b40_14 at h
  obtain ⟨o_4, h5, h⟩ := bd h
  obtain ⟨v_6, h7, h⟩ := bd h
  by_cases q45 : v_6 = 0
  · rw [if_pos q45] at h
    have e := lb40_92 G l  M h
    omega
  · rw [if_neg q45] at h
    obtain ⟨o_8, h9, h⟩ := bd h
    obtain ⟨v_10, h11, h⟩ := bd h
    obtain ⟨o_12, h13, h⟩ := bd h
    obtain ⟨v_14, h15, h⟩ := bd h
    by_cases q44 : (v_10 - v_14) < si0
    · rw [if_pos q44] at h
      have e := lb40_92 G l  M h
      omega
    · rw [if_neg q44] at h
      obtain ⟨o_16, h17, h⟩ := bd h
      obtain ⟨o_18, h19, h⟩ := bd h
      obtain ⟨v_20, h21, h⟩ := bd h
      obtain ⟨M22, h23, h⟩ := bd h
      have eh23 := p_i_sz h23
      obtain ⟨o_24, h25, h⟩ := bd h
      obtain ⟨v_26, h27, h⟩ := bd h
      obtain ⟨b_30, h31, h⟩ := bd h
      obtain ⟨q_28, h29, h⟩ := bd h
      have eh29 := (t34 G l (c_R_some h29)).1
      obtain ⟨v_32, h33, h⟩ := bd h
      obtain ⟨b_36, h37, h⟩ := bd h
      obtain ⟨q_34, h35, h⟩ := bd h
      have eh35 := (t36 G l (c_V_some h35)).1
      obtain ⟨o_38, h39, h⟩ := bd h
      obtain ⟨b_42, h43, h⟩ := bd h
      obtain ⟨q_40, h41, h⟩ := bd h
      have eh41 := (t39 G l (c_V_some h41)).1
      have e := lb40_92 G l  q_40 h
      omega
theorem lb40_0 (G : gX) (l : Launch) (a0 : Nat) (M : hM) {res : xRes} (h : b40_0 a0 M = some res) : h_sz M ≤ r_sz res ∧ h_sl M ≤ r_sl res := by
  unfold b40_0 at h
  obtain ⟨v_1, h2, h⟩ := bd h
  by_cases q3 : v_1 = 0
  · rw [if_pos q3] at h
    have e := lb40_14 G l a0 (30 : Int32) M h
    omega
  · rw [if_neg q3] at h
    have e := lb40_14 G l a0 (90 : Int32) M h
    omega
section
variable {p : Program} {l : Launch} {e : Env} {s : State} {m : MethodId} {args : Array Value} {below : List Frame} {meth : Method} {c : Code} {G : gX} {z0 y0 : Nat} {r : Option aV} {M' : hM}
theorem sb40_92 (E : xE G p (xRm 3 (h_sz M' - z0) (h_sl M' - y0)) s m args c prog_7_method_6_code "ZonedFabric$Node" z0 y0 (h_sz M') (h_sl M') 3) (B : xB ym40 none meth)  (M : hM) {res : xRes} (h : b40_92  M = some res) (hN : xN (fun _ _ _ => False) r M' res) : xV G p l e (xRm 3 (h_sz M' - z0) (h_sl M' - y0)) s m args below meth c z0 y0 (h_sz M') (h_sl M') 3 (MQ below (xQc G r M') args s (h_sz M' - z0) (h_sl M' - y0) (xFr G)) 92 [] [] M := by
  unfold b40_92 at h
  obtain rfl := Option.some.inj h
  obtain ⟨rfl, rfl⟩ := Prod.mk.inj (show ((none : Option aV), M) = (r, M') from hN)
  exact xv_rv E B.1 B.2.1 (show decode prog_7_method_6_code 92 = .ok (.return_, 1) by decide +kernel) rfl rfl
theorem sb40_14 (E : xE G p (xRm 3 (h_sz M' - z0) (h_sl M' - y0)) s m args c prog_7_method_6_code "ZonedFabric$Node" z0 y0 (h_sz M') (h_sl M') 3) (B : xB ym40 none meth) (a0 : Nat) (si0 : Int32) (M : hM) {res : xRes} (h : b40_14 a0 si0 M = some res) (hN : xN (fun _ _ _ => False) r M' res) : xV G p l e (xRm 3 (h_sz M' - z0) (h_sl M' - y0)) s m args below meth c z0 y0 (h_sz M') (h_sl M') 3 (MQ below (xQc G r M') args s (h_sz M' - z0) (h_sl M' - y0) (xFr G)) 14 [(0, .inr (.inr (some a0)))] [.inl si0] M := by
  unfold b40_14 at h
  refine xv_b E [.istore_n 1, .aload_n 0] (pc' := 16) (lv' := [(1, .inl si0), (0, .inr (.inr (some a0)))]) (st' := [.inr (.inr (some a0))]) (by decide +kernel) rfl rfl ?_
  obtain ⟨o_4, h5, h⟩ := bd h
  refine xg_r E 5 2 h5 mw34 (show decode prog_7_method_6_code 16 = .ok (.getfield 24, 3) by decide +kernel) ?_
  obtain ⟨v_6, h7, h⟩ := bd h
  refine xg_i E 8 5 h7 mw247 (show decode prog_7_method_6_code 19 = .ok (.getfield 105, 3) by decide +kernel) ?_
  by_cases q45 : v_6 = 0
  · rw [if_pos q45] at h
    refine xv_if_eq E 92 (show decode prog_7_method_6_code 22 = .ok (.ifCond .eq (70), 3) by decide +kernel) rfl (fun _ => ?_) (fun z => absurd q45 z)
    exact xv_w (sb40_92 E B  M h hN) rfl
  · rw [if_neg q45] at h
    refine xv_if_eq E 92 (show decode prog_7_method_6_code 22 = .ok (.ifCond .eq (70), 3) by decide +kernel) rfl (fun z => absurd z q45) (fun _ => ?_)
    refine xv_b E [.aload_n 0] (pc' := 26) (lv' := [(1, .inl si0), (0, .inr (.inr (some a0)))]) (st' := [.inr (.inr (some a0))]) (by decide +kernel) rfl rfl ?_
    obtain ⟨o_8, h9, h⟩ := bd h
    refine xg_r E 5 0 h9 mw28 (show decode prog_7_method_6_code 26 = .ok (.getfield 9, 3) by decide +kernel) ?_
    obtain ⟨v_10, h11, h⟩ := bd h
    refine xg_i E 9 3 h11 mw248 (show decode prog_7_method_6_code 29 = .ok (.getfield 109, 3) by decide +kernel) ?_
    refine xv_b E [.aload_n 0] (pc' := 33) (lv' := [(1, .inl si0), (0, .inr (.inr (some a0)))]) (st' := [.inr (.inr (some a0)), .inl v_10]) (by decide +kernel) rfl rfl ?_
    obtain ⟨o_12, h13, h⟩ := bd h
    refine xg_r E 5 2 h13 mw34 (show decode prog_7_method_6_code 33 = .ok (.getfield 24, 3) by decide +kernel) ?_
    obtain ⟨v_14, h15, h⟩ := bd h
    refine xg_i E 8 14 h15 mw249 (show decode prog_7_method_6_code 36 = .ok (.getfield 112, 3) by decide +kernel) ?_
    refine xv_b E [.isub, .iload_n 1] (pc' := 41) (lv' := [(1, .inl si0), (0, .inr (.inr (some a0)))]) (st' := [.inl si0, .inl (v_10 - v_14)]) (by decide +kernel) rfl rfl ?_
    by_cases q44 : (v_10 - v_14) < si0
    · rw [if_pos q44] at h
      refine xv_icmp_lt E 92 (show decode prog_7_method_6_code 41 = .ok (.if_icmp .lt (51), 3) by decide +kernel) rfl (fun _ => ?_) (fun z => absurd q44 z)
      exact xv_w (sb40_92 E B  M h hN) rfl
    · rw [if_neg q44] at h
      refine xv_icmp_lt E 92 (show decode prog_7_method_6_code 41 = .ok (.if_icmp .lt (51), 3) by decide +kernel) rfl (fun z => absurd z q44) (fun _ => ?_)
      refine xv_b E [.aload_n 0] (pc' := 45) (lv' := [(1, .inl si0), (0, .inr (.inr (some a0)))]) (st' := [.inr (.inr (some a0))]) (by decide +kernel) rfl rfl ?_
      obtain ⟨o_16, h17, h⟩ := bd h
      refine xg_r E 5 2 h17 mw34 (show decode prog_7_method_6_code 45 = .ok (.getfield 24, 3) by decide +kernel) ?_
      refine xv_b E [.aload_n 0] (pc' := 49) (lv' := [(1, .inl si0), (0, .inr (.inr (some a0)))]) (st' := [.inr (.inr (some a0)), .inr (.inr o_16)]) (by decide +kernel) rfl rfl ?_
      obtain ⟨o_18, h19, h⟩ := bd h
      refine xg_r E 5 0 h19 mw28 (show decode prog_7_method_6_code 49 = .ok (.getfield 9, 3) by decide +kernel) ?_
      obtain ⟨v_20, h21, h⟩ := bd h
      refine xg_i E 9 3 h21 mw248 (show decode prog_7_method_6_code 52 = .ok (.getfield 109, 3) by decide +kernel) ?_
      obtain ⟨M22, h23, h⟩ := bd h
      refine xp_i E 8 14 h23 mw249 (show decode prog_7_method_6_code 55 = .ok (.putfield 112, 3) by decide +kernel) (Or.inl rfl) ?_
      refine xv_b E [.aload_n 0] (pc' := 59) (lv' := [(1, .inl si0), (0, .inr (.inr (some a0)))]) (st' := [.inr (.inr (some a0))]) (by decide +kernel) rfl rfl ?_
      obtain ⟨o_24, h25, h⟩ := bd h
      refine xg_r E 5 0 h25 mw28 (show decode prog_7_method_6_code 59 = .ok (.getfield 9, 3) by decide +kernel) ?_
      refine xv_b E [.iconst 3] (pc' := 63) (lv' := [(1, .inl si0), (0, .inr (.inr (some a0)))]) (st' := [.inl (3 : Int32), .inr (.inr o_24)]) (by decide +kernel) rfl rfl ?_
      refine xv_ldc E (16777214 : Int32) mw259 (show decode prog_7_method_6_code 63 = .ok (.ldc 60, 2) by decide +kernel) ?_
      refine xv_b E [.aload_n 0] (pc' := 66) (lv' := [(1, .inl si0), (0, .inr (.inr (some a0)))]) (st' := [.inr (.inr (some a0)), .inl (16777214 : Int32), .inl (3 : Int32), .inr (.inr o_24)]) (by decide +kernel) rfl rfl ?_
      obtain ⟨v_26, h27, h⟩ := bd h
      refine xg_i E 5 3 h27 mw181 (show decode prog_7_method_6_code 66 = .ok (.getfield 67, 3) by decide +kernel) ?_
      refine xv_b E [.iconst 0] (pc' := 70) (lv' := [(1, .inl si0), (0, .inr (.inr (some a0)))]) (st' := [.inl (0 : Int32), .inl v_26, .inl (16777214 : Int32), .inl (3 : Int32), .inr (.inr o_24)]) (by decide +kernel) rfl rfl ?_
      obtain ⟨b_30, h31, h⟩ := bd h
      obtain ⟨eh31, th31⟩ := g_o_some h31
      obtain ⟨q_28, h29, h⟩ := bd h
      refine xv_cvo E eh31 9 (as := [.inl (3 : Int32), .inl (16777214 : Int32), .inl v_26, .inl (0 : Int32)]) (t34 G l (c_R_some h29)) cd34 mw250 mw251 mw252 (show decode prog_7_method_6_code 70 = .ok (.invokevirtual 115, 3) by decide +kernel) th31 rfl rfl (Nat.le_of_ble_eq_true rfl) ⟨Nat.le_of_ble_eq_true rfl, Nat.le_of_ble_eq_true rfl⟩ ?_
      refine xv_b E [.astore_n 2, .aload_n 2, .iconst 1, .aload_n 0] (pc' := 77) (lv' := [(2, .inr (.inr q_28.1)), (1, .inl si0), (0, .inr (.inr (some a0)))]) (st' := [.inr (.inr (some a0)), .inl (1 : Int32), .inr (.inr q_28.1)]) (by decide +kernel) rfl rfl ?_
      obtain ⟨v_32, h33, h⟩ := bd h
      refine xg_i E 5 1 h33 mw29 (show decode prog_7_method_6_code 77 = .ok (.getfield 15, 3) by decide +kernel) ?_
      refine xv_b E [.i2l] (pc' := 81) (lv' := [(2, .inr (.inr q_28.1)), (1, .inl si0), (0, .inr (.inr (some a0)))]) (st' := [.inr (.inl (Int32.toInt64 v_32)), .inl (1 : Int32), .inr (.inr q_28.1)]) (by decide +kernel) rfl rfl ?_
      obtain ⟨b_36, h37, h⟩ := bd h
      obtain ⟨eh37, th37⟩ := g_o_some h37
      obtain ⟨q_34, h35, h⟩ := bd h
      refine xv_cvo E eh37 2 (as := [.inl (1 : Int32), .inr (.inl (Int32.toInt64 v_32))]) (t36 G l (c_V_some h35)) cd36 mw253 mw254 mw255 (show decode prog_7_method_6_code 81 = .ok (.invokevirtual 119, 3) by decide +kernel) th37 rfl rfl (Nat.le_of_ble_eq_true rfl) ⟨Nat.le_of_ble_eq_true rfl, Nat.le_of_ble_eq_true rfl⟩ ?_
      refine xv_b E [.aload_n 0] (pc' := 85) (lv' := [(2, .inr (.inr q_28.1)), (1, .inl si0), (0, .inr (.inr (some a0)))]) (st' := [.inr (.inr (some a0))]) (by decide +kernel) rfl rfl ?_
      obtain ⟨o_38, h39, h⟩ := bd h
      refine xg_r E 5 2 h39 mw34 (show decode prog_7_method_6_code 85 = .ok (.getfield 24, 3) by decide +kernel) ?_
      refine xv_b E [.aload_n 2] (pc' := 89) (lv' := [(2, .inr (.inr q_28.1)), (1, .inl si0), (0, .inr (.inr (some a0)))]) (st' := [.inr (.inr q_28.1), .inr (.inr o_38)]) (by decide +kernel) rfl rfl ?_
      obtain ⟨b_42, h43, h⟩ := bd h
      obtain ⟨eh43, th43⟩ := g_o_some h43
      obtain ⟨q_40, h41, h⟩ := bd h
      refine xv_cvo E eh43 8 (as := [.inr (.inr q_28.1)]) (t39 G l (c_V_some h41)) cd39 mw256 mw257 mw258 (show decode prog_7_method_6_code 89 = .ok (.invokevirtual 123, 3) by decide +kernel) th43 rfl rfl (Nat.le_of_ble_eq_true rfl) ⟨Nat.le_of_ble_eq_true rfl, Nat.le_of_ble_eq_true rfl⟩ ?_
      exact xv_w (sb40_92 E B  q_40 h hN) rfl
theorem sb40_0 (E : xE G p (xRm 3 (h_sz M' - z0) (h_sl M' - y0)) s m args c prog_7_method_6_code "ZonedFabric$Node" z0 y0 (h_sz M') (h_sl M') 3) (B : xB ym40 none meth) (a0 : Nat) (M : hM) {res : xRes} (h : b40_0 a0 M = some res) (hN : xN (fun _ _ _ => False) r M' res) : xV G p l e (xRm 3 (h_sz M' - z0) (h_sl M' - y0)) s m args below meth c z0 y0 (h_sz M') (h_sl M') 3 (MQ below (xQc G r M') args s (h_sz M' - z0) (h_sl M' - y0) (xFr G)) 0 [(0, .inr (.inr (some a0)))] [] M := by
  unfold b40_0 at h
  refine xv_b E [.aload_n 0] (pc' := 1) (lv' := [(0, .inr (.inr (some a0)))]) (st' := [.inr (.inr (some a0))]) (by decide +kernel) rfl rfl ?_
  obtain ⟨v_1, h2, h⟩ := bd h
  refine xg_i E 5 3 h2 mw181 (show decode prog_7_method_6_code 1 = .ok (.getfield 67, 3) by decide +kernel) ?_
  by_cases q3 : v_1 = 0
  · rw [if_pos q3] at h
    refine xv_if_ne E 12 (show decode prog_7_method_6_code 4 = .ok (.ifCond .ne (8), 3) by decide +kernel) rfl (fun z => absurd q3 z) (fun _ => ?_)
    refine xv_b E [.bipush 30] (pc' := 9) (lv' := [(0, .inr (.inr (some a0)))]) (st' := [.inl (30 : Int32)]) (by decide +kernel) rfl rfl ?_
    refine xv_goto E 14 (show decode prog_7_method_6_code 9 = .ok (.goto (5), 3) by decide +kernel) rfl ?_
    exact xv_w (sb40_14 E B a0 (30 : Int32) M h hN) rfl
  · rw [if_neg q3] at h
    refine xv_if_ne E 12 (show decode prog_7_method_6_code 4 = .ok (.ifCond .ne (8), 3) by decide +kernel) rfl (fun _ => ?_) (fun z => absurd z q3)
    refine xv_b E [.bipush 90] (pc' := 14) (lv' := [(0, .inr (.inr (some a0)))]) (st' := [.inl (90 : Int32)]) (by decide +kernel) rfl rfl ?_
    exact xv_w (sb40_14 E B a0 (90 : Int32) M h hN) rfl
end
theorem t40 (G : gX) (l : Launch) {as : List aV} {M : hM} {r : Option aV} {M' : hM} (h : f40 as M = some (r, M')) : xM G l ym40 prog_7_method_6_code 3 none 3 as M r M' := by
  unfold f40 at h
  split at h
  · have h := x_out_ok h
    refine xM_of (by decide) (Nat.le_of_ble_eq_true rfl) (lb40_0 G l _ M h) ?_
    intro p e s m args below meth c E B
    exact sb40_0 E B _ M h rfl
  · cases h
/-! ZF.Port.canSend()Z -/
def ym41 : MethodName := ⟨"ZonedFabric$Port", "canSend", "()Z"⟩
theorem cd41 : xCd ym41 prog_10_method_9_code 1 (some FieldType.boolean) 0 := ⟨mw260, mw14, by decide, by decide, by decide +kernel⟩
def b41_26 (si0 : Int32) (M : hM) : Option xRes :=
  if si0 = 0 ∨ si0 = 1 then
    (some (.inl (some (.inl si0), M)))
  else
    none
def b41_25  (M : hM) : Option xRes :=
  b41_26 (0 : Int32) M
def b41_0 (a0 : Nat) (M : hM) : Option xRes :=
  Option.bind (g_i M 8 5 (some a0)) fun v_1 =>
  if v_1 = 0 then
    (b41_25  M)
  else
    (Option.bind (g_i M 8 6 (some a0)) fun v_3 =>
    if v_3 ≤ 0 then
      (b41_25  M)
    else
      (Option.bind (g_r M 8 8 (some a0)) fun o_5 =>
      if o_5 = none then
        (b41_26 (1 : Int32) M)
      else
        (b41_25  M)))
def f41 (as : List aV) (M : hM) : xO := match as with
  | [.inr (.inr (some a0))] => x_out (b41_0 a0 M)
  | _ => none
theorem lb41_26 (G : gX) (l : Launch) (si0 : Int32) (M : hM) {res : xRes} (h : b41_26 si0 M = some res) : h_sz M ≤ r_sz res ∧ h_sl M ≤ r_sl res := by
  unfold b41_26 at h
  by_cases q10 : si0 = 0 ∨ si0 = 1
  · rw [if_pos q10] at h
    obtain rfl := Option.some.inj h
    show h_sz M ≤ h_sz M ∧ h_sl M ≤ h_sl M
    omega
  · rw [if_neg q10] at h
    cases h
theorem lb41_25 (G : gX) (l : Launch)  (M : hM) {res : xRes} (h : b41_25  M = some res) : h_sz M ≤ r_sz res ∧ h_sl M ≤ r_sl res := by
  unfold b41_25 at h
  have e := lb41_26 G l (0 : Int32) M h
  omega
theorem lb41_0 (G : gX) (l : Launch) (a0 : Nat) (M : hM) {res : xRes} (h : b41_0 a0 M = some res) : h_sz M ≤ r_sz res ∧ h_sl M ≤ r_sl res := by
  unfold b41_0 at h
  obtain ⟨v_1, h2, h⟩ := bd h
  by_cases q9 : v_1 = 0
  · rw [if_pos q9] at h
    have e := lb41_25 G l  M h
    omega
  · rw [if_neg q9] at h
    obtain ⟨v_3, h4, h⟩ := bd h
    by_cases q8 : v_3 ≤ 0
    · rw [if_pos q8] at h
      have e := lb41_25 G l  M h
      omega
    · rw [if_neg q8] at h
      obtain ⟨o_5, h6, h⟩ := bd h
      by_cases q7 : o_5 = none
      · rw [if_pos q7] at h
        have e := lb41_26 G l (1 : Int32) M h
        omega
      · rw [if_neg q7] at h
        have e := lb41_25 G l  M h
        omega
section
variable {p : Program} {l : Launch} {e : Env} {s : State} {m : MethodId} {args : Array Value} {below : List Frame} {meth : Method} {c : Code} {G : gX} {z0 y0 : Nat} {r : Option aV} {M' : hM}
theorem sb41_26 (E : xE G p (xRm 0 (h_sz M' - z0) (h_sl M' - y0)) s m args c prog_10_method_9_code "ZonedFabric$Port" z0 y0 (h_sz M') (h_sl M') 1) (B : xB ym41 (some FieldType.boolean) meth) (si0 : Int32) (M : hM) {res : xRes} (h : b41_26 si0 M = some res) (hN : xN (fun _ _ _ => False) r M' res) : xV G p l e (xRm 0 (h_sz M' - z0) (h_sl M' - y0)) s m args below meth c z0 y0 (h_sz M') (h_sl M') 1 (MQ below (xQc G r M') args s (h_sz M' - z0) (h_sl M' - y0) (xFr G)) 26 [] [.inl si0] M := by
  unfold b41_26 at h
  by_cases q10 : si0 = 0 ∨ si0 = 1
  · rw [if_pos q10] at h
    obtain rfl := Option.some.inj h
    obtain ⟨rfl, rfl⟩ := Prod.mk.inj (show ((some (.inl si0) : Option aV), M) = (r, M') from hN)
    exact xv_ri E B.1 (by rcases q10 with z | z <;> rw [z] <;> rfl) B.2.1 (show decode prog_10_method_9_code 26 = .ok (.ireturn, 1) by decide +kernel) rfl rfl
  · rw [if_neg q10] at h
    cases h
theorem sb41_25 (E : xE G p (xRm 0 (h_sz M' - z0) (h_sl M' - y0)) s m args c prog_10_method_9_code "ZonedFabric$Port" z0 y0 (h_sz M') (h_sl M') 1) (B : xB ym41 (some FieldType.boolean) meth)  (M : hM) {res : xRes} (h : b41_25  M = some res) (hN : xN (fun _ _ _ => False) r M' res) : xV G p l e (xRm 0 (h_sz M' - z0) (h_sl M' - y0)) s m args below meth c z0 y0 (h_sz M') (h_sl M') 1 (MQ below (xQc G r M') args s (h_sz M' - z0) (h_sl M' - y0) (xFr G)) 25 [] [] M := by
  unfold b41_25 at h
  refine xv_b E [.iconst 0] (pc' := 26) (lv' := []) (st' := [.inl (0 : Int32)]) (by decide +kernel) rfl rfl ?_
  exact xv_w (sb41_26 E B (0 : Int32) M h hN) rfl
theorem sb41_0 (E : xE G p (xRm 0 (h_sz M' - z0) (h_sl M' - y0)) s m args c prog_10_method_9_code "ZonedFabric$Port" z0 y0 (h_sz M') (h_sl M') 1) (B : xB ym41 (some FieldType.boolean) meth) (a0 : Nat) (M : hM) {res : xRes} (h : b41_0 a0 M = some res) (hN : xN (fun _ _ _ => False) r M' res) : xV G p l e (xRm 0 (h_sz M' - z0) (h_sl M' - y0)) s m args below meth c z0 y0 (h_sz M') (h_sl M') 1 (MQ below (xQc G r M') args s (h_sz M' - z0) (h_sl M' - y0) (xFr G)) 0 [(0, .inr (.inr (some a0)))] [] M := by
  unfold b41_0 at h
  refine xv_b E [.aload_n 0] (pc' := 1) (lv' := [(0, .inr (.inr (some a0)))]) (st' := [.inr (.inr (some a0))]) (by decide +kernel) rfl rfl ?_
  obtain ⟨v_1, h2, h⟩ := bd h
  refine xg_i E 8 5 h2 mw134 (show decode prog_10_method_9_code 1 = .ok (.getfield 38, 3) by decide +kernel) ?_
  by_cases q9 : v_1 = 0
  · rw [if_pos q9] at h
    refine xv_if_eq E 25 (show decode prog_10_method_9_code 4 = .ok (.ifCond .eq (21), 3) by decide +kernel) rfl (fun _ => ?_) (fun z => absurd q9 z)
    exact xv_w (sb41_25 E B  M h hN) rfl
  · rw [if_neg q9] at h
    refine xv_if_eq E 25 (show decode prog_10_method_9_code 4 = .ok (.ifCond .eq (21), 3) by decide +kernel) rfl (fun z => absurd z q9) (fun _ => ?_)
    refine xv_b E [.aload_n 0] (pc' := 8) (lv' := [(0, .inr (.inr (some a0)))]) (st' := [.inr (.inr (some a0))]) (by decide +kernel) rfl rfl ?_
    obtain ⟨v_3, h4, h⟩ := bd h
    refine xg_i E 8 6 h4 mw136 (show decode prog_10_method_9_code 8 = .ok (.getfield 47, 3) by decide +kernel) ?_
    by_cases q8 : v_3 ≤ 0
    · rw [if_pos q8] at h
      refine xv_if_le E 25 (show decode prog_10_method_9_code 11 = .ok (.ifCond .le (14), 3) by decide +kernel) rfl (fun _ => ?_) (fun z => absurd q8 z)
      exact xv_w (sb41_25 E B  M h hN) rfl
    · rw [if_neg q8] at h
      refine xv_if_le E 25 (show decode prog_10_method_9_code 11 = .ok (.ifCond .le (14), 3) by decide +kernel) rfl (fun z => absurd z q8) (fun _ => ?_)
      refine xv_b E [.aload_n 0] (pc' := 15) (lv' := [(0, .inr (.inr (some a0)))]) (st' := [.inr (.inr (some a0))]) (by decide +kernel) rfl rfl ?_
      obtain ⟨o_5, h6, h⟩ := bd h
      refine xg_r E 8 8 h6 mw159 (show decode prog_10_method_9_code 15 = .ok (.getfield 59, 3) by decide +kernel) ?_
      by_cases q7 : o_5 = none
      · rw [if_pos q7] at h
        refine xi_nonnull E 25 (show decode prog_10_method_9_code 18 = .ok (.ifnonnull (7), 3) by decide +kernel) rfl (fun z => absurd q7 z) (fun _ => ?_)
        refine xv_b E [.iconst 1] (pc' := 22) (lv' := [(0, .inr (.inr (some a0)))]) (st' := [.inl (1 : Int32)]) (by decide +kernel) rfl rfl ?_
        refine xv_goto E 26 (show decode prog_10_method_9_code 22 = .ok (.goto (4), 3) by decide +kernel) rfl ?_
        exact xv_w (sb41_26 E B (1 : Int32) M h hN) rfl
      · rw [if_neg q7] at h
        refine xi_nonnull E 25 (show decode prog_10_method_9_code 18 = .ok (.ifnonnull (7), 3) by decide +kernel) rfl (fun _ => ?_) (fun z => absurd z q7)
        exact xv_w (sb41_25 E B  M h hN) rfl
end
theorem t41 (G : gX) (l : Launch) {as : List aV} {M : hM} {r : Option aV} {M' : hM} (h : f41 as M = some (r, M')) : xM G l ym41 prog_10_method_9_code 1 (some FieldType.boolean) 0 as M r M' := by
  unfold f41 at h
  split at h
  · have h := x_out_ok h
    refine xM_of (by decide) (Nat.le_of_ble_eq_true rfl) (lb41_0 G l _ M h) ?_
    intro p e s m args below meth c E B
    exact sb41_0 E B _ M h rfl
  · cases h
/-! ZF.Frame.reckonCheck(I)I -/
def ym42 : MethodName := ⟨"ZonedFabric$Frame", "reckonCheck", "(I)I"⟩
theorem cd42 : xCd ym42 prog_4_method_7_code 4 (some FieldType.int) 1 := ⟨mw261, mw207, by decide, by decide, by decide +kernel⟩
def b42_0 (a0 : Nat) (v1 : Int32) (M : hM) : Option xRes :=
  some (.inr (4, [.inr (.inr (some a0)), .inl v1, .inl (-1 : Int32), .inl (0 : Int32)], M))
def b42_63 (v2 : Int32) (M : hM) : Option xRes :=
  some (.inl (some (.inl (v2 ^^^ (-1 : Int32))), M))
def b42_4 (a0 : Nat) (v1 : Int32) (v2 : Int32) (v3 : Int32) (M : hM) : Option xRes :=
  if v1 ≤ v3 then
    (b42_63 v2 M)
  else
    (Option.bind (g_r M 2 0 (some a0)) fun o_1 =>
    Option.bind (a_ln M 21 o_1) fun v_3 =>
    if v_3 ≤ v3 then
      (b42_63 v2 M)
    else
      (Option.bind (g_r M 2 0 (some a0)) fun o_5 =>
      Option.bind (al_i M 21 o_5 v3) fun v_7 =>
      Option.bind (t_1 ((v2 ^^^ (v_7 &&& (255 : Int32))) &&& (15 : Int32))) fun v_9 =>
      Option.bind (t_1 (((Int32.toUInt32 (v2 ^^^ (v_7 &&& (255 : Int32))) >>> (Int32.toUInt32 (4 : Int32) &&& Int32.toUInt32 31)).toInt32 ^^^ v_9) &&& (15 : Int32))) fun v_11 =>
      some (.inr (4, [.inr (.inr (some a0)), .inl v1, .inl ((Int32.toUInt32 ((Int32.toUInt32 (v2 ^^^ (v_7 &&& (255 : Int32))) >>> (Int32.toUInt32 (4 : Int32) &&& Int32.toUInt32 31)).toInt32 ^^^ v_9) >>> (Int32.toUInt32 (4 : Int32) &&& Int32.toUInt32 31)).toInt32 ^^^ v_11), .inl (v3 + (1 : Int32))], M))))
def k42 (h : Nat) (as : List aV) (M : hM) : Option xRes :=
  if h = 4 then (match as with | [.inr (.inr (some a0)), .inl v1, .inl v2, .inl v3] => b42_4 a0 v1 v2 v3 M | _ => none) else
  none
def f42 (as : List aV) (M : hM) : xO := match as with
  | [.inr (.inr (some a0)), .inl v1] => x_go k42 (b42_0 a0 v1 M)
  | _ => none
theorem lb42_0 (G : gX) (l : Launch) (a0 : Nat) (v1 : Int32) (M : hM) {res : xRes} (h : b42_0 a0 v1 M = some res) : h_sz M ≤ r_sz res ∧ h_sl M ≤ r_sl res := by
  unfold b42_0 at h
  obtain rfl := Option.some.inj h
  show h_sz M ≤ h_sz M ∧ h_sl M ≤ h_sl M
  omega
theorem lb42_63 (G : gX) (l : Launch) (v2 : Int32) (M : hM) {res : xRes} (h : b42_63 v2 M = some res) : h_sz M ≤ r_sz res ∧ h_sl M ≤ r_sl res := by
  unfold b42_63 at h
  obtain rfl := Option.some.inj h
  show h_sz M ≤ h_sz M ∧ h_sl M ≤ h_sl M
  omega
theorem lb42_4 (G : gX) (l : Launch) (a0 : Nat) (v1 : Int32) (v2 : Int32) (v3 : Int32) (M : hM) {res : xRes} (h : b42_4 a0 v1 v2 v3 M = some res) : h_sz M ≤ r_sz res ∧ h_sl M ≤ r_sl res := by
  unfold b42_4 at h
  by_cases q14 : v1 ≤ v3
  · rw [if_pos q14] at h
    have e := lb42_63 G l v2 M h
    omega
  · rw [if_neg q14] at h
    obtain ⟨o_1, h2, h⟩ := bd h
    obtain ⟨v_3, h4, h⟩ := bd h
    by_cases q13 : v_3 ≤ v3
    · rw [if_pos q13] at h
      have e := lb42_63 G l v2 M h
      omega
    · rw [if_neg q13] at h
      obtain ⟨o_5, h6, h⟩ := bd h
      obtain ⟨v_7, h8, h⟩ := bd h
      obtain ⟨v_9, h10, h⟩ := bd h
      obtain ⟨v_11, h12, h⟩ := bd h
      obtain rfl := Option.some.inj h
      show h_sz M ≤ h_sz M ∧ h_sl M ≤ h_sl M
      omega
section
variable {p : Program} {l : Launch} {e : Env} {s : State} {m : MethodId} {args : Array Value} {below : List Frame} {meth : Method} {c : Code} {G : gX} {z0 y0 : Nat} {r : Option aV} {M' : hM}
def pg42 (p : Program) (l : Launch) (e : Env) (s : State) (m : MethodId) (args : Array Value) (below : List Frame) (meth : Method) (c : Code) (G : gX) (z0 y0 : Nat) (r : Option aV) (M' : hM) (h : Nat) (as : List aV) (M : hM) : Prop :=
  if h = 4 then (match as with | [.inr (.inr (some a0)), .inl v1, .inl v2, .inl v3] => xV G p l e (xRm 0 (h_sz M' - z0) (h_sl M' - y0)) s m args below meth c z0 y0 (h_sz M') (h_sl M') 4 (MQ below (xQc G r M') args s (h_sz M' - z0) (h_sl M' - y0) (xFr G)) 4 [(0, .inr (.inr (some a0))), (1, .inl v1), (2, .inl v2), (3, .inl v3)] [] M | _ => False) else
  False
theorem sb42_0 (E : xE G p (xRm 0 (h_sz M' - z0) (h_sl M' - y0)) s m args c prog_4_method_7_code "ZonedFabric$Frame" z0 y0 (h_sz M') (h_sl M') 4) (B : xB ym42 (some FieldType.int) meth) (a0 : Nat) (v1 : Int32) (M : hM) {res : xRes} (h : b42_0 a0 v1 M = some res) (hN : xN (pg42 p l e s m args below meth c G z0 y0 r M') r M' res) : xV G p l e (xRm 0 (h_sz M' - z0) (h_sl M' - y0)) s m args below meth c z0 y0 (h_sz M') (h_sl M') 4 (MQ below (xQc G r M') args s (h_sz M' - z0) (h_sl M' - y0) (xFr G)) 0 [(0, .inr (.inr (some a0))), (1, .inl v1)] [] M := by
  unfold b42_0 at h
  refine xv_b E [.iconst (-1), .istore_n 2, .iconst 0, .istore_n 3] (pc' := 4) (lv' := [(3, .inl (0 : Int32)), (2, .inl (-1 : Int32)), (0, .inr (.inr (some a0))), (1, .inl v1)]) (st' := []) (by decide +kernel) rfl rfl ?_
  obtain rfl := Option.some.inj h
  exact xv_w hN rfl
theorem sb42_63 (E : xE G p (xRm 0 (h_sz M' - z0) (h_sl M' - y0)) s m args c prog_4_method_7_code "ZonedFabric$Frame" z0 y0 (h_sz M') (h_sl M') 4) (B : xB ym42 (some FieldType.int) meth) (v2 : Int32) (M : hM) {res : xRes} (h : b42_63 v2 M = some res) (hN : xN (pg42 p l e s m args below meth c G z0 y0 r M') r M' res) : xV G p l e (xRm 0 (h_sz M' - z0) (h_sl M' - y0)) s m args below meth c z0 y0 (h_sz M') (h_sl M') 4 (MQ below (xQc G r M') args s (h_sz M' - z0) (h_sl M' - y0) (xFr G)) 63 [(2, .inl v2)] [] M := by
  unfold b42_63 at h
  refine xv_b E [.iload_n 2, .iconst (-1), .ixor] (pc' := 66) (lv' := [(2, .inl v2)]) (st' := [.inl (v2 ^^^ (-1 : Int32))]) (by decide +kernel) rfl rfl ?_
  obtain rfl := Option.some.inj h
  obtain ⟨rfl, rfl⟩ := Prod.mk.inj (show ((some (.inl (v2 ^^^ (-1 : Int32))) : Option aV), M) = (r, M') from hN)
  exact xv_ri E B.1 rfl B.2.1 (show decode prog_4_method_7_code 66 = .ok (.ireturn, 1) by decide +kernel) rfl rfl
theorem sb42_4 (E : xE G p (xRm 0 (h_sz M' - z0) (h_sl M' - y0)) s m args c prog_4_method_7_code "ZonedFabric$Frame" z0 y0 (h_sz M') (h_sl M') 4) (B : xB ym42 (some FieldType.int) meth) (a0 : Nat) (v1 : Int32) (v2 : Int32) (v3 : Int32) (M : hM) {res : xRes} (h : b42_4 a0 v1 v2 v3 M = some res) (hN : xN (pg42 p l e s m args below meth c G z0 y0 r M') r M' res) : xV G p l e (xRm 0 (h_sz M' - z0) (h_sl M' - y0)) s m args below meth c z0 y0 (h_sz M') (h_sl M') 4 (MQ below (xQc G r M') args s (h_sz M' - z0) (h_sl M' - y0) (xFr G)) 4 [(0, .inr (.inr (some a0))), (1, .inl v1), (2, .inl v2), (3, .inl v3)] [] M := by
  unfold b42_4 at h
  refine xv_b E [.iload_n 3, .iload_n 1] (pc' := 6) (lv' := [(0, .inr (.inr (some a0))), (1, .inl v1), (2, .inl v2), (3, .inl v3)]) (st' := [.inl v1, .inl v3]) (by decide +kernel) rfl rfl ?_
  by_cases q14 : v1 ≤ v3
  · rw [if_pos q14] at h
    refine xv_icmp_ge E 63 (show decode prog_4_method_7_code 6 = .ok (.if_icmp .ge (57), 3) by decide +kernel) rfl (fun _ => ?_) (fun z => absurd q14 z)
    exact xv_w (sb42_63 E B v2 M h hN) rfl
  · rw [if_neg q14] at h
    refine xv_icmp_ge E 63 (show decode prog_4_method_7_code 6 = .ok (.if_icmp .ge (57), 3) by decide +kernel) rfl (fun z => absurd z q14) (fun _ => ?_)
    refine xv_b E [.iload_n 3, .aload_n 0] (pc' := 11) (lv' := [(0, .inr (.inr (some a0))), (1, .inl v1), (2, .inl v2), (3, .inl v3)]) (st' := [.inr (.inr (some a0)), .inl v3]) (by decide +kernel) rfl rfl ?_
    obtain ⟨o_1, h2, h⟩ := bd h
    refine xg_r E 2 0 h2 mw208 (show decode prog_4_method_7_code 11 = .ok (.getfield 9, 3) by decide +kernel) ?_
    obtain ⟨v_3, h4, h⟩ := bd h
    refine xa_n E 21 h4 (show decode prog_4_method_7_code 14 = .ok (.arraylength, 1) by decide +kernel) ?_
    by_cases q13 : v_3 ≤ v3
    · rw [if_pos q13] at h
      refine xv_icmp_ge E 63 (show decode prog_4_method_7_code 15 = .ok (.if_icmp .ge (48), 3) by decide +kernel) rfl (fun _ => ?_) (fun z => absurd q13 z)
      exact xv_w (sb42_63 E B v2 M h hN) rfl
    · rw [if_neg q13] at h
      refine xv_icmp_ge E 63 (show decode prog_4_method_7_code 15 = .ok (.if_icmp .ge (48), 3) by decide +kernel) rfl (fun z => absurd z q13) (fun _ => ?_)
      refine xv_b E [.iload_n 2, .aload_n 0] (pc' := 20) (lv' := [(0, .inr (.inr (some a0))), (1, .inl v1), (2, .inl v2), (3, .inl v3)]) (st' := [.inr (.inr (some a0)), .inl v2]) (by decide +kernel) rfl rfl ?_
      obtain ⟨o_5, h6, h⟩ := bd h
      refine xg_r E 2 0 h6 mw208 (show decode prog_4_method_7_code 20 = .ok (.getfield 9, 3) by decide +kernel) ?_
      refine xv_b E [.iload_n 3] (pc' := 24) (lv' := [(0, .inr (.inr (some a0))), (1, .inl v1), (2, .inl v2), (3, .inl v3)]) (st' := [.inl v3, .inr (.inr o_5), .inl v2]) (by decide +kernel) rfl rfl ?_
      obtain ⟨v_7, h8, h⟩ := bd h
      refine xa_b E h8 (show decode prog_4_method_7_code 24 = .ok (.baload, 1) by decide +kernel) ?_
      refine xv_b E [.sipush 255, .iand, .ixor, .istore_n 2, .iload_n 2, .iconst 4, .iushr] (pc' := 34) (lv' := [(2, .inl (v2 ^^^ (v_7 &&& (255 : Int32)))), (0, .inr (.inr (some a0))), (1, .inl v1), (3, .inl v3)]) (st' := [.inl (Int32.toUInt32 (v2 ^^^ (v_7 &&& (255 : Int32))) >>> (Int32.toUInt32 (4 : Int32) &&& Int32.toUInt32 31)).toInt32]) (by decide +kernel) rfl rfl ?_
      refine xt_g1 E rfl (show decode prog_4_method_7_code 34 = .ok (.getstatic 45, 3) by decide +kernel) ?_
      refine xv_b E [.iload_n 2, .bipush 15, .iand] (pc' := 41) (lv' := [(2, .inl (v2 ^^^ (v_7 &&& (255 : Int32)))), (0, .inr (.inr (some a0))), (1, .inl v1), (3, .inl v3)]) (st' := [.inl ((v2 ^^^ (v_7 &&& (255 : Int32))) &&& (15 : Int32)), .inr (.inr (some G.2.2.1)), .inl (Int32.toUInt32 (v2 ^^^ (v_7 &&& (255 : Int32))) >>> (Int32.toUInt32 (4 : Int32) &&& Int32.toUInt32 31)).toInt32]) (by decide +kernel) rfl rfl ?_
      obtain ⟨v_9, h10, h⟩ := bd h
      refine xt_1 E h10 (show decode prog_4_method_7_code 41 = .ok (.iaload, 1) by decide +kernel) ?_
      refine xv_b E [.ixor, .istore_n 2, .iload_n 2, .iconst 4, .iushr] (pc' := 47) (lv' := [(2, .inl ((Int32.toUInt32 (v2 ^^^ (v_7 &&& (255 : Int32))) >>> (Int32.toUInt32 (4 : Int32) &&& Int32.toUInt32 31)).toInt32 ^^^ v_9)), (0, .inr (.inr (some a0))), (1, .inl v1), (3, .inl v3)]) (st' := [.inl (Int32.toUInt32 ((Int32.toUInt32 (v2 ^^^ (v_7 &&& (255 : Int32))) >>> (Int32.toUInt32 (4 : Int32) &&& Int32.toUInt32 31)).toInt32 ^^^ v_9) >>> (Int32.toUInt32 (4 : Int32) &&& Int32.toUInt32 31)).toInt32]) (by decide +kernel) rfl rfl ?_
      refine xt_g1 E rfl (show decode prog_4_method_7_code 47 = .ok (.getstatic 45, 3) by decide +kernel) ?_
      refine xv_b E [.iload_n 2, .bipush 15, .iand] (pc' := 54) (lv' := [(2, .inl ((Int32.toUInt32 (v2 ^^^ (v_7 &&& (255 : Int32))) >>> (Int32.toUInt32 (4 : Int32) &&& Int32.toUInt32 31)).toInt32 ^^^ v_9)), (0, .inr (.inr (some a0))), (1, .inl v1), (3, .inl v3)]) (st' := [.inl (((Int32.toUInt32 (v2 ^^^ (v_7 &&& (255 : Int32))) >>> (Int32.toUInt32 (4 : Int32) &&& Int32.toUInt32 31)).toInt32 ^^^ v_9) &&& (15 : Int32)), .inr (.inr (some G.2.2.1)), .inl (Int32.toUInt32 ((Int32.toUInt32 (v2 ^^^ (v_7 &&& (255 : Int32))) >>> (Int32.toUInt32 (4 : Int32) &&& Int32.toUInt32 31)).toInt32 ^^^ v_9) >>> (Int32.toUInt32 (4 : Int32) &&& Int32.toUInt32 31)).toInt32]) (by decide +kernel) rfl rfl ?_
      obtain ⟨v_11, h12, h⟩ := bd h
      refine xt_1 E h12 (show decode prog_4_method_7_code 54 = .ok (.iaload, 1) by decide +kernel) ?_
      refine xv_b E [.ixor, .istore_n 2, .iinc 3 1] (pc' := 60) (lv' := [(3, .inl (v3 + (1 : Int32))), (2, .inl ((Int32.toUInt32 ((Int32.toUInt32 (v2 ^^^ (v_7 &&& (255 : Int32))) >>> (Int32.toUInt32 (4 : Int32) &&& Int32.toUInt32 31)).toInt32 ^^^ v_9) >>> (Int32.toUInt32 (4 : Int32) &&& Int32.toUInt32 31)).toInt32 ^^^ v_11)), (0, .inr (.inr (some a0))), (1, .inl v1)]) (st' := []) (by decide +kernel) rfl rfl ?_
      refine xv_goto E 4 (show decode prog_4_method_7_code 60 = .ok (.goto (-56), 3) by decide +kernel) rfl ?_
      obtain rfl := Option.some.inj h
      exact xv_w hN rfl
end
theorem t42 (G : gX) (l : Launch) {as : List aV} {M : hM} {r : Option aV} {M' : hM} (h : f42 as M = some (r, M')) : xM G l ym42 prog_4_method_7_code 4 (some FieldType.int) 0 as M r M' := by
  unfold f42 at h
  split at h
  · have hle : ∀ h as M res, k42 h as M = some res → h_sz M ≤ r_sz res ∧ h_sl M ≤ r_sl res := by
      intro h as M res hb
      unfold k42 at hb
      by_cases e0 : h = 4
      · rw [if_pos e0] at hb
        split at hb
        · exact lb42_4 G l _ _ _ _ M hb
        · cases hb
      · rw [if_neg e0] at hb
        cases hb
    obtain ⟨res, hx, hres⟩ := x_go_ok h
    refine xM_of (by decide) (Nat.le_of_ble_eq_true rfl) ?_ ?_
    · have e1 := lb42_0 G l _ _ M hx
      have e2 := x_go_le hle hres
      omega
    · intro p e s m args below meth c E B
      refine sb42_0 E B _ _ M hx (hres _ ?_)
      intro h as M res hb hN
      unfold k42 at hb
      unfold pg42
      by_cases e0 : h = 4
      · rw [if_pos e0] at hb ⊢
        split at hb
        · exact sb42_4 E B _ _ _ _ M hb hN
        · cases hb
      · rw [if_neg e0] at hb ⊢
        cases hb
  · cases h
/-! ZF.Frame.seal()V -/
def ym43 : MethodName := ⟨"ZonedFabric$Frame", "seal", "()V"⟩
theorem cd43 : xCd ym43 prog_4_method_6_code 1 none 0 := ⟨mw262, mw207, by decide, by decide, by decide +kernel⟩
def b43_0 (a0 : Nat) (M : hM) : Option xRes :=
  Option.bind (g_i M 2 1 (some a0)) fun v_1 =>
  Option.bind (g_o M 2 (some a0)) fun b_5 =>
  Option.bind (c_V (f35 [.inr (.inr (some b_5)), .inl (12 : Int32), .inl (1 : Int32), .inr (.inl (Int32.toInt64 (v_1 - (13 : Int32))))] M)) fun q_3 =>
  Option.bind (g_i q_3 2 1 (some a0)) fun v_7 =>
  Option.bind (g_i q_3 2 1 (some a0)) fun v_9 =>
  Option.bind (g_o q_3 2 (some a0)) fun b_13 =>
  Option.bind (c_I (f42 [.inr (.inr (some b_13)), .inl v_9] q_3)) fun q_11 =>
  Option.bind (g_o q_11.2 2 (some a0)) fun b_17 =>
  Option.bind (c_V (f35 [.inr (.inr (some b_17)), .inl v_7, .inl (4 : Int32), .inr (.inl (Int32.toInt64 q_11.1))] q_11.2)) fun q_15 =>
  Option.bind (g_i q_15 2 1 (some a0)) fun v_19 =>
  Option.bind (p_i q_15 2 1 (some a0) (v_19 + (4 : Int32))) fun M21 =>
  some (.inl (none, M21))
def f43 (as : List aV) (M : hM) : xO := match as with
  | [.inr (.inr (some a0))] => x_out (b43_0 a0 M)
  | _ => none
theorem lb43_0 (G : gX) (l : Launch) (a0 : Nat) (M : hM) {res : xRes} (h : b43_0 a0 M = some res) : h_sz M ≤ r_sz res ∧ h_sl M ≤ r_sl res := by
  unfold b43_0 at h
  obtain ⟨v_1, h2, h⟩ := bd h
  obtain ⟨b_5, h6, h⟩ := bd h
  obtain ⟨q_3, h4, h⟩ := bd h
  have eh4 := (t35 G l (c_V_some h4)).1
  obtain ⟨v_7, h8, h⟩ := bd h
  obtain ⟨v_9, h10, h⟩ := bd h
  obtain ⟨b_13, h14, h⟩ := bd h
  obtain ⟨q_11, h12, h⟩ := bd h
  have eh12 := (t42 G l (c_I_some h12)).1
  obtain ⟨b_17, h18, h⟩ := bd h
  obtain ⟨q_15, h16, h⟩ := bd h
  have eh16 := (t35 G l (c_V_some h16)).1
  obtain ⟨v_19, h20, h⟩ := bd h
  obtain ⟨M21, h22, h⟩ := bd h
  have eh22 := p_i_sz h22
  obtain rfl := Option.some.inj h
  show h_sz M ≤ h_sz M21 ∧ h_sl M ≤ h_sl M21
  omega
section
variable {p : Program} {l : Launch} {e : Env} {s : State} {m : MethodId} {args : Array Value} {below : List Frame} {meth : Method} {c : Code} {G : gX} {z0 y0 : Nat} {r : Option aV} {M' : hM}
theorem sb43_0 (E : xE G p (xRm 1 (h_sz M' - z0) (h_sl M' - y0)) s m args c prog_4_method_6_code "ZonedFabric$Frame" z0 y0 (h_sz M') (h_sl M') 1) (B : xB ym43 none meth) (a0 : Nat) (M : hM) {res : xRes} (h : b43_0 a0 M = some res) (hN : xN (fun _ _ _ => False) r M' res) : xV G p l e (xRm 1 (h_sz M' - z0) (h_sl M' - y0)) s m args below meth c z0 y0 (h_sz M') (h_sl M') 1 (MQ below (xQc G r M') args s (h_sz M' - z0) (h_sl M' - y0) (xFr G)) 0 [(0, .inr (.inr (some a0)))] [] M := by
  unfold b43_0 at h
  refine xv_b E [.aload_n 0, .bipush 12, .iconst 1, .aload_n 0] (pc' := 5) (lv' := [(0, .inr (.inr (some a0)))]) (st' := [.inr (.inr (some a0)), .inl (1 : Int32), .inl (12 : Int32), .inr (.inr (some a0))]) (by decide +kernel) rfl rfl ?_
  obtain ⟨v_1, h2, h⟩ := bd h
  refine xg_i E 2 1 h2 mw219 (show decode prog_4_method_6_code 5 = .ok (.getfield 15, 3) by decide +kernel) ?_
  refine xv_b E [.bipush 13, .isub, .i2l] (pc' := 12) (lv' := [(0, .inr (.inr (some a0)))]) (st' := [.inr (.inl (Int32.toInt64 (v_1 - (13 : Int32)))), .inl (1 : Int32), .inl (12 : Int32), .inr (.inr (some a0))]) (by decide +kernel) rfl rfl ?_
  obtain ⟨b_5, h6, h⟩ := bd h
  obtain ⟨eh6, th6⟩ := g_o_some h6
  obtain ⟨q_3, h4, h⟩ := bd h
  refine xv_cvo E eh6 2 (as := [.inl (12 : Int32), .inl (1 : Int32), .inr (.inl (Int32.toInt64 (v_1 - (13 : Int32))))]) (t35 G l (c_V_some h4)) cd35 mw231 mw232 mw233 (show decode prog_4_method_6_code 12 = .ok (.invokevirtual 23, 3) by decide +kernel) th6 rfl rfl (Nat.le_of_ble_eq_true rfl) ⟨Nat.le_of_ble_eq_true rfl, Nat.le_of_ble_eq_true rfl⟩ ?_
  refine xv_b E [.aload_n 0, .aload_n 0] (pc' := 17) (lv' := [(0, .inr (.inr (some a0)))]) (st' := [.inr (.inr (some a0)), .inr (.inr (some a0))]) (by decide +kernel) rfl rfl ?_
  obtain ⟨v_7, h8, h⟩ := bd h
  refine xg_i E 2 1 h8 mw219 (show decode prog_4_method_6_code 17 = .ok (.getfield 15, 3) by decide +kernel) ?_
  refine xv_b E [.iconst 4, .aload_n 0, .aload_n 0] (pc' := 23) (lv' := [(0, .inr (.inr (some a0)))]) (st' := [.inr (.inr (some a0)), .inr (.inr (some a0)), .inl (4 : Int32), .inl v_7, .inr (.inr (some a0))]) (by decide +kernel) rfl rfl ?_
  obtain ⟨v_9, h10, h⟩ := bd h
  refine xg_i E 2 1 h10 mw219 (show decode prog_4_method_6_code 23 = .ok (.getfield 15, 3) by decide +kernel) ?_
  obtain ⟨b_13, h14, h⟩ := bd h
  obtain ⟨eh14, th14⟩ := g_o_some h14
  obtain ⟨q_11, h12, h⟩ := bd h
  refine xv_cvo E eh14 2 (as := [.inl v_9]) (t42 G l (c_I_some h12)) cd42 mw263 mw264 mw265 (show decode prog_4_method_6_code 26 = .ok (.invokevirtual 42, 3) by decide +kernel) th14 rfl rfl (Nat.le_of_ble_eq_true rfl) ⟨Nat.le_of_ble_eq_true rfl, Nat.le_of_ble_eq_true rfl⟩ ?_
  refine xv_b E [.i2l] (pc' := 30) (lv' := [(0, .inr (.inr (some a0)))]) (st' := [.inr (.inl (Int32.toInt64 q_11.1)), .inl (4 : Int32), .inl v_7, .inr (.inr (some a0))]) (by decide +kernel) rfl rfl ?_
  obtain ⟨b_17, h18, h⟩ := bd h
  obtain ⟨eh18, th18⟩ := g_o_some h18
  obtain ⟨q_15, h16, h⟩ := bd h
  refine xv_cvo E eh18 2 (as := [.inl v_7, .inl (4 : Int32), .inr (.inl (Int32.toInt64 q_11.1))]) (t35 G l (c_V_some h16)) cd35 mw231 mw232 mw233 (show decode prog_4_method_6_code 30 = .ok (.invokevirtual 23, 3) by decide +kernel) th18 rfl rfl (Nat.le_of_ble_eq_true rfl) ⟨Nat.le_of_ble_eq_true rfl, Nat.le_of_ble_eq_true rfl⟩ ?_
  refine xv_b E [.aload_n 0, .dup] (pc' := 35) (lv' := [(0, .inr (.inr (some a0)))]) (st' := [.inr (.inr (some a0)), .inr (.inr (some a0))]) (by decide +kernel) rfl rfl ?_
  obtain ⟨v_19, h20, h⟩ := bd h
  refine xg_i E 2 1 h20 mw219 (show decode prog_4_method_6_code 35 = .ok (.getfield 15, 3) by decide +kernel) ?_
  refine xv_b E [.iconst 4, .iadd] (pc' := 40) (lv' := [(0, .inr (.inr (some a0)))]) (st' := [.inl (v_19 + (4 : Int32)), .inr (.inr (some a0))]) (by decide +kernel) rfl rfl ?_
  obtain ⟨M21, h22, h⟩ := bd h
  refine xp_i E 2 1 h22 mw219 (show decode prog_4_method_6_code 40 = .ok (.putfield 15, 3) by decide +kernel) (Or.inl rfl) ?_
  obtain rfl := Option.some.inj h
  obtain ⟨rfl, rfl⟩ := Prod.mk.inj (show ((none : Option aV), M21) = (r, M') from hN)
  exact xv_rv E B.1 B.2.1 (show decode prog_4_method_6_code 43 = .ok (.return_, 1) by decide +kernel) rfl rfl
end
theorem t43 (G : gX) (l : Launch) {as : List aV} {M : hM} {r : Option aV} {M' : hM} (h : f43 as M = some (r, M')) : xM G l ym43 prog_4_method_6_code 1 none 1 as M r M' := by
  unfold f43 at h
  split at h
  · have h := x_out_ok h
    refine xM_of (by decide) (Nat.le_of_ble_eq_true rfl) (lb43_0 G l _ M h) ?_
    intro p e s m args below meth c E B
    exact sb43_0 E B _ M h rfl
  · cases h
