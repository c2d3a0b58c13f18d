theorem mw584 : Cond.code ⟨"ZonedFabric$Notice", "domainTold", "()I"⟩ prog_8_method_8_code 1 (some FieldType.int) ∈ xTs := xTs_in (tk3 (List.mem_of_getElem? (i := 120) (by decide +kernel))) rfl
theorem mw585 : Cond.code ⟨"ZonedFabric$Switch", "noteHolders", "()V"⟩ prog_12_method_21_code 4 none ∈ xTs := xTs_in (tk3 (List.mem_of_getElem? (i := 116) (by decide +kernel))) rfl
theorem mw586 : Cond.methodLink "ZonedFabric$Switch" 270 ⟨"ZonedFabric$Notice", "domainTold", "()I"⟩ ∈ xTs := xTs_in (tk3 (List.mem_of_getElem? (i := 117) (by decide +kernel))) rfl
theorem mw587 : Cond.instanceMethod ⟨"ZonedFabric$Notice", "domainTold", "()I"⟩ ∈ xTs := xTs_in (tk3 (List.mem_of_getElem? (i := 118) (by decide +kernel))) rfl
theorem mw588 : Cond.selects "ZonedFabric$Notice" ⟨"ZonedFabric$Notice", "domainTold", "()I"⟩ ⟨"ZonedFabric$Notice", "domainTold", "()I"⟩ ∈ xTs := xTs_in (tk3 (List.mem_of_getElem? (i := 119) (by decide +kernel))) rfl
theorem mw589 : Cond.code ⟨"ZonedFabric$Notice", "isKept", "()Z"⟩ prog_8_method_2_code 1 (some FieldType.boolean) ∈ xTs := xTs_in (tk3 (List.mem_of_getElem? (i := 64) (by decide +kernel))) rfl
theorem mw590 : Cond.code ⟨"ZonedFabric$Switch", "isOn", "(I)Z"⟩ prog_12_method_19_code 3 (some FieldType.boolean) ∈ xTs := xTs_in (tk3 (List.mem_of_getElem? (i := 124) (by decide +kernel))) rfl
theorem mw591 : Cond.code ⟨"ZonedFabric$Notice", "neighbourPort", "(I)I"⟩ prog_8_method_10_code 2 (some FieldType.int) ∈ xTs := xTs_in (tk3 (List.mem_of_getElem? (i := 112) (by decide +kernel))) rfl
theorem mw592 : Cond.code ⟨"ZonedFabric$Switch", "firstPortTo", "(ILZonedFabric$Notice;)I"⟩ prog_12_method_25_code 5 (some FieldType.int) ∈ xTs := xTs_in (tk3 (List.mem_of_getElem? (i := 108) (by decide +kernel))) rfl
theorem mw593 : Cond.methodLink "ZonedFabric$Switch" 305 ⟨"ZonedFabric$Notice", "neighbourPort", "(I)I"⟩ ∈ xTs := xTs_in (tk3 (List.mem_of_getElem? (i := 109) (by decide +kernel))) rfl
theorem mw594 : Cond.instanceMethod ⟨"ZonedFabric$Notice", "neighbourPort", "(I)I"⟩ ∈ xTs := xTs_in (tk3 (List.mem_of_getElem? (i := 110) (by decide +kernel))) rfl
theorem mw595 : Cond.selects "ZonedFabric$Notice" ⟨"ZonedFabric$Notice", "neighbourPort", "(I)I"⟩ ⟨"ZonedFabric$Notice", "neighbourPort", "(I)I"⟩ ∈ xTs := xTs_in (tk3 (List.mem_of_getElem? (i := 111) (by decide +kernel))) rfl
theorem mw596 : Cond.code ⟨"ZonedFabric$Switch", "findWays", "()V"⟩ prog_12_method_20_code 3 none ∈ xTs := xTs_in (tk3 (List.mem_of_getElem? (i := 72) (by decide +kernel))) rfl
theorem mw597 : Cond.methodLink "ZonedFabric$Switch" 273 ⟨"ZonedFabric$Switch", "noteCosts", "()V"⟩ ∈ xTs := xTs_in (tk3 (List.mem_of_getElem? (i := 73) (by decide +kernel))) rfl
theorem mw598 : Cond.instanceMethod ⟨"ZonedFabric$Switch", "noteCosts", "()V"⟩ ∈ xTs := xTs_in (tk3 (List.mem_of_getElem? (i := 75) (by decide +kernel))) rfl
theorem mw599 : Cond.selects "ZonedFabric$Switch" ⟨"ZonedFabric$Switch", "noteCosts", "()V"⟩ ⟨"ZonedFabric$Switch", "noteCosts", "()V"⟩ ∈ xTs := xTs_in (List.mem_append_left _ (List.mem_of_getElem? (i := 8) (by decide +kernel))) rfl
theorem mw600 : Cond.methodLink "ZonedFabric$Switch" 276 ⟨"ZonedFabric$Switch", "addUpCosts", "()V"⟩ ∈ xTs := xTs_in (tk3 (List.mem_of_getElem? (i := 97) (by decide +kernel))) rfl
theorem mw601 : Cond.instanceMethod ⟨"ZonedFabric$Switch", "addUpCosts", "()V"⟩ ∈ xTs := xTs_in (tk3 (List.mem_of_getElem? (i := 99) (by decide +kernel))) rfl
theorem mw602 : Cond.selects "ZonedFabric$Switch" ⟨"ZonedFabric$Switch", "addUpCosts", "()V"⟩ ⟨"ZonedFabric$Switch", "addUpCosts", "()V"⟩ ∈ xTs := xTs_in (List.mem_append_left _ (List.mem_of_getElem? (i := 9) (by decide +kernel))) rfl
theorem mw603 : Cond.methodLink "ZonedFabric$Switch" 283 ⟨"ZonedFabric$Switch", "noteHolders", "()V"⟩ ∈ xTs := xTs_in (tk3 (List.mem_of_getElem? (i := 113) (by decide +kernel))) rfl
theorem mw604 : Cond.instanceMethod ⟨"ZonedFabric$Switch", "noteHolders", "()V"⟩ ∈ xTs := xTs_in (tk3 (List.mem_of_getElem? (i := 115) (by decide +kernel))) rfl
theorem mw605 : Cond.selects "ZonedFabric$Switch" ⟨"ZonedFabric$Switch", "noteHolders", "()V"⟩ ⟨"ZonedFabric$Switch", "noteHolders", "()V"⟩ ∈ xTs := xTs_in (List.mem_append_left _ (List.mem_of_getElem? (i := 12) (by decide +kernel))) rfl
theorem mw606 : Cond.methodLink "ZonedFabric$Switch" 99 ⟨"ZonedFabric$Notice", "isKept", "()Z"⟩ ∈ xTs := xTs_in (tk3 (List.mem_of_getElem? (i := 61) (by decide +kernel))) rfl
theorem mw607 : Cond.instanceMethod ⟨"ZonedFabric$Notice", "isKept", "()Z"⟩ ∈ xTs := xTs_in (tk3 (List.mem_of_getElem? (i := 62) (by decide +kernel))) rfl
theorem mw608 : Cond.selects "ZonedFabric$Notice" ⟨"ZonedFabric$Notice", "isKept", "()Z"⟩ ⟨"ZonedFabric$Notice", "isKept", "()Z"⟩ ∈ xTs := xTs_in (tk3 (List.mem_of_getElem? (i := 63) (by decide +kernel))) rfl
theorem mw609 : Cond.methodLink "ZonedFabric$Switch" 263 ⟨"ZonedFabric$Switch", "isOn", "(I)Z"⟩ ∈ xTs := xTs_in (tk3 (List.mem_of_getElem? (i := 121) (by decide +kernel))) rfl
theorem mw610 : Cond.instanceMethod ⟨"ZonedFabric$Switch", "isOn", "(I)Z"⟩ ∈ xTs := xTs_in (tk3 (List.mem_of_getElem? (i := 123) (by decide +kernel))) rfl
theorem mw611 : Cond.selects "ZonedFabric$Switch" ⟨"ZonedFabric$Switch", "isOn", "(I)Z"⟩ ⟨"ZonedFabric$Switch", "isOn", "(I)Z"⟩ ∈ xTs := xTs_in (List.mem_append_left _ (List.mem_of_getElem? (i := 13) (by decide +kernel))) rfl
theorem mw612 : Cond.methodLink "ZonedFabric$Switch" 279 ⟨"ZonedFabric$Switch", "firstPortTo", "(ILZonedFabric$Notice;)I"⟩ ∈ xTs := xTs_in (tk3 (List.mem_of_getElem? (i := 105) (by decide +kernel))) rfl
theorem mw613 : Cond.instanceMethod ⟨"ZonedFabric$Switch", "firstPortTo", "(ILZonedFabric$Notice;)I"⟩ ∈ xTs := xTs_in (tk3 (List.mem_of_getElem? (i := 107) (by decide +kernel))) rfl
theorem mw614 : Cond.selects "ZonedFabric$Switch" ⟨"ZonedFabric$Switch", "firstPortTo", "(ILZonedFabric$Notice;)I"⟩ ⟨"ZonedFabric$Switch", "firstPortTo", "(ILZonedFabric$Notice;)I"⟩ ∈ xTs := xTs_in (List.mem_append_left _ (List.mem_of_getElem? (i := 11) (by decide +kernel))) rfl
theorem mw615 : Cond.code ⟨"ZonedFabric$Notice", "clear", "()V"⟩ prog_8_method_3_code 1 none ∈ xTs := xTs_in (tk3 (List.mem_of_getElem? (i := 68) (by decide +kernel))) rfl
theorem mw616 : Cond.code ⟨"ZonedFabric$Switch", "forgetOldRecords", "()V"⟩ prog_12_method_4_code 4 none ∈ xTs := xTs_in (tk3 (List.mem_of_getElem? (i := 60) (by decide +kernel))) rfl
theorem mw617 : Cond.methodLink "ZonedFabric$Switch" 109 ⟨"ZonedFabric$Switch", "findWays", "()V"⟩ ∈ xTs := xTs_in (tk3 (List.mem_of_getElem? (i := 69) (by decide +kernel))) rfl
theorem mw618 : Cond.instanceMethod ⟨"ZonedFabric$Switch", "findWays", "()V"⟩ ∈ xTs := xTs_in (tk3 (List.mem_of_getElem? (i := 71) (by decide +kernel))) rfl
theorem mw619 : Cond.selects "ZonedFabric$Switch" ⟨"ZonedFabric$Switch", "findWays", "()V"⟩ ⟨"ZonedFabric$Switch", "findWays", "()V"⟩ ∈ xTs := xTs_in (List.mem_append_left _ (List.mem_of_getElem? (i := 7) (by decide +kernel))) rfl
theorem mw620 : Cond.fieldLink "ZonedFabric$Switch" 74 "ZonedFabric$Shared" "time" "I" ∈ xTs := xTs_in (tk1 (List.mem_of_getElem? (i := 41) (by decide +kernel))) rfl
theorem mw621 : Cond.fieldLink "ZonedFabric$Switch" 103 "ZonedFabric$Notice" "keptAt" "I" ∈ xTs := xTs_in (tk1 (List.mem_of_getElem? (i := 88) (by decide +kernel))) rfl
theorem mw622 : Cond.methodLink "ZonedFabric$Switch" 106 ⟨"ZonedFabric$Notice", "clear", "()V"⟩ ∈ xTs := xTs_in (tk3 (List.mem_of_getElem? (i := 65) (by decide +kernel))) rfl
theorem mw623 : Cond.instanceMethod ⟨"ZonedFabric$Notice", "clear", "()V"⟩ ∈ xTs := xTs_in (tk3 (List.mem_of_getElem? (i := 66) (by decide +kernel))) rfl
theorem mw624 : Cond.selects "ZonedFabric$Notice" ⟨"ZonedFabric$Notice", "clear", "()V"⟩ ⟨"ZonedFabric$Notice", "clear", "()V"⟩ ∈ xTs := xTs_in (tk3 (List.mem_of_getElem? (i := 67) (by decide +kernel))) rfl
theorem mw625 : Cond.code ⟨"ZonedFabric$Port", "isToSwitch", "()Z"⟩ prog_10_method_5_code 1 (some FieldType.boolean) ∈ xTs := xTs_in (tk3 (List.mem_of_getElem? (i := 132) (by decide +kernel))) rfl
theorem mw626 : Cond.code ⟨"ZonedFabric$Switch", "sayHello", "()V"⟩ prog_12_method_5_code 4 none ∈ xTs := xTs_in (tk3 (List.mem_of_getElem? (i := 128) (by decide +kernel))) rfl
theorem mw627 : Cond.fieldLink "ZonedFabric$Switch" 112 "ZonedFabric$Port" "up" "Z" ∈ xTs := xTs_in (tk1 (List.mem_of_getElem? (i := 139) (by decide +kernel))) rfl
theorem mw628 : Cond.methodLink "ZonedFabric$Switch" 115 ⟨"ZonedFabric$Port", "isToSwitch", "()Z"⟩ ∈ xTs := xTs_in (tk3 (List.mem_of_getElem? (i := 129) (by decide +kernel))) rfl
theorem mw629 : Cond.instanceMethod ⟨"ZonedFabric$Port", "isToSwitch", "()Z"⟩ ∈ xTs := xTs_in (tk3 (List.mem_of_getElem? (i := 130) (by decide +kernel))) rfl
theorem mw630 : Cond.selects "ZonedFabric$Port" ⟨"ZonedFabric$Port", "isToSwitch", "()Z"⟩ ⟨"ZonedFabric$Port", "isToSwitch", "()Z"⟩ ∈ xTs := xTs_in (tk3 (List.mem_of_getElem? (i := 131) (by decide +kernel))) rfl
theorem mw631 : Cond.fieldLink "ZonedFabric$Switch" 118 "ZonedFabric$Port" "neighbour" "I" ∈ xTs := xTs_in (tk1 (List.mem_of_getElem? (i := 154) (by decide +kernel))) rfl
theorem mw632 : Cond.fieldLink "ZonedFabric$Switch" 121 "ZonedFabric$Port" "calledAt" "I" ∈ xTs := xTs_in (tk1 (List.mem_of_getElem? (i := 159) (by decide +kernel))) rfl
theorem mw633 : Cond.methodLink "ZonedFabric$Switch" 125 ⟨"ZonedFabric$Frame", "addLoad", "(IJ)V"⟩ ∈ xTs := xTs_in (tk3 (List.mem_of_getElem? (i := 134) (by decide +kernel))) rfl
theorem mw634 : Cond.constant "ZonedFabric$Switch" 124 (16777213) ∈ xTs := xTs_in (tk3 (List.mem_of_getElem? (i := 133) (by decide +kernel))) rfl
theorem mw635 : Cond.code ⟨"ZonedFabric$Notice", "add", "(I)V"⟩ prog_8_method_4_code 2 none ∈ xTs := xTs_in (tk3 (List.mem_of_getElem? (i := 154) (by decide +kernel))) rfl
theorem mw636 : Cond.code ⟨"ZonedFabric$Port", "isToNode", "()Z"⟩ prog_10_method_4_code 1 (some FieldType.boolean) ∈ xTs := xTs_in (tk3 (List.mem_of_getElem? (i := 162) (by decide +kernel))) rfl
theorem mw637 : Cond.code ⟨"ZonedFabric$Port", "nodeThere", "()I"⟩ prog_10_method_6_code 1 (some FieldType.int) ∈ xTs := xTs_in (tk3 (List.mem_of_getElem? (i := 158) (by decide +kernel))) rfl
theorem mw638 : Cond.methodLink "ZonedFabric$Port" 78 ⟨"ZonedFabric$Port", "isToNode", "()Z"⟩ ∈ xTs := xTs_in (tk3 (List.mem_of_getElem? (i := 159) (by decide +kernel))) rfl
theorem mw639 : Cond.instanceMethod ⟨"ZonedFabric$Port", "isToNode", "()Z"⟩ ∈ xTs := xTs_in (tk3 (List.mem_of_getElem? (i := 160) (by decide +kernel))) rfl
theorem mw640 : Cond.selects "ZonedFabric$Port" ⟨"ZonedFabric$Port", "isToNode", "()Z"⟩ ⟨"ZonedFabric$Port", "isToNode", "()Z"⟩ ∈ xTs := xTs_in (tk3 (List.mem_of_getElem? (i := 161) (by decide +kernel))) rfl
theorem mw641 : Cond.code ⟨"ZonedFabric$Switch", "draftOwnRecord", "()V"⟩ prog_12_method_7_code 4 none ∈ xTs := xTs_in (tk3 (List.mem_of_getElem? (i := 150) (by decide +kernel))) rfl
theorem mw642 : Cond.methodLink "ZonedFabric$Switch" 153 ⟨"ZonedFabric$Notice", "add", "(I)V"⟩ ∈ xTs := xTs_in (tk3 (List.mem_of_getElem? (i := 151) (by decide +kernel))) rfl
theorem mw643 : Cond.instanceMethod ⟨"ZonedFabric$Notice", "add", "(I)V"⟩ ∈ xTs := xTs_in (tk3 (List.mem_of_getElem? (i := 152) (by decide +kernel))) rfl
theorem mw644 : Cond.selects "ZonedFabric$Notice" ⟨"ZonedFabric$Notice", "add", "(I)V"⟩ ⟨"ZonedFabric$Notice", "add", "(I)V"⟩ ∈ xTs := xTs_in (tk3 (List.mem_of_getElem? (i := 153) (by decide +kernel))) rfl
theorem mw645 : Cond.fieldLink "ZonedFabric$Switch" 156 "ZonedFabric$Port" "cost" "I" ∈ xTs := xTs_in (tk1 (List.mem_of_getElem? (i := 136) (by decide +kernel))) rfl
theorem mw646 : Cond.methodLink "ZonedFabric$Switch" 159 ⟨"ZonedFabric$Port", "nodeThere", "()I"⟩ ∈ xTs := xTs_in (tk3 (List.mem_of_getElem? (i := 155) (by decide +kernel))) rfl
theorem mw647 : Cond.instanceMethod ⟨"ZonedFabric$Port", "nodeThere", "()I"⟩ ∈ xTs := xTs_in (tk3 (List.mem_of_getElem? (i := 156) (by decide +kernel))) rfl
theorem mw648 : Cond.selects "ZonedFabric$Port" ⟨"ZonedFabric$Port", "nodeThere", "()I"⟩ ⟨"ZonedFabric$Port", "nodeThere", "()I"⟩ ∈ xTs := xTs_in (tk3 (List.mem_of_getElem? (i := 157) (by decide +kernel))) rfl
theorem mw649 : Cond.code ⟨"ZonedFabric$Notice", "issue", "()I"⟩ prog_8_method_6_code 1 (some FieldType.int) ∈ xTs := xTs_in (tk3 (List.mem_of_getElem? (i := 170) (by decide +kernel))) rfl
theorem mw650 : Cond.code ⟨"ZonedFabric$Notice", "setIssue", "(I)V"⟩ prog_8_method_7_code 2 none ∈ xTs := xTs_in (tk3 (List.mem_of_getElem? (i := 174) (by decide +kernel))) rfl
theorem mw651 : Cond.code ⟨"ZonedFabric$Frame", "addLoadOf", "(LZonedFabric$Notice;)V"⟩ prog_4_method_5_code 3 none ∈ xTs := xTs_in (tk3 (List.mem_of_getElem? (i := 187) (by decide +kernel))) rfl
theorem mw652 : Cond.fieldLink "ZonedFabric$Frame" 33 "ZonedFabric$Notice" "size" "I" ∈ xTs := xTs_in (tk1 (List.mem_of_getElem? (i := 87) (by decide +kernel))) rfl
theorem mw653 : Cond.methodLink "ZonedFabric$Frame" 38 ⟨"ZonedFabric$Notice", "byteAt", "(I)I"⟩ ∈ xTs := xTs_in (tk3 (List.mem_of_getElem? (i := 188) (by decide +kernel))) rfl
theorem mw654 : Cond.code ⟨"ZonedFabric$Switch", "postRecord", "(LZonedFabric$Port;LZonedFabric$Notice;)V"⟩ prog_12_method_9_code 4 none ∈ xTs := xTs_in (tk3 (List.mem_of_getElem? (i := 183) (by decide +kernel))) rfl
theorem mw655 : Cond.methodLink "ZonedFabric$Switch" 166 ⟨"ZonedFabric$Frame", "addLoadOf", "(LZonedFabric$Notice;)V"⟩ ∈ xTs := xTs_in (tk3 (List.mem_of_getElem? (i := 184) (by decide +kernel))) rfl
theorem mw656 : Cond.instanceMethod ⟨"ZonedFabric$Frame", "addLoadOf", "(LZonedFabric$Notice;)V"⟩ ∈ xTs := xTs_in (tk3 (List.mem_of_getElem? (i := 185) (by decide +kernel))) rfl
theorem mw657 : Cond.selects "ZonedFabric$Frame" ⟨"ZonedFabric$Frame", "addLoadOf", "(LZonedFabric$Notice;)V"⟩ ⟨"ZonedFabric$Frame", "addLoadOf", "(LZonedFabric$Notice;)V"⟩ ∈ xTs := xTs_in (tk3 (List.mem_of_getElem? (i := 186) (by decide +kernel))) rfl
theorem mw658 : Cond.code ⟨"ZonedFabric$Switch", "spread", "(LZonedFabric$Notice;I)V"⟩ prog_12_method_8_code 4 none ∈ xTs := xTs_in (tk3 (List.mem_of_getElem? (i := 179) (by decide +kernel))) rfl
theorem mw659 : Cond.methodLink "ZonedFabric$Switch" 162 ⟨"ZonedFabric$Switch", "postRecord", "(LZonedFabric$Port;LZonedFabric$Notice;)V"⟩ ∈ xTs := xTs_in (tk3 (List.mem_of_getElem? (i := 180) (by decide +kernel))) rfl
theorem mw660 : Cond.instanceMethod ⟨"ZonedFabric$Switch", "postRecord", "(LZonedFabric$Port;LZonedFabric$Notice;)V"⟩ ∈ xTs := xTs_in (tk3 (List.mem_of_getElem? (i := 182) (by decide +kernel))) rfl
theorem mw661 : Cond.selects "ZonedFabric$Switch" ⟨"ZonedFabric$Switch", "postRecord", "(LZonedFabric$Port;LZonedFabric$Notice;)V"⟩ ⟨"ZonedFabric$Switch", "postRecord", "(LZonedFabric$Port;LZonedFabric$Notice;)V"⟩ ∈ xTs := xTs_in (List.mem_append_left _ (List.mem_of_getElem? (i := 18) (by decide +kernel))) rfl
theorem mw662 : Cond.code ⟨"ZonedFabric$Notice", "tellsSameAs", "(LZonedFabric$Notice;)Z"⟩ prog_8_method_15_code 3 (some FieldType.boolean) ∈ xTs := xTs_in (tk3 (List.mem_of_getElem? (i := 166) (by decide +kernel))) rfl
/-! ZF.Notice.domainTold()I -/
def ym103 : MethodName := ⟨"ZonedFabric$Notice", "domainTold", "()I"⟩
theorem cd103 : xCd ym103 prog_8_method_8_code 1 (some FieldType.int) 0 := ⟨mw584, mw46, by decide, by decide, by decide +kernel⟩
def b103_0 (a0 : Nat) (M : hM) : Option xRes :=
  Option.bind (g_o M 6 (some a0)) fun b_3 =>
  Option.bind (c_I (f96 [.inr (.inr (some b_3)), .inl (4 : Int32)] M)) fun q_1 =>
  some (.inl (some (.inl q_1.1), q_1.2))
def f103 (as : List aV) (M : hM) : xO := match as with
  | [.inr (.inr (some a0))] => x_out (b103_0 a0 M)
  | _ => none
theorem lb103_0 (G : gX) (l : Launch) (a0 : Nat) (M : hM) {res : xRes} (h : b103_0 a0 M = some res) : h_sz M ≤ r_sz res ∧ h_sl M ≤ r_sl res := by
  unfold b103_0 at h
  obtain ⟨b_3, h4, h⟩ := bd h
  obtain ⟨q_1, h2, h⟩ := bd h
  have eh2 := (t96 G l (c_I_some h2)).1
  obtain rfl := Option.some.inj h
  show h_sz M ≤ h_sz q_1.2 ∧ h_sl M ≤ h_sl q_1.2
  omega
section
variable {p : Program} {l : Launch} {e : Env} {s : State} {m : MethodId} {args : Array Value} {below : List Frame} {meth : Method} {c : Code} {G : gX} {z0 y0 : Nat} {r : Option aV} {M' : hM}
theorem sb103_0 (E : xE G p (xRm 1 (h_sz M' - z0) (h_sl M' - y0)) s m args c prog_8_method_8_code "ZonedFabric$Notice" z0 y0 (h_sz M') (h_sl M') 1) (B : xB ym103 (some FieldType.int) meth) (a0 : Nat) (M : hM) {res : xRes} (h : b103_0 a0 M = some res) (hN : xN (fun _ _ _ => False) r M' res) : xV G p l e (xRm 1 (h_sz M' - z0) (h_sl M' - y0)) s m args below meth c z0 y0 (h_sz M') (h_sl M') 1 (MQ below (xQc G r M') args s (h_sz M' - z0) (h_sl M' - y0) (xFr G)) 0 [(0, .inr (.inr (some a0)))] [] M := by
  unfold b103_0 at h
  refine xv_b E [.aload_n 0, .iconst 4] (pc' := 2) (lv' := [(0, .inr (.inr (some a0)))]) (st' := [.inl (4 : Int32), .inr (.inr (some a0))]) (by decide +kernel) rfl rfl ?_
  obtain ⟨b_3, h4, h⟩ := bd h
  obtain ⟨eh4, th4⟩ := g_o_some h4
  obtain ⟨q_1, h2, h⟩ := bd h
  refine xv_cvo E eh4 6 (as := [.inl (4 : Int32)]) (t96 G l (c_I_some h2)) cd96 mw562 mw563 mw564 (show decode prog_8_method_8_code 2 = .ok (.invokevirtual 19, 3) by decide +kernel) th4 rfl rfl (Nat.le_of_ble_eq_true rfl) ⟨Nat.le_of_ble_eq_true rfl, Nat.le_of_ble_eq_true rfl⟩ ?_
  obtain rfl := Option.some.inj h
  obtain ⟨rfl, rfl⟩ := Prod.mk.inj (show ((some (.inl q_1.1) : Option aV), q_1.2) = (r, M') from hN)
  exact xv_ri E B.1 rfl B.2.1 (show decode prog_8_method_8_code 5 = .ok (.ireturn, 1) by decide +kernel) rfl rfl
end
theorem t103 (G : gX) (l : Launch) {as : List aV} {M : hM} {r : Option aV} {M' : hM} (h : f103 as M = some (r, M')) : xM G l ym103 prog_8_method_8_code 1 (some FieldType.int) 1 as M r M' := by
  unfold f103 at h
  split at h
  · have h := x_out_ok h
    refine xM_of (by decide) (Nat.le_of_ble_eq_true rfl) (lb103_0 G l _ M h) ?_
    intro p e s m args below meth c E B
    exact sb103_0 E B _ M h rfl
  · cases h
/-! ZF.Switch.noteHolders()V -/
def ym104 : MethodName := ⟨"ZonedFabric$Switch", "noteHolders", "()V"⟩
theorem cd104 : xCd ym104 prog_12_method_21_code 4 none 0 := ⟨mw585, mw51, by decide, by decide, by decide +kernel⟩
def b104_0 (a0 : Nat) (M : hM) : Option xRes :=
  some (.inr (2, [.inr (.inr (some a0)), .inl (0 : Int32)], M))
def b104_2 (a0 : Nat) (v1 : Int32) (M : hM) : Option xRes :=
  Option.bind (g_r M 10 9 (some a0)) fun o_1 =>
  Option.bind (a_ln M 20 o_1) fun v_3 =>
  if v_3 ≤ v1 then
    (some (.inr (26, [.inr (.inr (some a0)), .inl (0 : Int32)], M)))
  else
    (Option.bind (g_r M 10 9 (some a0)) fun o_5 =>
    Option.bind (as_i M 20 o_5 v1 (-1 : Int32)) fun M7 =>
    some (.inr (2, [.inr (.inr (some a0)), .inl (v1 + (1 : Int32))], M7)))
def b104_103 (a0 : Nat) (v1 : Int32) (M : hM) : Option xRes :=
  some (.inr (26, [.inr (.inr (some a0)), .inl (v1 + (1 : Int32))], M))
def b104_58 (a0 : Nat) (v1 : Int32) (si0 : Int32) (M : hM) : Option xRes :=
  Option.bind (g_r M 10 4 (some a0)) fun o_23 =>
  Option.bind (al_r M 36 o_23 v1) fun o_25 =>
  Option.bind (g_o M 6 o_25) fun b_29 =>
  Option.bind (c_I (f103 [.inr (.inr (some b_29))] M)) fun q_27 =>
  if si0 = 0 then
    (b104_103 a0 v1 q_27.2)
  else
    (if q_27.1 ≤ 0 then
      (b104_103 a0 v1 q_27.2)
    else
      (Option.bind (g_r q_27.2 10 9 (some a0)) fun o_31 =>
      Option.bind (a_ln q_27.2 20 o_31) fun v_33 =>
      if v_33 ≤ q_27.1 then
        (b104_103 a0 v1 q_27.2)
      else
        (Option.bind (g_r q_27.2 10 9 (some a0)) fun o_35 =>
        Option.bind (al_i q_27.2 20 o_35 q_27.1) fun v_37 =>
        if v_37 = (-1 : Int32) then
          (Option.bind (g_r q_27.2 10 9 (some a0)) fun o_39 =>
          Option.bind (as_i q_27.2 20 o_39 q_27.1 v1) fun M41 =>
          b104_103 a0 v1 M41)
        else
          (b104_103 a0 v1 q_27.2))))
def b104_53 (a0 : Nat) (v1 : Int32) (M : hM) : Option xRes :=
  b104_58 a0 v1 (1 : Int32) M
def b104_26 (a0 : Nat) (v1 : Int32) (M : hM) : Option xRes :=
  Option.bind (g_r M 10 4 (some a0)) fun o_10 =>
  Option.bind (a_ln M 36 o_10) fun v_12 =>
  if v_12 ≤ v1 then
    (some (.inl (none, M)))
  else
    (Option.bind (g_i M 10 1 (some a0)) fun v_14 =>
    if v1 = v_14 then
      (b104_53 a0 v1 M)
    else
      (Option.bind (g_r M 10 8 (some a0)) fun o_16 =>
      Option.bind (al_i M 20 o_16 v1) fun v_18 =>
      if v_18 = (-1 : Int32) then
        (b104_58 a0 v1 (0 : Int32) M)
      else
        (b104_53 a0 v1 M)))
def k104 (h : Nat) (as : List aV) (M : hM) : Option xRes :=
  if h = 2 then (match as with | [.inr (.inr (some a0)), .inl v1] => b104_2 a0 v1 M | _ => none) else
  if h = 26 then (match as with | [.inr (.inr (some a0)), .inl v1] => b104_26 a0 v1 M | _ => none) else
  none
def f104 (as : List aV) (M : hM) : xO := match as with
  | [.inr (.inr (some a0))] => x_go k104 (b104_0 a0 M)
  | _ => none
theorem lb104_0 (G : gX) (l : Launch) (a0 : Nat) (M : hM) {res : xRes} (h : b104_0 a0 M = some res) : h_sz M ≤ r_sz res ∧ h_sl M ≤ r_sl res := by
  unfold b104_0 at h
  obtain rfl := Option.some.inj h
  show h_sz M ≤ h_sz M ∧ h_sl M ≤ h_sl M
  omega
theorem lb104_2 (G : gX) (l : Launch) (a0 : Nat) (v1 : Int32) (M : hM) {res : xRes} (h : b104_2 a0 v1 M = some res) : h_sz M ≤ r_sz res ∧ h_sl M ≤ r_sl res := by
  unfold b104_2 at h
  obtain ⟨o_1, h2, h⟩ := bd h
  obtain ⟨v_3, h4, h⟩ := bd h
  by_cases q9 : v_3 ≤ v1
  · rw [if_pos q9] at h
    obtain rfl := Option.some.inj h
    show h_sz M ≤ h_sz M ∧ h_sl M ≤ h_sl M
    omega
  · rw [if_neg q9] at h
    obtain ⟨o_5, h6, h⟩ := bd h
    obtain ⟨M7, h8, h⟩ := bd h
    have eh8 := as_i_sz h8
    obtain rfl := Option.some.inj h
    show h_sz M ≤ h_sz M7 ∧ h_sl M ≤ h_sl M7
    omega
theorem lb104_103 (G : gX) (l : Launch) (a0 : Nat) (v1 : Int32) (M : hM) {res : xRes} (h : b104_103 a0 v1 M = some res) : h_sz M ≤ r_sz res ∧ h_sl M ≤ r_sl res := by
  unfold b104_103 at h
  obtain rfl := Option.some.inj h
  show h_sz M ≤ h_sz M ∧ h_sl M ≤ h_sl M
  omega
theorem lb104_58 (G : gX) (l : Launch) (a0 : Nat) (v1 : Int32) (si0 : Int32) (M : hM) {res : xRes} (h : b104_58 a0 v1 si0 M = some res) : h_sz M ≤ r_sz res ∧ h_sl M ≤ r_sl res := by
  unfold b104_58 at h
  obtain ⟨o_23, h24, h⟩ := bd h
  obtain ⟨o_25, h26, h⟩ := bd h
  obtain ⟨b_29, h30, h⟩ := bd h
  obtain ⟨q_27, h28, h⟩ := bd h
  have eh28 := (t103 G l (c_I_some h28)).1
  by_cases q46 : si0 = 0
  · rw [if_pos q46] at h
    have e := lb104_103 G l a0 v1 q_27.2 h
    omega
  · rw [if_neg q46] at h
    by_cases q45 : q_27.1 ≤ 0
    · rw [if_pos q45] at h
      have e := lb104_103 G l a0 v1 q_27.2 h
      omega
    · rw [if_neg q45] at h
      obtain ⟨o_31, h32, h⟩ := bd h
      obtain ⟨v_33, h34, h⟩ := bd h
      by_cases q44 : v_33 ≤ q_27.1
      · rw [if_pos q44] at h
        have e := lb104_103 G l a0 v1 q_27.2 h
        omega
      · rw [if_neg q44] at h
        obtain ⟨o_35, h36, h⟩ := bd h
        obtain ⟨v_37, h38, h⟩ := bd h
        by_cases q43 : v_37 = (-1 : Int32)
        · rw [if_pos q43] at h
          obtain ⟨o_39, h40, h⟩ := bd h
          obtain ⟨M41, h42, h⟩ := bd h
          have eh42 := as_i_sz h42
          have e := lb104_103 G l a0 v1 M41 h
          omega
        · rw [if_neg q43] at h
          have e := lb104_103 G l a0 v1 q_27.2 h
          omega
theorem lb104_53 (G : gX) (l : Launch) (a0 : Nat) (v1 : Int32) (M : hM) {res : xRes} (h : b104_53 a0 v1 M = some res) : h_sz M ≤ r_sz res ∧ h_sl M ≤ r_sl res := by
  unfold b104_53 at h
  have e := lb104_58 G l a0 v1 (1 : Int32) M h
  omega
theorem lb104_26 (G : gX) (l : Launch) (a0 : Nat) (v1 : Int32) (M : hM) {res : xRes} (h : b104_26 a0 v1 M = some res) : h_sz M ≤ r_sz res ∧ h_sl M ≤ r_sl res := by
  unfold b104_26 at h
  obtain ⟨o_10, h11, h⟩ := bd h
  obtain ⟨v_12, h13, h⟩ := bd h
  by_cases q22 : v_12 ≤ v1
  · rw [if_pos q22] at h
    obtain rfl := Option.some.inj h
    show h_sz M ≤ h_sz M ∧ h_sl M ≤ h_sl M
    omega
  · rw [if_neg q22] at h
    obtain ⟨v_14, h15, h⟩ := bd h
    by_cases q21 : v1 = v_14
    · rw [if_pos q21] at h
      have e := lb104_53 G l a0 v1 M h
      omega
    · rw [if_neg q21] at h
      obtain ⟨o_16, h17, h⟩ := bd h
      obtain ⟨v_18, h19, h⟩ := bd h
      by_cases q20 : v_18 = (-1 : Int32)
      · rw [if_pos q20] at h
        have e := lb104_58 G l a0 v1 (0 : Int32) M h
        omega
      · rw [if_neg q20] at h
        have e := lb104_53 G l a0 v1 M h
        omega
section
variable {p : Program} {l : Launch} {e : Env} {s : State} {m : MethodId} {args : Array Value} {below : List Frame} {meth : Method} {c : Code} {G : gX} {z0 y0 : Nat} {r : Option aV} {M' : hM}
def pg104 (p : Program) (l : Launch) (e : Env) (s : State) (m : MethodId) (args : Array Value) (below : List Frame) (meth : Method) (c : Code) (G : gX) (z0 y0 : Nat) (r : Option aV) (M' : hM) (h : Nat) (as : List aV) (M : hM) : Prop :=
  if h = 2 then (match as with | [.inr (.inr (some a0)), .inl v1] => xV G p l e (xRm 2 (h_sz M' - z0) (h_sl M' - y0)) s m args below meth c z0 y0 (h_sz M') (h_sl M') 4 (MQ below (xQc G r M') args s (h_sz M' - z0) (h_sl M' - y0) (xFr G)) 2 [(0, .inr (.inr (some a0))), (1, .inl v1)] [] M | _ => False) else
  if h = 26 then (match as with | [.inr (.inr (some a0)), .inl v1] => xV G p l e (xRm 2 (h_sz M' - z0) (h_sl M' - y0)) s m args below meth c z0 y0 (h_sz M') (h_sl M') 4 (MQ below (xQc G r M') args s (h_sz M' - z0) (h_sl M' - y0) (xFr G)) 26 [(0, .inr (.inr (some a0))), (1, .inl v1)] [] M | _ => False) else
  False
theorem sb104_0 (E : xE G p (xRm 2 (h_sz M' - z0) (h_sl M' - y0)) s m args c prog_12_method_21_code "ZonedFabric$Switch" z0 y0 (h_sz M') (h_sl M') 4) (B : xB ym104 none meth) (a0 : Nat) (M : hM) {res : xRes} (h : b104_0 a0 M = some res) (hN : xN (pg104 p l e s m args below meth c G z0 y0 r M') r M' res) : xV G p l e (xRm 2 (h_sz M' - z0) (h_sl M' - y0)) s m args below meth c z0 y0 (h_sz M') (h_sl M') 4 (MQ below (xQc G r M') args s (h_sz M' - z0) (h_sl M' - y0) (xFr G)) 0 [(0, .inr (.inr (some a0)))] [] M := by
  unfold b104_0 at h
  refine xv_b E [.iconst 0, .istore_n 1] (pc' := 2) (lv' := [(1, .inl (0 : Int32)), (0, .inr (.inr (some a0)))]) (st' := []) (by decide +kernel) rfl rfl ?_
  obtain rfl := Option.some.inj h
  exact xv_w hN rfl
theorem sb104_2 (E : xE G p (xRm 2 (h_sz M' - z0) (h_sl M' - y0)) s m args c prog_12_method_21_code "ZonedFabric$Switch" z0 y0 (h_sz M') (h_sl M') 4) (B : xB ym104 none meth) (a0 : Nat) (v1 : Int32) (M : hM) {res : xRes} (h : b104_2 a0 v1 M = some res) (hN : xN (pg104 p l e s m args below meth c G z0 y0 r M') r M' res) : xV G p l e (xRm 2 (h_sz M' - z0) (h_sl M' - y0)) s m args below meth c z0 y0 (h_sz M') (h_sl M') 4 (MQ below (xQc G r M') args s (h_sz M' - z0) (h_sl M' - y0) (xFr G)) 2 [(0, .inr (.inr (some a0))), (1, .inl v1)] [] M := by
  unfold b104_2 at h
  refine xv_b E [.iload_n 1, .aload_n 0] (pc' := 4) (lv' := [(0, .inr (.inr (some a0))), (1, .inl v1)]) (st' := [.inr (.inr (some a0)), .inl v1]) (by decide +kernel) rfl rfl ?_
  obtain ⟨o_1, h2, h⟩ := bd h
  refine xg_r E 10 9 h2 mw58 (show decode prog_12_method_21_code 4 = .ok (.getfield 24, 3) by decide +kernel) ?_
  obtain ⟨v_3, h4, h⟩ := bd h
  refine xa_n E 20 h4 (show decode prog_12_method_21_code 7 = .ok (.arraylength, 1) by decide +kernel) ?_
  by_cases q9 : v_3 ≤ v1
  · rw [if_pos q9] at h
    refine xv_icmp_ge E 24 (show decode prog_12_method_21_code 8 = .ok (.if_icmp .ge (16), 3) by decide +kernel) rfl (fun _ => ?_) (fun z => absurd q9 z)
    refine xv_b E [.iconst 0, .istore_n 1] (pc' := 26) (lv' := [(1, .inl (0 : Int32)), (0, .inr (.inr (some a0)))]) (st' := []) (by decide +kernel) rfl rfl ?_
    obtain rfl := Option.some.inj h
    exact xv_w hN rfl
  · rw [if_neg q9] at h
    refine xv_icmp_ge E 24 (show decode prog_12_method_21_code 8 = .ok (.if_icmp .ge (16), 3) by decide +kernel) rfl (fun z => absurd z q9) (fun _ => ?_)
    refine xv_b E [.aload_n 0] (pc' := 12) (lv' := [(0, .inr (.inr (some a0))), (1, .inl v1)]) (st' := [.inr (.inr (some a0))]) (by decide +kernel) rfl rfl ?_
    obtain ⟨o_5, h6, h⟩ := bd h
    refine xg_r E 10 9 h6 mw58 (show decode prog_12_method_21_code 12 = .ok (.getfield 24, 3) by decide +kernel) ?_
    refine xv_b E [.iload_n 1, .iconst (-1)] (pc' := 17) (lv' := [(0, .inr (.inr (some a0))), (1, .inl v1)]) (st' := [.inl (-1 : Int32), .inl v1, .inr (.inr o_5)]) (by decide +kernel) rfl rfl ?_
    obtain ⟨M7, h8, h⟩ := bd h
    refine xs_i E h8 (show decode prog_12_method_21_code 17 = .ok (.iastore, 1) by decide +kernel) ?_
    refine xv_b E [.iinc 1 1] (pc' := 21) (lv' := [(1, .inl (v1 + (1 : Int32))), (0, .inr (.inr (some a0)))]) (st' := []) (by decide +kernel) rfl rfl ?_
    refine xv_goto E 2 (show decode prog_12_method_21_code 21 = .ok (.goto (-19), 3) by decide +kernel) rfl ?_
    obtain rfl := Option.some.inj h
    exact xv_w hN rfl
theorem sb104_103 (E : xE G p (xRm 2 (h_sz M' - z0) (h_sl M' - y0)) s m args c prog_12_method_21_code "ZonedFabric$Switch" z0 y0 (h_sz M') (h_sl M') 4) (B : xB ym104 none meth) (a0 : Nat) (v1 : Int32) (M : hM) {res : xRes} (h : b104_103 a0 v1 M = some res) (hN : xN (pg104 p l e s m args below meth c G z0 y0 r M') r M' res) : xV G p l e (xRm 2 (h_sz M' - z0) (h_sl M' - y0)) s m args below meth c z0 y0 (h_sz M') (h_sl M') 4 (MQ below (xQc G r M') args s (h_sz M' - z0) (h_sl M' - y0) (xFr G)) 103 [(0, .inr (.inr (some a0))), (1, .inl v1)] [] M := by
  unfold b104_103 at h
  refine xv_b E [.iinc 1 1] (pc' := 106) (lv' := [(1, .inl (v1 + (1 : Int32))), (0, .inr (.inr (some a0)))]) (st' := []) (by decide +kernel) rfl rfl ?_
  refine xv_goto E 26 (show decode prog_12_method_21_code 106 = .ok (.goto (-80), 3) by decide +kernel) rfl ?_
  obtain rfl := Option.some.inj h
  exact xv_w hN rfl
theorem sb104_58 (E : xE G p (xRm 2 (h_sz M' - z0) (h_sl M' - y0)) s m args c prog_12_method_21_code "ZonedFabric$Switch" z0 y0 (h_sz M') (h_sl M') 4) (B : xB ym104 none meth) (a0 : Nat) (v1 : Int32) (si0 : Int32) (M : hM) {res : xRes} (h : b104_58 a0 v1 si0 M = some res) (hN : xN (pg104 p l e s m args below meth c G z0 y0 r M') r M' res) : xV G p l e (xRm 2 (h_sz M' - z0) (h_sl M' - y0)) s m args below meth c z0 y0 (h_sz M') (h_sl M') 4 (MQ below (xQc G r M') args s (h_sz M' - z0) (h_sl M' - y0) (xFr G)) 58 [(0, .inr (.inr (some a0))), (1, .inl v1)] [.inl si0] M := by
  unfold b104_58 at h
  refine xv_b E [.istore_n 2, .aload_n 0] (pc' := 60) (lv' := [(2, .inl si0), (0, .inr (.inr (some a0))), (1, .inl v1)]) (st' := [.inr (.inr (some a0))]) (by decide +kernel) rfl rfl ?_
  obtain ⟨o_23, h24, h⟩ := bd h
  refine xg_r E 10 4 h24 mw63 (show decode prog_12_method_21_code 60 = .ok (.getfield 44, 3) by decide +kernel) ?_
  refine xv_b E [.iload_n 1] (pc' := 64) (lv' := [(2, .inl si0), (0, .inr (.inr (some a0))), (1, .inl v1)]) (st' := [.inl v1, .inr (.inr o_23)]) (by decide +kernel) rfl rfl ?_
  obtain ⟨o_25, h26, h⟩ := bd h
  refine xa_r E 36 h26 (show decode prog_12_method_21_code 64 = .ok (.aaload, 1) by decide +kernel) ?_
  obtain ⟨b_29, h30, h⟩ := bd h
  obtain ⟨eh30, th30⟩ := g_o_some h30
  obtain ⟨q_27, h28, h⟩ := bd h
  refine xv_cvo E eh30 6 (as := []) (t103 G l (c_I_some h28)) cd103 mw586 mw587 mw588 (show decode prog_12_method_21_code 65 = .ok (.invokevirtual 270, 3) by decide +kernel) th30 rfl rfl (Nat.le_of_ble_eq_true rfl) ⟨Nat.le_of_ble_eq_true rfl, Nat.le_of_ble_eq_true rfl⟩ ?_
  refine xv_b E [.istore_n 3, .iload_n 2] (pc' := 70) (lv' := [(3, .inl q_27.1), (2, .inl si0), (0, .inr (.inr (some a0))), (1, .inl v1)]) (st' := [.inl si0]) (by decide +kernel) rfl rfl ?_
  by_cases q46 : si0 = 0
  · rw [if_pos q46] at h
    refine xv_if_eq E 103 (show decode prog_12_method_21_code 70 = .ok (.ifCond .eq (33), 3) by decide +kernel) rfl (fun _ => ?_) (fun z => absurd q46 z)
    exact xv_w (sb104_103 E B a0 v1 q_27.2 h hN) rfl
  · rw [if_neg q46] at h
    refine xv_if_eq E 103 (show decode prog_12_method_21_code 70 = .ok (.ifCond .eq (33), 3) by decide +kernel) rfl (fun z => absurd z q46) (fun _ => ?_)
    refine xv_b E [.iload_n 3] (pc' := 74) (lv' := [(3, .inl q_27.1), (2, .inl si0), (0, .inr (.inr (some a0))), (1, .inl v1)]) (st' := [.inl q_27.1]) (by decide +kernel) rfl rfl ?_
    by_cases q45 : q_27.1 ≤ 0
    · rw [if_pos q45] at h
      refine xv_if_le E 103 (show decode prog_12_method_21_code 74 = .ok (.ifCond .le (29), 3) by decide +kernel) rfl (fun _ => ?_) (fun z => absurd q45 z)
      exact xv_w (sb104_103 E B a0 v1 q_27.2 h hN) rfl
    · rw [if_neg q45] at h
      refine xv_if_le E 103 (show decode prog_12_method_21_code 74 = .ok (.ifCond .le (29), 3) by decide +kernel) rfl (fun z => absurd z q45) (fun _ => ?_)
      refine xv_b E [.iload_n 3, .aload_n 0] (pc' := 79) (lv' := [(3, .inl q_27.1), (2, .inl si0), (0, .inr (.inr (some a0))), (1, .inl v1)]) (st' := [.inr (.inr (some a0)), .inl q_27.1]) (by decide +kernel) rfl rfl ?_
      obtain ⟨o_31, h32, h⟩ := bd h
      refine xg_r E 10 9 h32 mw58 (show decode prog_12_method_21_code 79 = .ok (.getfield 24, 3) by decide +kernel) ?_
      obtain ⟨v_33, h34, h⟩ := bd h
      refine xa_n E 20 h34 (show decode prog_12_method_21_code 82 = .ok (.arraylength, 1) by decide +kernel) ?_
      by_cases q44 : v_33 ≤ q_27.1
      · rw [if_pos q44] at h
        refine xv_icmp_ge E 103 (show decode prog_12_method_21_code 83 = .ok (.if_icmp .ge (20), 3) by decide +kernel) rfl (fun _ => ?_) (fun z => absurd q44 z)
        exact xv_w (sb104_103 E B a0 v1 q_27.2 h hN) rfl
      · rw [if_neg q44] at h
        refine xv_icmp_ge E 103 (show decode prog_12_method_21_code 83 = .ok (.if_icmp .ge (20), 3) by decide +kernel) rfl (fun z => absurd z q44) (fun _ => ?_)
        refine xv_b E [.aload_n 0] (pc' := 87) (lv' := [(3, .inl q_27.1), (2, .inl si0), (0, .inr (.inr (some a0))), (1, .inl v1)]) (st' := [.inr (.inr (some a0))]) (by decide +kernel) rfl rfl ?_
        obtain ⟨o_35, h36, h⟩ := bd h
        refine xg_r E 10 9 h36 mw58 (show decode prog_12_method_21_code 87 = .ok (.getfield 24, 3) by decide +kernel) ?_
        refine xv_b E [.iload_n 3] (pc' := 91) (lv' := [(3, .inl q_27.1), (2, .inl si0), (0, .inr (.inr (some a0))), (1, .inl v1)]) (st' := [.inl q_27.1, .inr (.inr o_35)]) (by decide +kernel) rfl rfl ?_
        obtain ⟨v_37, h38, h⟩ := bd h
        refine xa_i E h38 (show decode prog_12_method_21_code 91 = .ok (.iaload, 1) by decide +kernel) ?_
        refine xv_b E [.iconst (-1)] (pc' := 93) (lv' := [(3, .inl q_27.1), (2, .inl si0), (0, .inr (.inr (some a0))), (1, .inl v1)]) (st' := [.inl (-1 : Int32), .inl v_37]) (by decide +kernel) rfl rfl ?_
        by_cases q43 : v_37 = (-1 : Int32)
        · rw [if_pos q43] at h
          refine xv_icmp_ne E 103 (show decode prog_12_method_21_code 93 = .ok (.if_icmp .ne (10), 3) by decide +kernel) rfl (fun z => absurd q43 z) (fun _ => ?_)
          refine xv_b E [.aload_n 0] (pc' := 97) (lv' := [(3, .inl q_27.1), (2, .inl si0), (0, .inr (.inr (some a0))), (1, .inl v1)]) (st' := [.inr (.inr (some a0))]) (by decide +kernel) rfl rfl ?_
          obtain ⟨o_39, h40, h⟩ := bd h
          refine xg_r E 10 9 h40 mw58 (show decode prog_12_method_21_code 97 = .ok (.getfield 24, 3) by decide +kernel) ?_
          refine xv_b E [.iload_n 3, .iload_n 1] (pc' := 102) (lv' := [(3, .inl q_27.1), (2, .inl si0), (0, .inr (.inr (some a0))), (1, .inl v1)]) (st' := [.inl v1, .inl q_27.1, .inr (.inr o_39)]) (by decide +kernel) rfl rfl ?_
          obtain ⟨M41, h42, h⟩ := bd h
          refine xs_i E h42 (show decode prog_12_method_21_code 102 = .ok (.iastore, 1) by decide +kernel) ?_
          exact xv_w (sb104_103 E B a0 v1 M41 h hN) rfl
        · rw [if_neg q43] at h
          refine xv_icmp_ne E 103 (show decode prog_12_method_21_code 93 = .ok (.if_icmp .ne (10), 3) by decide +kernel) rfl (fun _ => ?_) (fun z => absurd z q43)
          exact xv_w (sb104_103 E B a0 v1 q_27.2 h hN) rfl
theorem sb104_53 (E : xE G p (xRm 2 (h_sz M' - z0) (h_sl M' - y0)) s m args c prog_12_method_21_code "ZonedFabric$Switch" z0 y0 (h_sz M') (h_sl M') 4) (B : xB ym104 none meth) (a0 : Nat) (v1 : Int32) (M : hM) {res : xRes} (h : b104_53 a0 v1 M = some res) (hN : xN (pg104 p l e s m args below meth c G z0 y0 r M') r M' res) : xV G p l e (xRm 2 (h_sz M' - z0) (h_sl M' - y0)) s m args below meth c z0 y0 (h_sz M') (h_sl M') 4 (MQ below (xQc G r M') args s (h_sz M' - z0) (h_sl M' - y0) (xFr G)) 53 [(0, .inr (.inr (some a0))), (1, .inl v1)] [] M := by
  unfold b104_53 at h
  refine xv_b E [.iconst 1] (pc' := 54) (lv' := [(0, .inr (.inr (some a0))), (1, .inl v1)]) (st' := [.inl (1 : Int32)]) (by decide +kernel) rfl rfl ?_
  refine xv_goto E 58 (show decode prog_12_method_21_code 54 = .ok (.goto (4), 3) by decide +kernel) rfl ?_
  exact xv_w (sb104_58 E B a0 v1 (1 : Int32) M h hN) rfl
theorem sb104_26 (E : xE G p (xRm 2 (h_sz M' - z0) (h_sl M' - y0)) s m args c prog_12_method_21_code "ZonedFabric$Switch" z0 y0 (h_sz M') (h_sl M') 4) (B : xB ym104 none meth) (a0 : Nat) (v1 : Int32) (M : hM) {res : xRes} (h : b104_26 a0 v1 M = some res) (hN : xN (pg104 p l e s m args below meth c G z0 y0 r M') r M' res) : xV G p l e (xRm 2 (h_sz M' - z0) (h_sl M' - y0)) s m args below meth c z0 y0 (h_sz M') (h_sl M') 4 (MQ below (xQc G r M') args s (h_sz M' - z0) (h_sl M' - y0) (xFr G)) 26 [(0, .inr (.inr (some a0))), (1, .inl v1)] [] M := by
  unfold b104_26 at h
  refine xv_b E [.iload_n 1, .aload_n 0] (pc' := 28) (lv' := [(0, .inr (.inr (some a0))), (1, .inl v1)]) (st' := [.inr (.inr (some a0)), .inl v1]) (by decide +kernel) rfl rfl ?_
  obtain ⟨o_10, h11, h⟩ := bd h
  refine xg_r E 10 4 h11 mw63 (show decode prog_12_method_21_code 28 = .ok (.getfield 44, 3) by decide +kernel) ?_
  obtain ⟨v_12, h13, h⟩ := bd h
  refine xa_n E 36 h13 (show decode prog_12_method_21_code 31 = .ok (.arraylength, 1) by decide +kernel) ?_
  by_cases q22 : v_12 ≤ v1
  · rw [if_pos q22] at h
    refine xv_icmp_ge E 109 (show decode prog_12_method_21_code 32 = .ok (.if_icmp .ge (77), 3) by decide +kernel) rfl (fun _ => ?_) (fun z => absurd q22 z)
    obtain rfl := Option.some.inj h
    obtain ⟨rfl, rfl⟩ := Prod.mk.inj (show ((none : Option aV), M) = (r, M') from hN)
    exact xv_rv E B.1 B.2.1 (show decode prog_12_method_21_code 109 = .ok (.return_, 1) by decide +kernel) rfl rfl
  · rw [if_neg q22] at h
    refine xv_icmp_ge E 109 (show decode prog_12_method_21_code 32 = .ok (.if_icmp .ge (77), 3) by decide +kernel) rfl (fun z => absurd z q22) (fun _ => ?_)
    refine xv_b E [.iload_n 1, .aload_n 0] (pc' := 37) (lv' := [(0, .inr (.inr (some a0))), (1, .inl v1)]) (st' := [.inr (.inr (some a0)), .inl v1]) (by decide +kernel) rfl rfl ?_
    obtain ⟨v_14, h15, h⟩ := bd h
    refine xg_i E 10 1 h15 mw61 (show decode prog_12_method_21_code 37 = .ok (.getfield 38, 3) by decide +kernel) ?_
    by_cases q21 : v1 = v_14
    · rw [if_pos q21] at h
      refine xv_icmp_eq E 53 (show decode prog_12_method_21_code 40 = .ok (.if_icmp .eq (13), 3) by decide +kernel) rfl (fun _ => ?_) (fun z => absurd q21 z)
      exact xv_w (sb104_53 E B a0 v1 M h hN) rfl
    · rw [if_neg q21] at h
      refine xv_icmp_eq E 53 (show decode prog_12_method_21_code 40 = .ok (.if_icmp .eq (13), 3) by decide +kernel) rfl (fun z => absurd z q21) (fun _ => ?_)
      refine xv_b E [.aload_n 0] (pc' := 44) (lv' := [(0, .inr (.inr (some a0))), (1, .inl v1)]) (st' := [.inr (.inr (some a0))]) (by decide +kernel) rfl rfl ?_
      obtain ⟨o_16, h17, h⟩ := bd h
      refine xg_r E 10 8 h17 mw67 (show decode prog_12_method_21_code 44 = .ok (.getfield 56, 3) by decide +kernel) ?_
      refine xv_b E [.iload_n 1] (pc' := 48) (lv' := [(0, .inr (.inr (some a0))), (1, .inl v1)]) (st' := [.inl v1, .inr (.inr o_16)]) (by decide +kernel) rfl rfl ?_
      obtain ⟨v_18, h19, h⟩ := bd h
      refine xa_i E h19 (show decode prog_12_method_21_code 48 = .ok (.iaload, 1) by decide +kernel) ?_
      refine xv_b E [.iconst (-1)] (pc' := 50) (lv' := [(0, .inr (.inr (some a0))), (1, .inl v1)]) (st' := [.inl (-1 : Int32), .inl v_18]) (by decide +kernel) rfl rfl ?_
      by_cases q20 : v_18 = (-1 : Int32)
      · rw [if_pos q20] at h
        refine xv_icmp_eq E 57 (show decode prog_12_method_21_code 50 = .ok (.if_icmp .eq (7), 3) by decide +kernel) rfl (fun _ => ?_) (fun z => absurd q20 z)
        refine xv_b E [.iconst 0] (pc' := 58) (lv' := [(0, .inr (.inr (some a0))), (1, .inl v1)]) (st' := [.inl (0 : Int32)]) (by decide +kernel) rfl rfl ?_
        exact xv_w (sb104_58 E B a0 v1 (0 : Int32) M h hN) rfl
      · rw [if_neg q20] at h
        refine xv_icmp_eq E 57 (show decode prog_12_method_21_code 50 = .ok (.if_icmp .eq (7), 3) by decide +kernel) rfl (fun z => absurd z q20) (fun _ => ?_)
        exact xv_w (sb104_53 E B a0 v1 M h hN) rfl
end
theorem t104 (G : gX) (l : Launch) {as : List aV} {M : hM} {r : Option aV} {M' : hM} (h : f104 as M = some (r, M')) : xM G l ym104 prog_12_method_21_code 4 none 2 as M r M' := by
  unfold f104 at h
  split at h
  · have hle : ∀ h as M res, k104 h as M = some res → h_sz M ≤ r_sz res ∧ h_sl M ≤ r_sl res := by
      intro h as M res hb
      unfold k104 at hb
      by_cases e0 : h = 2
      · rw [if_pos e0] at hb
        split at hb
        · exact lb104_2 G l _ _ M hb
        · cases hb
      · rw [if_neg e0] at hb
        by_cases e1 : h = 26
        · rw [if_pos e1] at hb
          split at hb
          · exact lb104_26 G l _ _ M hb
          · cases hb
        · rw [if_neg e1] at hb
          cases hb
    obtain ⟨res, hx, hres⟩ := x_go_ok h
    refine xM_of (by decide) (Nat.le_of_ble_eq_true rfl) ?_ ?_
    · have e1 := lb104_0 G l _ M hx
      have e2 := x_go_le hle hres
      omega
    · intro p e s m args below meth c E B
      refine sb104_0 E B _ M hx (hres _ ?_)
      intro h as M res hb hN
      unfold k104 at hb
      unfold pg104
      by_cases e0 : h = 2
      · rw [if_pos e0] at hb ⊢
        split at hb
        · exact sb104_2 E B _ _ M hb hN
        · cases hb
      · rw [if_neg e0] at hb ⊢
        by_cases e1 : h = 26
        · rw [if_pos e1] at hb ⊢
          split at hb
          · exact sb104_26 E B _ _ M hb hN
          · cases hb
        · rw [if_neg e1] at hb ⊢
          cases hb
  · cases h
/-! ZF.Notice.isKept()Z -/
def ym105 : MethodName := ⟨"ZonedFabric$Notice", "isKept", "()Z"⟩
theorem cd105 : xCd ym105 prog_8_method_2_code 1 (some FieldType.boolean) 0 := ⟨mw589, mw46, by decide, by decide, by decide +kernel⟩
def b105_12 (si0 : Int32) (M : hM) : Option xRes :=
  if si0 = 0 ∨ si0 = 1 then
    (some (.inl (some (.inl si0), M)))
  else
    none
def b105_0 (a0 : Nat) (M : hM) : Option xRes :=
  Option.bind (g_i M 6 1 (some a0)) fun v_1 =>
  if v_1 ≤ 0 then
    (b105_12 (0 : Int32) M)
  else
    (b105_12 (1 : Int32) M)
def f105 (as : List aV) (M : hM) : xO := match as with
  | [.inr (.inr (some a0))] => x_out (b105_0 a0 M)
  | _ => none
theorem lb105_12 (G : gX) (l : Launch) (si0 : Int32) (M : hM) {res : xRes} (h : b105_12 si0 M = some res) : h_sz M ≤ r_sz res ∧ h_sl M ≤ r_sl res := by
  unfold b105_12 at h
  by_cases q4 : si0 = 0 ∨ si0 = 1
  · rw [if_pos q4] at h
    obtain rfl := Option.some.inj h
    show h_sz M ≤ h_sz M ∧ h_sl M ≤ h_sl M
    omega
  · rw [if_neg q4] at h
    cases h
theorem lb105_0 (G : gX) (l : Launch) (a0 : Nat) (M : hM) {res : xRes} (h : b105_0 a0 M = some res) : h_sz M ≤ r_sz res ∧ h_sl M ≤ r_sl res := by
  unfold b105_0 at h
  obtain ⟨v_1, h2, h⟩ := bd h
  by_cases q3 : v_1 ≤ 0
  · rw [if_pos q3] at h
    have e := lb105_12 G l (0 : Int32) M h
    omega
  · rw [if_neg q3] at h
    have e := lb105_12 G l (1 : Int32) M h
    omega
section
variable {p : Program} {l : Launch} {e : Env} {s : State} {m : MethodId} {args : Array Value} {below : List Frame} {meth : Method} {c : Code} {G : gX} {z0 y0 : Nat} {r : Option aV} {M' : hM}
theorem sb105_12 (E : xE G p (xRm 0 (h_sz M' - z0) (h_sl M' - y0)) s m args c prog_8_method_2_code "ZonedFabric$Notice" z0 y0 (h_sz M') (h_sl M') 1) (B : xB ym105 (some FieldType.boolean) meth) (si0 : Int32) (M : hM) {res : xRes} (h : b105_12 si0 M = some res) (hN : xN (fun _ _ _ => False) r M' res) : xV G p l e (xRm 0 (h_sz M' - z0) (h_sl M' - y0)) s m args below meth c z0 y0 (h_sz M') (h_sl M') 1 (MQ below (xQc G r M') args s (h_sz M' - z0) (h_sl M' - y0) (xFr G)) 12 [] [.inl si0] M := by
  unfold b105_12 at h
  by_cases q4 : si0 = 0 ∨ si0 = 1
  · rw [if_pos q4] at h
    obtain rfl := Option.some.inj h
    obtain ⟨rfl, rfl⟩ := Prod.mk.inj (show ((some (.inl si0) : Option aV), M) = (r, M') from hN)
    exact xv_ri E B.1 (by rcases q4 with z | z <;> rw [z] <;> rfl) B.2.1 (show decode prog_8_method_2_code 12 = .ok (.ireturn, 1) by decide +kernel) rfl rfl
  · rw [if_neg q4] at h
    cases h
theorem sb105_0 (E : xE G p (xRm 0 (h_sz M' - z0) (h_sl M' - y0)) s m args c prog_8_method_2_code "ZonedFabric$Notice" z0 y0 (h_sz M') (h_sl M') 1) (B : xB ym105 (some FieldType.boolean) meth) (a0 : Nat) (M : hM) {res : xRes} (h : b105_0 a0 M = some res) (hN : xN (fun _ _ _ => False) r M' res) : xV G p l e (xRm 0 (h_sz M' - z0) (h_sl M' - y0)) s m args below meth c z0 y0 (h_sz M') (h_sl M') 1 (MQ below (xQc G r M') args s (h_sz M' - z0) (h_sl M' - y0) (xFr G)) 0 [(0, .inr (.inr (some a0)))] [] M := by
  unfold b105_0 at h
  refine xv_b E [.aload_n 0] (pc' := 1) (lv' := [(0, .inr (.inr (some a0)))]) (st' := [.inr (.inr (some a0))]) (by decide +kernel) rfl rfl ?_
  obtain ⟨v_1, h2, h⟩ := bd h
  refine xg_i E 6 1 h2 mw560 (show decode prog_8_method_2_code 1 = .ok (.getfield 15, 3) by decide +kernel) ?_
  by_cases q3 : v_1 ≤ 0
  · rw [if_pos q3] at h
    refine xv_if_le E 11 (show decode prog_8_method_2_code 4 = .ok (.ifCond .le (7), 3) by decide +kernel) rfl (fun _ => ?_) (fun z => absurd q3 z)
    refine xv_b E [.iconst 0] (pc' := 12) (lv' := [(0, .inr (.inr (some a0)))]) (st' := [.inl (0 : Int32)]) (by decide +kernel) rfl rfl ?_
    exact xv_w (sb105_12 E B (0 : Int32) M h hN) rfl
  · rw [if_neg q3] at h
    refine xv_if_le E 11 (show decode prog_8_method_2_code 4 = .ok (.ifCond .le (7), 3) by decide +kernel) rfl (fun z => absurd z q3) (fun _ => ?_)
    refine xv_b E [.iconst 1] (pc' := 8) (lv' := [(0, .inr (.inr (some a0)))]) (st' := [.inl (1 : Int32)]) (by decide +kernel) rfl rfl ?_
    refine xv_goto E 12 (show decode prog_8_method_2_code 8 = .ok (.goto (4), 3) by decide +kernel) rfl ?_
    exact xv_w (sb105_12 E B (1 : Int32) M h hN) rfl
end
theorem t105 (G : gX) (l : Launch) {as : List aV} {M : hM} {r : Option aV} {M' : hM} (h : f105 as M = some (r, M')) : xM G l ym105 prog_8_method_2_code 1 (some FieldType.boolean) 0 as M r M' := by
  unfold f105 at h
  split at h
  · have h := x_out_ok h
    refine xM_of (by decide) (Nat.le_of_ble_eq_true rfl) (lb105_0 G l _ M h) ?_
    intro p e s m args below meth c E B
    exact sb105_0 E B _ M h rfl
  · cases h
/-! ZF.Switch.isOn(I)Z -/
def ym106 : MethodName := ⟨"ZonedFabric$Switch", "isOn", "(I)Z"⟩
theorem cd106 : xCd ym106 prog_12_method_19_code 3 (some FieldType.boolean) 1 := ⟨mw590, mw51, by decide, by decide, by decide +kernel⟩
def b106_34 (si0 : Int32) (M : hM) : Option xRes :=
  if si0 = 0 ∨ si0 = 1 then
    (some (.inl (some (.inl si0), M)))
  else
    none
def b106_33  (M : hM) : Option xRes :=
  b106_34 (0 : Int32) M
def b106_0 (a0 : Nat) (v1 : Int32) (M : hM) : Option xRes :=
  Option.bind (g_r M 10 4 (some a0)) fun o_1 =>
  Option.bind (al_r M 36 o_1 v1) fun o_3 =>
  Option.bind (g_o M 6 o_3) fun b_7 =>
  Option.bind (c_I (f103 [.inr (.inr (some b_7))] M)) fun q_5 =>
  Option.bind (g_r q_5.2 10 9 (some a0)) fun o_9 =>
  Option.bind (a_ln q_5.2 20 o_9) fun v_11 =>
  if v_11 ≤ q_5.1 then
    (b106_33  q_5.2)
  else
    (Option.bind (g_r q_5.2 10 9 (some a0)) fun o_13 =>
    Option.bind (al_i q_5.2 20 o_13 q_5.1) fun v_15 =>
    if v_15 = v1 then
      (b106_34 (1 : Int32) q_5.2)
    else
      (b106_33  q_5.2))
def f106 (as : List aV) (M : hM) : xO := match as with
  | [.inr (.inr (some a0)), .inl v1] => x_out (b106_0 a0 v1 M)
  | _ => none
theorem lb106_34 (G : gX) (l : Launch) (si0 : Int32) (M : hM) {res : xRes} (h : b106_34 si0 M = some res) : h_sz M ≤ r_sz res ∧ h_sl M ≤ r_sl res := by
  unfold b106_34 at h
  by_cases q19 : si0 = 0 ∨ si0 = 1
  · rw [if_pos q19] at h
    obtain rfl := Option.some.inj h
    show h_sz M ≤ h_sz M ∧ h_sl M ≤ h_sl M
    omega
  · rw [if_neg q19] at h
    cases h
theorem lb106_33 (G : gX) (l : Launch)  (M : hM) {res : xRes} (h : b106_33  M = some res) : h_sz M ≤ r_sz res ∧ h_sl M ≤ r_sl res := by
  unfold b106_33 at h
  have e := lb106_34 G l (0 : Int32) M h
  omega
theorem lb106_0 (G : gX) (l : Launch) (a0 : Nat) (v1 : Int32) (M : hM) {res : xRes} (h : b106_0 a0 v1 M = some res) : h_sz M ≤ r_sz res ∧ h_sl M ≤ r_sl res := by
  unfold b106_0 at h
  obtain ⟨o_1, h2, h⟩ := bd h
  obtain ⟨o_3, h4, h⟩ := bd h
  obtain ⟨b_7, h8, h⟩ := bd h
  obtain ⟨q_5, h6, h⟩ := bd h
  have eh6 := (t103 G l (c_I_some h6)).1
  obtain ⟨o_9, h10, h⟩ := bd h
  obtain ⟨v_11, h12, h⟩ := bd h
  by_cases q18 : v_11 ≤ q_5.1
  · rw [if_pos q18] at h
    have e := lb106_33 G l  q_5.2 h
    omega
  · rw [if_neg q18] at h
    obtain ⟨o_13, h14, h⟩ := bd h
    obtain ⟨v_15, h16, h⟩ := bd h
    by_cases q17 : v_15 = v1
    · rw [if_pos q17] at h
      have e := lb106_34 G l (1 : Int32) q_5.2 h
      omega
    · rw [if_neg q17] at h
      have e := lb106_33 G l  q_5.2 h
      omega
section
variable {p : Program} {l : Launch} {e : Env} {s : State} {m : MethodId} {args : Array Value} {below : List Frame} {meth : Method} {c : Code} {G : gX} {z0 y0 : Nat} {r : Option aV} {M' : hM}
theorem sb106_34 (E : xE G p (xRm 2 (h_sz M' - z0) (h_sl M' - y0)) s m args c prog_12_method_19_code "ZonedFabric$Switch" z0 y0 (h_sz M') (h_sl M') 3) (B : xB ym106 (some FieldType.boolean) meth) (si0 : Int32) (M : hM) {res : xRes} (h : b106_34 si0 M = some res) (hN : xN (fun _ _ _ => False) r M' res) : xV G p l e (xRm 2 (h_sz M' - z0) (h_sl M' - y0)) s m args below meth c z0 y0 (h_sz M') (h_sl M') 3 (MQ below (xQc G r M') args s (h_sz M' - z0) (h_sl M' - y0) (xFr G)) 34 [] [.inl si0] M := by
  unfold b106_34 at h
  by_cases q19 : si0 = 0 ∨ si0 = 1
  · rw [if_pos q19] at h
    obtain rfl := Option.some.inj h
    obtain ⟨rfl, rfl⟩ := Prod.mk.inj (show ((some (.inl si0) : Option aV), M) = (r, M') from hN)
    exact xv_ri E B.1 (by rcases q19 with z | z <;> rw [z] <;> rfl) B.2.1 (show decode prog_12_method_19_code 34 = .ok (.ireturn, 1) by decide +kernel) rfl rfl
  · rw [if_neg q19] at h
    cases h
theorem sb106_33 (E : xE G p (xRm 2 (h_sz M' - z0) (h_sl M' - y0)) s m args c prog_12_method_19_code "ZonedFabric$Switch" z0 y0 (h_sz M') (h_sl M') 3) (B : xB ym106 (some FieldType.boolean) meth)  (M : hM) {res : xRes} (h : b106_33  M = some res) (hN : xN (fun _ _ _ => False) r M' res) : xV G p l e (xRm 2 (h_sz M' - z0) (h_sl M' - y0)) s m args below meth c z0 y0 (h_sz M') (h_sl M') 3 (MQ below (xQc G r M') args s (h_sz M' - z0) (h_sl M' - y0) (xFr G)) 33 [] [] M := by
  unfold b106_33 at h
  refine xv_b E [.iconst 0] (pc' := 34) (lv' := []) (st' := [.inl (0 : Int32)]) (by decide +kernel) rfl rfl ?_
  exact xv_w (sb106_34 E B (0 : Int32) M h hN) rfl
theorem sb106_0 (E : xE G p (xRm 2 (h_sz M' - z0) (h_sl M' - y0)) s m args c prog_12_method_19_code "ZonedFabric$Switch" z0 y0 (h_sz M') (h_sl M') 3) (B : xB ym106 (some FieldType.boolean) meth) (a0 : Nat) (v1 : Int32) (M : hM) {res : xRes} (h : b106_0 a0 v1 M = some res) (hN : xN (fun _ _ _ => False) r M' res) : xV G p l e (xRm 2 (h_sz M' - z0) (h_sl M' - y0)) s m args below meth c z0 y0 (h_sz M') (h_sl M') 3 (MQ below (xQc G r M') args s (h_sz M' - z0) (h_sl M' - y0) (xFr G)) 0 [(0, .inr (.inr (some a0))), (1, .inl v1)] [] M := by
  unfold b106_0 at h
  refine xv_b E [.aload_n 0] (pc' := 1) (lv' := [(0, .inr (.inr (some a0))), (1, .inl v1)]) (st' := [.inr (.inr (some a0))]) (by decide +kernel) rfl rfl ?_
  obtain ⟨o_1, h2, h⟩ := bd h
  refine xg_r E 10 4 h2 mw63 (show decode prog_12_method_19_code 1 = .ok (.getfield 44, 3) by decide +kernel) ?_
  refine xv_b E [.iload_n 1] (pc' := 5) (lv' := [(0, .inr (.inr (some a0))), (1, .inl v1)]) (st' := [.inl v1, .inr (.inr o_1)]) (by decide +kernel) rfl rfl ?_
  obtain ⟨o_3, h4, h⟩ := bd h
  refine xa_r E 36 h4 (show decode prog_12_method_19_code 5 = .ok (.aaload, 1) by decide +kernel) ?_
  obtain ⟨b_7, h8, h⟩ := bd h
  obtain ⟨eh8, th8⟩ := g_o_some h8
  obtain ⟨q_5, h6, h⟩ := bd h
  refine xv_cvo E eh8 6 (as := []) (t103 G l (c_I_some h6)) cd103 mw586 mw587 mw588 (show decode prog_12_method_19_code 6 = .ok (.invokevirtual 270, 3) by decide +kernel) th8 rfl rfl (Nat.le_of_ble_eq_true rfl) ⟨Nat.le_of_ble_eq_true rfl, Nat.le_of_ble_eq_true rfl⟩ ?_
  refine xv_b E [.istore_n 2, .iload_n 2, .aload_n 0] (pc' := 12) (lv' := [(2, .inl q_5.1), (0, .inr (.inr (some a0))), (1, .inl v1)]) (st' := [.inr (.inr (some a0)), .inl q_5.1]) (by decide +kernel) rfl rfl ?_
  obtain ⟨o_9, h10, h⟩ := bd h
  refine xg_r E 10 9 h10 mw58 (show decode prog_12_method_19_code 12 = .ok (.getfield 24, 3) by decide +kernel) ?_
  obtain ⟨v_11, h12, h⟩ := bd h
  refine xa_n E 20 h12 (show decode prog_12_method_19_code 15 = .ok (.arraylength, 1) by decide +kernel) ?_
  by_cases q18 : v_11 ≤ q_5.1
  · rw [if_pos q18] at h
    refine xv_icmp_ge E 33 (show decode prog_12_method_19_code 16 = .ok (.if_icmp .ge (17), 3) by decide +kernel) rfl (fun _ => ?_) (fun z => absurd q18 z)
    exact xv_w (sb106_33 E B  q_5.2 h hN) rfl
  · rw [if_neg q18] at h
    refine xv_icmp_ge E 33 (show decode prog_12_method_19_code 16 = .ok (.if_icmp .ge (17), 3) by decide +kernel) rfl (fun z => absurd z q18) (fun _ => ?_)
    refine xv_b E [.aload_n 0] (pc' := 20) (lv' := [(2, .inl q_5.1), (0, .inr (.inr (some a0))), (1, .inl v1)]) (st' := [.inr (.inr (some a0))]) (by decide +kernel) rfl rfl ?_
    obtain ⟨o_13, h14, h⟩ := bd h
    refine xg_r E 10 9 h14 mw58 (show decode prog_12_method_19_code 20 = .ok (.getfield 24, 3) by decide +kernel) ?_
    refine xv_b E [.iload_n 2] (pc' := 24) (lv' := [(2, .inl q_5.1), (0, .inr (.inr (some a0))), (1, .inl v1)]) (st' := [.inl q_5.1, .inr (.inr o_13)]) (by decide +kernel) rfl rfl ?_
    obtain ⟨v_15, h16, h⟩ := bd h
    refine xa_i E h16 (show decode prog_12_method_19_code 24 = .ok (.iaload, 1) by decide +kernel) ?_
    refine xv_b E [.iload_n 1] (pc' := 26) (lv' := [(2, .inl q_5.1), (0, .inr (.inr (some a0))), (1, .inl v1)]) (st' := [.inl v1, .inl v_15]) (by decide +kernel) rfl rfl ?_
    by_cases q17 : v_15 = v1
    · rw [if_pos q17] at h
      refine xv_icmp_ne E 33 (show decode prog_12_method_19_code 26 = .ok (.if_icmp .ne (7), 3) by decide +kernel) rfl (fun z => absurd q17 z) (fun _ => ?_)
      refine xv_b E [.iconst 1] (pc' := 30) (lv' := [(2, .inl q_5.1), (0, .inr (.inr (some a0))), (1, .inl v1)]) (st' := [.inl (1 : Int32)]) (by decide +kernel) rfl rfl ?_
      refine xv_goto E 34 (show decode prog_12_method_19_code 30 = .ok (.goto (4), 3) by decide +kernel) rfl ?_
      exact xv_w (sb106_34 E B (1 : Int32) q_5.2 h hN) rfl
    · rw [if_neg q17] at h
      refine xv_icmp_ne E 33 (show decode prog_12_method_19_code 26 = .ok (.if_icmp .ne (7), 3) by decide +kernel) rfl (fun _ => ?_) (fun z => absurd z q17)
      exact xv_w (sb106_33 E B  q_5.2 h hN) rfl
end
theorem t106 (G : gX) (l : Launch) {as : List aV} {M : hM} {r : Option aV} {M' : hM} (h : f106 as M = some (r, M')) : xM G l ym106 prog_12_method_19_code 3 (some FieldType.boolean) 2 as M r M' := by
  unfold f106 at h
  split at h
  · have h := x_out_ok h
    refine xM_of (by decide) (Nat.le_of_ble_eq_true rfl) (lb106_0 G l _ _ M h) ?_
    intro p e s m args below meth c E B
    exact sb106_0 E B _ _ M h rfl
  · cases h
/-! ZF.Notice.neighbourPort(I)I -/
def ym107 : MethodName := ⟨"ZonedFabric$Notice", "neighbourPort", "(I)I"⟩
theorem cd107 : xCd ym107 prog_8_method_10_code 2 (some FieldType.int) 1 := ⟨mw591, mw46, by decide, by decide, by decide +kernel⟩
def b107_0 (a0 : Nat) (v1 : Int32) (M : hM) : Option xRes :=
  Option.bind (g_o M 6 (some a0)) fun b_3 =>
  Option.bind (c_I (f96 [.inr (.inr (some b_3)), .inl ((6 : Int32) + ((3 : Int32) * v1))] M)) fun q_1 =>
  some (.inl (some (.inl q_1.1), q_1.2))
def f107 (as : List aV) (M : hM) : xO := match as with
  | [.inr (.inr (some a0)), .inl v1] => x_out (b107_0 a0 v1 M)
  | _ => none
theorem lb107_0 (G : gX) (l : Launch) (a0 : Nat) (v1 : Int32) (M : hM) {res : xRes} (h : b107_0 a0 v1 M = some res) : h_sz M ≤ r_sz res ∧ h_sl M ≤ r_sl res := by
  unfold b107_0 at h
  obtain ⟨b_3, h4, h⟩ := bd h
  obtain ⟨q_1, h2, h⟩ := bd h
  have eh2 := (t96 G l (c_I_some h2)).1
  obtain rfl := Option.some.inj h
  show h_sz M ≤ h_sz q_1.2 ∧ h_sl M ≤ h_sl q_1.2
  omega
section
variable {p : Program} {l : Launch} {e : Env} {s : State} {m : MethodId} {args : Array Value} {below : List Frame} {meth : Method} {c : Code} {G : gX} {z0 y0 : Nat} {r : Option aV} {M' : hM}
theorem sb107_0 (E : xE G p (xRm 1 (h_sz M' - z0) (h_sl M' - y0)) s m args c prog_8_method_10_code "ZonedFabric$Notice" z0 y0 (h_sz M') (h_sl M') 2) (B : xB ym107 (some FieldType.int) meth) (a0 : Nat) (v1 : Int32) (M : hM) {res : xRes} (h : b107_0 a0 v1 M = some res) (hN : xN (fun _ _ _ => False) r M' res) : xV G p l e (xRm 1 (h_sz M' - z0) (h_sl M' - y0)) s m args below meth c z0 y0 (h_sz M') (h_sl M') 2 (MQ below (xQc G r M') args s (h_sz M' - z0) (h_sl M' - y0) (xFr G)) 0 [(0, .inr (.inr (some a0))), (1, .inl v1)] [] M := by
  unfold b107_0 at h
  refine xv_b E [.aload_n 0, .bipush 6, .iconst 3, .iload_n 1, .imul, .iadd] (pc' := 7) (lv' := [(0, .inr (.inr (some a0))), (1, .inl v1)]) (st' := [.inl ((6 : Int32) + ((3 : Int32) * v1)), .inr (.inr (some a0))]) (by decide +kernel) rfl rfl ?_
  obtain ⟨b_3, h4, h⟩ := bd h
  obtain ⟨eh4, th4⟩ := g_o_some h4
  obtain ⟨q_1, h2, h⟩ := bd h
  refine xv_cvo E eh4 6 (as := [.inl ((6 : Int32) + ((3 : Int32) * v1))]) (t96 G l (c_I_some h2)) cd96 mw562 mw563 mw564 (show decode prog_8_method_10_code 7 = .ok (.invokevirtual 19, 3) by decide +kernel) th4 rfl rfl (Nat.le_of_ble_eq_true rfl) ⟨Nat.le_of_ble_eq_true rfl, Nat.le_of_ble_eq_true rfl⟩ ?_
  obtain rfl := Option.some.inj h
  obtain ⟨rfl, rfl⟩ := Prod.mk.inj (show ((some (.inl q_1.1) : Option aV), q_1.2) = (r, M') from hN)
  exact xv_ri E B.1 rfl B.2.1 (show decode prog_8_method_10_code 10 = .ok (.ireturn, 1) by decide +kernel) rfl rfl
end
theorem t107 (G : gX) (l : Launch) {as : List aV} {M : hM} {r : Option aV} {M' : hM} (h : f107 as M = some (r, M')) : xM G l ym107 prog_8_method_10_code 2 (some FieldType.int) 1 as M r M' := by
  unfold f107 at h
  split at h
  · have h := x_out_ok h
    refine xM_of (by decide) (Nat.le_of_ble_eq_true rfl) (lb107_0 G l _ _ M h) ?_
    intro p e s m args below meth c E B
    exact sb107_0 E B _ _ M h rfl
  · cases h
/-! ZF.Switch.firstPortTo(ILZF$Notice;)I -/
def ym108 : MethodName := ⟨"ZonedFabric$Switch", "firstPortTo", "(ILZonedFabric$Notice;)I"⟩
theorem cd108 : xCd ym108 prog_12_method_25_code 5 (some FieldType.int) 2 := ⟨mw592, mw51, by decide, by decide, by decide +kernel⟩
def b108_0 (a0 : Nat) (v1 : Int32) (o2 : Option Nat) (M : hM) : Option xRes :=
  Option.bind (g_r M 10 7 (some a0)) fun o_1 =>
  Option.bind (g_i M 10 1 (some a0)) fun v_3 =>
  Option.bind (al_r M 50 o_1 v_3) fun o_5 =>
  Option.bind (al_i M 20 o_5 v1) fun v_7 =>
  if v_7 < (1000000 : Int32) then
    (some (.inr (21, [.inr (.inr (some a0)), .inl v1, .inr (.inr o2), .inl (0 : Int32)], M)))
  else
    (some (.inl (some (.inl (-1 : Int32)), M)))
def b108_94 (a0 : Nat) (v1 : Int32) (o2 : Option Nat) (v3 : Int32) (M : hM) : Option xRes :=
  some (.inr (21, [.inr (.inr (some a0)), .inl v1, .inr (.inr o2), .inl (v3 + (1 : Int32))], M))
def b108_21 (a0 : Nat) (v1 : Int32) (o2 : Option Nat) (v3 : Int32) (M : hM) : Option xRes :=
  Option.bind (g_o M 6 o2) fun b_12 =>
  Option.bind (c_I (f97 [.inr (.inr (some b_12))] M)) fun q_10 =>
  if q_10.1 ≤ v3 then
    (some (.inl (some (.inl (-1 : Int32)), q_10.2)))
  else
    (Option.bind (g_o q_10.2 6 o2) fun b_16 =>
    Option.bind (c_I (f98 [.inr (.inr (some b_16)), .inl v3] q_10.2)) fun q_14 =>
    Option.bind (g_r q_14.2 10 7 (some a0)) fun o_18 =>
    Option.bind (a_ln q_14.2 50 o_18) fun v_20 =>
    if v_20 ≤ q_14.1 then
      (b108_94 a0 v1 o2 v3 q_14.2)
    else
      (Option.bind (g_i q_14.2 10 1 (some a0)) fun v_22 =>
      Option.bind (g_o q_14.2 10 (some a0)) fun b_26 =>
      Option.bind (c_I (f101 [.inr (.inr (some b_26)), .inl v_22, .inl q_14.1] q_14.2)) fun q_24 =>
      if q_24.1 = 0 then
        (b108_94 a0 v1 o2 v3 q_24.2)
      else
        (Option.bind (g_o q_24.2 6 o2) fun b_30 =>
        Option.bind (c_I (f99 [.inr (.inr (some b_30)), .inl v3] q_24.2)) fun q_28 =>
        Option.bind (g_r q_28.2 10 7 (some a0)) fun o_32 =>
        Option.bind (al_r q_28.2 50 o_32 q_14.1) fun o_34 =>
        Option.bind (al_i q_28.2 20 o_34 v1) fun v_36 =>
        Option.bind (g_r q_28.2 10 7 (some a0)) fun o_38 =>
        Option.bind (g_i q_28.2 10 1 (some a0)) fun v_40 =>
        Option.bind (al_r q_28.2 50 o_38 v_40) fun o_42 =>
        Option.bind (al_i q_28.2 20 o_42 v1) fun v_44 =>
        if (q_28.1 + v_36) = v_44 then
          (Option.bind (g_o q_28.2 6 o2) fun b_48 =>
          Option.bind (c_I (f107 [.inr (.inr (some b_48)), .inl v3] q_28.2)) fun q_46 =>
          some (.inl (some (.inl q_46.1), q_46.2)))
        else
          (b108_94 a0 v1 o2 v3 q_28.2))))
def k108 (h : Nat) (as : List aV) (M : hM) : Option xRes :=
  if h = 21 then (match as with | [.inr (.inr (some a0)), .inl v1, .inr (.inr o2), .inl v3] => b108_21 a0 v1 o2 v3 M | _ => none) else
  none
def f108 (as : List aV) (M : hM) : xO := match as with
  | [.inr (.inr (some a0)), .inl v1, .inr (.inr o2)] => x_go k108 (b108_0 a0 v1 o2 M)
  | _ => none
theorem lb108_0 (G : gX) (l : Launch) (a0 : Nat) (v1 : Int32) (o2 : Option Nat) (M : hM) {res : xRes} (h : b108_0 a0 v1 o2 M = some res) : h_sz M ≤ r_sz res ∧ h_sl M ≤ r_sl res := by
  unfold b108_0 at h
  obtain ⟨o_1, h2, h⟩ := bd h
  obtain ⟨v_3, h4, h⟩ := bd h
  obtain ⟨o_5, h6, h⟩ := bd h
  obtain ⟨v_7, h8, h⟩ := bd h
  by_cases q9 : v_7 < (1000000 : Int32)
  · rw [if_pos q9] at h
    obtain rfl := Option.some.inj h
    show h_sz M ≤ h_sz M ∧ h_sl M ≤ h_sl M
    omega
  · rw [if_neg q9] at h
    obtain rfl := Option.some.inj h
    show h_sz M ≤ h_sz M ∧ h_sl M ≤ h_sl M
    omega
theorem lb108_94 (G : gX) (l : Launch) (a0 : Nat) (v1 : Int32) (o2 : Option Nat) (v3 : Int32) (M : hM) {res : xRes} (h : b108_94 a0 v1 o2 v3 M = some res) : h_sz M ≤ r_sz res ∧ h_sl M ≤ r_sl res := by
  unfold b108_94 at h
  obtain rfl := Option.some.inj h
  show h_sz M ≤ h_sz M ∧ h_sl M ≤ h_sl M
  omega
theorem lb108_21 (G : gX) (l : Launch) (a0 : Nat) (v1 : Int32) (o2 : Option Nat) (v3 : Int32) (M : hM) {res : xRes} (h : b108_21 a0 v1 o2 v3 M = some res) : h_sz M ≤ r_sz res ∧ h_sl M ≤ r_sl res := by
  unfold b108_21 at h
  obtain ⟨b_12, h13, h⟩ := bd h
  obtain ⟨q_10, h11, h⟩ := bd h
  have eh11 := (t97 G l (c_I_some h11)).1
  by_cases q53 : q_10.1 ≤ v3
  · rw [if_pos q53] at h
    obtain rfl := Option.some.inj h
    show h_sz M ≤ h_sz q_10.2 ∧ h_sl M ≤ h_sl q_10.2
    omega
  · rw [if_neg q53] at h
    obtain ⟨b_16, h17, h⟩ := bd h
    obtain ⟨q_14, h15, h⟩ := bd h
    have eh15 := (t98 G l (c_I_some h15)).1
    obtain ⟨o_18, h19, h⟩ := bd h
    obtain ⟨v_20, h21, h⟩ := bd h
    by_cases q52 : v_20 ≤ q_14.1
    · rw [if_pos q52] at h
      have e := lb108_94 G l a0 v1 o2 v3 q_14.2 h
      omega
    · rw [if_neg q52] at h
      obtain ⟨v_22, h23, h⟩ := bd h
      obtain ⟨b_26, h27, h⟩ := bd h
      obtain ⟨q_24, h25, h⟩ := bd h
      have eh25 := (t101 G l (c_I_some h25)).1
      by_cases q51 : q_24.1 = 0
      · rw [if_pos q51] at h
        have e := lb108_94 G l a0 v1 o2 v3 q_24.2 h
        omega
      · rw [if_neg q51] at h
        obtain ⟨b_30, h31, h⟩ := bd h
        obtain ⟨q_28, h29, h⟩ := bd h
        have eh29 := (t99 G l (c_I_some h29)).1
        obtain ⟨o_32, h33, h⟩ := bd h
        obtain ⟨o_34, h35, h⟩ := bd h
        obtain ⟨v_36, h37, h⟩ := bd h
        obtain ⟨o_38, h39, h⟩ := bd h
        obtain ⟨v_40, h41, h⟩ := bd h
        obtain ⟨o_42, h43, h⟩ := bd h
        obtain ⟨v_44, h45, h⟩ := bd h
        by_cases q50 : (q_28.1 + v_36) = v_44
        · rw [if_pos q50] at h
          obtain ⟨b_48, h49, h⟩ := bd h
          obtain ⟨q_46, h47, h⟩ := bd h
          have eh47 := (t107 G l (c_I_some h47)).1
          obtain rfl := Option.some.inj h
          show h_sz M ≤ h_sz q_46.2 ∧ h_sl M ≤ h_sl q_46.2
          omega
        · rw [if_neg q50] at h
          have e := lb108_94 G l a0 v1 o2 v3 q_28.2 h
          omega
section
variable {p : Program} {l : Launch} {e : Env} {s : State} {m : MethodId} {args : Array Value} {below : List Frame} {meth : Method} {c : Code} {G : gX} {z0 y0 : Nat} {r : Option aV} {M' : hM}
def pg108 (p : Program) (l : Launch) (e : Env) (s : State) (m : MethodId) (args : Array Value) (below : List Frame) (meth : Method) (c : Code) (G : gX) (z0 y0 : Nat) (r : Option aV) (M' : hM) (h : Nat) (as : List aV) (M : hM) : Prop :=
  if h = 21 then (match as with | [.inr (.inr (some a0)), .inl v1, .inr (.inr o2), .inl v3] => xV G p l e (xRm 2 (h_sz M' - z0) (h_sl M' - y0)) s m args below meth c z0 y0 (h_sz M') (h_sl M') 5 (MQ below (xQc G r M') args s (h_sz M' - z0) (h_sl M' - y0) (xFr G)) 21 [(0, .inr (.inr (some a0))), (1, .inl v1), (2, .inr (.inr o2)), (3, .inl v3)] [] M | _ => False) else
  False
theorem sb108_0 (E : xE G p (xRm 2 (h_sz M' - z0) (h_sl M' - y0)) s m args c prog_12_method_25_code "ZonedFabric$Switch" z0 y0 (h_sz M') (h_sl M') 5) (B : xB ym108 (some FieldType.int) meth) (a0 : Nat) (v1 : Int32) (o2 : Option Nat) (M : hM) {res : xRes} (h : b108_0 a0 v1 o2 M = some res) (hN : xN (pg108 p l e s m args below meth c G z0 y0 r M') r M' res) : xV G p l e (xRm 2 (h_sz M' - z0) (h_sl M' - y0)) s m args below meth c z0 y0 (h_sz M') (h_sl M') 5 (MQ below (xQc G r M') args s (h_sz M' - z0) (h_sl M' - y0) (xFr G)) 0 [(0, .inr (.inr (some a0))), (1, .inl v1), (2, .inr (.inr o2))] [] M := by
  unfold b108_0 at h
  refine xv_b E [.aload_n 0] (pc' := 1) (lv' := [(0, .inr (.inr (some a0))), (1, .inl v1), (2, .inr (.inr o2))]) (st' := [.inr (.inr (some a0))]) (by decide +kernel) rfl rfl ?_
  obtain ⟨o_1, h2, h⟩ := bd h
  refine xg_r E 10 7 h2 mw66 (show decode prog_12_method_25_code 1 = .ok (.getfield 53, 3) by decide +kernel) ?_
  refine xv_b E [.aload_n 0] (pc' := 5) (lv' := [(0, .inr (.inr (some a0))), (1, .inl v1), (2, .inr (.inr o2))]) (st' := [.inr (.inr (some a0)), .inr (.inr o_1)]) (by decide +kernel) rfl rfl ?_
  obtain ⟨v_3, h4, h⟩ := bd h
  refine xg_i E 10 1 h4 mw61 (show decode prog_12_method_25_code 5 = .ok (.getfield 38, 3) by decide +kernel) ?_
  obtain ⟨o_5, h6, h⟩ := bd h
  refine xa_r E 50 h6 (show decode prog_12_method_25_code 8 = .ok (.aaload, 1) by decide +kernel) ?_
  refine xv_b E [.iload_n 1] (pc' := 10) (lv' := [(0, .inr (.inr (some a0))), (1, .inl v1), (2, .inr (.inr o2))]) (st' := [.inl v1, .inr (.inr o_5)]) (by decide +kernel) rfl rfl ?_
  obtain ⟨v_7, h8, h⟩ := bd h
  refine xa_i E h8 (show decode prog_12_method_25_code 10 = .ok (.iaload, 1) by decide +kernel) ?_
  refine xv_ldcw E (1000000 : Int32) mw568 (show decode prog_12_method_25_code 11 = .ok (.ldc_w 286, 3) by decide +kernel) ?_
  by_cases q9 : v_7 < (1000000 : Int32)
  · rw [if_pos q9] at h
    refine xv_icmp_lt E 19 (show decode prog_12_method_25_code 14 = .ok (.if_icmp .lt (5), 3) by decide +kernel) rfl (fun _ => ?_) (fun z => absurd q9 z)
    refine xv_b E [.iconst 0, .istore_n 3] (pc' := 21) (lv' := [(3, .inl (0 : Int32)), (0, .inr (.inr (some a0))), (1, .inl v1), (2, .inr (.inr o2))]) (st' := []) (by decide +kernel) rfl rfl ?_
    obtain rfl := Option.some.inj h
    exact xv_w hN rfl
  · rw [if_neg q9] at h
    refine xv_icmp_lt E 19 (show decode prog_12_method_25_code 14 = .ok (.if_icmp .lt (5), 3) by decide +kernel) rfl (fun z => absurd z q9) (fun _ => ?_)
    refine xv_b E [.iconst (-1)] (pc' := 18) (lv' := [(0, .inr (.inr (some a0))), (1, .inl v1), (2, .inr (.inr o2))]) (st' := [.inl (-1 : Int32)]) (by decide +kernel) rfl rfl ?_
    obtain rfl := Option.some.inj h
    obtain ⟨rfl, rfl⟩ := Prod.mk.inj (show ((some (.inl (-1 : Int32)) : Option aV), M) = (r, M') from hN)
    exact xv_ri E B.1 rfl B.2.1 (show decode prog_12_method_25_code 18 = .ok (.ireturn, 1) by decide +kernel) rfl rfl
theorem sb108_94 (E : xE G p (xRm 2 (h_sz M' - z0) (h_sl M' - y0)) s m args c prog_12_method_25_code "ZonedFabric$Switch" z0 y0 (h_sz M') (h_sl M') 5) (B : xB ym108 (some FieldType.int) meth) (a0 : Nat) (v1 : Int32) (o2 : Option Nat) (v3 : Int32) (M : hM) {res : xRes} (h : b108_94 a0 v1 o2 v3 M = some res) (hN : xN (pg108 p l e s m args below meth c G z0 y0 r M') r M' res) : xV G p l e (xRm 2 (h_sz M' - z0) (h_sl M' - y0)) s m args below meth c z0 y0 (h_sz M') (h_sl M') 5 (MQ below (xQc G r M') args s (h_sz M' - z0) (h_sl M' - y0) (xFr G)) 94 [(0, .inr (.inr (some a0))), (1, .inl v1), (2, .inr (.inr o2)), (3, .inl v3)] [] M := by
  unfold b108_94 at h
  refine xv_b E [.iinc 3 1] (pc' := 97) (lv' := [(3, .inl (v3 + (1 : Int32))), (0, .inr (.inr (some a0))), (1, .inl v1), (2, .inr (.inr o2))]) (st' := []) (by decide +kernel) rfl rfl ?_
  refine xv_goto E 21 (show decode prog_12_method_25_code 97 = .ok (.goto (-76), 3) by decide +kernel) rfl ?_
  obtain rfl := Option.some.inj h
  exact xv_w hN rfl
theorem sb108_21 (E : xE G p (xRm 2 (h_sz M' - z0) (h_sl M' - y0)) s m args c prog_12_method_25_code "ZonedFabric$Switch" z0 y0 (h_sz M') (h_sl M') 5) (B : xB ym108 (some FieldType.int) meth) (a0 : Nat) (v1 : Int32) (o2 : Option Nat) (v3 : Int32) (M : hM) {res : xRes} (h : b108_21 a0 v1 o2 v3 M = some res) (hN : xN (pg108 p l e s m args below meth c G z0 y0 r M') r M' res) : xV G p l e (xRm 2 (h_sz M' - z0) (h_sl M' - y0)) s m args below meth c z0 y0 (h_sz M') (h_sl M') 5 (MQ below (xQc G r M') args s (h_sz M' - z0) (h_sl M' - y0) (xFr G)) 21 [(0, .inr (.inr (some a0))), (1, .inl v1), (2, .inr (.inr o2)), (3, .inl v3)] [] M := by
  unfold b108_21 at h
  refine xv_b E [.iload_n 3, .aload_n 2] (pc' := 23) (lv' := [(0, .inr (.inr (some a0))), (1, .inl v1), (2, .inr (.inr o2)), (3, .inl v3)]) (st' := [.inr (.inr o2), .inl v3]) (by decide +kernel) rfl rfl ?_
  obtain ⟨b_12, h13, h⟩ := bd h
  obtain ⟨eh13, th13⟩ := g_o_some h13
  obtain ⟨q_10, h11, h⟩ := bd h
  refine xv_cvo E eh13 6 (as := []) (t97 G l (c_I_some h11)) cd97 mw569 mw570 mw571 (show decode prog_12_method_25_code 23 = .ok (.invokevirtual 287, 3) by decide +kernel) th13 rfl rfl (Nat.le_of_ble_eq_true rfl) ⟨Nat.le_of_ble_eq_true rfl, Nat.le_of_ble_eq_true rfl⟩ ?_
  by_cases q53 : q_10.1 ≤ v3
  · rw [if_pos q53] at h
    refine xv_icmp_ge E 100 (show decode prog_12_method_25_code 26 = .ok (.if_icmp .ge (74), 3) by decide +kernel) rfl (fun _ => ?_) (fun z => absurd q53 z)
    refine xv_b E [.iconst (-1)] (pc' := 101) (lv' := [(0, .inr (.inr (some a0))), (1, .inl v1), (2, .inr (.inr o2)), (3, .inl v3)]) (st' := [.inl (-1 : Int32)]) (by decide +kernel) rfl rfl ?_
    obtain rfl := Option.some.inj h
    obtain ⟨rfl, rfl⟩ := Prod.mk.inj (show ((some (.inl (-1 : Int32)) : Option aV), q_10.2) = (r, M') from hN)
    exact xv_ri E B.1 rfl B.2.1 (show decode prog_12_method_25_code 101 = .ok (.ireturn, 1) by decide +kernel) rfl rfl
  · rw [if_neg q53] at h
    refine xv_icmp_ge E 100 (show decode prog_12_method_25_code 26 = .ok (.if_icmp .ge (74), 3) by decide +kernel) rfl (fun z => absurd z q53) (fun _ => ?_)
    refine xv_b E [.aload_n 2, .iload_n 3] (pc' := 31) (lv' := [(0, .inr (.inr (some a0))), (1, .inl v1), (2, .inr (.inr o2)), (3, .inl v3)]) (st' := [.inl v3, .inr (.inr o2)]) (by decide +kernel) rfl rfl ?_
    obtain ⟨b_16, h17, h⟩ := bd h
    obtain ⟨eh17, th17⟩ := g_o_some h17
    obtain ⟨q_14, h15, h⟩ := bd h
    refine xv_cvo E eh17 6 (as := [.inl v3]) (t98 G l (c_I_some h15)) cd98 mw572 mw573 mw574 (show decode prog_12_method_25_code 31 = .ok (.invokevirtual 290, 3) by decide +kernel) th17 rfl rfl (Nat.le_of_ble_eq_true rfl) ⟨Nat.le_of_ble_eq_true rfl, Nat.le_of_ble_eq_true rfl⟩ ?_
    refine xv_b E [.istore 4, .iload 4, .aload_n 0] (pc' := 39) (lv' := [(4, .inl q_14.1), (0, .inr (.inr (some a0))), (1, .inl v1), (2, .inr (.inr o2)), (3, .inl v3)]) (st' := [.inr (.inr (some a0)), .inl q_14.1]) (by decide +kernel) rfl rfl ?_
    obtain ⟨o_18, h19, h⟩ := bd h
    refine xg_r E 10 7 h19 mw66 (show decode prog_12_method_25_code 39 = .ok (.getfield 53, 3) by decide +kernel) ?_
    obtain ⟨v_20, h21, h⟩ := bd h
    refine xa_n E 50 h21 (show decode prog_12_method_25_code 42 = .ok (.arraylength, 1) by decide +kernel) ?_
    by_cases q52 : v_20 ≤ q_14.1
    · rw [if_pos q52] at h
      refine xv_icmp_ge E 94 (show decode prog_12_method_25_code 43 = .ok (.if_icmp .ge (51), 3) by decide +kernel) rfl (fun _ => ?_) (fun z => absurd q52 z)
      exact xv_w (sb108_94 E B a0 v1 o2 v3 q_14.2 h hN) rfl
    · rw [if_neg q52] at h
      refine xv_icmp_ge E 94 (show decode prog_12_method_25_code 43 = .ok (.if_icmp .ge (51), 3) by decide +kernel) rfl (fun z => absurd z q52) (fun _ => ?_)
      refine xv_b E [.aload_n 0, .aload_n 0] (pc' := 48) (lv' := [(4, .inl q_14.1), (0, .inr (.inr (some a0))), (1, .inl v1), (2, .inr (.inr o2)), (3, .inl v3)]) (st' := [.inr (.inr (some a0)), .inr (.inr (some a0))]) (by decide +kernel) rfl rfl ?_
      obtain ⟨v_22, h23, h⟩ := bd h
      refine xg_i E 10 1 h23 mw61 (show decode prog_12_method_25_code 48 = .ok (.getfield 38, 3) by decide +kernel) ?_
      refine xv_b E [.iload 4] (pc' := 53) (lv' := [(4, .inl q_14.1), (0, .inr (.inr (some a0))), (1, .inl v1), (2, .inr (.inr o2)), (3, .inl v3)]) (st' := [.inl q_14.1, .inl v_22, .inr (.inr (some a0))]) (by decide +kernel) rfl rfl ?_
      obtain ⟨b_26, h27, h⟩ := bd h
      obtain ⟨eh27, th27⟩ := g_o_some h27
      obtain ⟨q_24, h25, h⟩ := bd h
      refine xv_cvo E eh27 10 (as := [.inl v_22, .inl q_14.1]) (t101 G l (c_I_some h25)) cd101 mw581 mw582 mw583 (show decode prog_12_method_25_code 53 = .ok (.invokevirtual 302, 3) by decide +kernel) th27 rfl rfl (Nat.le_of_ble_eq_true rfl) ⟨Nat.le_of_ble_eq_true rfl, Nat.le_of_ble_eq_true rfl⟩ ?_
      by_cases q51 : q_24.1 = 0
      · rw [if_pos q51] at h
        refine xv_if_eq E 94 (show decode prog_12_method_25_code 56 = .ok (.ifCond .eq (38), 3) by decide +kernel) rfl (fun _ => ?_) (fun z => absurd q51 z)
        exact xv_w (sb108_94 E B a0 v1 o2 v3 q_24.2 h hN) rfl
      · rw [if_neg q51] at h
        refine xv_if_eq E 94 (show decode prog_12_method_25_code 56 = .ok (.ifCond .eq (38), 3) by decide +kernel) rfl (fun z => absurd z q51) (fun _ => ?_)
        refine xv_b E [.aload_n 2, .iload_n 3] (pc' := 61) (lv' := [(4, .inl q_14.1), (0, .inr (.inr (some a0))), (1, .inl v1), (2, .inr (.inr o2)), (3, .inl v3)]) (st' := [.inl v3, .inr (.inr o2)]) (by decide +kernel) rfl rfl ?_
        obtain ⟨b_30, h31, h⟩ := bd h
        obtain ⟨eh31, th31⟩ := g_o_some h31
        obtain ⟨q_28, h29, h⟩ := bd h
        refine xv_cvo E eh31 6 (as := [.inl v3]) (t99 G l (c_I_some h29)) cd99 mw575 mw576 mw577 (show decode prog_12_method_25_code 61 = .ok (.invokevirtual 293, 3) by decide +kernel) th31 rfl rfl (Nat.le_of_ble_eq_true rfl) ⟨Nat.le_of_ble_eq_true rfl, Nat.le_of_ble_eq_true rfl⟩ ?_
        refine xv_b E [.aload_n 0] (pc' := 65) (lv' := [(4, .inl q_14.1), (0, .inr (.inr (some a0))), (1, .inl v1), (2, .inr (.inr o2)), (3, .inl v3)]) (st' := [.inr (.inr (some a0)), .inl q_28.1]) (by decide +kernel) rfl rfl ?_
        obtain ⟨o_32, h33, h⟩ := bd h
        refine xg_r E 10 7 h33 mw66 (show decode prog_12_method_25_code 65 = .ok (.getfield 53, 3) by decide +kernel) ?_
        refine xv_b E [.iload 4] (pc' := 70) (lv' := [(4, .inl q_14.1), (0, .inr (.inr (some a0))), (1, .inl v1), (2, .inr (.inr o2)), (3, .inl v3)]) (st' := [.inl q_14.1, .inr (.inr o_32), .inl q_28.1]) (by decide +kernel) rfl rfl ?_
        obtain ⟨o_34, h35, h⟩ := bd h
        refine xa_r E 50 h35 (show decode prog_12_method_25_code 70 = .ok (.aaload, 1) by decide +kernel) ?_
        refine xv_b E [.iload_n 1] (pc' := 72) (lv' := [(4, .inl q_14.1), (0, .inr (.inr (some a0))), (1, .inl v1), (2, .inr (.inr o2)), (3, .inl v3)]) (st' := [.inl v1, .inr (.inr o_34), .inl q_28.1]) (by decide +kernel) rfl rfl ?_
        obtain ⟨v_36, h37, h⟩ := bd h
        refine xa_i E h37 (show decode prog_12_method_25_code 72 = .ok (.iaload, 1) by decide +kernel) ?_
        refine xv_b E [.iadd, .aload_n 0] (pc' := 75) (lv' := [(4, .inl q_14.1), (0, .inr (.inr (some a0))), (1, .inl v1), (2, .inr (.inr o2)), (3, .inl v3)]) (st' := [.inr (.inr (some a0)), .inl (q_28.1 + v_36)]) (by decide +kernel) rfl rfl ?_
        obtain ⟨o_38, h39, h⟩ := bd h
        refine xg_r E 10 7 h39 mw66 (show decode prog_12_method_25_code 75 = .ok (.getfield 53, 3) by decide +kernel) ?_
        refine xv_b E [.aload_n 0] (pc' := 79) (lv' := [(4, .inl q_14.1), (0, .inr (.inr (some a0))), (1, .inl v1), (2, .inr (.inr o2)), (3, .inl v3)]) (st' := [.inr (.inr (some a0)), .inr (.inr o_38), .inl (q_28.1 + v_36)]) (by decide +kernel) rfl rfl ?_
        obtain ⟨v_40, h41, h⟩ := bd h
        refine xg_i E 10 1 h41 mw61 (show decode prog_12_method_25_code 79 = .ok (.getfield 38, 3) by decide +kernel) ?_
        obtain ⟨o_42, h43, h⟩ := bd h
        refine xa_r E 50 h43 (show decode prog_12_method_25_code 82 = .ok (.aaload, 1) by decide +kernel) ?_
        refine xv_b E [.iload_n 1] (pc' := 84) (lv' := [(4, .inl q_14.1), (0, .inr (.inr (some a0))), (1, .inl v1), (2, .inr (.inr o2)), (3, .inl v3)]) (st' := [.inl v1, .inr (.inr o_42), .inl (q_28.1 + v_36)]) (by decide +kernel) rfl rfl ?_
        obtain ⟨v_44, h45, h⟩ := bd h
        refine xa_i E h45 (show decode prog_12_method_25_code 84 = .ok (.iaload, 1) by decide +kernel) ?_
        by_cases q50 : (q_28.1 + v_36) = v_44
        · rw [if_pos q50] at h
          refine xv_icmp_ne E 94 (show decode prog_12_method_25_code 85 = .ok (.if_icmp .ne (9), 3) by decide +kernel) rfl (fun z => absurd q50 z) (fun _ => ?_)
          refine xv_b E [.aload_n 2, .iload_n 3] (pc' := 90) (lv' := [(4, .inl q_14.1), (0, .inr (.inr (some a0))), (1, .inl v1), (2, .inr (.inr o2)), (3, .inl v3)]) (st' := [.inl v3, .inr (.inr o2)]) (by decide +kernel) rfl rfl ?_
          obtain ⟨b_48, h49, h⟩ := bd h
          obtain ⟨eh49, th49⟩ := g_o_some h49
          obtain ⟨q_46, h47, h⟩ := bd h
          refine xv_cvo E eh49 6 (as := [.inl v3]) (t107 G l (c_I_some h47)) cd107 mw593 mw594 mw595 (show decode prog_12_method_25_code 90 = .ok (.invokevirtual 305, 3) by decide +kernel) th49 rfl rfl (Nat.le_of_ble_eq_true rfl) ⟨Nat.le_of_ble_eq_true rfl, Nat.le_of_ble_eq_true rfl⟩ ?_
          obtain rfl := Option.some.inj h
          obtain ⟨rfl, rfl⟩ := Prod.mk.inj (show ((some (.inl q_46.1) : Option aV), q_46.2) = (r, M') from hN)
          exact xv_ri E B.1 rfl B.2.1 (show decode prog_12_method_25_code 93 = .ok (.ireturn, 1) by decide +kernel) rfl rfl
        · rw [if_neg q50] at h
          refine xv_icmp_ne E 94 (show decode prog_12_method_25_code 85 = .ok (.if_icmp .ne (9), 3) by decide +kernel) rfl (fun _ => ?_) (fun z => absurd z q50)
          exact xv_w (sb108_94 E B a0 v1 o2 v3 q_28.2 h hN) rfl
end
theorem t108 (G : gX) (l : Launch) {as : List aV} {M : hM} {r : Option aV} {M' : hM} (h : f108 as M = some (r, M')) : xM G l ym108 prog_12_method_25_code 5 (some FieldType.int) 2 as M r M' := by
  unfold f108 at h
  split at h
  · have hle : ∀ h as M res, k108 h as M = some res → h_sz M ≤ r_sz res ∧ h_sl M ≤ r_sl res := by
      intro h as M res hb
      unfold k108 at hb
      by_cases e0 : h = 21
      · rw [if_pos e0] at hb
        split at hb
        · exact lb108_21 G l _ _ _ _ M hb
        · cases hb
      · rw [if_neg e0] at hb
        cases hb
    obtain ⟨res, hx, hres⟩ := x_go_ok h
    refine xM_of (by decide) (Nat.le_of_ble_eq_true rfl) ?_ ?_
    · have e1 := lb108_0 G l _ _ _ M hx
      have e2 := x_go_le hle hres
      omega
    · intro p e s m args below meth c E B
      refine sb108_0 E B _ _ _ M hx (hres _ ?_)
      intro h as M res hb hN
      unfold k108 at hb
      unfold pg108
      by_cases e0 : h = 21
      · rw [if_pos e0] at hb ⊢
        split at hb
        · exact sb108_21 E B _ _ _ _ M hb hN
        · cases hb
      · rw [if_neg e0] at hb ⊢
        cases hb
  · cases h
/-! ZF.Switch.findWays()V -/
def ym109 : MethodName := ⟨"ZonedFabric$Switch", "findWays", "()V"⟩
theorem cd109 : xCd ym109 prog_12_method_20_code 3 none 0 := ⟨mw596, mw51, by decide, by decide, by decide +kernel⟩
def b109_0 (a0 : Nat) (M : hM) : Option xRes :=
  Option.bind (g_o M 10 (some a0)) fun b_3 =>
  Option.bind (c_V (f100 [.inr (.inr (some b_3))] M)) fun q_1 =>
  Option.bind (g_o q_1 10 (some a0)) fun b_7 =>
  Option.bind (c_V (f102 [.inr (.inr (some b_7))] q_1)) fun q_5 =>
  Option.bind (g_r q_5 10 4 (some a0)) fun o_9 =>
  Option.bind (g_i q_5 10 1 (some a0)) fun v_11 =>
  Option.bind (al_r q_5 36 o_9 v_11) fun o_13 =>
  some (.inr (20, [.inr (.inr (some a0)), .inr (.inr o_13), .inl (0 : Int32)], q_5))
def b109_52 (a0 : Nat) (o1 : Option Nat) (v2 : Int32) (si0 : Int32) (si1 : Int32) (sr2 : Option Nat) (M : hM) : Option xRes :=
  Option.bind (as_i M 20 sr2 si1 si0) fun M45 =>
  some (.inr (20, [.inr (.inr (some a0)), .inr (.inr o1), .inl (v2 + (1 : Int32))], M45))
def b109_87 (si0 : Int32) (sr1 : Option Nat) (M : hM) : Option xRes :=
  Option.bind (p_z M 10 10 sr1 si0) fun M47 =>
  some (.inl (none, M47))
def b109_86 (sr0 : Option Nat) (M : hM) : Option xRes :=
  b109_87 (0 : Int32) sr0 M
def b109_20 (a0 : Nat) (o1 : Option Nat) (v2 : Int32) (M : hM) : Option xRes :=
  Option.bind (g_r M 10 4 (some a0)) fun o_15 =>
  Option.bind (a_ln M 36 o_15) fun v_17 =>
  if v_17 ≤ v2 then
    (Option.bind (g_o M 10 (some a0)) fun b_21 =>
    Option.bind (c_V (f104 [.inr (.inr (some b_21))] M)) fun q_19 =>
    Option.bind (g_o q_19 6 o1) fun b_25 =>
    Option.bind (c_I (f105 [.inr (.inr (some b_25))] q_19)) fun q_23 =>
    if q_23.1 = 0 then
      (b109_86 a0 q_23.2)
    else
      (Option.bind (g_i q_23.2 10 1 (some a0)) fun v_27 =>
      Option.bind (g_o q_23.2 10 (some a0)) fun b_31 =>
      Option.bind (c_I (f106 [.inr (.inr (some b_31)), .inl v_27] q_23.2)) fun q_29 =>
      if q_29.1 = 0 then
        (b109_87 (1 : Int32) (some a0) q_29.2)
      else
        (b109_86 a0 q_29.2)))
  else
    (Option.bind (g_r M 10 8 (some a0)) fun o_35 =>
    Option.bind (g_i M 10 1 (some a0)) fun v_37 =>
    if v2 = v_37 then
      (b109_52 a0 o1 v2 (-1 : Int32) v2 o_35 M)
    else
      (Option.bind (g_o M 10 (some a0)) fun b_41 =>
      Option.bind (c_I (f108 [.inr (.inr (some b_41)), .inl v2, .inr (.inr o1)] M)) fun q_39 =>
      b109_52 a0 o1 v2 q_39.1 v2 o_35 q_39.2))
def k109 (h : Nat) (as : List aV) (M : hM) : Option xRes :=
  if h = 20 then (match as with | [.inr (.inr (some a0)), .inr (.inr o1), .inl v2] => b109_20 a0 o1 v2 M | _ => none) else
  none
def f109 (as : List aV) (M : hM) : xO := match as with
  | [.inr (.inr (some a0))] => x_go k109 (b109_0 a0 M)
  | _ => none
theorem lb109_0 (G : gX) (l : Launch) (a0 : Nat) (M : hM) {res : xRes} (h : b109_0 a0 M = some res) : h_sz M ≤ r_sz res ∧ h_sl M ≤ r_sl res := by
  unfold b109_0 at h
  obtain ⟨b_3, h4, h⟩ := bd h
  obtain ⟨q_1, h2, h⟩ := bd h
  have eh2 := (t100 G l (c_V_some h2)).1
  obtain ⟨b_7, h8, h⟩ := bd h
  obtain ⟨q_5, h6, h⟩ := bd h
  have eh6 := (t102 G l (c_V_some h6)).1
  obtain ⟨o_9, h10, h⟩ := bd h
  obtain ⟨v_11, h12, h⟩ := bd h
  obtain ⟨o_13, h14, h⟩ := bd h
  obtain rfl := Option.some.inj h
  show h_sz M ≤ h_sz q_5 ∧ h_sl M ≤ h_sl q_5
  omega
theorem lb109_52 (G : gX) (l : Launch) (a0 : Nat) (o1 : Option Nat) (v2 : Int32) (si0 : Int32) (si1 : Int32) (sr2 : Option Nat) (M : hM) {res : xRes} (h : b109_52 a0 o1 v2 si0 si1 sr2 M = some res) : h_sz M ≤ r_sz res ∧ h_sl M ≤ r_sl res := by
  unfold b109_52 at h
  obtain ⟨M45, h46, h⟩ := bd h
  have eh46 := as_i_sz h46
  obtain rfl := Option.some.inj h
  show h_sz M ≤ h_sz M45 ∧ h_sl M ≤ h_sl M45
  omega
theorem lb109_87 (G : gX) (l : Launch) (si0 : Int32) (sr1 : Option Nat) (M : hM) {res : xRes} (h : b109_87 si0 sr1 M = some res) : h_sz M ≤ r_sz res ∧ h_sl M ≤ r_sl res := by
  unfold b109_87 at h
  obtain ⟨M47, h48, h⟩ := bd h
  have eh48 := p_z_sz h48
  obtain rfl := Option.some.inj h
  show h_sz M ≤ h_sz M47 ∧ h_sl M ≤ h_sl M47
  omega
theorem lb109_86 (G : gX) (l : Launch) (sr0 : Option Nat) (M : hM) {res : xRes} (h : b109_86 sr0 M = some res) : h_sz M ≤ r_sz res ∧ h_sl M ≤ r_sl res := by
  unfold b109_86 at h
  have e := lb109_87 G l (0 : Int32) sr0 M h
  omega
theorem lb109_20 (G : gX) (l : Launch) (a0 : Nat) (o1 : Option Nat) (v2 : Int32) (M : hM) {res : xRes} (h : b109_20 a0 o1 v2 M = some res) : h_sz M ≤ r_sz res ∧ h_sl M ≤ r_sl res := by
  unfold b109_20 at h
  obtain ⟨o_15, h16, h⟩ := bd h
  obtain ⟨v_17, h18, h⟩ := bd h
  by_cases q44 : v_17 ≤ v2
  · rw [if_pos q44] at h
    obtain ⟨b_21, h22, h⟩ := bd h
    obtain ⟨q_19, h20, h⟩ := bd h
    have eh20 := (t104 G l (c_V_some h20)).1
    obtain ⟨b_25, h26, h⟩ := bd h
    obtain ⟨q_23, h24, h⟩ := bd h
    have eh24 := (t105 G l (c_I_some h24)).1
    by_cases q34 : q_23.1 = 0
    · rw [if_pos q34] at h
      have e := lb109_86 G l a0 q_23.2 h
      omega
    · rw [if_neg q34] at h
      obtain ⟨v_27, h28, h⟩ := bd h
      obtain ⟨b_31, h32, h⟩ := bd h
      obtain ⟨q_29, h30, h⟩ := bd h
      have eh30 := (t106 G l (c_I_some h30)).1
      by_cases q33 : q_29.1 = 0
      · rw [if_pos q33] at h
        have e := lb109_87 G l (1 : Int32) (some a0) q_29.2 h
        omega
      · rw [if_neg q33] at h
        have e := lb109_86 G l a0 q_29.2 h
        omega
  · rw [if_neg q44] at h
    obtain ⟨o_35, h36, h⟩ := bd h
    obtain ⟨v_37, h38, h⟩ := bd h
    by_cases q43 : v2 = v_37
    · rw [if_pos q43] at h
      have e := lb109_52 G l a0 o1 v2 (-1 : Int32) v2 o_35 M h
      omega
    · rw [if_neg q43] at h
      obtain ⟨b_41, h42, h⟩ := bd h
      obtain ⟨q_39, h40, h⟩ := bd h
      have eh40 := (t108 G l (c_I_some h40)).1
      have e := lb109_52 G l a0 o1 v2 q_39.1 v2 o_35 q_39.2 h
      omega
section
variable {p : Program} {l : Launch} {e : Env} {s : State} {m : MethodId} {args : Array Value} {below : List Frame} {meth : Method} {c : Code} {G : gX} {z0 y0 : Nat} {r : Option aV} {M' : hM}
def pg109 (p : Program) (l : Launch) (e : Env) (s : State) (m : MethodId) (args : Array Value) (below : List Frame) (meth : Method) (c : Code) (G : gX) (z0 y0 : Nat) (r : Option aV) (M' : hM) (h : Nat) (as : List aV) (M : hM) : Prop :=
  if h = 20 then (match as with | [.inr (.inr (some a0)), .inr (.inr o1), .inl v2] => xV G p l e (xRm 3 (h_sz M' - z0) (h_sl M' - y0)) s m args below meth c z0 y0 (h_sz M') (h_sl M') 3 (MQ below (xQc G r M') args s (h_sz M' - z0) (h_sl M' - y0) (xFr G)) 20 [(0, .inr (.inr (some a0))), (1, .inr (.inr o1)), (2, .inl v2)] [] M | _ => False) else
  False
theorem sb109_0 (E : xE G p (xRm 3 (h_sz M' - z0) (h_sl M' - y0)) s m args c prog_12_method_20_code "ZonedFabric$Switch" z0 y0 (h_sz M') (h_sl M') 3) (B : xB ym109 none meth) (a0 : Nat) (M : hM) {res : xRes} (h : b109_0 a0 M = some res) (hN : xN (pg109 p l e s m args below meth c G z0 y0 r M') r M' res) : xV G p l e (xRm 3 (h_sz M' - z0) (h_sl M' - y0)) s m args below meth c z0 y0 (h_sz M') (h_sl M') 3 (MQ below (xQc G r M') args s (h_sz M' - z0) (h_sl M' - y0) (xFr G)) 0 [(0, .inr (.inr (some a0)))] [] M := by
  unfold b109_0 at h
  refine xv_b E [.aload_n 0] (pc' := 1) (lv' := [(0, .inr (.inr (some a0)))]) (st' := [.inr (.inr (some a0))]) (by decide +kernel) rfl rfl ?_
  obtain ⟨b_3, h4, h⟩ := bd h
  obtain ⟨eh4, th4⟩ := g_o_some h4
  obtain ⟨q_1, h2, h⟩ := bd h
  refine xv_cvo E eh4 10 (as := []) (t100 G l (c_V_some h2)) cd100 mw597 mw598 mw599 (show decode prog_12_method_20_code 1 = .ok (.invokevirtual 273, 3) by decide +kernel) th4 rfl rfl (Nat.le_of_ble_eq_true rfl) ⟨Nat.le_of_ble_eq_true rfl, Nat.le_of_ble_eq_true rfl⟩ ?_
  refine xv_b E [.aload_n 0] (pc' := 5) (lv' := [(0, .inr (.inr (some a0)))]) (st' := [.inr (.inr (some a0))]) (by decide +kernel) rfl rfl ?_
  obtain ⟨b_7, h8, h⟩ := bd h
  obtain ⟨eh8, th8⟩ := g_o_some h8
  obtain ⟨q_5, h6, h⟩ := bd h
  refine xv_cvo E eh8 10 (as := []) (t102 G l (c_V_some h6)) cd102 mw600 mw601 mw602 (show decode prog_12_method_20_code 5 = .ok (.invokevirtual 276, 3) by decide +kernel) th8 rfl rfl (Nat.le_of_ble_eq_true rfl) ⟨Nat.le_of_ble_eq_true rfl, Nat.le_of_ble_eq_true rfl⟩ ?_
  refine xv_b E [.aload_n 0] (pc' := 9) (lv' := [(0, .inr (.inr (some a0)))]) (st' := [.inr (.inr (some a0))]) (by decide +kernel) rfl rfl ?_
  obtain ⟨o_9, h10, h⟩ := bd h
  refine xg_r E 10 4 h10 mw63 (show decode prog_12_method_20_code 9 = .ok (.getfield 44, 3) by decide +kernel) ?_
  refine xv_b E [.aload_n 0] (pc' := 13) (lv' := [(0, .inr (.inr (some a0)))]) (st' := [.inr (.inr (some a0)), .inr (.inr o_9)]) (by decide +kernel) rfl rfl ?_
  obtain ⟨v_11, h12, h⟩ := bd h
  refine xg_i E 10 1 h12 mw61 (show decode prog_12_method_20_code 13 = .ok (.getfield 38, 3) by decide +kernel) ?_
  obtain ⟨o_13, h14, h⟩ := bd h
  refine xa_r E 36 h14 (show decode prog_12_method_20_code 16 = .ok (.aaload, 1) by decide +kernel) ?_
  refine xv_b E [.astore_n 1, .iconst 0, .istore_n 2] (pc' := 20) (lv' := [(2, .inl (0 : Int32)), (1, .inr (.inr o_13)), (0, .inr (.inr (some a0)))]) (st' := []) (by decide +kernel) rfl rfl ?_
  obtain rfl := Option.some.inj h
  exact xv_w hN rfl
theorem sb109_52 (E : xE G p (xRm 3 (h_sz M' - z0) (h_sl M' - y0)) s m args c prog_12_method_20_code "ZonedFabric$Switch" z0 y0 (h_sz M') (h_sl M') 3) (B : xB ym109 none meth) (a0 : Nat) (o1 : Option Nat) (v2 : Int32) (si0 : Int32) (si1 : Int32) (sr2 : Option Nat) (M : hM) {res : xRes} (h : b109_52 a0 o1 v2 si0 si1 sr2 M = some res) (hN : xN (pg109 p l e s m args below meth c G z0 y0 r M') r M' res) : xV G p l e (xRm 3 (h_sz M' - z0) (h_sl M' - y0)) s m args below meth c z0 y0 (h_sz M') (h_sl M') 3 (MQ below (xQc G r M') args s (h_sz M' - z0) (h_sl M' - y0) (xFr G)) 52 [(0, .inr (.inr (some a0))), (1, .inr (.inr o1)), (2, .inl v2)] [.inl si0, .inl si1, .inr (.inr sr2)] M := by
  unfold b109_52 at h
  obtain ⟨M45, h46, h⟩ := bd h
  refine xs_i E h46 (show decode prog_12_method_20_code 52 = .ok (.iastore, 1) by decide +kernel) ?_
  refine xv_b E [.iinc 2 1] (pc' := 56) (lv' := [(2, .inl (v2 + (1 : Int32))), (0, .inr (.inr (some a0))), (1, .inr (.inr o1))]) (st' := []) (by decide +kernel) rfl rfl ?_
  refine xv_goto E 20 (show decode prog_12_method_20_code 56 = .ok (.goto (-36), 3) by decide +kernel) rfl ?_
  obtain rfl := Option.some.inj h
  exact xv_w hN rfl
theorem sb109_87 (E : xE G p (xRm 3 (h_sz M' - z0) (h_sl M' - y0)) s m args c prog_12_method_20_code "ZonedFabric$Switch" z0 y0 (h_sz M') (h_sl M') 3) (B : xB ym109 none meth) (si0 : Int32) (sr1 : Option Nat) (M : hM) {res : xRes} (h : b109_87 si0 sr1 M = some res) (hN : xN (pg109 p l e s m args below meth c G z0 y0 r M') r M' res) : xV G p l e (xRm 3 (h_sz M' - z0) (h_sl M' - y0)) s m args below meth c z0 y0 (h_sz M') (h_sl M') 3 (MQ below (xQc G r M') args s (h_sz M' - z0) (h_sl M' - y0) (xFr G)) 87 [] [.inl si0, .inr (.inr sr1)] M := by
  unfold b109_87 at h
  obtain ⟨M47, h48, h⟩ := bd h
  refine xp_z E 10 10 h48 mw555 (show decode prog_12_method_20_code 87 = .ok (.putfield 87, 3) by decide +kernel) (Or.inl rfl) ?_
  obtain rfl := Option.some.inj h
  obtain ⟨rfl, rfl⟩ := Prod.mk.inj (show ((none : Option aV), M47) = (r, M') from hN)
  exact xv_rv E B.1 B.2.1 (show decode prog_12_method_20_code 90 = .ok (.return_, 1) by decide +kernel) rfl rfl
theorem sb109_86 (E : xE G p (xRm 3 (h_sz M' - z0) (h_sl M' - y0)) s m args c prog_12_method_20_code "ZonedFabric$Switch" z0 y0 (h_sz M') (h_sl M') 3) (B : xB ym109 none meth) (sr0 : Option Nat) (M : hM) {res : xRes} (h : b109_86 sr0 M = some res) (hN : xN (pg109 p l e s m args below meth c G z0 y0 r M') r M' res) : xV G p l e (xRm 3 (h_sz M' - z0) (h_sl M' - y0)) s m args below meth c z0 y0 (h_sz M') (h_sl M') 3 (MQ below (xQc G r M') args s (h_sz M' - z0) (h_sl M' - y0) (xFr G)) 86 [] [.inr (.inr sr0)] M := by
  unfold b109_86 at h
  refine xv_b E [.iconst 0] (pc' := 87) (lv' := []) (st' := [.inl (0 : Int32), .inr (.inr sr0)]) (by decide +kernel) rfl rfl ?_
  exact xv_w (sb109_87 E B (0 : Int32) sr0 M h hN) rfl
theorem sb109_20 (E : xE G p (xRm 3 (h_sz M' - z0) (h_sl M' - y0)) s m args c prog_12_method_20_code "ZonedFabric$Switch" z0 y0 (h_sz M') (h_sl M') 3) (B : xB ym109 none meth) (a0 : Nat) (o1 : Option Nat) (v2 : Int32) (M : hM) {res : xRes} (h : b109_20 a0 o1 v2 M = some res) (hN : xN (pg109 p l e s m args below meth c G z0 y0 r M') r M' res) : xV G p l e (xRm 3 (h_sz M' - z0) (h_sl M' - y0)) s m args below meth c z0 y0 (h_sz M') (h_sl M') 3 (MQ below (xQc G r M') args s (h_sz M' - z0) (h_sl M' - y0) (xFr G)) 20 [(0, .inr (.inr (some a0))), (1, .inr (.inr o1)), (2, .inl v2)] [] M := by
  unfold b109_20 at h
  refine xv_b E [.iload_n 2, .aload_n 0] (pc' := 22) (lv' := [(0, .inr (.inr (some a0))), (1, .inr (.inr o1)), (2, .inl v2)]) (st' := [.inr (.inr (some a0)), .inl v2]) (by decide +kernel) rfl rfl ?_
  obtain ⟨o_15, h16, h⟩ := bd h
  refine xg_r E 10 4 h16 mw63 (show decode prog_12_method_20_code 22 = .ok (.getfield 44, 3) by decide +kernel) ?_
  obtain ⟨v_17, h18, h⟩ := bd h
  refine xa_n E 36 h18 (show decode prog_12_method_20_code 25 = .ok (.arraylength, 1) by decide +kernel) ?_
  by_cases q44 : v_17 ≤ v2
  · rw [if_pos q44] at h
    refine xv_icmp_ge E 59 (show decode prog_12_method_20_code 26 = .ok (.if_icmp .ge (33), 3) by decide +kernel) rfl (fun _ => ?_) (fun z => absurd q44 z)
    refine xv_b E [.aload_n 0] (pc' := 60) (lv' := [(0, .inr (.inr (some a0))), (1, .inr (.inr o1)), (2, .inl v2)]) (st' := [.inr (.inr (some a0))]) (by decide +kernel) rfl rfl ?_
    obtain ⟨b_21, h22, h⟩ := bd h
    obtain ⟨eh22, th22⟩ := g_o_some h22
    obtain ⟨q_19, h20, h⟩ := bd h
    refine xv_cvo E eh22 10 (as := []) (t104 G l (c_V_some h20)) cd104 mw603 mw604 mw605 (show decode prog_12_method_20_code 60 = .ok (.invokevirtual 283, 3) by decide +kernel) th22 rfl rfl (Nat.le_of_ble_eq_true rfl) ⟨Nat.le_of_ble_eq_true rfl, Nat.le_of_ble_eq_true rfl⟩ ?_
    refine xv_b E [.aload_n 0, .aload_n 1] (pc' := 65) (lv' := [(0, .inr (.inr (some a0))), (1, .inr (.inr o1)), (2, .inl v2)]) (st' := [.inr (.inr o1), .inr (.inr (some a0))]) (by decide +kernel) rfl rfl ?_
    obtain ⟨b_25, h26, h⟩ := bd h
    obtain ⟨eh26, th26⟩ := g_o_some h26
    obtain ⟨q_23, h24, h⟩ := bd h
    refine xv_cvo E eh26 6 (as := []) (t105 G l (c_I_some h24)) cd105 mw606 mw607 mw608 (show decode prog_12_method_20_code 65 = .ok (.invokevirtual 99, 3) by decide +kernel) th26 rfl rfl (Nat.le_of_ble_eq_true rfl) ⟨Nat.le_of_ble_eq_true rfl, Nat.le_of_ble_eq_true rfl⟩ ?_
    by_cases q34 : q_23.1 = 0
    · rw [if_pos q34] at h
      refine xv_if_eq E 86 (show decode prog_12_method_20_code 68 = .ok (.ifCond .eq (18), 3) by decide +kernel) rfl (fun _ => ?_) (fun z => absurd q34 z)
      exact xv_w (sb109_86 E B a0 q_23.2 h hN) rfl
    · rw [if_neg q34] at h
      refine xv_if_eq E 86 (show decode prog_12_method_20_code 68 = .ok (.ifCond .eq (18), 3) by decide +kernel) rfl (fun z => absurd z q34) (fun _ => ?_)
      refine xv_b E [.aload_n 0, .aload_n 0] (pc' := 73) (lv' := [(0, .inr (.inr (some a0))), (1, .inr (.inr o1)), (2, .inl v2)]) (st' := [.inr (.inr (some a0)), .inr (.inr (some a0)), .inr (.inr (some a0))]) (by decide +kernel) rfl rfl ?_
      obtain ⟨v_27, h28, h⟩ := bd h
      refine xg_i E 10 1 h28 mw61 (show decode prog_12_method_20_code 73 = .ok (.getfield 38, 3) by decide +kernel) ?_
      obtain ⟨b_31, h32, h⟩ := bd h
      obtain ⟨eh32, th32⟩ := g_o_some h32
      obtain ⟨q_29, h30, h⟩ := bd h
      refine xv_cvo E eh32 10 (as := [.inl v_27]) (t106 G l (c_I_some h30)) cd106 mw609 mw610 mw611 (show decode prog_12_method_20_code 76 = .ok (.invokevirtual 263, 3) by decide +kernel) th32 rfl rfl (Nat.le_of_ble_eq_true rfl) ⟨Nat.le_of_ble_eq_true rfl, Nat.le_of_ble_eq_true rfl⟩ ?_
      by_cases q33 : q_29.1 = 0
      · rw [if_pos q33] at h
        refine xv_if_ne E 86 (show decode prog_12_method_20_code 79 = .ok (.ifCond .ne (7), 3) by decide +kernel) rfl (fun z => absurd q33 z) (fun _ => ?_)
        refine xv_b E [.iconst 1] (pc' := 83) (lv' := [(0, .inr (.inr (some a0))), (1, .inr (.inr o1)), (2, .inl v2)]) (st' := [.inl (1 : Int32), .inr (.inr (some a0))]) (by decide +kernel) rfl rfl ?_
        refine xv_goto E 87 (show decode prog_12_method_20_code 83 = .ok (.goto (4), 3) by decide +kernel) rfl ?_
        exact xv_w (sb109_87 E B (1 : Int32) (some a0) q_29.2 h hN) rfl
      · rw [if_neg q33] at h
        refine xv_if_ne E 86 (show decode prog_12_method_20_code 79 = .ok (.ifCond .ne (7), 3) by decide +kernel) rfl (fun _ => ?_) (fun z => absurd z q33)
        exact xv_w (sb109_86 E B a0 q_29.2 h hN) rfl
  · rw [if_neg q44] at h
    refine xv_icmp_ge E 59 (show decode prog_12_method_20_code 26 = .ok (.if_icmp .ge (33), 3) by decide +kernel) rfl (fun z => absurd z q44) (fun _ => ?_)
    refine xv_b E [.aload_n 0] (pc' := 30) (lv' := [(0, .inr (.inr (some a0))), (1, .inr (.inr o1)), (2, .inl v2)]) (st' := [.inr (.inr (some a0))]) (by decide +kernel) rfl rfl ?_
    obtain ⟨o_35, h36, h⟩ := bd h
    refine xg_r E 10 8 h36 mw67 (show decode prog_12_method_20_code 30 = .ok (.getfield 56, 3) by decide +kernel) ?_
    refine xv_b E [.iload_n 2, .iload_n 2, .aload_n 0] (pc' := 36) (lv' := [(0, .inr (.inr (some a0))), (1, .inr (.inr o1)), (2, .inl v2)]) (st' := [.inr (.inr (some a0)), .inl v2, .inl v2, .inr (.inr o_35)]) (by decide +kernel) rfl rfl ?_
    obtain ⟨v_37, h38, h⟩ := bd h
    refine xg_i E 10 1 h38 mw61 (show decode prog_12_method_20_code 36 = .ok (.getfield 38, 3) by decide +kernel) ?_
    by_cases q43 : v2 = v_37
    · rw [if_pos q43] at h
      refine xv_icmp_ne E 46 (show decode prog_12_method_20_code 39 = .ok (.if_icmp .ne (7), 3) by decide +kernel) rfl (fun z => absurd q43 z) (fun _ => ?_)
      refine xv_b E [.iconst (-1)] (pc' := 43) (lv' := [(0, .inr (.inr (some a0))), (1, .inr (.inr o1)), (2, .inl v2)]) (st' := [.inl (-1 : Int32), .inl v2, .inr (.inr o_35)]) (by decide +kernel) rfl rfl ?_
      refine xv_goto E 52 (show decode prog_12_method_20_code 43 = .ok (.goto (9), 3) by decide +kernel) rfl ?_
      exact xv_w (sb109_52 E B a0 o1 v2 (-1 : Int32) v2 o_35 M h hN) rfl
    · rw [if_neg q43] at h
      refine xv_icmp_ne E 46 (show decode prog_12_method_20_code 39 = .ok (.if_icmp .ne (7), 3) by decide +kernel) rfl (fun _ => ?_) (fun z => absurd z q43)
      refine xv_b E [.aload_n 0, .iload_n 2, .aload_n 1] (pc' := 49) (lv' := [(0, .inr (.inr (some a0))), (1, .inr (.inr o1)), (2, .inl v2)]) (st' := [.inr (.inr o1), .inl v2, .inr (.inr (some a0)), .inl v2, .inr (.inr o_35)]) (by decide +kernel) rfl rfl ?_
      obtain ⟨b_41, h42, h⟩ := bd h
      obtain ⟨eh42, th42⟩ := g_o_some h42
      obtain ⟨q_39, h40, h⟩ := bd h
      refine xv_cvo E eh42 10 (as := [.inl v2, .inr (.inr o1)]) (t108 G l (c_I_some h40)) cd108 mw612 mw613 mw614 (show decode prog_12_method_20_code 49 = .ok (.invokevirtual 279, 3) by decide +kernel) th42 rfl rfl (Nat.le_of_ble_eq_true rfl) ⟨Nat.le_of_ble_eq_true rfl, Nat.le_of_ble_eq_true rfl⟩ ?_
      exact xv_w (sb109_52 E B a0 o1 v2 q_39.1 v2 o_35 q_39.2 h hN) rfl
end
theorem t109 (G : gX) (l : Launch) {as : List aV} {M : hM} {r : Option aV} {M' : hM} (h : f109 as M = some (r, M')) : xM G l ym109 prog_12_method_20_code 3 none 3 as M r M' := by
  unfold f109 at h
  split at h
  · have hle : ∀ h as M res, k109 h as M = some res → h_sz M ≤ r_sz res ∧ h_sl M ≤ r_sl res := by
      intro h as M res hb
      unfold k109 at hb
      by_cases e0 : h = 20
      · rw [if_pos e0] at hb
        split at hb
        · exact lb109_20 G l _ _ _ M hb
        · cases hb
      · rw [if_neg e0] at hb
        cases hb
    obtain ⟨res, hx, hres⟩ := x_go_ok h
    refine xM_of (by decide) (Nat.le_of_ble_eq_true rfl) ?_ ?_
    · have e1 := lb109_0 G l _ M hx
      have e2 := x_go_le hle hres
      omega
    · intro p e s m args below meth c E B
      refine sb109_0 E B _ M hx (hres _ ?_)
      intro h as M res hb hN
      unfold k109 at hb
      unfold pg109
      by_cases e0 : h = 20
      · rw [if_pos e0] at hb ⊢
        split at hb
        · exact sb109_20 E B _ _ _ M hb hN
        · cases hb
      · rw [if_neg e0] at hb ⊢
        cases hb
  · cases h
/-! ZF.Notice.clear()V -/
def ym110 : MethodName := ⟨"ZonedFabric$Notice", "clear", "()V"⟩
theorem cd110 : xCd ym110 prog_8_method_3_code 1 none 0 := ⟨mw615, mw46, by decide, by decide, by decide +kernel⟩
def b110_0 (a0 : Nat) (M : hM) : Option xRes :=
  Option.bind (p_i M 6 1 (some a0) (0 : Int32)) fun M1 =>
  some (.inl (none, M1))
def f110 (as : List aV) (M : hM) : xO := match as with
  | [.inr (.inr (some a0))] => x_out (b110_0 a0 M)
  | _ => none
theorem lb110_0 (G : gX) (l : Launch) (a0 : Nat) (M : hM) {res : xRes} (h : b110_0 a0 M = some res) : h_sz M ≤ r_sz res ∧ h_sl M ≤ r_sl res := by
  unfold b110_0 at h
  obtain ⟨M1, h2, h⟩ := bd h
  have eh2 := p_i_sz h2
  obtain rfl := Option.some.inj h
  show h_sz M ≤ h_sz M1 ∧ h_sl M ≤ h_sl M1
  omega
section
variable {p : Program} {l : Launch} {e : Env} {s : State} {m : MethodId} {args : Array Value} {below : List Frame} {meth : Method} {c : Code} {G : gX} {z0 y0 : Nat} {r : Option aV} {M' : hM}
theorem sb110_0 (E : xE G p (xRm 0 (h_sz M' - z0) (h_sl M' - y0)) s m args c prog_8_method_3_code "ZonedFabric$Notice" z0 y0 (h_sz M') (h_sl M') 1) (B : xB ym110 none meth) (a0 : Nat) (M : hM) {res : xRes} (h : b110_0 a0 M = some res) (hN : xN (fun _ _ _ => False) r M' res) : xV G p l e (xRm 0 (h_sz M' - z0) (h_sl M' - y0)) s m args below meth c z0 y0 (h_sz M') (h_sl M') 1 (MQ below (xQc G r M') args s (h_sz M' - z0) (h_sl M' - y0) (xFr G)) 0 [(0, .inr (.inr (some a0)))] [] M := by
  unfold b110_0 at h
  refine xv_b E [.aload_n 0, .iconst 0] (pc' := 2) (lv' := [(0, .inr (.inr (some a0)))]) (st' := [.inl (0 : Int32), .inr (.inr (some a0))]) (by decide +kernel) rfl rfl ?_
  obtain ⟨M1, h2, h⟩ := bd h
  refine xp_i E 6 1 h2 mw560 (show decode prog_8_method_3_code 2 = .ok (.putfield 15, 3) by decide +kernel) (Or.inl rfl) ?_
  obtain rfl := Option.some.inj h
  obtain ⟨rfl, rfl⟩ := Prod.mk.inj (show ((none : Option aV), M1) = (r, M') from hN)
  exact xv_rv E B.1 B.2.1 (show decode prog_8_method_3_code 5 = .ok (.return_, 1) by decide +kernel) rfl rfl
end
theorem t110 (G : gX) (l : Launch) {as : List aV} {M : hM} {r : Option aV} {M' : hM} (h : f110 as M = some (r, M')) : xM G l ym110 prog_8_method_3_code 1 none 0 as M r M' := by
  unfold f110 at h
  split at h
  · have h := x_out_ok h
    refine xM_of (by decide) (Nat.le_of_ble_eq_true rfl) (lb110_0 G l _ M h) ?_
    intro p e s m args below meth c E B
    exact sb110_0 E B _ M h rfl
  · cases h
/-! ZF.Switch.forgetOldRecords()V -/
def ym111 : MethodName := ⟨"ZonedFabric$Switch", "forgetOldRecords", "()V"⟩
theorem cd111 : xCd ym111 prog_12_method_4_code 4 none 0 := ⟨mw616, mw51, by decide, by decide, by decide +kernel⟩
def b111_0 (a0 : Nat) (M : hM) : Option xRes :=
  some (.inr (4, [.inr (.inr (some a0)), .inl (0 : Int32), .inl (0 : Int32)], M))
def b111_51 (a0 : Nat) (v1 : Int32) (v2 : Int32) (M : hM) : Option xRes :=
  some (.inr (4, [.inr (.inr (some a0)), .inl v1, .inl (v2 + (1 : Int32))], M))
def b111_65  (M : hM) : Option xRes :=
  some (.inl (none, M))
def b111_4 (a0 : Nat) (v1 : Int32) (v2 : Int32) (M : hM) : Option xRes :=
  Option.bind (g_r M 10 4 (some a0)) fun o_1 =>
  Option.bind (a_ln M 36 o_1) fun v_3 =>
  if v_3 ≤ v2 then
    (if v1 = 0 then
      (b111_65  M)
    else
      (Option.bind (g_o M 10 (some a0)) fun b_7 =>
      Option.bind (c_V (f109 [.inr (.inr (some b_7))] M)) fun q_5 =>
      b111_65  q_5))
  else
    (Option.bind (g_r M 10 4 (some a0)) fun o_10 =>
    Option.bind (al_r M 36 o_10 v2) fun o_12 =>
    Option.bind (g_o M 6 o_12) fun b_16 =>
    Option.bind (c_I (f105 [.inr (.inr (some b_16))] M)) fun q_14 =>
    if q_14.1 = 0 then
      (b111_51 a0 v1 v2 q_14.2)
    else
      (Option.bind (g_r q_14.2 10 0 (some a0)) fun o_18 =>
      Option.bind (g_i q_14.2 9 3 o_18) fun v_20 =>
      Option.bind (g_i q_14.2 6 2 o_12) fun v_22 =>
      if (v_20 - v_22) < (150 : Int32) then
        (b111_51 a0 v1 v2 q_14.2)
      else
        (Option.bind (g_o q_14.2 6 o_12) fun b_26 =>
        Option.bind (c_V (f110 [.inr (.inr (some b_26))] q_14.2)) fun q_24 =>
        b111_51 a0 (1 : Int32) v2 q_24)))
def k111 (h : Nat) (as : List aV) (M : hM) : Option xRes :=
  if h = 4 then (match as with | [.inr (.inr (some a0)), .inl v1, .inl v2] => b111_4 a0 v1 v2 M | _ => none) else
  none
def f111 (as : List aV) (M : hM) : xO := match as with
  | [.inr (.inr (some a0))] => x_go k111 (b111_0 a0 M)
  | _ => none
theorem lb111_0 (G : gX) (l : Launch) (a0 : Nat) (M : hM) {res : xRes} (h : b111_0 a0 M = some res) : h_sz M ≤ r_sz res ∧ h_sl M ≤ r_sl res := by
  unfold b111_0 at h
  obtain rfl := Option.some.inj h
  show h_sz M ≤ h_sz M ∧ h_sl M ≤ h_sl M
  omega
theorem lb111_51 (G : gX) (l : Launch) (a0 : Nat) (v1 : Int32) (v2 : Int32) (M : hM) {res : xRes} (h : b111_51 a0 v1 v2 M = some res) : h_sz M ≤ r_sz res ∧ h_sl M ≤ r_sl res := by
  unfold b111_51 at h
  obtain rfl := Option.some.inj h
  show h_sz M ≤ h_sz M ∧ h_sl M ≤ h_sl M
  omega
theorem lb111_65 (G : gX) (l : Launch)  (M : hM) {res : xRes} (h : b111_65  M = some res) : h_sz M ≤ r_sz res ∧ h_sl M ≤ r_sl res := by
  unfold b111_65 at h
  obtain rfl := Option.some.inj h
  show h_sz M ≤ h_sz M ∧ h_sl M ≤ h_sl M
  omega
theorem lb111_4 (G : gX) (l : Launch) (a0 : Nat) (v1 : Int32) (v2 : Int32) (M : hM) {res : xRes} (h : b111_4 a0 v1 v2 M = some res) : h_sz M ≤ r_sz res ∧ h_sl M ≤ r_sl res := by
  unfold b111_4 at h
  obtain ⟨o_1, h2, h⟩ := bd h
  obtain ⟨v_3, h4, h⟩ := bd h
  by_cases q30 : v_3 ≤ v2
  · rw [if_pos q30] at h
    by_cases q9 : v1 = 0
    · rw [if_pos q9] at h
      have e := lb111_65 G l  M h
      omega
    · rw [if_neg q9] at h
      obtain ⟨b_7, h8, h⟩ := bd h
      obtain ⟨q_5, h6, h⟩ := bd h
      have eh6 := (t109 G l (c_V_some h6)).1
      have e := lb111_65 G l  q_5 h
      omega
  · rw [if_neg q30] at h
    obtain ⟨o_10, h11, h⟩ := bd h
    obtain ⟨o_12, h13, h⟩ := bd h
    obtain ⟨b_16, h17, h⟩ := bd h
    obtain ⟨q_14, h15, h⟩ := bd h
    have eh15 := (t105 G l (c_I_some h15)).1
    by_cases q29 : q_14.1 = 0
    · rw [if_pos q29] at h
      have e := lb111_51 G l a0 v1 v2 q_14.2 h
      omega
    · rw [if_neg q29] at h
      obtain ⟨o_18, h19, h⟩ := bd h
      obtain ⟨v_20, h21, h⟩ := bd h
      obtain ⟨v_22, h23, h⟩ := bd h
      by_cases q28 : (v_20 - v_22) < (150 : Int32)
      · rw [if_pos q28] at h
        have e := lb111_51 G l a0 v1 v2 q_14.2 h
        omega
      · rw [if_neg q28] at h
        obtain ⟨b_26, h27, h⟩ := bd h
        obtain ⟨q_24, h25, h⟩ := bd h
        have eh25 := (t110 G l (c_V_some h25)).1
        have e := lb111_51 G l a0 (1 : Int32) v2 q_24 h
        omega
section
variable {p : Program} {l : Launch} {e : Env} {s : State} {m : MethodId} {args : Array Value} {below : List Frame} {meth : Method} {c : Code} {G : gX} {z0 y0 : Nat} {r : Option aV} {M' : hM}
def pg111 (p : Program) (l : Launch) (e : Env) (s : State) (m : MethodId) (args : Array Value) (below : List Frame) (meth : Method) (c : Code) (G : gX) (z0 y0 : Nat) (r : Option aV) (M' : hM) (h : Nat) (as : List aV) (M : hM) : Prop :=
  if h = 4 then (match as with | [.inr (.inr (some a0)), .inl v1, .inl v2] => xV G p l e (xRm 4 (h_sz M' - z0) (h_sl M' - y0)) s m args below meth c z0 y0 (h_sz M') (h_sl M') 4 (MQ below (xQc G r M') args s (h_sz M' - z0) (h_sl M' - y0) (xFr G)) 4 [(0, .inr (.inr (some a0))), (1, .inl v1), (2, .inl v2)] [] M | _ => False) else
  False
theorem sb111_0 (E : xE G p (xRm 4 (h_sz M' - z0) (h_sl M' - y0)) s m args c prog_12_method_4_code "ZonedFabric$Switch" z0 y0 (h_sz M') (h_sl M') 4) (B : xB ym111 none meth) (a0 : Nat) (M : hM) {res : xRes} (h : b111_0 a0 M = some res) (hN : xN (pg111 p l e s m args below meth c G z0 y0 r M') r M' res) : xV G p l e (xRm 4 (h_sz M' - z0) (h_sl M' - y0)) s m args below meth c z0 y0 (h_sz M') (h_sl M') 4 (MQ below (xQc G r M') args s (h_sz M' - z0) (h_sl M' - y0) (xFr G)) 0 [(0, .inr (.inr (some a0)))] [] M := by
  unfold b111_0 at h
  refine xv_b E [.iconst 0, .istore_n 1, .iconst 0, .istore_n 2] (pc' := 4) (lv' := [(2, .inl (0 : Int32)), (1, .inl (0 : Int32)), (0, .inr (.inr (some a0)))]) (st' := []) (by decide +kernel) rfl rfl ?_
  obtain rfl := Option.some.inj h
  exact xv_w hN rfl
theorem sb111_51 (E : xE G p (xRm 4 (h_sz M' - z0) (h_sl M' - y0)) s m args c prog_12_method_4_code "ZonedFabric$Switch" z0 y0 (h_sz M') (h_sl M') 4) (B : xB ym111 none meth) (a0 : Nat) (v1 : Int32) (v2 : Int32) (M : hM) {res : xRes} (h : b111_51 a0 v1 v2 M = some res) (hN : xN (pg111 p l e s m args below meth c G z0 y0 r M') r M' res) : xV G p l e (xRm 4 (h_sz M' - z0) (h_sl M' - y0)) s m args below meth c z0 y0 (h_sz M') (h_sl M') 4 (MQ below (xQc G r M') args s (h_sz M' - z0) (h_sl M' - y0) (xFr G)) 51 [(0, .inr (.inr (some a0))), (1, .inl v1), (2, .inl v2)] [] M := by
  unfold b111_51 at h
  refine xv_b E [.iinc 2 1] (pc' := 54) (lv' := [(2, .inl (v2 + (1 : Int32))), (0, .inr (.inr (some a0))), (1, .inl v1)]) (st' := []) (by decide +kernel) rfl rfl ?_
  refine xv_goto E 4 (show decode prog_12_method_4_code 54 = .ok (.goto (-50), 3) by decide +kernel) rfl ?_
  obtain rfl := Option.some.inj h
  exact xv_w hN rfl
theorem sb111_65 (E : xE G p (xRm 4 (h_sz M' - z0) (h_sl M' - y0)) s m args c prog_12_method_4_code "ZonedFabric$Switch" z0 y0 (h_sz M') (h_sl M') 4) (B : xB ym111 none meth)  (M : hM) {res : xRes} (h : b111_65  M = some res) (hN : xN (pg111 p l e s m args below meth c G z0 y0 r M') r M' res) : xV G p l e (xRm 4 (h_sz M' - z0) (h_sl M' - y0)) s m args below meth c z0 y0 (h_sz M') (h_sl M') 4 (MQ below (xQc G r M') args s (h_sz M' - z0) (h_sl M' - y0) (xFr G)) 65 [] [] M := by
  unfold b111_65 at h
  obtain rfl := Option.some.inj h
  obtain ⟨rfl, rfl⟩ := Prod.mk.inj (show ((none : Option aV), M) = (r, M') from hN)
  exact xv_rv E B.1 B.2.1 (show decode prog_12_method_4_code 65 = .ok (.return_, 1) by decide +kernel) rfl rfl
theorem sb111_4 (E : xE G p (xRm 4 (h_sz M' - z0) (h_sl M' - y0)) s m args c prog_12_method_4_code "ZonedFabric$Switch" z0 y0 (h_sz M') (h_sl M') 4) (B : xB ym111 none meth) (a0 : Nat) (v1 : Int32) (v2 : Int32) (M : hM) {res : xRes} (h : b111_4 a0 v1 v2 M = some res) (hN : xN (pg111 p l e s m args below meth c G z0 y0 r M') r M' res) : xV G p l e (xRm 4 (h_sz M' - z0) (h_sl M' - y0)) s m args below meth c z0 y0 (h_sz M') (h_sl M') 4 (MQ below (xQc G r M') args s (h_sz M' - z0) (h_sl M' - y0) (xFr G)) 4 [(0, .inr (.inr (some a0))), (1, .inl v1), (2, .inl v2)] [] M := by
  unfold b111_4 at h
  refine xv_b E [.iload_n 2, .aload_n 0] (pc' := 6) (lv' := [(0, .inr (.inr (some a0))), (1, .inl v1), (2, .inl v2)]) (st' := [.inr (.inr (some a0)), .inl v2]) (by decide +kernel) rfl rfl ?_
  obtain ⟨o_1, h2, h⟩ := bd h
  refine xg_r E 10 4 h2 mw63 (show decode prog_12_method_4_code 6 = .ok (.getfield 44, 3) by decide +kernel) ?_
  obtain ⟨v_3, h4, h⟩ := bd h
  refine xa_n E 36 h4 (show decode prog_12_method_4_code 9 = .ok (.arraylength, 1) by decide +kernel) ?_
  by_cases q30 : v_3 ≤ v2
  · rw [if_pos q30] at h
    refine xv_icmp_ge E 57 (show decode prog_12_method_4_code 10 = .ok (.if_icmp .ge (47), 3) by decide +kernel) rfl (fun _ => ?_) (fun z => absurd q30 z)
    refine xv_b E [.iload_n 1] (pc' := 58) (lv' := [(0, .inr (.inr (some a0))), (1, .inl v1), (2, .inl v2)]) (st' := [.inl v1]) (by decide +kernel) rfl rfl ?_
    by_cases q9 : v1 = 0
    · rw [if_pos q9] at h
      refine xv_if_eq E 65 (show decode prog_12_method_4_code 58 = .ok (.ifCond .eq (7), 3) by decide +kernel) rfl (fun _ => ?_) (fun z => absurd q9 z)
      exact xv_w (sb111_65 E B  M h hN) rfl
    · rw [if_neg q9] at h
      refine xv_if_eq E 65 (show decode prog_12_method_4_code 58 = .ok (.ifCond .eq (7), 3) by decide +kernel) rfl (fun z => absurd z q9) (fun _ => ?_)
      refine xv_b E [.aload_n 0] (pc' := 62) (lv' := [(0, .inr (.inr (some a0))), (1, .inl v1), (2, .inl v2)]) (st' := [.inr (.inr (some a0))]) (by decide +kernel) rfl rfl ?_
      obtain ⟨b_7, h8, h⟩ := bd h
      obtain ⟨eh8, th8⟩ := g_o_some h8
      obtain ⟨q_5, h6, h⟩ := bd h
      refine xv_cvo E eh8 10 (as := []) (t109 G l (c_V_some h6)) cd109 mw617 mw618 mw619 (show decode prog_12_method_4_code 62 = .ok (.invokevirtual 109, 3) by decide +kernel) th8 rfl rfl (Nat.le_of_ble_eq_true rfl) ⟨Nat.le_of_ble_eq_true rfl, Nat.le_of_ble_eq_true rfl⟩ ?_
      exact xv_w (sb111_65 E B  q_5 h hN) rfl
  · rw [if_neg q30] at h
    refine xv_icmp_ge E 57 (show decode prog_12_method_4_code 10 = .ok (.if_icmp .ge (47), 3) by decide +kernel) rfl (fun z => absurd z q30) (fun _ => ?_)
    refine xv_b E [.aload_n 0] (pc' := 14) (lv' := [(0, .inr (.inr (some a0))), (1, .inl v1), (2, .inl v2)]) (st' := [.inr (.inr (some a0))]) (by decide +kernel) rfl rfl ?_
    obtain ⟨o_10, h11, h⟩ := bd h
    refine xg_r E 10 4 h11 mw63 (show decode prog_12_method_4_code 14 = .ok (.getfield 44, 3) by decide +kernel) ?_
    refine xv_b E [.iload_n 2] (pc' := 18) (lv' := [(0, .inr (.inr (some a0))), (1, .inl v1), (2, .inl v2)]) (st' := [.inl v2, .inr (.inr o_10)]) (by decide +kernel) rfl rfl ?_
    obtain ⟨o_12, h13, h⟩ := bd h
    refine xa_r E 36 h13 (show decode prog_12_method_4_code 18 = .ok (.aaload, 1) by decide +kernel) ?_
    refine xv_b E [.astore_n 3, .aload_n 3] (pc' := 21) (lv' := [(3, .inr (.inr o_12)), (0, .inr (.inr (some a0))), (1, .inl v1), (2, .inl v2)]) (st' := [.inr (.inr o_12)]) (by decide +kernel) rfl rfl ?_
    obtain ⟨b_16, h17, h⟩ := bd h
    obtain ⟨eh17, th17⟩ := g_o_some h17
    obtain ⟨q_14, h15, h⟩ := bd h
    refine xv_cvo E eh17 6 (as := []) (t105 G l (c_I_some h15)) cd105 mw606 mw607 mw608 (show decode prog_12_method_4_code 21 = .ok (.invokevirtual 99, 3) by decide +kernel) th17 rfl rfl (Nat.le_of_ble_eq_true rfl) ⟨Nat.le_of_ble_eq_true rfl, Nat.le_of_ble_eq_true rfl⟩ ?_
    by_cases q29 : q_14.1 = 0
    · rw [if_pos q29] at h
      refine xv_if_eq E 51 (show decode prog_12_method_4_code 24 = .ok (.ifCond .eq (27), 3) by decide +kernel) rfl (fun _ => ?_) (fun z => absurd q29 z)
      exact xv_w (sb111_51 E B a0 v1 v2 q_14.2 h hN) rfl
    · rw [if_neg q29] at h
      refine xv_if_eq E 51 (show decode prog_12_method_4_code 24 = .ok (.ifCond .eq (27), 3) by decide +kernel) rfl (fun z => absurd z q29) (fun _ => ?_)
      refine xv_b E [.aload_n 0] (pc' := 28) (lv' := [(3, .inr (.inr o_12)), (0, .inr (.inr (some a0))), (1, .inl v1), (2, .inl v2)]) (st' := [.inr (.inr (some a0))]) (by decide +kernel) rfl rfl ?_
      obtain ⟨o_18, h19, h⟩ := bd h
      refine xg_r E 10 0 h19 mw60 (show decode prog_12_method_4_code 28 = .ok (.getfield 34, 3) by decide +kernel) ?_
      obtain ⟨v_20, h21, h⟩ := bd h
      refine xg_i E 9 3 h21 mw620 (show decode prog_12_method_4_code 31 = .ok (.getfield 74, 3) by decide +kernel) ?_
      refine xv_b E [.aload_n 3] (pc' := 35) (lv' := [(3, .inr (.inr o_12)), (0, .inr (.inr (some a0))), (1, .inl v1), (2, .inl v2)]) (st' := [.inr (.inr o_12), .inl v_20]) (by decide +kernel) rfl rfl ?_
      obtain ⟨v_22, h23, h⟩ := bd h
      refine xg_i E 6 2 h23 mw621 (show decode prog_12_method_4_code 35 = .ok (.getfield 103, 3) by decide +kernel) ?_
      refine xv_b E [.isub, .sipush 150] (pc' := 42) (lv' := [(3, .inr (.inr o_12)), (0, .inr (.inr (some a0))), (1, .inl v1), (2, .inl v2)]) (st' := [.inl (150 : Int32), .inl (v_20 - v_22)]) (by decide +kernel) rfl rfl ?_
      by_cases q28 : (v_20 - v_22) < (150 : Int32)
      · rw [if_pos q28] at h
        refine xv_icmp_lt E 51 (show decode prog_12_method_4_code 42 = .ok (.if_icmp .lt (9), 3) by decide +kernel) rfl (fun _ => ?_) (fun z => absurd q28 z)
        exact xv_w (sb111_51 E B a0 v1 v2 q_14.2 h hN) rfl
      · rw [if_neg q28] at h
        refine xv_icmp_lt E 51 (show decode prog_12_method_4_code 42 = .ok (.if_icmp .lt (9), 3) by decide +kernel) rfl (fun z => absurd z q28) (fun _ => ?_)
        refine xv_b E [.aload_n 3] (pc' := 46) (lv' := [(3, .inr (.inr o_12)), (0, .inr (.inr (some a0))), (1, .inl v1), (2, .inl v2)]) (st' := [.inr (.inr o_12)]) (by decide +kernel) rfl rfl ?_
        obtain ⟨b_26, h27, h⟩ := bd h
        obtain ⟨eh27, th27⟩ := g_o_some h27
        obtain ⟨q_24, h25, h⟩ := bd h
        refine xv_cvo E eh27 6 (as := []) (t110 G l (c_V_some h25)) cd110 mw622 mw623 mw624 (show decode prog_12_method_4_code 46 = .ok (.invokevirtual 106, 3) by decide +kernel) th27 rfl rfl (Nat.le_of_ble_eq_true rfl) ⟨Nat.le_of_ble_eq_true rfl, Nat.le_of_ble_eq_true rfl⟩ ?_
        refine xv_b E [.iconst 1, .istore_n 1] (pc' := 51) (lv' := [(1, .inl (1 : Int32)), (3, .inr (.inr o_12)), (0, .inr (.inr (some a0))), (2, .inl v2)]) (st' := []) (by decide +kernel) rfl rfl ?_
        exact xv_w (sb111_51 E B a0 (1 : Int32) v2 q_24 h hN) rfl
end
theorem t111 (G : gX) (l : Launch) {as : List aV} {M : hM} {r : Option aV} {M' : hM} (h : f111 as M = some (r, M')) : xM G l ym111 prog_12_method_4_code 4 none 4 as M r M' := by
  unfold f111 at h
  split at h
  · have hle : ∀ h as M res, k111 h as M = some res → h_sz M ≤ r_sz res ∧ h_sl M ≤ r_sl res := by
      intro h as M res hb
      unfold k111 at hb
      by_cases e0 : h = 4
      · rw [if_pos e0] at hb
        split at hb
        · exact lb111_4 G l _ _ _ M hb
        · cases hb
      · rw [if_neg e0] at hb
        cases hb
    obtain ⟨res, hx, hres⟩ := x_go_ok h
    refine xM_of (by decide) (Nat.le_of_ble_eq_true rfl) ?_ ?_
    · have e1 := lb111_0 G l _ M hx
      have e2 := x_go_le hle hres
      omega
    · intro p e s m args below meth c E B
      refine sb111_0 E B _ M hx (hres _ ?_)
      intro h as M res hb hN
      unfold k111 at hb
      unfold pg111
      by_cases e0 : h = 4
      · rw [if_pos e0] at hb ⊢
        split at hb
        · exact sb111_4 E B _ _ _ M hb hN
        · cases hb
      · rw [if_neg e0] at hb ⊢
        cases hb
  · cases h
/-! ZF.Port.isToSwitch()Z -/
def ym112 : MethodName := ⟨"ZonedFabric$Port", "isToSwitch", "()Z"⟩
theorem cd112 : xCd ym112 prog_10_method_5_code 1 (some FieldType.boolean) 0 := ⟨mw625, mw14, by decide, by decide, by decide +kernel⟩
def b112_24 (si0 : Int32) (M : hM) : Option xRes :=
  if si0 = 0 ∨ si0 = 1 then
    (some (.inl (some (.inl si0), M)))
  else
    none
def b112_23  (M : hM) : Option xRes :=
  b112_24 (0 : Int32) M
def b112_0 (a0 : Nat) (M : hM) : Option xRes :=
  Option.bind (g_r M 8 3 (some a0)) fun o_1 =>
  if o_1 = none then
    (b112_23  M)
  else
    (Option.bind (g_r M 8 3 (some a0)) fun o_3 =>
    Option.bind (g_i M 8 1 o_3) fun v_5 =>
    if (16 : Int32) ≤ v_5 then
      (b112_23  M)
    else
      (b112_24 (1 : Int32) M))
def f112 (as : List aV) (M : hM) : xO := match as with
  | [.inr (.inr (some a0))] => x_out (b112_0 a0 M)
  | _ => none
theorem lb112_24 (G : gX) (l : Launch) (si0 : Int32) (M : hM) {res : xRes} (h : b112_24 si0 M = some res) : h_sz M ≤ r_sz res ∧ h_sl M ≤ r_sl res := by
  unfold b112_24 at h
  by_cases q9 : si0 = 0 ∨ si0 = 1
  · rw [if_pos q9] at h
    obtain rfl := Option.some.inj h
    show h_sz M ≤ h_sz M ∧ h_sl M ≤ h_sl M
    omega
  · rw [if_neg q9] at h
    cases h
theorem lb112_23 (G : gX) (l : Launch)  (M : hM) {res : xRes} (h : b112_23  M = some res) : h_sz M ≤ r_sz res ∧ h_sl M ≤ r_sl res := by
  unfold b112_23 at h
  have e := lb112_24 G l (0 : Int32) M h
  omega
theorem lb112_0 (G : gX) (l : Launch) (a0 : Nat) (M : hM) {res : xRes} (h : b112_0 a0 M = some res) : h_sz M ≤ r_sz res ∧ h_sl M ≤ r_sl res := by
  unfold b112_0 at h
  obtain ⟨o_1, h2, h⟩ := bd h
  by_cases q8 : o_1 = none
  · rw [if_pos q8] at h
    have e := lb112_23 G l  M h
    omega
  · rw [if_neg q8] at h
    obtain ⟨o_3, h4, h⟩ := bd h
    obtain ⟨v_5, h6, h⟩ := bd h
    by_cases q7 : (16 : Int32) ≤ v_5
    · rw [if_pos q7] at h
      have e := lb112_23 G l  M h
      omega
    · rw [if_neg q7] at h
      have e := lb112_24 G l (1 : Int32) M h
      omega
section
variable {p : Program} {l : Launch} {e : Env} {s : State} {m : MethodId} {args : Array Value} {below : List Frame} {meth : Method} {c : Code} {G : gX} {z0 y0 : Nat} {r : Option aV} {M' : hM}
theorem sb112_24 (E : xE G p (xRm 0 (h_sz M' - z0) (h_sl M' - y0)) s m args c prog_10_method_5_code "ZonedFabric$Port" z0 y0 (h_sz M') (h_sl M') 1) (B : xB ym112 (some FieldType.boolean) meth) (si0 : Int32) (M : hM) {res : xRes} (h : b112_24 si0 M = some res) (hN : xN (fun _ _ _ => False) r M' res) : xV G p l e (xRm 0 (h_sz M' - z0) (h_sl M' - y0)) s m args below meth c z0 y0 (h_sz M') (h_sl M') 1 (MQ below (xQc G r M') args s (h_sz M' - z0) (h_sl M' - y0) (xFr G)) 24 [] [.inl si0] M := by
  unfold b112_24 at h
  by_cases q9 : si0 = 0 ∨ si0 = 1
  · rw [if_pos q9] at h
    obtain rfl := Option.some.inj h
    obtain ⟨rfl, rfl⟩ := Prod.mk.inj (show ((some (.inl si0) : Option aV), M) = (r, M') from hN)
    exact xv_ri E B.1 (by rcases q9 with z | z <;> rw [z] <;> rfl) B.2.1 (show decode prog_10_method_5_code 24 = .ok (.ireturn, 1) by decide +kernel) rfl rfl
  · rw [if_neg q9] at h
    cases h
theorem sb112_23 (E : xE G p (xRm 0 (h_sz M' - z0) (h_sl M' - y0)) s m args c prog_10_method_5_code "ZonedFabric$Port" z0 y0 (h_sz M') (h_sl M') 1) (B : xB ym112 (some FieldType.boolean) meth)  (M : hM) {res : xRes} (h : b112_23  M = some res) (hN : xN (fun _ _ _ => False) r M' res) : xV G p l e (xRm 0 (h_sz M' - z0) (h_sl M' - y0)) s m args below meth c z0 y0 (h_sz M') (h_sl M') 1 (MQ below (xQc G r M') args s (h_sz M' - z0) (h_sl M' - y0) (xFr G)) 23 [] [] M := by
  unfold b112_23 at h
  refine xv_b E [.iconst 0] (pc' := 24) (lv' := []) (st' := [.inl (0 : Int32)]) (by decide +kernel) rfl rfl ?_
  exact xv_w (sb112_24 E B (0 : Int32) M h hN) rfl
theorem sb112_0 (E : xE G p (xRm 0 (h_sz M' - z0) (h_sl M' - y0)) s m args c prog_10_method_5_code "ZonedFabric$Port" z0 y0 (h_sz M') (h_sl M') 1) (B : xB ym112 (some FieldType.boolean) meth) (a0 : Nat) (M : hM) {res : xRes} (h : b112_0 a0 M = some res) (hN : xN (fun _ _ _ => False) r M' res) : xV G p l e (xRm 0 (h_sz M' - z0) (h_sl M' - y0)) s m args below meth c z0 y0 (h_sz M') (h_sl M') 1 (MQ below (xQc G r M') args s (h_sz M' - z0) (h_sl M' - y0) (xFr G)) 0 [(0, .inr (.inr (some a0)))] [] M := by
  unfold b112_0 at h
  refine xv_b E [.aload_n 0] (pc' := 1) (lv' := [(0, .inr (.inr (some a0)))]) (st' := [.inr (.inr (some a0))]) (by decide +kernel) rfl rfl ?_
  obtain ⟨o_1, h2, h⟩ := bd h
  refine xg_r E 8 3 h2 mw329 (show decode prog_10_method_5_code 1 = .ok (.getfield 74, 3) by decide +kernel) ?_
  by_cases q8 : o_1 = none
  · rw [if_pos q8] at h
    refine xi_null E 23 (show decode prog_10_method_5_code 4 = .ok (.ifnull (19), 3) by decide +kernel) rfl (fun _ => ?_) (fun z => absurd q8 z)
    exact xv_w (sb112_23 E B  M h hN) rfl
  · rw [if_neg q8] at h
    refine xi_null E 23 (show decode prog_10_method_5_code 4 = .ok (.ifnull (19), 3) by decide +kernel) rfl (fun z => absurd z q8) (fun _ => ?_)
    refine xv_b E [.aload_n 0] (pc' := 8) (lv' := [(0, .inr (.inr (some a0)))]) (st' := [.inr (.inr (some a0))]) (by decide +kernel) rfl rfl ?_
    obtain ⟨o_3, h4, h⟩ := bd h
    refine xg_r E 8 3 h4 mw329 (show decode prog_10_method_5_code 8 = .ok (.getfield 74, 3) by decide +kernel) ?_
    obtain ⟨v_5, h6, h⟩ := bd h
    refine xg_i E 8 1 h6 mw23 (show decode prog_10_method_5_code 11 = .ok (.getfield 32, 3) by decide +kernel) ?_
    refine xv_b E [.bipush 16] (pc' := 16) (lv' := [(0, .inr (.inr (some a0)))]) (st' := [.inl (16 : Int32), .inl v_5]) (by decide +kernel) rfl rfl ?_
    by_cases q7 : (16 : Int32) ≤ v_5
    · rw [if_pos q7] at h
      refine xv_icmp_ge E 23 (show decode prog_10_method_5_code 16 = .ok (.if_icmp .ge (7), 3) by decide +kernel) rfl (fun _ => ?_) (fun z => absurd q7 z)
      exact xv_w (sb112_23 E B  M h hN) rfl
    · rw [if_neg q7] at h
      refine xv_icmp_ge E 23 (show decode prog_10_method_5_code 16 = .ok (.if_icmp .ge (7), 3) by decide +kernel) rfl (fun z => absurd z q7) (fun _ => ?_)
      refine xv_b E [.iconst 1] (pc' := 20) (lv' := [(0, .inr (.inr (some a0)))]) (st' := [.inl (1 : Int32)]) (by decide +kernel) rfl rfl ?_
      refine xv_goto E 24 (show decode prog_10_method_5_code 20 = .ok (.goto (4), 3) by decide +kernel) rfl ?_
      exact xv_w (sb112_24 E B (1 : Int32) M h hN) rfl
end
theorem t112 (G : gX) (l : Launch) {as : List aV} {M : hM} {r : Option aV} {M' : hM} (h : f112 as M = some (r, M')) : xM G l ym112 prog_10_method_5_code 1 (some FieldType.boolean) 0 as M r M' := by
  unfold f112 at h
  split at h
  · have h := x_out_ok h
    refine xM_of (by decide) (Nat.le_of_ble_eq_true rfl) (lb112_0 G l _ M h) ?_
    intro p e s m args below meth c E B
    exact sb112_0 E B _ M h rfl
  · cases h
/-! ZF.Switch.sayHello()V -/
def ym113 : MethodName := ⟨"ZonedFabric$Switch", "sayHello", "()V"⟩
theorem cd113 : xCd ym113 prog_12_method_5_code 4 none 0 := ⟨mw626, mw51, by decide, by decide, by decide +kernel⟩
def b113_0 (a0 : Nat) (M : hM) : Option xRes :=
  some (.inr (2, [.inr (.inr (some a0)), .inl (0 : Int32)], M))
def b113_94 (a0 : Nat) (v1 : Int32) (M : hM) : Option xRes :=
  some (.inr (2, [.inr (.inr (some a0)), .inl (v1 + (1 : Int32))], M))
def b113_2 (a0 : Nat) (v1 : Int32) (M : hM) : Option xRes :=
  if (8 : Int32) ≤ v1 then
    (some (.inl (none, M)))
  else
    (Option.bind (g_r M 10 2 (some a0)) fun o_1 =>
    Option.bind (al_r M 38 o_1 v1) fun o_3 =>
    Option.bind (g_i M 8 5 o_3) fun v_5 =>
    if v_5 = 0 then
      (b113_94 a0 v1 M)
    else
      (Option.bind (g_o M 8 o_3) fun b_9 =>
      Option.bind (c_I (f112 [.inr (.inr (some b_9))] M)) fun q_7 =>
      if q_7.1 = 0 then
        (b113_94 a0 v1 q_7.2)
      else
        (Option.bind (g_i q_7.2 8 11 o_3) fun v_11 =>
        if v_11 = (-1 : Int32) then
          (Option.bind (g_r q_7.2 10 0 (some a0)) fun o_13 =>
          Option.bind (g_i q_7.2 9 3 o_13) fun v_15 =>
          Option.bind (g_i q_7.2 8 14 o_3) fun v_17 =>
          if (v_15 - v_17) < (11 : Int32) then
            (b113_94 a0 v1 q_7.2)
          else
            (Option.bind (g_r q_7.2 10 0 (some a0)) fun o_19 =>
            Option.bind (g_i q_7.2 9 3 o_19) fun v_21 =>
            Option.bind (p_i q_7.2 8 14 o_3 v_21) fun M23 =>
            Option.bind (g_r M23 10 0 (some a0)) fun o_25 =>
            Option.bind (g_o M23 9 o_25) fun b_29 =>
            Option.bind (c_R (f34 [.inr (.inr (some b_29)), .inl (1 : Int32), .inl (16777213 : Int32), .inl (16777213 : Int32), .inl (0 : Int32)] M23)) fun q_27 =>
            Option.bind (g_i q_27.2 10 1 (some a0)) fun v_31 =>
            Option.bind (g_o q_27.2 2 q_27.1) fun b_35 =>
            Option.bind (c_V (f36 [.inr (.inr (some b_35)), .inl (1 : Int32), .inr (.inl (Int32.toInt64 v_31))] q_27.2)) fun q_33 =>
            Option.bind (g_o q_33 8 o_3) fun b_39 =>
            Option.bind (c_V (f39 [.inr (.inr (some b_39)), .inr (.inr q_27.1)] q_33)) fun q_37 =>
            b113_94 a0 v1 q_37))
        else
          (b113_94 a0 v1 q_7.2))))
def k113 (h : Nat) (as : List aV) (M : hM) : Option xRes :=
  if h = 2 then (match as with | [.inr (.inr (some a0)), .inl v1] => b113_2 a0 v1 M | _ => none) else
  none
def f113 (as : List aV) (M : hM) : xO := match as with
  | [.inr (.inr (some a0))] => x_go k113 (b113_0 a0 M)
  | _ => none
theorem lb113_0 (G : gX) (l : Launch) (a0 : Nat) (M : hM) {res : xRes} (h : b113_0 a0 M = some res) : h_sz M ≤ r_sz res ∧ h_sl M ≤ r_sl res := by
  unfold b113_0 at h
  obtain rfl := Option.some.inj h
  show h_sz M ≤ h_sz M ∧ h_sl M ≤ h_sl M
  omega
theorem lb113_94 (G : gX) (l : Launch) (a0 : Nat) (v1 : Int32) (M : hM) {res : xRes} (h : b113_94 a0 v1 M = some res) : h_sz M ≤ r_sz res ∧ h_sl M ≤ r_sl res := by
  unfold b113_94 at h
  obtain rfl := Option.some.inj h
  show h_sz M ≤ h_sz M ∧ h_sl M ≤ h_sl M
  omega
theorem lb113_2 (G : gX) (l : Launch) (a0 : Nat) (v1 : Int32) (M : hM) {res : xRes} (h : b113_2 a0 v1 M = some res) : h_sz M ≤ r_sz res ∧ h_sl M ≤ r_sl res := by
  unfold b113_2 at h
  by_cases q45 : (8 : Int32) ≤ v1
  · rw [if_pos q45] at h
    obtain rfl := Option.some.inj h
    show h_sz M ≤ h_sz M ∧ h_sl M ≤ h_sl M
    omega
  · rw [if_neg q45] at h
    obtain ⟨o_1, h2, h⟩ := bd h
    obtain ⟨o_3, h4, h⟩ := bd h
    obtain ⟨v_5, h6, h⟩ := bd h
    by_cases q44 : v_5 = 0
    · rw [if_pos q44] at h
      have e := lb113_94 G l a0 v1 M h
      omega
    · rw [if_neg q44] at h
      obtain ⟨b_9, h10, h⟩ := bd h
      obtain ⟨q_7, h8, h⟩ := bd h
      have eh8 := (t112 G l (c_I_some h8)).1
      by_cases q43 : q_7.1 = 0
      · rw [if_pos q43] at h
        have e := lb113_94 G l a0 v1 q_7.2 h
        omega
      · rw [if_neg q43] at h
        obtain ⟨v_11, h12, h⟩ := bd h
        by_cases q42 : v_11 = (-1 : Int32)
        · rw [if_pos q42] at h
          obtain ⟨o_13, h14, h⟩ := bd h
          obtain ⟨v_15, h16, h⟩ := bd h
          obtain ⟨v_17, h18, h⟩ := bd h
          by_cases q41 : (v_15 - v_17) < (11 : Int32)
          · rw [if_pos q41] at h
            have e := lb113_94 G l a0 v1 q_7.2 h
            omega
          · rw [if_neg q41] at h
            obtain ⟨o_19, h20, h⟩ := bd h
            obtain ⟨v_21, h22, h⟩ := bd h
            obtain ⟨M23, h24, h⟩ := bd h
            have eh24 := p_i_sz h24
            obtain ⟨o_25, h26, h⟩ := bd h
            obtain ⟨b_29, h30, h⟩ := bd h
            obtain ⟨q_27, h28, h⟩ := bd h
            have eh28 := (t34 G l (c_R_some h28)).1
            obtain ⟨v_31, h32, h⟩ := bd h
            obtain ⟨b_35, h36, h⟩ := bd h
            obtain ⟨q_33, h34, h⟩ := bd h
            have eh34 := (t36 G l (c_V_some h34)).1
            obtain ⟨b_39, h40, h⟩ := bd h
            obtain ⟨q_37, h38, h⟩ := bd h
            have eh38 := (t39 G l (c_V_some h38)).1
            have e := lb113_94 G l a0 v1 q_37 h
            omega
        · rw [if_neg q42] at h
          have e := lb113_94 G l a0 v1 q_7.2 h
          omega
section
variable {p : Program} {l : Launch} {e : Env} {s : State} {m : MethodId} {args : Array Value} {below : List Frame} {meth : Method} {c : Code} {G : gX} {z0 y0 : Nat} {r : Option aV} {M' : hM}
def pg113 (p : Program) (l : Launch) (e : Env) (s : State) (m : MethodId) (args : Array Value) (below : List Frame) (meth : Method) (c : Code) (G : gX) (z0 y0 : Nat) (r : Option aV) (M' : hM) (h : Nat) (as : List aV) (M : hM) : Prop :=
  if h = 2 then (match as with | [.inr (.inr (some a0)), .inl v1] => xV G p l e (xRm 3 (h_sz M' - z0) (h_sl M' - y0)) s m args below meth c z0 y0 (h_sz M') (h_sl M') 4 (MQ below (xQc G r M') args s (h_sz M' - z0) (h_sl M' - y0) (xFr G)) 2 [(0, .inr (.inr (some a0))), (1, .inl v1)] [] M | _ => False) else
  False
theorem sb113_0 (E : xE G p (xRm 3 (h_sz M' - z0) (h_sl M' - y0)) s m args c prog_12_method_5_code "ZonedFabric$Switch" z0 y0 (h_sz M') (h_sl M') 4) (B : xB ym113 none meth) (a0 : Nat) (M : hM) {res : xRes} (h : b113_0 a0 M = some res) (hN : xN (pg113 p l e s m args below meth c G z0 y0 r M') r M' res) : xV G p l e (xRm 3 (h_sz M' - z0) (h_sl M' - y0)) s m args below meth c z0 y0 (h_sz M') (h_sl M') 4 (MQ below (xQc G r M') args s (h_sz M' - z0) (h_sl M' - y0) (xFr G)) 0 [(0, .inr (.inr (some a0)))] [] M := by
  unfold b113_0 at h
  refine xv_b E [.iconst 0, .istore_n 1] (pc' := 2) (lv' := [(1, .inl (0 : Int32)), (0, .inr (.inr (some a0)))]) (st' := []) (by decide +kernel) rfl rfl ?_
  obtain rfl := Option.some.inj h
  exact xv_w hN rfl
theorem sb113_94 (E : xE G p (xRm 3 (h_sz M' - z0) (h_sl M' - y0)) s m args c prog_12_method_5_code "ZonedFabric$Switch" z0 y0 (h_sz M') (h_sl M') 4) (B : xB ym113 none meth) (a0 : Nat) (v1 : Int32) (M : hM) {res : xRes} (h : b113_94 a0 v1 M = some res) (hN : xN (pg113 p l e s m args below meth c G z0 y0 r M') r M' res) : xV G p l e (xRm 3 (h_sz M' - z0) (h_sl M' - y0)) s m args below meth c z0 y0 (h_sz M') (h_sl M') 4 (MQ below (xQc G r M') args s (h_sz M' - z0) (h_sl M' - y0) (xFr G)) 94 [(0, .inr (.inr (some a0))), (1, .inl v1)] [] M := by
  unfold b113_94 at h
  refine xv_b E [.iinc 1 1] (pc' := 97) (lv' := [(1, .inl (v1 + (1 : Int32))), (0, .inr (.inr (some a0)))]) (st' := []) (by decide +kernel) rfl rfl ?_
  refine xv_goto E 2 (show decode prog_12_method_5_code 97 = .ok (.goto (-95), 3) by decide +kernel) rfl ?_
  obtain rfl := Option.some.inj h
  exact xv_w hN rfl
theorem sb113_2 (E : xE G p (xRm 3 (h_sz M' - z0) (h_sl M' - y0)) s m args c prog_12_method_5_code "ZonedFabric$Switch" z0 y0 (h_sz M') (h_sl M') 4) (B : xB ym113 none meth) (a0 : Nat) (v1 : Int32) (M : hM) {res : xRes} (h : b113_2 a0 v1 M = some res) (hN : xN (pg113 p l e s m args below meth c G z0 y0 r M') r M' res) : xV G p l e (xRm 3 (h_sz M' - z0) (h_sl M' - y0)) s m args below meth c z0 y0 (h_sz M') (h_sl M') 4 (MQ below (xQc G r M') args s (h_sz M' - z0) (h_sl M' - y0) (xFr G)) 2 [(0, .inr (.inr (some a0))), (1, .inl v1)] [] M := by
  unfold b113_2 at h
  refine xv_b E [.iload_n 1, .bipush 8] (pc' := 5) (lv' := [(0, .inr (.inr (some a0))), (1, .inl v1)]) (st' := [.inl (8 : Int32), .inl v1]) (by decide +kernel) rfl rfl ?_
  by_cases q45 : (8 : Int32) ≤ v1
  · rw [if_pos q45] at h
    refine xv_icmp_ge E 100 (show decode prog_12_method_5_code 5 = .ok (.if_icmp .ge (95), 3) by decide +kernel) rfl (fun _ => ?_) (fun z => absurd q45 z)
    obtain rfl := Option.some.inj h
    obtain ⟨rfl, rfl⟩ := Prod.mk.inj (show ((none : Option aV), M) = (r, M') from hN)
    exact xv_rv E B.1 B.2.1 (show decode prog_12_method_5_code 100 = .ok (.return_, 1) by decide +kernel) rfl rfl
  · rw [if_neg q45] at h
    refine xv_icmp_ge E 100 (show decode prog_12_method_5_code 5 = .ok (.if_icmp .ge (95), 3) by decide +kernel) rfl (fun z => absurd z q45) (fun _ => ?_)
    refine xv_b E [.aload_n 0] (pc' := 9) (lv' := [(0, .inr (.inr (some a0))), (1, .inl v1)]) (st' := [.inr (.inr (some a0))]) (by decide +kernel) rfl rfl ?_
    obtain ⟨o_1, h2, h⟩ := bd h
    refine xg_r E 10 2 h2 mw53 (show decode prog_12_method_5_code 9 = .ok (.getfield 11, 3) by decide +kernel) ?_
    refine xv_b E [.iload_n 1] (pc' := 13) (lv' := [(0, .inr (.inr (some a0))), (1, .inl v1)]) (st' := [.inl v1, .inr (.inr o_1)]) (by decide +kernel) rfl rfl ?_
    obtain ⟨o_3, h4, h⟩ := bd h
    refine xa_r E 38 h4 (show decode prog_12_method_5_code 13 = .ok (.aaload, 1) by decide +kernel) ?_
    refine xv_b E [.astore_n 2, .aload_n 2] (pc' := 16) (lv' := [(2, .inr (.inr o_3)), (0, .inr (.inr (some a0))), (1, .inl v1)]) (st' := [.inr (.inr o_3)]) (by decide +kernel) rfl rfl ?_
    obtain ⟨v_5, h6, h⟩ := bd h
    refine xg_i E 8 5 h6 mw627 (show decode prog_12_method_5_code 16 = .ok (.getfield 112, 3) by decide +kernel) ?_
    by_cases q44 : v_5 = 0
    · rw [if_pos q44] at h
      refine xv_if_eq E 94 (show decode prog_12_method_5_code 19 = .ok (.ifCond .eq (75), 3) by decide +kernel) rfl (fun _ => ?_) (fun z => absurd q44 z)
      exact xv_w (sb113_94 E B a0 v1 M h hN) rfl
    · rw [if_neg q44] at h
      refine xv_if_eq E 94 (show decode prog_12_method_5_code 19 = .ok (.ifCond .eq (75), 3) by decide +kernel) rfl (fun z => absurd z q44) (fun _ => ?_)
      refine xv_b E [.aload_n 2] (pc' := 23) (lv' := [(2, .inr (.inr o_3)), (0, .inr (.inr (some a0))), (1, .inl v1)]) (st' := [.inr (.inr o_3)]) (by decide +kernel) rfl rfl ?_
      obtain ⟨b_9, h10, h⟩ := bd h
      obtain ⟨eh10, th10⟩ := g_o_some h10
      obtain ⟨q_7, h8, h⟩ := bd h
      refine xv_cvo E eh10 8 (as := []) (t112 G l (c_I_some h8)) cd112 mw628 mw629 mw630 (show decode prog_12_method_5_code 23 = .ok (.invokevirtual 115, 3) by decide +kernel) th10 rfl rfl (Nat.le_of_ble_eq_true rfl) ⟨Nat.le_of_ble_eq_true rfl, Nat.le_of_ble_eq_true rfl⟩ ?_
      by_cases q43 : q_7.1 = 0
      · rw [if_pos q43] at h
        refine xv_if_eq E 94 (show decode prog_12_method_5_code 26 = .ok (.ifCond .eq (68), 3) by decide +kernel) rfl (fun _ => ?_) (fun z => absurd q43 z)
        exact xv_w (sb113_94 E B a0 v1 q_7.2 h hN) rfl
      · rw [if_neg q43] at h
        refine xv_if_eq E 94 (show decode prog_12_method_5_code 26 = .ok (.ifCond .eq (68), 3) by decide +kernel) rfl (fun z => absurd z q43) (fun _ => ?_)
        refine xv_b E [.aload_n 2] (pc' := 30) (lv' := [(2, .inr (.inr o_3)), (0, .inr (.inr (some a0))), (1, .inl v1)]) (st' := [.inr (.inr o_3)]) (by decide +kernel) rfl rfl ?_
        obtain ⟨v_11, h12, h⟩ := bd h
        refine xg_i E 8 11 h12 mw631 (show decode prog_12_method_5_code 30 = .ok (.getfield 118, 3) by decide +kernel) ?_
        refine xv_b E [.iconst (-1)] (pc' := 34) (lv' := [(2, .inr (.inr o_3)), (0, .inr (.inr (some a0))), (1, .inl v1)]) (st' := [.inl (-1 : Int32), .inl v_11]) (by decide +kernel) rfl rfl ?_
        by_cases q42 : v_11 = (-1 : Int32)
        · rw [if_pos q42] at h
          refine xv_icmp_ne E 94 (show decode prog_12_method_5_code 34 = .ok (.if_icmp .ne (60), 3) by decide +kernel) rfl (fun z => absurd q42 z) (fun _ => ?_)
          refine xv_b E [.aload_n 0] (pc' := 38) (lv' := [(2, .inr (.inr o_3)), (0, .inr (.inr (some a0))), (1, .inl v1)]) (st' := [.inr (.inr (some a0))]) (by decide +kernel) rfl rfl ?_
          obtain ⟨o_13, h14, h⟩ := bd h
          refine xg_r E 10 0 h14 mw60 (show decode prog_12_method_5_code 38 = .ok (.getfield 34, 3) by decide +kernel) ?_
          obtain ⟨v_15, h16, h⟩ := bd h
          refine xg_i E 9 3 h16 mw620 (show decode prog_12_method_5_code 41 = .ok (.getfield 74, 3) by decide +kernel) ?_
          refine xv_b E [.aload_n 2] (pc' := 45) (lv' := [(2, .inr (.inr o_3)), (0, .inr (.inr (some a0))), (1, .inl v1)]) (st' := [.inr (.inr o_3), .inl v_15]) (by decide +kernel) rfl rfl ?_
          obtain ⟨v_17, h18, h⟩ := bd h
          refine xg_i E 8 14 h18 mw632 (show decode prog_12_method_5_code 45 = .ok (.getfield 121, 3) by decide +kernel) ?_
          refine xv_b E [.isub, .bipush 11] (pc' := 51) (lv' := [(2, .inr (.inr o_3)), (0, .inr (.inr (some a0))), (1, .inl v1)]) (st' := [.inl (11 : Int32), .inl (v_15 - v_17)]) (by decide +kernel) rfl rfl ?_
          by_cases q41 : (v_15 - v_17) < (11 : Int32)
          · rw [if_pos q41] at h
            refine xv_icmp_lt E 94 (show decode prog_12_method_5_code 51 = .ok (.if_icmp .lt (43), 3) by decide +kernel) rfl (fun _ => ?_) (fun z => absurd q41 z)
            exact xv_w (sb113_94 E B a0 v1 q_7.2 h hN) rfl
          · rw [if_neg q41] at h
            refine xv_icmp_lt E 94 (show decode prog_12_method_5_code 51 = .ok (.if_icmp .lt (43), 3) by decide +kernel) rfl (fun z => absurd z q41) (fun _ => ?_)
            refine xv_b E [.aload_n 2, .aload_n 0] (pc' := 56) (lv' := [(2, .inr (.inr o_3)), (0, .inr (.inr (some a0))), (1, .inl v1)]) (st' := [.inr (.inr (some a0)), .inr (.inr o_3)]) (by decide +kernel) rfl rfl ?_
            obtain ⟨o_19, h20, h⟩ := bd h
            refine xg_r E 10 0 h20 mw60 (show decode prog_12_method_5_code 56 = .ok (.getfield 34, 3) by decide +kernel) ?_
            obtain ⟨v_21, h22, h⟩ := bd h
            refine xg_i E 9 3 h22 mw620 (show decode prog_12_method_5_code 59 = .ok (.getfield 74, 3) by decide +kernel) ?_
            obtain ⟨M23, h24, h⟩ := bd h
            refine xp_i E 8 14 h24 mw632 (show decode prog_12_method_5_code 62 = .ok (.putfield 121, 3) by decide +kernel) (Or.inl rfl) ?_
            refine xv_b E [.aload_n 0] (pc' := 66) (lv' := [(2, .inr (.inr o_3)), (0, .inr (.inr (some a0))), (1, .inl v1)]) (st' := [.inr (.inr (some a0))]) (by decide +kernel) rfl rfl ?_
            obtain ⟨o_25, h26, h⟩ := bd h
            refine xg_r E 10 0 h26 mw60 (show decode prog_12_method_5_code 66 = .ok (.getfield 34, 3) by decide +kernel) ?_
            refine xv_b E [.iconst 1] (pc' := 70) (lv' := [(2, .inr (.inr o_3)), (0, .inr (.inr (some a0))), (1, .inl v1)]) (st' := [.inl (1 : Int32), .inr (.inr o_25)]) (by decide +kernel) rfl rfl ?_
            refine xv_ldc E (16777213 : Int32) mw634 (show decode prog_12_method_5_code 70 = .ok (.ldc 124, 2) by decide +kernel) ?_
            refine xv_ldc E (16777213 : Int32) mw634 (show decode prog_12_method_5_code 72 = .ok (.ldc 124, 2) by decide +kernel) ?_
            refine xv_b E [.iconst 0] (pc' := 75) (lv' := [(2, .inr (.inr o_3)), (0, .inr (.inr (some a0))), (1, .inl v1)]) (st' := [.inl (0 : Int32), .inl (16777213 : Int32), .inl (16777213 : Int32), .inl (1 : Int32), .inr (.inr o_25)]) (by decide +kernel) rfl rfl ?_
            obtain ⟨b_29, h30, h⟩ := bd h
            obtain ⟨eh30, th30⟩ := g_o_some h30
            obtain ⟨q_27, h28, h⟩ := bd h
            refine xv_cvo E eh30 9 (as := [.inl (1 : Int32), .inl (16777213 : Int32), .inl (16777213 : Int32), .inl (0 : Int32)]) (t34 G l (c_R_some h28)) cd34 mw556 mw251 mw252 (show decode prog_12_method_5_code 75 = .ok (.invokevirtual 92, 3) by decide +kernel) th30 rfl rfl (Nat.le_of_ble_eq_true rfl) ⟨Nat.le_of_ble_eq_true rfl, Nat.le_of_ble_eq_true rfl⟩ ?_
            refine xv_b E [.astore_n 3, .aload_n 3, .iconst 1, .aload_n 0] (pc' := 82) (lv' := [(3, .inr (.inr q_27.1)), (2, .inr (.inr o_3)), (0, .inr (.inr (some a0))), (1, .inl v1)]) (st' := [.inr (.inr (some a0)), .inl (1 : Int32), .inr (.inr q_27.1)]) (by decide +kernel) rfl rfl ?_
            obtain ⟨v_31, h32, h⟩ := bd h
            refine xg_i E 10 1 h32 mw61 (show decode prog_12_method_5_code 82 = .ok (.getfield 38, 3) by decide +kernel) ?_
            refine xv_b E [.i2l] (pc' := 86) (lv' := [(3, .inr (.inr q_27.1)), (2, .inr (.inr o_3)), (0, .inr (.inr (some a0))), (1, .inl v1)]) (st' := [.inr (.inl (Int32.toInt64 v_31)), .inl (1 : Int32), .inr (.inr q_27.1)]) (by decide +kernel) rfl rfl ?_
            obtain ⟨b_35, h36, h⟩ := bd h
            obtain ⟨eh36, th36⟩ := g_o_some h36
            obtain ⟨q_33, h34, h⟩ := bd h
            refine xv_cvo E eh36 2 (as := [.inl (1 : Int32), .inr (.inl (Int32.toInt64 v_31))]) (t36 G l (c_V_some h34)) cd36 mw633 mw254 mw255 (show decode prog_12_method_5_code 86 = .ok (.invokevirtual 125, 3) by decide +kernel) th36 rfl rfl (Nat.le_of_ble_eq_true rfl) ⟨Nat.le_of_ble_eq_true rfl, Nat.le_of_ble_eq_true rfl⟩ ?_
            refine xv_b E [.aload_n 2, .aload_n 3] (pc' := 91) (lv' := [(3, .inr (.inr q_27.1)), (2, .inr (.inr o_3)), (0, .inr (.inr (some a0))), (1, .inl v1)]) (st' := [.inr (.inr q_27.1), .inr (.inr o_3)]) (by decide +kernel) rfl rfl ?_
            obtain ⟨b_39, h40, h⟩ := bd h
            obtain ⟨eh40, th40⟩ := g_o_some h40
            obtain ⟨q_37, h38, h⟩ := bd h
            refine xv_cvo E eh40 8 (as := [.inr (.inr q_27.1)]) (t39 G l (c_V_some h38)) cd39 mw557 mw257 mw258 (show decode prog_12_method_5_code 91 = .ok (.invokevirtual 95, 3) by decide +kernel) th40 rfl rfl (Nat.le_of_ble_eq_true rfl) ⟨Nat.le_of_ble_eq_true rfl, Nat.le_of_ble_eq_true rfl⟩ ?_
            exact xv_w (sb113_94 E B a0 v1 q_37 h hN) rfl
        · rw [if_neg q42] at h
          refine xv_icmp_ne E 94 (show decode prog_12_method_5_code 34 = .ok (.if_icmp .ne (60), 3) by decide +kernel) rfl (fun _ => ?_) (fun z => absurd z q42)
          exact xv_w (sb113_94 E B a0 v1 q_7.2 h hN) rfl
end
theorem t113 (G : gX) (l : Launch) {as : List aV} {M : hM} {r : Option aV} {M' : hM} (h : f113 as M = some (r, M')) : xM G l ym113 prog_12_method_5_code 4 none 3 as M r M' := by
  unfold f113 at h
  split at h
  · have hle : ∀ h as M res, k113 h as M = some res → h_sz M ≤ r_sz res ∧ h_sl M ≤ r_sl res := by
      intro h as M res hb
      unfold k113 at hb
      by_cases e0 : h = 2
      · rw [if_pos e0] at hb
        split at hb
        · exact lb113_2 G l _ _ M hb
        · cases hb
      · rw [if_neg e0] at hb
        cases hb
    obtain ⟨res, hx, hres⟩ := x_go_ok h
    refine xM_of (by decide) (Nat.le_of_ble_eq_true rfl) ?_ ?_
    · have e1 := lb113_0 G l _ M hx
      have e2 := x_go_le hle hres
      omega
    · intro p e s m args below meth c E B
      refine sb113_0 E B _ M hx (hres _ ?_)
      intro h as M res hb hN
      unfold k113 at hb
      unfold pg113
      by_cases e0 : h = 2
      · rw [if_pos e0] at hb ⊢
        split at hb
        · exact sb113_2 E B _ _ M hb hN
        · cases hb
      · rw [if_neg e0] at hb ⊢
        cases hb
  · cases h
/-! ZF.Notice.add(I)V -/
def ym114 : MethodName := ⟨"ZonedFabric$Notice", "add", "(I)V"⟩
theorem cd114 : xCd ym114 prog_8_method_4_code 2 none 1 := ⟨mw635, mw46, by decide, by decide, by decide +kernel⟩
def b114_33  (M : hM) : Option xRes :=
  some (.inl (none, M))
def b114_0 (a0 : Nat) (v1 : Int32) (M : hM) : Option xRes :=
  Option.bind (g_i M 6 1 (some a0)) fun v_1 =>
  Option.bind (g_r M 6 0 (some a0)) fun o_3 =>
  Option.bind (a_ln M 21 o_3) fun v_5 =>
  if v_5 ≤ v_1 then
    (b114_33  M)
  else
    (Option.bind (g_r M 6 0 (some a0)) fun o_7 =>
    Option.bind (g_i M 6 1 (some a0)) fun v_9 =>
    Option.bind (as_b M 21 o_7 v_9 (Int32.toInt8 v1).toInt32) fun M11 =>
    Option.bind (g_i M11 6 1 (some a0)) fun v_13 =>
    Option.bind (p_i M11 6 1 (some a0) (v_13 + (1 : Int32))) fun M15 =>
    b114_33  M15)
def f114 (as : List aV) (M : hM) : xO := match as with
  | [.inr (.inr (some a0)), .inl v1] => x_out (b114_0 a0 v1 M)
  | _ => none
theorem lb114_33 (G : gX) (l : Launch)  (M : hM) {res : xRes} (h : b114_33  M = some res) : h_sz M ≤ r_sz res ∧ h_sl M ≤ r_sl res := by
  unfold b114_33 at h
  obtain rfl := Option.some.inj h
  show h_sz M ≤ h_sz M ∧ h_sl M ≤ h_sl M
  omega
theorem lb114_0 (G : gX) (l : Launch) (a0 : Nat) (v1 : Int32) (M : hM) {res : xRes} (h : b114_0 a0 v1 M = some res) : h_sz M ≤ r_sz res ∧ h_sl M ≤ r_sl res := by
  unfold b114_0 at h
  obtain ⟨v_1, h2, h⟩ := bd h
  obtain ⟨o_3, h4, h⟩ := bd h
  obtain ⟨v_5, h6, h⟩ := bd h
  by_cases q17 : v_5 ≤ v_1
  · rw [if_pos q17] at h
    have e := lb114_33 G l  M h
    omega
  · rw [if_neg q17] at h
    obtain ⟨o_7, h8, h⟩ := bd h
    obtain ⟨v_9, h10, h⟩ := bd h
    obtain ⟨M11, h12, h⟩ := bd h
    have eh12 := as_b_sz h12
    obtain ⟨v_13, h14, h⟩ := bd h
    obtain ⟨M15, h16, h⟩ := bd h
    have eh16 := p_i_sz h16
    have e := lb114_33 G l  M15 h
    omega
section
variable {p : Program} {l : Launch} {e : Env} {s : State} {m : MethodId} {args : Array Value} {below : List Frame} {meth : Method} {c : Code} {G : gX} {z0 y0 : Nat} {r : Option aV} {M' : hM}
theorem sb114_33 (E : xE G p (xRm 0 (h_sz M' - z0) (h_sl M' - y0)) s m args c prog_8_method_4_code "ZonedFabric$Notice" z0 y0 (h_sz M') (h_sl M') 2) (B : xB ym114 none meth)  (M : hM) {res : xRes} (h : b114_33  M = some res) (hN : xN (fun _ _ _ => False) r M' res) : xV G p l e (xRm 0 (h_sz M' - z0) (h_sl M' - y0)) s m args below meth c z0 y0 (h_sz M') (h_sl M') 2 (MQ below (xQc G r M') args s (h_sz M' - z0) (h_sl M' - y0) (xFr G)) 33 [] [] M := by
  unfold b114_33 at h
  obtain rfl := Option.some.inj h
  obtain ⟨rfl, rfl⟩ := Prod.mk.inj (show ((none : Option aV), M) = (r, M') from hN)
  exact xv_rv E B.1 B.2.1 (show decode prog_8_method_4_code 33 = .ok (.return_, 1) by decide +kernel) rfl rfl
theorem sb114_0 (E : xE G p (xRm 0 (h_sz M' - z0) (h_sl M' - y0)) s m args c prog_8_method_4_code "ZonedFabric$Notice" z0 y0 (h_sz M') (h_sl M') 2) (B : xB ym114 none meth) (a0 : Nat) (v1 : Int32) (M : hM) {res : xRes} (h : b114_0 a0 v1 M = some res) (hN : xN (fun _ _ _ => False) r M' res) : xV G p l e (xRm 0 (h_sz M' - z0) (h_sl M' - y0)) s m args below meth c z0 y0 (h_sz M') (h_sl M') 2 (MQ below (xQc G r M') args s (h_sz M' - z0) (h_sl M' - y0) (xFr G)) 0 [(0, .inr (.inr (some a0))), (1, .inl v1)] [] M := by
  unfold b114_0 at h
  refine xv_b E [.aload_n 0] (pc' := 1) (lv' := [(0, .inr (.inr (some a0))), (1, .inl v1)]) (st' := [.inr (.inr (some a0))]) (by decide +kernel) rfl rfl ?_
  obtain ⟨v_1, h2, h⟩ := bd h
  refine xg_i E 6 1 h2 mw560 (show decode prog_8_method_4_code 1 = .ok (.getfield 15, 3) by decide +kernel) ?_
  refine xv_b E [.aload_n 0] (pc' := 5) (lv' := [(0, .inr (.inr (some a0))), (1, .inl v1)]) (st' := [.inr (.inr (some a0)), .inl v_1]) (by decide +kernel) rfl rfl ?_
  obtain ⟨o_3, h4, h⟩ := bd h
  refine xg_r E 6 0 h4 mw48 (show decode prog_8_method_4_code 5 = .ok (.getfield 9, 3) by decide +kernel) ?_
  obtain ⟨v_5, h6, h⟩ := bd h
  refine xa_n E 21 h6 (show decode prog_8_method_4_code 8 = .ok (.arraylength, 1) by decide +kernel) ?_
  by_cases q17 : v_5 ≤ v_1
  · rw [if_pos q17] at h
    refine xv_icmp_ge E 33 (show decode prog_8_method_4_code 9 = .ok (.if_icmp .ge (24), 3) by decide +kernel) rfl (fun _ => ?_) (fun z => absurd q17 z)
    exact xv_w (sb114_33 E B  M h hN) rfl
  · rw [if_neg q17] at h
    refine xv_icmp_ge E 33 (show decode prog_8_method_4_code 9 = .ok (.if_icmp .ge (24), 3) by decide +kernel) rfl (fun z => absurd z q17) (fun _ => ?_)
    refine xv_b E [.aload_n 0] (pc' := 13) (lv' := [(0, .inr (.inr (some a0))), (1, .inl v1)]) (st' := [.inr (.inr (some a0))]) (by decide +kernel) rfl rfl ?_
    obtain ⟨o_7, h8, h⟩ := bd h
    refine xg_r E 6 0 h8 mw48 (show decode prog_8_method_4_code 13 = .ok (.getfield 9, 3) by decide +kernel) ?_
    refine xv_b E [.aload_n 0] (pc' := 17) (lv' := [(0, .inr (.inr (some a0))), (1, .inl v1)]) (st' := [.inr (.inr (some a0)), .inr (.inr o_7)]) (by decide +kernel) rfl rfl ?_
    obtain ⟨v_9, h10, h⟩ := bd h
    refine xg_i E 6 1 h10 mw560 (show decode prog_8_method_4_code 17 = .ok (.getfield 15, 3) by decide +kernel) ?_
    refine xv_b E [.iload_n 1, .i2b] (pc' := 22) (lv' := [(0, .inr (.inr (some a0))), (1, .inl v1)]) (st' := [.inl (Int32.toInt8 v1).toInt32, .inl v_9, .inr (.inr o_7)]) (by decide +kernel) rfl rfl ?_
    obtain ⟨M11, h12, h⟩ := bd h
    refine xs_b E h12 (show decode prog_8_method_4_code 22 = .ok (.bastore, 1) by decide +kernel) ?_
    refine xv_b E [.aload_n 0, .dup] (pc' := 25) (lv' := [(0, .inr (.inr (some a0))), (1, .inl v1)]) (st' := [.inr (.inr (some a0)), .inr (.inr (some a0))]) (by decide +kernel) rfl rfl ?_
    obtain ⟨v_13, h14, h⟩ := bd h
    refine xg_i E 6 1 h14 mw560 (show decode prog_8_method_4_code 25 = .ok (.getfield 15, 3) by decide +kernel) ?_
    refine xv_b E [.iconst 1, .iadd] (pc' := 30) (lv' := [(0, .inr (.inr (some a0))), (1, .inl v1)]) (st' := [.inl (v_13 + (1 : Int32)), .inr (.inr (some a0))]) (by decide +kernel) rfl rfl ?_
    obtain ⟨M15, h16, h⟩ := bd h
    refine xp_i E 6 1 h16 mw560 (show decode prog_8_method_4_code 30 = .ok (.putfield 15, 3) by decide +kernel) (Or.inl rfl) ?_
    exact xv_w (sb114_33 E B  M15 h hN) rfl
end
theorem t114 (G : gX) (l : Launch) {as : List aV} {M : hM} {r : Option aV} {M' : hM} (h : f114 as M = some (r, M')) : xM G l ym114 prog_8_method_4_code 2 none 0 as M r M' := by
  unfold f114 at h
  split at h
  · have h := x_out_ok h
    refine xM_of (by decide) (Nat.le_of_ble_eq_true rfl) (lb114_0 G l _ _ M h) ?_
    intro p e s m args below meth c E B
    exact sb114_0 E B _ _ M h rfl
  · cases h
/-! ZF.Port.isToNode()Z -/
def ym115 : MethodName := ⟨"ZonedFabric$Port", "isToNode", "()Z"⟩
theorem cd115 : xCd ym115 prog_10_method_4_code 1 (some FieldType.boolean) 0 := ⟨mw636, mw14, by decide, by decide, by decide +kernel⟩
def b115_24 (si0 : Int32) (M : hM) : Option xRes :=
  if si0 = 0 ∨ si0 = 1 then
    (some (.inl (some (.inl si0), M)))
  else
    none
def b115_23  (M : hM) : Option xRes :=
  b115_24 (0 : Int32) M
def b115_0 (a0 : Nat) (M : hM) : Option xRes :=
  Option.bind (g_r M 8 3 (some a0)) fun o_1 =>
  if o_1 = none then
    (b115_23  M)
  else
    (Option.bind (g_r M 8 3 (some a0)) fun o_3 =>
    Option.bind (g_i M 8 1 o_3) fun v_5 =>
    if v_5 < (16 : Int32) then
      (b115_23  M)
    else
      (b115_24 (1 : Int32) M))
def f115 (as : List aV) (M : hM) : xO := match as with
  | [.inr (.inr (some a0))] => x_out (b115_0 a0 M)
  | _ => none
theorem lb115_24 (G : gX) (l : Launch) (si0 : Int32) (M : hM) {res : xRes} (h : b115_24 si0 M = some res) : h_sz M ≤ r_sz res ∧ h_sl M ≤ r_sl res := by
  unfold b115_24 at h
  by_cases q9 : si0 = 0 ∨ si0 = 1
  · rw [if_pos q9] at h
    obtain rfl := Option.some.inj h
    show h_sz M ≤ h_sz M ∧ h_sl M ≤ h_sl M
    omega
  · rw [if_neg q9] at h
    cases h
theorem lb115_23 (G : gX) (l : Launch)  (M : hM) {res : xRes} (h : b115_23  M = some res) : h_sz M ≤ r_sz res ∧ h_sl M ≤ r_sl res := by
  unfold b115_23 at h
  have e := lb115_24 G l (0 : Int32) M h
  omega
theorem lb115_0 (G : gX) (l : Launch) (a0 : Nat) (M : hM) {res : xRes} (h : b115_0 a0 M = some res) : h_sz M ≤ r_sz res ∧ h_sl M ≤ r_sl res := by
  unfold b115_0 at h
  obtain ⟨o_1, h2, h⟩ := bd h
  by_cases q8 : o_1 = none
  · rw [if_pos q8] at h
    have e := lb115_23 G l  M h
    omega
  · rw [if_neg q8] at h
    obtain ⟨o_3, h4, h⟩ := bd h
    obtain ⟨v_5, h6, h⟩ := bd h
    by_cases q7 : v_5 < (16 : Int32)
    · rw [if_pos q7] at h
      have e := lb115_23 G l  M h
      omega
    · rw [if_neg q7] at h
      have e := lb115_24 G l (1 : Int32) M h
      omega
section
variable {p : Program} {l : Launch} {e : Env} {s : State} {m : MethodId} {args : Array Value} {below : List Frame} {meth : Method} {c : Code} {G : gX} {z0 y0 : Nat} {r : Option aV} {M' : hM}
theorem sb115_24 (E : xE G p (xRm 0 (h_sz M' - z0) (h_sl M' - y0)) s m args c prog_10_method_4_code "ZonedFabric$Port" z0 y0 (h_sz M') (h_sl M') 1) (B : xB ym115 (some FieldType.boolean) meth) (si0 : Int32) (M : hM) {res : xRes} (h : b115_24 si0 M = some res) (hN : xN (fun _ _ _ => False) r M' res) : xV G p l e (xRm 0 (h_sz M' - z0) (h_sl M' - y0)) s m args below meth c z0 y0 (h_sz M') (h_sl M') 1 (MQ below (xQc G r M') args s (h_sz M' - z0) (h_sl M' - y0) (xFr G)) 24 [] [.inl si0] M := by
  unfold b115_24 at h
  by_cases q9 : si0 = 0 ∨ si0 = 1
  · rw [if_pos q9] at h
    obtain rfl := Option.some.inj h
    obtain ⟨rfl, rfl⟩ := Prod.mk.inj (show ((some (.inl si0) : Option aV), M) = (r, M') from hN)
    exact xv_ri E B.1 (by rcases q9 with z | z <;> rw [z] <;> rfl) B.2.1 (show decode prog_10_method_4_code 24 = .ok (.ireturn, 1) by decide +kernel) rfl rfl
  · rw [if_neg q9] at h
    cases h
theorem sb115_23 (E : xE G p (xRm 0 (h_sz M' - z0) (h_sl M' - y0)) s m args c prog_10_method_4_code "ZonedFabric$Port" z0 y0 (h_sz M') (h_sl M') 1) (B : xB ym115 (some FieldType.boolean) meth)  (M : hM) {res : xRes} (h : b115_23  M = some res) (hN : xN (fun _ _ _ => False) r M' res) : xV G p l e (xRm 0 (h_sz M' - z0) (h_sl M' - y0)) s m args below meth c z0 y0 (h_sz M') (h_sl M') 1 (MQ below (xQc G r M') args s (h_sz M' - z0) (h_sl M' - y0) (xFr G)) 23 [] [] M := by
  unfold b115_23 at h
  refine xv_b E [.iconst 0] (pc' := 24) (lv' := []) (st' := [.inl (0 : Int32)]) (by decide +kernel) rfl rfl ?_
  exact xv_w (sb115_24 E B (0 : Int32) M h hN) rfl
theorem sb115_0 (E : xE G p (xRm 0 (h_sz M' - z0) (h_sl M' - y0)) s m args c prog_10_method_4_code "ZonedFabric$Port" z0 y0 (h_sz M') (h_sl M') 1) (B : xB ym115 (some FieldType.boolean) meth) (a0 : Nat) (M : hM) {res : xRes} (h : b115_0 a0 M = some res) (hN : xN (fun _ _ _ => False) r M' res) : xV G p l e (xRm 0 (h_sz M' - z0) (h_sl M' - y0)) s m args below meth c z0 y0 (h_sz M') (h_sl M') 1 (MQ below (xQc G r M') args s (h_sz M' - z0) (h_sl M' - y0) (xFr G)) 0 [(0, .inr (.inr (some a0)))] [] M := by
  unfold b115_0 at h
  refine xv_b E [.aload_n 0] (pc' := 1) (lv' := [(0, .inr (.inr (some a0)))]) (st' := [.inr (.inr (some a0))]) (by decide +kernel) rfl rfl ?_
  obtain ⟨o_1, h2, h⟩ := bd h
  refine xg_r E 8 3 h2 mw329 (show decode prog_10_method_4_code 1 = .ok (.getfield 74, 3) by decide +kernel) ?_
  by_cases q8 : o_1 = none
  · rw [if_pos q8] at h
    refine xi_null E 23 (show decode prog_10_method_4_code 4 = .ok (.ifnull (19), 3) by decide +kernel) rfl (fun _ => ?_) (fun z => absurd q8 z)
    exact xv_w (sb115_23 E B  M h hN) rfl
  · rw [if_neg q8] at h
    refine xi_null E 23 (show decode prog_10_method_4_code 4 = .ok (.ifnull (19), 3) by decide +kernel) rfl (fun z => absurd z q8) (fun _ => ?_)
    refine xv_b E [.aload_n 0] (pc' := 8) (lv' := [(0, .inr (.inr (some a0)))]) (st' := [.inr (.inr (some a0))]) (by decide +kernel) rfl rfl ?_
    obtain ⟨o_3, h4, h⟩ := bd h
    refine xg_r E 8 3 h4 mw329 (show decode prog_10_method_4_code 8 = .ok (.getfield 74, 3) by decide +kernel) ?_
    obtain ⟨v_5, h6, h⟩ := bd h
    refine xg_i E 8 1 h6 mw23 (show decode prog_10_method_4_code 11 = .ok (.getfield 32, 3) by decide +kernel) ?_
    refine xv_b E [.bipush 16] (pc' := 16) (lv' := [(0, .inr (.inr (some a0)))]) (st' := [.inl (16 : Int32), .inl v_5]) (by decide +kernel) rfl rfl ?_
    by_cases q7 : v_5 < (16 : Int32)
    · rw [if_pos q7] at h
      refine xv_icmp_lt E 23 (show decode prog_10_method_4_code 16 = .ok (.if_icmp .lt (7), 3) by decide +kernel) rfl (fun _ => ?_) (fun z => absurd q7 z)
      exact xv_w (sb115_23 E B  M h hN) rfl
    · rw [if_neg q7] at h
      refine xv_icmp_lt E 23 (show decode prog_10_method_4_code 16 = .ok (.if_icmp .lt (7), 3) by decide +kernel) rfl (fun z => absurd z q7) (fun _ => ?_)
      refine xv_b E [.iconst 1] (pc' := 20) (lv' := [(0, .inr (.inr (some a0)))]) (st' := [.inl (1 : Int32)]) (by decide +kernel) rfl rfl ?_
      refine xv_goto E 24 (show decode prog_10_method_4_code 20 = .ok (.goto (4), 3) by decide +kernel) rfl ?_
      exact xv_w (sb115_24 E B (1 : Int32) M h hN) rfl
end
theorem t115 (G : gX) (l : Launch) {as : List aV} {M : hM} {r : Option aV} {M' : hM} (h : f115 as M = some (r, M')) : xM G l ym115 prog_10_method_4_code 1 (some FieldType.boolean) 0 as M r M' := by
  unfold f115 at h
  split at h
  · have h := x_out_ok h
    refine xM_of (by decide) (Nat.le_of_ble_eq_true rfl) (lb115_0 G l _ M h) ?_
    intro p e s m args below meth c E B
    exact sb115_0 E B _ M h rfl
  · cases h
/-! ZF.Port.nodeThere()I -/
def ym116 : MethodName := ⟨"ZonedFabric$Port", "nodeThere", "()I"⟩
theorem cd116 : xCd ym116 prog_10_method_6_code 1 (some FieldType.int) 0 := ⟨mw637, mw14, by decide, by decide, by decide +kernel⟩
def b116_21 (si0 : Int32) (M : hM) : Option xRes :=
  some (.inl (some (.inl si0), M))
def b116_0 (a0 : Nat) (M : hM) : Option xRes :=
  Option.bind (g_o M 8 (some a0)) fun b_3 =>
  Option.bind (c_I (f115 [.inr (.inr (some b_3))] M)) fun q_1 =>
  if q_1.1 = 0 then
    (b116_21 (-1 : Int32) q_1.2)
  else
    (Option.bind (g_r q_1.2 8 3 (some a0)) fun o_5 =>
    Option.bind (g_i q_1.2 8 1 o_5) fun v_7 =>
    b116_21 (v_7 - (16 : Int32)) q_1.2)
def f116 (as : List aV) (M : hM) : xO := match as with
  | [.inr (.inr (some a0))] => x_out (b116_0 a0 M)
  | _ => none
theorem lb116_21 (G : gX) (l : Launch) (si0 : Int32) (M : hM) {res : xRes} (h : b116_21 si0 M = some res) : h_sz M ≤ r_sz res ∧ h_sl M ≤ r_sl res := by
  unfold b116_21 at h
  obtain rfl := Option.some.inj h
  show h_sz M ≤ h_sz M ∧ h_sl M ≤ h_sl M
  omega
theorem lb116_0 (G : gX) (l : Launch) (a0 : Nat) (M : hM) {res : xRes} (h : b116_0 a0 M = some res) : h_sz M ≤ r_sz res ∧ h_sl M ≤ r_sl res := by
  unfold b116_0 at h
  obtain ⟨b_3, h4, h⟩ := bd h
  obtain ⟨q_1, h2, h⟩ := bd h
  have eh2 := (t115 G l (c_I_some h2)).1
  by_cases q9 : q_1.1 = 0
  · rw [if_pos q9] at h
    have e := lb116_21 G l (-1 : Int32) q_1.2 h
    omega
  · rw [if_neg q9] at h
    obtain ⟨o_5, h6, h⟩ := bd h
    obtain ⟨v_7, h8, h⟩ := bd h
    have e := lb116_21 G l (v_7 - (16 : Int32)) q_1.2 h
    omega
section
variable {p : Program} {l : Launch} {e : Env} {s : State} {m : MethodId} {args : Array Value} {below : List Frame} {meth : Method} {c : Code} {G : gX} {z0 y0 : Nat} {r : Option aV} {M' : hM}
theorem sb116_21 (E : xE G p (xRm 1 (h_sz M' - z0) (h_sl M' - y0)) s m args c prog_10_method_6_code "ZonedFabric$Port" z0 y0 (h_sz M') (h_sl M') 1) (B : xB ym116 (some FieldType.int) meth) (si0 : Int32) (M : hM) {res : xRes} (h : b116_21 si0 M = some res) (hN : xN (fun _ _ _ => False) r M' res) : xV G p l e (xRm 1 (h_sz M' - z0) (h_sl M' - y0)) s m args below meth c z0 y0 (h_sz M') (h_sl M') 1 (MQ below (xQc G r M') args s (h_sz M' - z0) (h_sl M' - y0) (xFr G)) 21 [] [.inl si0] M := by
  unfold b116_21 at h
  obtain rfl := Option.some.inj h
  obtain ⟨rfl, rfl⟩ := Prod.mk.inj (show ((some (.inl si0) : Option aV), M) = (r, M') from hN)
  exact xv_ri E B.1 rfl B.2.1 (show decode prog_10_method_6_code 21 = .ok (.ireturn, 1) by decide +kernel) rfl rfl
theorem sb116_0 (E : xE G p (xRm 1 (h_sz M' - z0) (h_sl M' - y0)) s m args c prog_10_method_6_code "ZonedFabric$Port" z0 y0 (h_sz M') (h_sl M') 1) (B : xB ym116 (some FieldType.int) meth) (a0 : Nat) (M : hM) {res : xRes} (h : b116_0 a0 M = some res) (hN : xN (fun _ _ _ => False) r M' res) : xV G p l e (xRm 1 (h_sz M' - z0) (h_sl M' - y0)) s m args below meth c z0 y0 (h_sz M') (h_sl M') 1 (MQ below (xQc G r M') args s (h_sz M' - z0) (h_sl M' - y0) (xFr G)) 0 [(0, .inr (.inr (some a0)))] [] M := by
  unfold b116_0 at h
  refine xv_b E [.aload_n 0] (pc' := 1) (lv' := [(0, .inr (.inr (some a0)))]) (st' := [.inr (.inr (some a0))]) (by decide +kernel) rfl rfl ?_
  obtain ⟨b_3, h4, h⟩ := bd h
  obtain ⟨eh4, th4⟩ := g_o_some h4
  obtain ⟨q_1, h2, h⟩ := bd h
  refine xv_cvo E eh4 8 (as := []) (t115 G l (c_I_some h2)) cd115 mw638 mw639 mw640 (show decode prog_10_method_6_code 1 = .ok (.invokevirtual 78, 3) by decide +kernel) th4 rfl rfl (Nat.le_of_ble_eq_true rfl) ⟨Nat.le_of_ble_eq_true rfl, Nat.le_of_ble_eq_true rfl⟩ ?_
  by_cases q9 : q_1.1 = 0
  · rw [if_pos q9] at h
    refine xv_if_eq E 20 (show decode prog_10_method_6_code 4 = .ok (.ifCond .eq (16), 3) by decide +kernel) rfl (fun _ => ?_) (fun z => absurd q9 z)
    refine xv_b E [.iconst (-1)] (pc' := 21) (lv' := [(0, .inr (.inr (some a0)))]) (st' := [.inl (-1 : Int32)]) (by decide +kernel) rfl rfl ?_
    exact xv_w (sb116_21 E B (-1 : Int32) q_1.2 h hN) rfl
  · rw [if_neg q9] at h
    refine xv_if_eq E 20 (show decode prog_10_method_6_code 4 = .ok (.ifCond .eq (16), 3) by decide +kernel) rfl (fun z => absurd z q9) (fun _ => ?_)
    refine xv_b E [.aload_n 0] (pc' := 8) (lv' := [(0, .inr (.inr (some a0)))]) (st' := [.inr (.inr (some a0))]) (by decide +kernel) rfl rfl ?_
    obtain ⟨o_5, h6, h⟩ := bd h
    refine xg_r E 8 3 h6 mw329 (show decode prog_10_method_6_code 8 = .ok (.getfield 74, 3) by decide +kernel) ?_
    obtain ⟨v_7, h8, h⟩ := bd h
    refine xg_i E 8 1 h8 mw23 (show decode prog_10_method_6_code 11 = .ok (.getfield 32, 3) by decide +kernel) ?_
    refine xv_b E [.bipush 16, .isub] (pc' := 17) (lv' := [(0, .inr (.inr (some a0)))]) (st' := [.inl (v_7 - (16 : Int32))]) (by decide +kernel) rfl rfl ?_
    refine xv_goto E 21 (show decode prog_10_method_6_code 17 = .ok (.goto (4), 3) by decide +kernel) rfl ?_
    exact xv_w (sb116_21 E B (v_7 - (16 : Int32)) q_1.2 h hN) rfl
end
theorem t116 (G : gX) (l : Launch) {as : List aV} {M : hM} {r : Option aV} {M' : hM} (h : f116 as M = some (r, M')) : xM G l ym116 prog_10_method_6_code 1 (some FieldType.int) 1 as M r M' := by
  unfold f116 at h
  split at h
  · have h := x_out_ok h
    refine xM_of (by decide) (Nat.le_of_ble_eq_true rfl) (lb116_0 G l _ M h) ?_
    intro p e s m args below meth c E B
    exact sb116_0 E B _ M h rfl
  · cases h
/-! ZF.Switch.draftOwnRecord()V -/
def ym117 : MethodName := ⟨"ZonedFabric$Switch", "draftOwnRecord", "()V"⟩
theorem cd117 : xCd ym117 prog_12_method_7_code 4 none 0 := ⟨mw641, mw51, by decide, by decide, by decide +kernel⟩
def b117_0 (a0 : Nat) (M : hM) : Option xRes :=
  some (.inr (6, [.inr (.inr (some a0)), .inl (0 : Int32), .inl (0 : Int32), .inl (0 : Int32)], M))
def b117_51 (a0 : Nat) (v1 : Int32) (v3 : Int32) (si0 : Int32) (si1 : Int32) (M : hM) : Option xRes :=
  some (.inr (6, [.inr (.inr (some a0)), .inl v1, .inl (si1 + si0), .inl (v3 + (1 : Int32))], M))
def b117_31 (a0 : Nat) (v2 : Int32) (v3 : Int32) (si0 : Int32) (si1 : Int32) (M : hM) : Option xRes :=
  Option.bind (g_r M 10 2 (some a0)) fun o_23 =>
  Option.bind (al_r M 38 o_23 v3) fun o_25 =>
  Option.bind (g_i M 8 12 o_25) fun v_27 =>
  if v_27 = 0 then
    (b117_51 a0 (si1 + si0) v3 (0 : Int32) v2 M)
  else
    (b117_51 a0 (si1 + si0) v3 (1 : Int32) v2 M)
def b117_6 (a0 : Nat) (v1 : Int32) (v2 : Int32) (v3 : Int32) (M : hM) : Option xRes :=
  if (8 : Int32) ≤ v3 then
    (Option.bind (g_r M 10 5 (some a0)) fun o_1 =>
    Option.bind (g_o M 6 o_1) fun b_5 =>
    Option.bind (c_V (f110 [.inr (.inr (some b_5))] M)) fun q_3 =>
    Option.bind (g_r q_3 10 5 (some a0)) fun o_7 =>
    Option.bind (g_i q_3 10 1 (some a0)) fun v_9 =>
    Option.bind (g_o q_3 6 o_7) fun b_13 =>
    Option.bind (c_V (f114 [.inr (.inr (some b_13)), .inl v_9] q_3)) fun q_11 =>
    some (.inr (79, [.inr (.inr (some a0)), .inl v1, .inl v2, .inl (0 : Int32)], q_11)))
  else
    (Option.bind (g_r M 10 2 (some a0)) fun o_15 =>
    Option.bind (al_r M 38 o_15 v3) fun o_17 =>
    Option.bind (g_i M 8 11 o_17) fun v_19 =>
    if v_19 = (-1 : Int32) then
      (b117_31 a0 v2 v3 (0 : Int32) v1 M)
    else
      (b117_31 a0 v2 v3 (1 : Int32) v1 M))
def b117_79 (a0 : Nat) (v1 : Int32) (v2 : Int32) (v3 : Int32) (M : hM) : Option xRes :=
  if (3 : Int32) ≤ v3 then
    (Option.bind (g_r M 10 5 (some a0)) fun o_30 =>
    Option.bind (g_i M 10 3 (some a0)) fun v_32 =>
    Option.bind (g_o M 6 o_30) fun b_36 =>
    Option.bind (c_V (f114 [.inr (.inr (some b_36)), .inl v_32] M)) fun q_34 =>
    Option.bind (g_r q_34 10 5 (some a0)) fun o_38 =>
    Option.bind (g_o q_34 6 o_38) fun b_42 =>
    Option.bind (c_V (f114 [.inr (.inr (some b_42)), .inl v1] q_34)) fun q_40 =>
    some (.inr (119, [.inr (.inr (some a0)), .inl v2, .inl (0 : Int32)], q_40)))
  else
    (Option.bind (g_r M 10 5 (some a0)) fun o_44 =>
    Option.bind (g_o M 6 o_44) fun b_48 =>
    Option.bind (c_V (f114 [.inr (.inr (some b_48)), .inl (0 : Int32)] M)) fun q_46 =>
    some (.inr (79, [.inr (.inr (some a0)), .inl v1, .inl v2, .inl (v3 + (1 : Int32))], q_46)))
def b117_178 (a0 : Nat) (v2 : Int32) (v3 : Int32) (M : hM) : Option xRes :=
  some (.inr (119, [.inr (.inr (some a0)), .inl v2, .inl (v3 + (1 : Int32))], M))
def b117_119 (a0 : Nat) (v2 : Int32) (v3 : Int32) (M : hM) : Option xRes :=
  if (8 : Int32) ≤ v3 then
    (Option.bind (g_r M 10 5 (some a0)) fun o_51 =>
    Option.bind (g_o M 6 o_51) fun b_55 =>
    Option.bind (c_V (f114 [.inr (.inr (some b_55)), .inl v2] M)) fun q_53 =>
    some (.inr (194, [.inr (.inr (some a0)), .inl (0 : Int32)], q_53)))
  else
    (Option.bind (g_r M 10 2 (some a0)) fun o_57 =>
    Option.bind (al_r M 38 o_57 v3) fun o_59 =>
    Option.bind (g_i M 8 11 o_59) fun v_61 =>
    if v_61 = (-1 : Int32) then
      (b117_178 a0 v2 v3 M)
    else
      (Option.bind (g_r M 10 5 (some a0)) fun o_63 =>
      Option.bind (g_o M 6 o_63) fun b_67 =>
      Option.bind (c_V (f114 [.inr (.inr (some b_67)), .inl v3] M)) fun q_65 =>
      Option.bind (g_r q_65 10 5 (some a0)) fun o_69 =>
      Option.bind (g_r q_65 10 2 (some a0)) fun o_71 =>
      Option.bind (al_r q_65 38 o_71 v3) fun o_73 =>
      Option.bind (g_i q_65 8 11 o_73) fun v_75 =>
      Option.bind (g_o q_65 6 o_69) fun b_79 =>
      Option.bind (c_V (f114 [.inr (.inr (some b_79)), .inl v_75] q_65)) fun q_77 =>
      Option.bind (g_r q_77 10 5 (some a0)) fun o_81 =>
      Option.bind (g_r q_77 10 2 (some a0)) fun o_83 =>
      Option.bind (al_r q_77 38 o_83 v3) fun o_85 =>
      Option.bind (g_i q_77 8 4 o_85) fun v_87 =>
      Option.bind (g_o q_77 6 o_81) fun b_91 =>
      Option.bind (c_V (f114 [.inr (.inr (some b_91)), .inl v_87] q_77)) fun q_89 =>
      b117_178 a0 v2 v3 q_89))
def b117_236 (a0 : Nat) (v3 : Int32) (M : hM) : Option xRes :=
  some (.inr (194, [.inr (.inr (some a0)), .inl (v3 + (1 : Int32))], M))
def b117_194 (a0 : Nat) (v3 : Int32) (M : hM) : Option xRes :=
  if (8 : Int32) ≤ v3 then
    (some (.inl (none, M)))
  else
    (Option.bind (g_r M 10 2 (some a0)) fun o_95 =>
    Option.bind (al_r M 38 o_95 v3) fun o_97 =>
    Option.bind (g_i M 8 12 o_97) fun v_99 =>
    if v_99 = 0 then
      (b117_236 a0 v3 M)
    else
      (Option.bind (g_r M 10 5 (some a0)) fun o_101 =>
      Option.bind (g_r M 10 2 (some a0)) fun o_103 =>
      Option.bind (al_r M 38 o_103 v3) fun o_105 =>
      Option.bind (g_o M 8 o_105) fun b_109 =>
      Option.bind (c_I (f116 [.inr (.inr (some b_109))] M)) fun q_107 =>
      Option.bind (g_o q_107.2 6 o_101) fun b_113 =>
      Option.bind (c_V (f114 [.inr (.inr (some b_113)), .inl q_107.1] q_107.2)) fun q_111 =>
      Option.bind (g_r q_111 10 5 (some a0)) fun o_115 =>
      Option.bind (g_o q_111 6 o_115) fun b_119 =>
      Option.bind (c_V (f114 [.inr (.inr (some b_119)), .inl v3] q_111)) fun q_117 =>
      b117_236 a0 v3 q_117))
def k117 (h : Nat) (as : List aV) (M : hM) : Option xRes :=
  if h = 6 then (match as with | [.inr (.inr (some a0)), .inl v1, .inl v2, .inl v3] => b117_6 a0 v1 v2 v3 M | _ => none) else
  if h = 79 then (match as with | [.inr (.inr (some a0)), .inl v1, .inl v2, .inl v3] => b117_79 a0 v1 v2 v3 M | _ => none) else
  if h = 119 then (match as with | [.inr (.inr (some a0)), .inl v2, .inl v3] => b117_119 a0 v2 v3 M | _ => none) else
  if h = 194 then (match as with | [.inr (.inr (some a0)), .inl v3] => b117_194 a0 v3 M | _ => none) else
  none
def f117 (as : List aV) (M : hM) : xO := match as with
  | [.inr (.inr (some a0))] => x_go k117 (b117_0 a0 M)
  | _ => none
theorem lb117_0 (G : gX) (l : Launch) (a0 : Nat) (M : hM) {res : xRes} (h : b117_0 a0 M = some res) : h_sz M ≤ r_sz res ∧ h_sl M ≤ r_sl res := by
  unfold b117_0 at h
  obtain rfl := Option.some.inj h
  show h_sz M ≤ h_sz M ∧ h_sl M ≤ h_sl M
  omega
theorem lb117_51 (G : gX) (l : Launch) (a0 : Nat) (v1 : Int32) (v3 : Int32) (si0 : Int32) (si1 : Int32) (M : hM) {res : xRes} (h : b117_51 a0 v1 v3 si0 si1 M = some res) : h_sz M ≤ r_sz res ∧ h_sl M ≤ r_sl res := by
  unfold b117_51 at h
  obtain rfl := Option.some.inj h
  show h_sz M ≤ h_sz M ∧ h_sl M ≤ h_sl M
  omega
theorem lb117_31 (G : gX) (l : Launch) (a0 : Nat) (v2 : Int32) (v3 : Int32) (si0 : Int32) (si1 : Int32) (M : hM) {res : xRes} (h : b117_31 a0 v2 v3 si0 si1 M = some res) : h_sz M ≤ r_sz res ∧ h_sl M ≤ r_sl res := by
  unfold b117_31 at h
  obtain ⟨o_23, h24, h⟩ := bd h
  obtain ⟨o_25, h26, h⟩ := bd h
  obtain ⟨v_27, h28, h⟩ := bd h
  by_cases q29 : v_27 = 0
  · rw [if_pos q29] at h
    have e := lb117_51 G l a0 (si1 + si0) v3 (0 : Int32) v2 M h
    omega
  · rw [if_neg q29] at h
    have e := lb117_51 G l a0 (si1 + si0) v3 (1 : Int32) v2 M h
    omega
theorem lb117_6 (G : gX) (l : Launch) (a0 : Nat) (v1 : Int32) (v2 : Int32) (v3 : Int32) (M : hM) {res : xRes} (h : b117_6 a0 v1 v2 v3 M = some res) : h_sz M ≤ r_sz res ∧ h_sl M ≤ r_sl res := by
  unfold b117_6 at h
  by_cases q22 : (8 : Int32) ≤ v3
  · rw [if_pos q22] at h
    obtain ⟨o_1, h2, h⟩ := bd h
    obtain ⟨b_5, h6, h⟩ := bd h
    obtain ⟨q_3, h4, h⟩ := bd h
    have eh4 := (t110 G l (c_V_some h4)).1
    obtain ⟨o_7, h8, h⟩ := bd h
    obtain ⟨v_9, h10, h⟩ := bd h
    obtain ⟨b_13, h14, h⟩ := bd h
    obtain ⟨q_11, h12, h⟩ := bd h
    have eh12 := (t114 G l (c_V_some h12)).1
    obtain rfl := Option.some.inj h
    show h_sz M ≤ h_sz q_11 ∧ h_sl M ≤ h_sl q_11
    omega
  · rw [if_neg q22] at h
    obtain ⟨o_15, h16, h⟩ := bd h
    obtain ⟨o_17, h18, h⟩ := bd h
    obtain ⟨v_19, h20, h⟩ := bd h
    by_cases q21 : v_19 = (-1 : Int32)
    · rw [if_pos q21] at h
      have e := lb117_31 G l a0 v2 v3 (0 : Int32) v1 M h
      omega
    · rw [if_neg q21] at h
      have e := lb117_31 G l a0 v2 v3 (1 : Int32) v1 M h
      omega
theorem lb117_79 (G : gX) (l : Launch) (a0 : Nat) (v1 : Int32) (v2 : Int32) (v3 : Int32) (M : hM) {res : xRes} (h : b117_79 a0 v1 v2 v3 M = some res) : h_sz M ≤ r_sz res ∧ h_sl M ≤ r_sl res := by
  unfold b117_79 at h
  by_cases q50 : (3 : Int32) ≤ v3
  · rw [if_pos q50] at h
    obtain ⟨o_30, h31, h⟩ := bd h
    obtain ⟨v_32, h33, h⟩ := bd h
    obtain ⟨b_36, h37, h⟩ := bd h
    obtain ⟨q_34, h35, h⟩ := bd h
    have eh35 := (t114 G l (c_V_some h35)).1
    obtain ⟨o_38, h39, h⟩ := bd h
    obtain ⟨b_42, h43, h⟩ := bd h
    obtain ⟨q_40, h41, h⟩ := bd h
    have eh41 := (t114 G l (c_V_some h41)).1
    obtain rfl := Option.some.inj h
    show h_sz M ≤ h_sz q_40 ∧ h_sl M ≤ h_sl q_40
    omega
  · rw [if_neg q50] at h
    obtain ⟨o_44, h45, h⟩ := bd h
    obtain ⟨b_48, h49, h⟩ := bd h
    obtain ⟨q_46, h47, h⟩ := bd h
    have eh47 := (t114 G l (c_V_some h47)).1
    obtain rfl := Option.some.inj h
    show h_sz M ≤ h_sz q_46 ∧ h_sl M ≤ h_sl q_46
    omega
theorem lb117_178 (G : gX) (l : Launch) (a0 : Nat) (v2 : Int32) (v3 : Int32) (M : hM) {res : xRes} (h : b117_178 a0 v2 v3 M = some res) : h_sz M ≤ r_sz res ∧ h_sl M ≤ r_sl res := by
  unfold b117_178 at h
  obtain rfl := Option.some.inj h
  show h_sz M ≤ h_sz M ∧ h_sl M ≤ h_sl M
  omega
theorem lb117_119 (G : gX) (l : Launch) (a0 : Nat) (v2 : Int32) (v3 : Int32) (M : hM) {res : xRes} (h : b117_119 a0 v2 v3 M = some res) : h_sz M ≤ r_sz res ∧ h_sl M ≤ r_sl res := by
  unfold b117_119 at h
  by_cases q94 : (8 : Int32) ≤ v3
  · rw [if_pos q94] at h
    obtain ⟨o_51, h52, h⟩ := bd h
    obtain ⟨b_55, h56, h⟩ := bd h
    obtain ⟨q_53, h54, h⟩ := bd h
    have eh54 := (t114 G l (c_V_some h54)).1
    obtain rfl := Option.some.inj h
    show h_sz M ≤ h_sz q_53 ∧ h_sl M ≤ h_sl q_53
    omega
  · rw [if_neg q94] at h
    obtain ⟨o_57, h58, h⟩ := bd h
    obtain ⟨o_59, h60, h⟩ := bd h
    obtain ⟨v_61, h62, h⟩ := bd h
    by_cases q93 : v_61 = (-1 : Int32)
    · rw [if_pos q93] at h
      have e := lb117_178 G l a0 v2 v3 M h
      omega
    · rw [if_neg q93] at h
      obtain ⟨o_63, h64, h⟩ := bd h
      obtain ⟨b_67, h68, h⟩ := bd h
      obtain ⟨q_65, h66, h⟩ := bd h
      have eh66 := (t114 G l (c_V_some h66)).1
      obtain ⟨o_69, h70, h⟩ := bd h
      obtain ⟨o_71, h72, h⟩ := bd h
      obtain ⟨o_73, h74, h⟩ := bd h
      obtain ⟨v_75, h76, h⟩ := bd h
      obtain ⟨b_79, h80, h⟩ := bd h
      obtain ⟨q_77, h78, h⟩ := bd h
      have eh78 := (t114 G l (c_V_some h78)).1
      obtain ⟨o_81, h82, h⟩ := bd h
      obtain ⟨o_83, h84, h⟩ := bd h
      obtain ⟨o_85, h86, h⟩ := bd h
      obtain ⟨v_87, h88, h⟩ := bd h
      obtain ⟨b_91, h92, h⟩ := bd h
      obtain ⟨q_89, h90, h⟩ := bd h
      have eh90 := (t114 G l (c_V_some h90)).1
      have e := lb117_178 G l a0 v2 v3 q_89 h
      omega
theorem lb117_236 (G : gX) (l : Launch) (a0 : Nat) (v3 : Int32) (M : hM) {res : xRes} (h : b117_236 a0 v3 M = some res) : h_sz M ≤ r_sz res ∧ h_sl M ≤ r_sl res := by
  unfold b117_236 at h
  obtain rfl := Option.some.inj h
  show h_sz M ≤ h_sz M ∧ h_sl M ≤ h_sl M
  omega
theorem lb117_194 (G : gX) (l : Launch) (a0 : Nat) (v3 : Int32) (M : hM) {res : xRes} (h : b117_194 a0 v3 M = some res) : h_sz M ≤ r_sz res ∧ h_sl M ≤ r_sl res := by
  unfold b117_194 at h
  by_cases q122 : (8 : Int32) ≤ v3
  · rw [if_pos q122] at h
    obtain rfl := Option.some.inj h
    show h_sz M ≤ h_sz M ∧ h_sl M ≤ h_sl M
    omega
  · rw [if_neg q122] at h
    obtain ⟨o_95, h96, h⟩ := bd h
    obtain ⟨o_97, h98, h⟩ := bd h
    obtain ⟨v_99, h100, h⟩ := bd h
    by_cases q121 : v_99 = 0
    · rw [if_pos q121] at h
      have e := lb117_236 G l a0 v3 M h
      omega
    · rw [if_neg q121] at h
      obtain ⟨o_101, h102, h⟩ := bd h
      obtain ⟨o_103, h104, h⟩ := bd h
      obtain ⟨o_105, h106, h⟩ := bd h
      obtain ⟨b_109, h110, h⟩ := bd h
      obtain ⟨q_107, h108, h⟩ := bd h
      have eh108 := (t116 G l (c_I_some h108)).1
      obtain ⟨b_113, h114, h⟩ := bd h
      obtain ⟨q_111, h112, h⟩ := bd h
      have eh112 := (t114 G l (c_V_some h112)).1
      obtain ⟨o_115, h116, h⟩ := bd h
      obtain ⟨b_119, h120, h⟩ := bd h
      obtain ⟨q_117, h118, h⟩ := bd h
      have eh118 := (t114 G l (c_V_some h118)).1
      have e := lb117_236 G l a0 v3 q_117 h
      omega
section
variable {p : Program} {l : Launch} {e : Env} {s : State} {m : MethodId} {args : Array Value} {below : List Frame} {meth : Method} {c : Code} {G : gX} {z0 y0 : Nat} {r : Option aV} {M' : hM}
def pg117 (p : Program) (l : Launch) (e : Env) (s : State) (m : MethodId) (args : Array Value) (below : List Frame) (meth : Method) (c : Code) (G : gX) (z0 y0 : Nat) (r : Option aV) (M' : hM) (h : Nat) (as : List aV) (M : hM) : Prop :=
  if h = 6 then (match as with | [.inr (.inr (some a0)), .inl v1, .inl v2, .inl v3] => xV G p l e (xRm 2 (h_sz M' - z0) (h_sl M' - y0)) s m args below meth c z0 y0 (h_sz M') (h_sl M') 4 (MQ below (xQc G r M') args s (h_sz M' - z0) (h_sl M' - y0) (xFr G)) 6 [(0, .inr (.inr (some a0))), (1, .inl v1), (2, .inl v2), (3, .inl v3)] [] M | _ => False) else
  if h = 79 then (match as with | [.inr (.inr (some a0)), .inl v1, .inl v2, .inl v3] => xV G p l e (xRm 2 (h_sz M' - z0) (h_sl M' - y0)) s m args below meth c z0 y0 (h_sz M') (h_sl M') 4 (MQ below (xQc G r M') args s (h_sz M' - z0) (h_sl M' - y0) (xFr G)) 79 [(0, .inr (.inr (some a0))), (1, .inl v1), (2, .inl v2), (3, .inl v3)] [] M | _ => False) else
  if h = 119 then (match as with | [.inr (.inr (some a0)), .inl v2, .inl v3] => xV G p l e (xRm 2 (h_sz M' - z0) (h_sl M' - y0)) s m args below meth c z0 y0 (h_sz M') (h_sl M') 4 (MQ below (xQc G r M') args s (h_sz M' - z0) (h_sl M' - y0) (xFr G)) 119 [(0, .inr (.inr (some a0))), (2, .inl v2), (3, .inl v3)] [] M | _ => False) else
  if h = 194 then (match as with | [.inr (.inr (some a0)), .inl v3] => xV G p l e (xRm 2 (h_sz M' - z0) (h_sl M' - y0)) s m args below meth c z0 y0 (h_sz M') (h_sl M') 4 (MQ below (xQc G r M') args s (h_sz M' - z0) (h_sl M' - y0) (xFr G)) 194 [(0, .inr (.inr (some a0))), (3, .inl v3)] [] M | _ => False) else
  False
theorem sb117_0 (E : xE G p (xRm 2 (h_sz M' - z0) (h_sl M' - y0)) s m args c prog_12_method_7_code "ZonedFabric$Switch" z0 y0 (h_sz M') (h_sl M') 4) (B : xB ym117 none meth) (a0 : Nat) (M : hM) {res : xRes} (h : b117_0 a0 M = some res) (hN : xN (pg117 p l e s m args below meth c G z0 y0 r M') r M' res) : xV G p l e (xRm 2 (h_sz M' - z0) (h_sl M' - y0)) s m args below meth c z0 y0 (h_sz M') (h_sl M') 4 (MQ below (xQc G r M') args s (h_sz M' - z0) (h_sl M' - y0) (xFr G)) 0 [(0, .inr (.inr (some a0)))] [] M := by
  unfold b117_0 at h
  refine xv_b E [.iconst 0, .istore_n 1, .iconst 0, .istore_n 2, .iconst 0, .istore_n 3] (pc' := 6) (lv' := [(3, .inl (0 : Int32)), (2, .inl (0 : Int32)), (1, .inl (0 : Int32)), (0, .inr (.inr (some a0)))]) (st' := []) (by decide +kernel) rfl rfl ?_
  obtain rfl := Option.some.inj h
  exact xv_w hN rfl
theorem sb117_51 (E : xE G p (xRm 2 (h_sz M' - z0) (h_sl M' - y0)) s m args c prog_12_method_7_code "ZonedFabric$Switch" z0 y0 (h_sz M') (h_sl M') 4) (B : xB ym117 none meth) (a0 : Nat) (v1 : Int32) (v3 : Int32) (si0 : Int32) (si1 : Int32) (M : hM) {res : xRes} (h : b117_51 a0 v1 v3 si0 si1 M = some res) (hN : xN (pg117 p l e s m args below meth c G z0 y0 r M') r M' res) : xV G p l e (xRm 2 (h_sz M' - z0) (h_sl M' - y0)) s m args below meth c z0 y0 (h_sz M') (h_sl M') 4 (MQ below (xQc G r M') args s (h_sz M' - z0) (h_sl M' - y0) (xFr G)) 51 [(0, .inr (.inr (some a0))), (1, .inl v1), (3, .inl v3)] [.inl si0, .inl si1] M := by
  unfold b117_51 at h
  refine xv_b E [.iadd, .istore_n 2, .iinc 3 1] (pc' := 56) (lv' := [(3, .inl (v3 + (1 : Int32))), (2, .inl (si1 + si0)), (0, .inr (.inr (some a0))), (1, .inl v1)]) (st' := []) (by decide +kernel) rfl rfl ?_
  refine xv_goto E 6 (show decode prog_12_method_7_code 56 = .ok (.goto (-50), 3) by decide +kernel) rfl ?_
  obtain rfl := Option.some.inj h
  exact xv_w hN rfl
theorem sb117_31 (E : xE G p (xRm 2 (h_sz M' - z0) (h_sl M' - y0)) s m args c prog_12_method_7_code "ZonedFabric$Switch" z0 y0 (h_sz M') (h_sl M') 4) (B : xB ym117 none meth) (a0 : Nat) (v2 : Int32) (v3 : Int32) (si0 : Int32) (si1 : Int32) (M : hM) {res : xRes} (h : b117_31 a0 v2 v3 si0 si1 M = some res) (hN : xN (pg117 p l e s m args below meth c G z0 y0 r M') r M' res) : xV G p l e (xRm 2 (h_sz M' - z0) (h_sl M' - y0)) s m args below meth c z0 y0 (h_sz M') (h_sl M') 4 (MQ below (xQc G r M') args s (h_sz M' - z0) (h_sl M' - y0) (xFr G)) 31 [(0, .inr (.inr (some a0))), (2, .inl v2), (3, .inl v3)] [.inl si0, .inl si1] M := by
  unfold b117_31 at h
  refine xv_b E [.iadd, .istore_n 1, .iload_n 2, .aload_n 0] (pc' := 35) (lv' := [(1, .inl (si1 + si0)), (0, .inr (.inr (some a0))), (2, .inl v2), (3, .inl v3)]) (st' := [.inr (.inr (some a0)), .inl v2]) (by decide +kernel) rfl rfl ?_
  obtain ⟨o_23, h24, h⟩ := bd h
  refine xg_r E 10 2 h24 mw53 (show decode prog_12_method_7_code 35 = .ok (.getfield 11, 3) by decide +kernel) ?_
  refine xv_b E [.iload_n 3] (pc' := 39) (lv' := [(1, .inl (si1 + si0)), (0, .inr (.inr (some a0))), (2, .inl v2), (3, .inl v3)]) (st' := [.inl v3, .inr (.inr o_23), .inl v2]) (by decide +kernel) rfl rfl ?_
  obtain ⟨o_25, h26, h⟩ := bd h
  refine xa_r E 38 h26 (show decode prog_12_method_7_code 39 = .ok (.aaload, 1) by decide +kernel) ?_
  obtain ⟨v_27, h28, h⟩ := bd h
  refine xg_i E 8 12 h28 mw554 (show decode prog_12_method_7_code 40 = .ok (.getfield 84, 3) by decide +kernel) ?_
  by_cases q29 : v_27 = 0
  · rw [if_pos q29] at h
    refine xv_if_eq E 50 (show decode prog_12_method_7_code 43 = .ok (.ifCond .eq (7), 3) by decide +kernel) rfl (fun _ => ?_) (fun z => absurd q29 z)
    refine xv_b E [.iconst 0] (pc' := 51) (lv' := [(1, .inl (si1 + si0)), (0, .inr (.inr (some a0))), (2, .inl v2), (3, .inl v3)]) (st' := [.inl (0 : Int32), .inl v2]) (by decide +kernel) rfl rfl ?_
    exact xv_w (sb117_51 E B a0 (si1 + si0) v3 (0 : Int32) v2 M h hN) rfl
  · rw [if_neg q29] at h
    refine xv_if_eq E 50 (show decode prog_12_method_7_code 43 = .ok (.ifCond .eq (7), 3) by decide +kernel) rfl (fun z => absurd z q29) (fun _ => ?_)
    refine xv_b E [.iconst 1] (pc' := 47) (lv' := [(1, .inl (si1 + si0)), (0, .inr (.inr (some a0))), (2, .inl v2), (3, .inl v3)]) (st' := [.inl (1 : Int32), .inl v2]) (by decide +kernel) rfl rfl ?_
    refine xv_goto E 51 (show decode prog_12_method_7_code 47 = .ok (.goto (4), 3) by decide +kernel) rfl ?_
    exact xv_w (sb117_51 E B a0 (si1 + si0) v3 (1 : Int32) v2 M h hN) rfl
theorem sb117_6 (E : xE G p (xRm 2 (h_sz M' - z0) (h_sl M' - y0)) s m args c prog_12_method_7_code "ZonedFabric$Switch" z0 y0 (h_sz M') (h_sl M') 4) (B : xB ym117 none meth) (a0 : Nat) (v1 : Int32) (v2 : Int32) (v3 : Int32) (M : hM) {res : xRes} (h : b117_6 a0 v1 v2 v3 M = some res) (hN : xN (pg117 p l e s m args below meth c G z0 y0 r M') r M' res) : xV G p l e (xRm 2 (h_sz M' - z0) (h_sl M' - y0)) s m args below meth c z0 y0 (h_sz M') (h_sl M') 4 (MQ below (xQc G r M') args s (h_sz M' - z0) (h_sl M' - y0) (xFr G)) 6 [(0, .inr (.inr (some a0))), (1, .inl v1), (2, .inl v2), (3, .inl v3)] [] M := by
  unfold b117_6 at h
  refine xv_b E [.iload_n 3, .bipush 8] (pc' := 9) (lv' := [(0, .inr (.inr (some a0))), (1, .inl v1), (2, .inl v2), (3, .inl v3)]) (st' := [.inl (8 : Int32), .inl v3]) (by decide +kernel) rfl rfl ?_
  by_cases q22 : (8 : Int32) ≤ v3
  · rw [if_pos q22] at h
    refine xv_icmp_ge E 59 (show decode prog_12_method_7_code 9 = .ok (.if_icmp .ge (50), 3) by decide +kernel) rfl (fun _ => ?_) (fun z => absurd q22 z)
    refine xv_b E [.aload_n 0] (pc' := 60) (lv' := [(0, .inr (.inr (some a0))), (1, .inl v1), (2, .inl v2), (3, .inl v3)]) (st' := [.inr (.inr (some a0))]) (by decide +kernel) rfl rfl ?_
    obtain ⟨o_1, h2, h⟩ := bd h
    refine xg_r E 10 5 h2 mw57 (show decode prog_12_method_7_code 60 = .ok (.getfield 20, 3) by decide +kernel) ?_
    obtain ⟨b_5, h6, h⟩ := bd h
    obtain ⟨eh6, th6⟩ := g_o_some h6
    obtain ⟨q_3, h4, h⟩ := bd h
    refine xv_cvo E eh6 6 (as := []) (t110 G l (c_V_some h4)) cd110 mw622 mw623 mw624 (show decode prog_12_method_7_code 63 = .ok (.invokevirtual 106, 3) by decide +kernel) th6 rfl rfl (Nat.le_of_ble_eq_true rfl) ⟨Nat.le_of_ble_eq_true rfl, Nat.le_of_ble_eq_true rfl⟩ ?_
    refine xv_b E [.aload_n 0] (pc' := 67) (lv' := [(0, .inr (.inr (some a0))), (1, .inl v1), (2, .inl v2), (3, .inl v3)]) (st' := [.inr (.inr (some a0))]) (by decide +kernel) rfl rfl ?_
    obtain ⟨o_7, h8, h⟩ := bd h
    refine xg_r E 10 5 h8 mw57 (show decode prog_12_method_7_code 67 = .ok (.getfield 20, 3) by decide +kernel) ?_
    refine xv_b E [.aload_n 0] (pc' := 71) (lv' := [(0, .inr (.inr (some a0))), (1, .inl v1), (2, .inl v2), (3, .inl v3)]) (st' := [.inr (.inr (some a0)), .inr (.inr o_7)]) (by decide +kernel) rfl rfl ?_
    obtain ⟨v_9, h10, h⟩ := bd h
    refine xg_i E 10 1 h10 mw61 (show decode prog_12_method_7_code 71 = .ok (.getfield 38, 3) by decide +kernel) ?_
    obtain ⟨b_13, h14, h⟩ := bd h
    obtain ⟨eh14, th14⟩ := g_o_some h14
    obtain ⟨q_11, h12, h⟩ := bd h
    refine xv_cvo E eh14 6 (as := [.inl v_9]) (t114 G l (c_V_some h12)) cd114 mw642 mw643 mw644 (show decode prog_12_method_7_code 74 = .ok (.invokevirtual 153, 3) by decide +kernel) th14 rfl rfl (Nat.le_of_ble_eq_true rfl) ⟨Nat.le_of_ble_eq_true rfl, Nat.le_of_ble_eq_true rfl⟩ ?_
    refine xv_b E [.iconst 0, .istore_n 3] (pc' := 79) (lv' := [(3, .inl (0 : Int32)), (0, .inr (.inr (some a0))), (1, .inl v1), (2, .inl v2)]) (st' := []) (by decide +kernel) rfl rfl ?_
    obtain rfl := Option.some.inj h
    exact xv_w hN rfl
  · rw [if_neg q22] at h
    refine xv_icmp_ge E 59 (show decode prog_12_method_7_code 9 = .ok (.if_icmp .ge (50), 3) by decide +kernel) rfl (fun z => absurd z q22) (fun _ => ?_)
    refine xv_b E [.iload_n 1, .aload_n 0] (pc' := 14) (lv' := [(0, .inr (.inr (some a0))), (1, .inl v1), (2, .inl v2), (3, .inl v3)]) (st' := [.inr (.inr (some a0)), .inl v1]) (by decide +kernel) rfl rfl ?_
    obtain ⟨o_15, h16, h⟩ := bd h
    refine xg_r E 10 2 h16 mw53 (show decode prog_12_method_7_code 14 = .ok (.getfield 11, 3) by decide +kernel) ?_
    refine xv_b E [.iload_n 3] (pc' := 18) (lv' := [(0, .inr (.inr (some a0))), (1, .inl v1), (2, .inl v2), (3, .inl v3)]) (st' := [.inl v3, .inr (.inr o_15), .inl v1]) (by decide +kernel) rfl rfl ?_
    obtain ⟨o_17, h18, h⟩ := bd h
    refine xa_r E 38 h18 (show decode prog_12_method_7_code 18 = .ok (.aaload, 1) by decide +kernel) ?_
    obtain ⟨v_19, h20, h⟩ := bd h
    refine xg_i E 8 11 h20 mw631 (show decode prog_12_method_7_code 19 = .ok (.getfield 118, 3) by decide +kernel) ?_
    refine xv_b E [.iconst (-1)] (pc' := 23) (lv' := [(0, .inr (.inr (some a0))), (1, .inl v1), (2, .inl v2), (3, .inl v3)]) (st' := [.inl (-1 : Int32), .inl v_19, .inl v1]) (by decide +kernel) rfl rfl ?_
    by_cases q21 : v_19 = (-1 : Int32)
    · rw [if_pos q21] at h
      refine xv_icmp_eq E 30 (show decode prog_12_method_7_code 23 = .ok (.if_icmp .eq (7), 3) by decide +kernel) rfl (fun _ => ?_) (fun z => absurd q21 z)
      refine xv_b E [.iconst 0] (pc' := 31) (lv' := [(0, .inr (.inr (some a0))), (1, .inl v1), (2, .inl v2), (3, .inl v3)]) (st' := [.inl (0 : Int32), .inl v1]) (by decide +kernel) rfl rfl ?_
      exact xv_w (sb117_31 E B a0 v2 v3 (0 : Int32) v1 M h hN) rfl
    · rw [if_neg q21] at h
      refine xv_icmp_eq E 30 (show decode prog_12_method_7_code 23 = .ok (.if_icmp .eq (7), 3) by decide +kernel) rfl (fun z => absurd z q21) (fun _ => ?_)
      refine xv_b E [.iconst 1] (pc' := 27) (lv' := [(0, .inr (.inr (some a0))), (1, .inl v1), (2, .inl v2), (3, .inl v3)]) (st' := [.inl (1 : Int32), .inl v1]) (by decide +kernel) rfl rfl ?_
      refine xv_goto E 31 (show decode prog_12_method_7_code 27 = .ok (.goto (4), 3) by decide +kernel) rfl ?_
      exact xv_w (sb117_31 E B a0 v2 v3 (1 : Int32) v1 M h hN) rfl
theorem sb117_79 (E : xE G p (xRm 2 (h_sz M' - z0) (h_sl M' - y0)) s m args c prog_12_method_7_code "ZonedFabric$Switch" z0 y0 (h_sz M') (h_sl M') 4) (B : xB ym117 none meth) (a0 : Nat) (v1 : Int32) (v2 : Int32) (v3 : Int32) (M : hM) {res : xRes} (h : b117_79 a0 v1 v2 v3 M = some res) (hN : xN (pg117 p l e s m args below meth c G z0 y0 r M') r M' res) : xV G p l e (xRm 2 (h_sz M' - z0) (h_sl M' - y0)) s m args below meth c z0 y0 (h_sz M') (h_sl M') 4 (MQ below (xQc G r M') args s (h_sz M' - z0) (h_sl M' - y0) (xFr G)) 79 [(0, .inr (.inr (some a0))), (1, .inl v1), (2, .inl v2), (3, .inl v3)] [] M := by
  unfold b117_79 at h
  refine xv_b E [.iload_n 3, .iconst 3] (pc' := 81) (lv' := [(0, .inr (.inr (some a0))), (1, .inl v1), (2, .inl v2), (3, .inl v3)]) (st' := [.inl (3 : Int32), .inl v3]) (by decide +kernel) rfl rfl ?_
  by_cases q50 : (3 : Int32) ≤ v3
  · rw [if_pos q50] at h
    refine xv_icmp_ge E 98 (show decode prog_12_method_7_code 81 = .ok (.if_icmp .ge (17), 3) by decide +kernel) rfl (fun _ => ?_) (fun z => absurd q50 z)
    refine xv_b E [.aload_n 0] (pc' := 99) (lv' := [(0, .inr (.inr (some a0))), (1, .inl v1), (2, .inl v2), (3, .inl v3)]) (st' := [.inr (.inr (some a0))]) (by decide +kernel) rfl rfl ?_
    obtain ⟨o_30, h31, h⟩ := bd h
    refine xg_r E 10 5 h31 mw57 (show decode prog_12_method_7_code 99 = .ok (.getfield 20, 3) by decide +kernel) ?_
    refine xv_b E [.aload_n 0] (pc' := 103) (lv' := [(0, .inr (.inr (some a0))), (1, .inl v1), (2, .inl v2), (3, .inl v3)]) (st' := [.inr (.inr (some a0)), .inr (.inr o_30)]) (by decide +kernel) rfl rfl ?_
    obtain ⟨v_32, h33, h⟩ := bd h
    refine xg_i E 10 3 h33 mw62 (show decode prog_12_method_7_code 103 = .ok (.getfield 41, 3) by decide +kernel) ?_
    obtain ⟨b_36, h37, h⟩ := bd h
    obtain ⟨eh37, th37⟩ := g_o_some h37
    obtain ⟨q_34, h35, h⟩ := bd h
    refine xv_cvo E eh37 6 (as := [.inl v_32]) (t114 G l (c_V_some h35)) cd114 mw642 mw643 mw644 (show decode prog_12_method_7_code 106 = .ok (.invokevirtual 153, 3) by decide +kernel) th37 rfl rfl (Nat.le_of_ble_eq_true rfl) ⟨Nat.le_of_ble_eq_true rfl, Nat.le_of_ble_eq_true rfl⟩ ?_
    refine xv_b E [.aload_n 0] (pc' := 110) (lv' := [(0, .inr (.inr (some a0))), (1, .inl v1), (2, .inl v2), (3, .inl v3)]) (st' := [.inr (.inr (some a0))]) (by decide +kernel) rfl rfl ?_
    obtain ⟨o_38, h39, h⟩ := bd h
    refine xg_r E 10 5 h39 mw57 (show decode prog_12_method_7_code 110 = .ok (.getfield 20, 3) by decide +kernel) ?_
    refine xv_b E [.iload_n 1] (pc' := 114) (lv' := [(0, .inr (.inr (some a0))), (1, .inl v1), (2, .inl v2), (3, .inl v3)]) (st' := [.inl v1, .inr (.inr o_38)]) (by decide +kernel) rfl rfl ?_
    obtain ⟨b_42, h43, h⟩ := bd h
    obtain ⟨eh43, th43⟩ := g_o_some h43
    obtain ⟨q_40, h41, h⟩ := bd h
    refine xv_cvo E eh43 6 (as := [.inl v1]) (t114 G l (c_V_some h41)) cd114 mw642 mw643 mw644 (show decode prog_12_method_7_code 114 = .ok (.invokevirtual 153, 3) by decide +kernel) th43 rfl rfl (Nat.le_of_ble_eq_true rfl) ⟨Nat.le_of_ble_eq_true rfl, Nat.le_of_ble_eq_true rfl⟩ ?_
    refine xv_b E [.iconst 0, .istore_n 3] (pc' := 119) (lv' := [(3, .inl (0 : Int32)), (0, .inr (.inr (some a0))), (1, .inl v1), (2, .inl v2)]) (st' := []) (by decide +kernel) rfl rfl ?_
    obtain rfl := Option.some.inj h
    exact xv_w hN rfl
  · rw [if_neg q50] at h
    refine xv_icmp_ge E 98 (show decode prog_12_method_7_code 81 = .ok (.if_icmp .ge (17), 3) by decide +kernel) rfl (fun z => absurd z q50) (fun _ => ?_)
    refine xv_b E [.aload_n 0] (pc' := 85) (lv' := [(0, .inr (.inr (some a0))), (1, .inl v1), (2, .inl v2), (3, .inl v3)]) (st' := [.inr (.inr (some a0))]) (by decide +kernel) rfl rfl ?_
    obtain ⟨o_44, h45, h⟩ := bd h
    refine xg_r E 10 5 h45 mw57 (show decode prog_12_method_7_code 85 = .ok (.getfield 20, 3) by decide +kernel) ?_
    refine xv_b E [.iconst 0] (pc' := 89) (lv' := [(0, .inr (.inr (some a0))), (1, .inl v1), (2, .inl v2), (3, .inl v3)]) (st' := [.inl (0 : Int32), .inr (.inr o_44)]) (by decide +kernel) rfl rfl ?_
    obtain ⟨b_48, h49, h⟩ := bd h
    obtain ⟨eh49, th49⟩ := g_o_some h49
    obtain ⟨q_46, h47, h⟩ := bd h
    refine xv_cvo E eh49 6 (as := [.inl (0 : Int32)]) (t114 G l (c_V_some h47)) cd114 mw642 mw643 mw644 (show decode prog_12_method_7_code 89 = .ok (.invokevirtual 153, 3) by decide +kernel) th49 rfl rfl (Nat.le_of_ble_eq_true rfl) ⟨Nat.le_of_ble_eq_true rfl, Nat.le_of_ble_eq_true rfl⟩ ?_
    refine xv_b E [.iinc 3 1] (pc' := 95) (lv' := [(3, .inl (v3 + (1 : Int32))), (0, .inr (.inr (some a0))), (1, .inl v1), (2, .inl v2)]) (st' := []) (by decide +kernel) rfl rfl ?_
    refine xv_goto E 79 (show decode prog_12_method_7_code 95 = .ok (.goto (-16), 3) by decide +kernel) rfl ?_
    obtain rfl := Option.some.inj h
    exact xv_w hN rfl
theorem sb117_178 (E : xE G p (xRm 2 (h_sz M' - z0) (h_sl M' - y0)) s m args c prog_12_method_7_code "ZonedFabric$Switch" z0 y0 (h_sz M') (h_sl M') 4) (B : xB ym117 none meth) (a0 : Nat) (v2 : Int32) (v3 : Int32) (M : hM) {res : xRes} (h : b117_178 a0 v2 v3 M = some res) (hN : xN (pg117 p l e s m args below meth c G z0 y0 r M') r M' res) : xV G p l e (xRm 2 (h_sz M' - z0) (h_sl M' - y0)) s m args below meth c z0 y0 (h_sz M') (h_sl M') 4 (MQ below (xQc G r M') args s (h_sz M' - z0) (h_sl M' - y0) (xFr G)) 178 [(0, .inr (.inr (some a0))), (2, .inl v2), (3, .inl v3)] [] M := by
  unfold b117_178 at h
  refine xv_b E [.iinc 3 1] (pc' := 181) (lv' := [(3, .inl (v3 + (1 : Int32))), (0, .inr (.inr (some a0))), (2, .inl v2)]) (st' := []) (by decide +kernel) rfl rfl ?_
  refine xv_goto E 119 (show decode prog_12_method_7_code 181 = .ok (.goto (-62), 3) by decide +kernel) rfl ?_
  obtain rfl := Option.some.inj h
  exact xv_w hN rfl
theorem sb117_119 (E : xE G p (xRm 2 (h_sz M' - z0) (h_sl M' - y0)) s m args c prog_12_method_7_code "ZonedFabric$Switch" z0 y0 (h_sz M') (h_sl M') 4) (B : xB ym117 none meth) (a0 : Nat) (v2 : Int32) (v3 : Int32) (M : hM) {res : xRes} (h : b117_119 a0 v2 v3 M = some res) (hN : xN (pg117 p l e s m args below meth c G z0 y0 r M') r M' res) : xV G p l e (xRm 2 (h_sz M' - z0) (h_sl M' - y0)) s m args below meth c z0 y0 (h_sz M') (h_sl M') 4 (MQ below (xQc G r M') args s (h_sz M' - z0) (h_sl M' - y0) (xFr G)) 119 [(0, .inr (.inr (some a0))), (2, .inl v2), (3, .inl v3)] [] M := by
  unfold b117_119 at h
  refine xv_b E [.iload_n 3, .bipush 8] (pc' := 122) (lv' := [(0, .inr (.inr (some a0))), (2, .inl v2), (3, .inl v3)]) (st' := [.inl (8 : Int32), .inl v3]) (by decide +kernel) rfl rfl ?_
  by_cases q94 : (8 : Int32) ≤ v3
  · rw [if_pos q94] at h
    refine xv_icmp_ge E 184 (show decode prog_12_method_7_code 122 = .ok (.if_icmp .ge (62), 3) by decide +kernel) rfl (fun _ => ?_) (fun z => absurd q94 z)
    refine xv_b E [.aload_n 0] (pc' := 185) (lv' := [(0, .inr (.inr (some a0))), (2, .inl v2), (3, .inl v3)]) (st' := [.inr (.inr (some a0))]) (by decide +kernel) rfl rfl ?_
    obtain ⟨o_51, h52, h⟩ := bd h
    refine xg_r E 10 5 h52 mw57 (show decode prog_12_method_7_code 185 = .ok (.getfield 20, 3) by decide +kernel) ?_
    refine xv_b E [.iload_n 2] (pc' := 189) (lv' := [(0, .inr (.inr (some a0))), (2, .inl v2), (3, .inl v3)]) (st' := [.inl v2, .inr (.inr o_51)]) (by decide +kernel) rfl rfl ?_
    obtain ⟨b_55, h56, h⟩ := bd h
    obtain ⟨eh56, th56⟩ := g_o_some h56
    obtain ⟨q_53, h54, h⟩ := bd h
    refine xv_cvo E eh56 6 (as := [.inl v2]) (t114 G l (c_V_some h54)) cd114 mw642 mw643 mw644 (show decode prog_12_method_7_code 189 = .ok (.invokevirtual 153, 3) by decide +kernel) th56 rfl rfl (Nat.le_of_ble_eq_true rfl) ⟨Nat.le_of_ble_eq_true rfl, Nat.le_of_ble_eq_true rfl⟩ ?_
    refine xv_b E [.iconst 0, .istore_n 3] (pc' := 194) (lv' := [(3, .inl (0 : Int32)), (0, .inr (.inr (some a0))), (2, .inl v2)]) (st' := []) (by decide +kernel) rfl rfl ?_
    obtain rfl := Option.some.inj h
    exact xv_w hN rfl
  · rw [if_neg q94] at h
    refine xv_icmp_ge E 184 (show decode prog_12_method_7_code 122 = .ok (.if_icmp .ge (62), 3) by decide +kernel) rfl (fun z => absurd z q94) (fun _ => ?_)
    refine xv_b E [.aload_n 0] (pc' := 126) (lv' := [(0, .inr (.inr (some a0))), (2, .inl v2), (3, .inl v3)]) (st' := [.inr (.inr (some a0))]) (by decide +kernel) rfl rfl ?_
    obtain ⟨o_57, h58, h⟩ := bd h
    refine xg_r E 10 2 h58 mw53 (show decode prog_12_method_7_code 126 = .ok (.getfield 11, 3) by decide +kernel) ?_
    refine xv_b E [.iload_n 3] (pc' := 130) (lv' := [(0, .inr (.inr (some a0))), (2, .inl v2), (3, .inl v3)]) (st' := [.inl v3, .inr (.inr o_57)]) (by decide +kernel) rfl rfl ?_
    obtain ⟨o_59, h60, h⟩ := bd h
    refine xa_r E 38 h60 (show decode prog_12_method_7_code 130 = .ok (.aaload, 1) by decide +kernel) ?_
    obtain ⟨v_61, h62, h⟩ := bd h
    refine xg_i E 8 11 h62 mw631 (show decode prog_12_method_7_code 131 = .ok (.getfield 118, 3) by decide +kernel) ?_
    refine xv_b E [.iconst (-1)] (pc' := 135) (lv' := [(0, .inr (.inr (some a0))), (2, .inl v2), (3, .inl v3)]) (st' := [.inl (-1 : Int32), .inl v_61]) (by decide +kernel) rfl rfl ?_
    by_cases q93 : v_61 = (-1 : Int32)
    · rw [if_pos q93] at h
      refine xv_icmp_eq E 178 (show decode prog_12_method_7_code 135 = .ok (.if_icmp .eq (43), 3) by decide +kernel) rfl (fun _ => ?_) (fun z => absurd q93 z)
      exact xv_w (sb117_178 E B a0 v2 v3 M h hN) rfl
    · rw [if_neg q93] at h
      refine xv_icmp_eq E 178 (show decode prog_12_method_7_code 135 = .ok (.if_icmp .eq (43), 3) by decide +kernel) rfl (fun z => absurd z q93) (fun _ => ?_)
      refine xv_b E [.aload_n 0] (pc' := 139) (lv' := [(0, .inr (.inr (some a0))), (2, .inl v2), (3, .inl v3)]) (st' := [.inr (.inr (some a0))]) (by decide +kernel) rfl rfl ?_
      obtain ⟨o_63, h64, h⟩ := bd h
      refine xg_r E 10 5 h64 mw57 (show decode prog_12_method_7_code 139 = .ok (.getfield 20, 3) by decide +kernel) ?_
      refine xv_b E [.iload_n 3] (pc' := 143) (lv' := [(0, .inr (.inr (some a0))), (2, .inl v2), (3, .inl v3)]) (st' := [.inl v3, .inr (.inr o_63)]) (by decide +kernel) rfl rfl ?_
      obtain ⟨b_67, h68, h⟩ := bd h
      obtain ⟨eh68, th68⟩ := g_o_some h68
      obtain ⟨q_65, h66, h⟩ := bd h
      refine xv_cvo E eh68 6 (as := [.inl v3]) (t114 G l (c_V_some h66)) cd114 mw642 mw643 mw644 (show decode prog_12_method_7_code 143 = .ok (.invokevirtual 153, 3) by decide +kernel) th68 rfl rfl (Nat.le_of_ble_eq_true rfl) ⟨Nat.le_of_ble_eq_true rfl, Nat.le_of_ble_eq_true rfl⟩ ?_
      refine xv_b E [.aload_n 0] (pc' := 147) (lv' := [(0, .inr (.inr (some a0))), (2, .inl v2), (3, .inl v3)]) (st' := [.inr (.inr (some a0))]) (by decide +kernel) rfl rfl ?_
      obtain ⟨o_69, h70, h⟩ := bd h
      refine xg_r E 10 5 h70 mw57 (show decode prog_12_method_7_code 147 = .ok (.getfield 20, 3) by decide +kernel) ?_
      refine xv_b E [.aload_n 0] (pc' := 151) (lv' := [(0, .inr (.inr (some a0))), (2, .inl v2), (3, .inl v3)]) (st' := [.inr (.inr (some a0)), .inr (.inr o_69)]) (by decide +kernel) rfl rfl ?_
      obtain ⟨o_71, h72, h⟩ := bd h
      refine xg_r E 10 2 h72 mw53 (show decode prog_12_method_7_code 151 = .ok (.getfield 11, 3) by decide +kernel) ?_
      refine xv_b E [.iload_n 3] (pc' := 155) (lv' := [(0, .inr (.inr (some a0))), (2, .inl v2), (3, .inl v3)]) (st' := [.inl v3, .inr (.inr o_71), .inr (.inr o_69)]) (by decide +kernel) rfl rfl ?_
      obtain ⟨o_73, h74, h⟩ := bd h
      refine xa_r E 38 h74 (show decode prog_12_method_7_code 155 = .ok (.aaload, 1) by decide +kernel) ?_
      obtain ⟨v_75, h76, h⟩ := bd h
      refine xg_i E 8 11 h76 mw631 (show decode prog_12_method_7_code 156 = .ok (.getfield 118, 3) by decide +kernel) ?_
      obtain ⟨b_79, h80, h⟩ := bd h
      obtain ⟨eh80, th80⟩ := g_o_some h80
      obtain ⟨q_77, h78, h⟩ := bd h
      refine xv_cvo E eh80 6 (as := [.inl v_75]) (t114 G l (c_V_some h78)) cd114 mw642 mw643 mw644 (show decode prog_12_method_7_code 159 = .ok (.invokevirtual 153, 3) by decide +kernel) th80 rfl rfl (Nat.le_of_ble_eq_true rfl) ⟨Nat.le_of_ble_eq_true rfl, Nat.le_of_ble_eq_true rfl⟩ ?_
      refine xv_b E [.aload_n 0] (pc' := 163) (lv' := [(0, .inr (.inr (some a0))), (2, .inl v2), (3, .inl v3)]) (st' := [.inr (.inr (some a0))]) (by decide +kernel) rfl rfl ?_
      obtain ⟨o_81, h82, h⟩ := bd h
      refine xg_r E 10 5 h82 mw57 (show decode prog_12_method_7_code 163 = .ok (.getfield 20, 3) by decide +kernel) ?_
      refine xv_b E [.aload_n 0] (pc' := 167) (lv' := [(0, .inr (.inr (some a0))), (2, .inl v2), (3, .inl v3)]) (st' := [.inr (.inr (some a0)), .inr (.inr o_81)]) (by decide +kernel) rfl rfl ?_
      obtain ⟨o_83, h84, h⟩ := bd h
      refine xg_r E 10 2 h84 mw53 (show decode prog_12_method_7_code 167 = .ok (.getfield 11, 3) by decide +kernel) ?_
      refine xv_b E [.iload_n 3] (pc' := 171) (lv' := [(0, .inr (.inr (some a0))), (2, .inl v2), (3, .inl v3)]) (st' := [.inl v3, .inr (.inr o_83), .inr (.inr o_81)]) (by decide +kernel) rfl rfl ?_
      obtain ⟨o_85, h86, h⟩ := bd h
      refine xa_r E 38 h86 (show decode prog_12_method_7_code 171 = .ok (.aaload, 1) by decide +kernel) ?_
      obtain ⟨v_87, h88, h⟩ := bd h
      refine xg_i E 8 4 h88 mw645 (show decode prog_12_method_7_code 172 = .ok (.getfield 156, 3) by decide +kernel) ?_
      obtain ⟨b_91, h92, h⟩ := bd h
      obtain ⟨eh92, th92⟩ := g_o_some h92
      obtain ⟨q_89, h90, h⟩ := bd h
      refine xv_cvo E eh92 6 (as := [.inl v_87]) (t114 G l (c_V_some h90)) cd114 mw642 mw643 mw644 (show decode prog_12_method_7_code 175 = .ok (.invokevirtual 153, 3) by decide +kernel) th92 rfl rfl (Nat.le_of_ble_eq_true rfl) ⟨Nat.le_of_ble_eq_true rfl, Nat.le_of_ble_eq_true rfl⟩ ?_
      exact xv_w (sb117_178 E B a0 v2 v3 q_89 h hN) rfl
theorem sb117_236 (E : xE G p (xRm 2 (h_sz M' - z0) (h_sl M' - y0)) s m args c prog_12_method_7_code "ZonedFabric$Switch" z0 y0 (h_sz M') (h_sl M') 4) (B : xB ym117 none meth) (a0 : Nat) (v3 : Int32) (M : hM) {res : xRes} (h : b117_236 a0 v3 M = some res) (hN : xN (pg117 p l e s m args below meth c G z0 y0 r M') r M' res) : xV G p l e (xRm 2 (h_sz M' - z0) (h_sl M' - y0)) s m args below meth c z0 y0 (h_sz M') (h_sl M') 4 (MQ below (xQc G r M') args s (h_sz M' - z0) (h_sl M' - y0) (xFr G)) 236 [(0, .inr (.inr (some a0))), (3, .inl v3)] [] M := by
  unfold b117_236 at h
  refine xv_b E [.iinc 3 1] (pc' := 239) (lv' := [(3, .inl (v3 + (1 : Int32))), (0, .inr (.inr (some a0)))]) (st' := []) (by decide +kernel) rfl rfl ?_
  refine xv_goto E 194 (show decode prog_12_method_7_code 239 = .ok (.goto (-45), 3) by decide +kernel) rfl ?_
  obtain rfl := Option.some.inj h
  exact xv_w hN rfl
theorem sb117_194 (E : xE G p (xRm 2 (h_sz M' - z0) (h_sl M' - y0)) s m args c prog_12_method_7_code "ZonedFabric$Switch" z0 y0 (h_sz M') (h_sl M') 4) (B : xB ym117 none meth) (a0 : Nat) (v3 : Int32) (M : hM) {res : xRes} (h : b117_194 a0 v3 M = some res) (hN : xN (pg117 p l e s m args below meth c G z0 y0 r M') r M' res) : xV G p l e (xRm 2 (h_sz M' - z0) (h_sl M' - y0)) s m args below meth c z0 y0 (h_sz M') (h_sl M') 4 (MQ below (xQc G r M') args s (h_sz M' - z0) (h_sl M' - y0) (xFr G)) 194 [(0, .inr (.inr (some a0))), (3, .inl v3)] [] M := by
  unfold b117_194 at h
  refine xv_b E [.iload_n 3, .bipush 8] (pc' := 197) (lv' := [(0, .inr (.inr (some a0))), (3, .inl v3)]) (st' := [.inl (8 : Int32), .inl v3]) (by decide +kernel) rfl rfl ?_
  by_cases q122 : (8 : Int32) ≤ v3
  · rw [if_pos q122] at h
    refine xv_icmp_ge E 242 (show decode prog_12_method_7_code 197 = .ok (.if_icmp .ge (45), 3) by decide +kernel) rfl (fun _ => ?_) (fun z => absurd q122 z)
    obtain rfl := Option.some.inj h
    obtain ⟨rfl, rfl⟩ := Prod.mk.inj (show ((none : Option aV), M) = (r, M') from hN)
    exact xv_rv E B.1 B.2.1 (show decode prog_12_method_7_code 242 = .ok (.return_, 1) by decide +kernel) rfl rfl
  · rw [if_neg q122] at h
    refine xv_icmp_ge E 242 (show decode prog_12_method_7_code 197 = .ok (.if_icmp .ge (45), 3) by decide +kernel) rfl (fun z => absurd z q122) (fun _ => ?_)
    refine xv_b E [.aload_n 0] (pc' := 201) (lv' := [(0, .inr (.inr (some a0))), (3, .inl v3)]) (st' := [.inr (.inr (some a0))]) (by decide +kernel) rfl rfl ?_
    obtain ⟨o_95, h96, h⟩ := bd h
    refine xg_r E 10 2 h96 mw53 (show decode prog_12_method_7_code 201 = .ok (.getfield 11, 3) by decide +kernel) ?_
    refine xv_b E [.iload_n 3] (pc' := 205) (lv' := [(0, .inr (.inr (some a0))), (3, .inl v3)]) (st' := [.inl v3, .inr (.inr o_95)]) (by decide +kernel) rfl rfl ?_
    obtain ⟨o_97, h98, h⟩ := bd h
    refine xa_r E 38 h98 (show decode prog_12_method_7_code 205 = .ok (.aaload, 1) by decide +kernel) ?_
    obtain ⟨v_99, h100, h⟩ := bd h
    refine xg_i E 8 12 h100 mw554 (show decode prog_12_method_7_code 206 = .ok (.getfield 84, 3) by decide +kernel) ?_
    by_cases q121 : v_99 = 0
    · rw [if_pos q121] at h
      refine xv_if_eq E 236 (show decode prog_12_method_7_code 209 = .ok (.ifCond .eq (27), 3) by decide +kernel) rfl (fun _ => ?_) (fun z => absurd q121 z)
      exact xv_w (sb117_236 E B a0 v3 M h hN) rfl
    · rw [if_neg q121] at h
      refine xv_if_eq E 236 (show decode prog_12_method_7_code 209 = .ok (.ifCond .eq (27), 3) by decide +kernel) rfl (fun z => absurd z q121) (fun _ => ?_)
      refine xv_b E [.aload_n 0] (pc' := 213) (lv' := [(0, .inr (.inr (some a0))), (3, .inl v3)]) (st' := [.inr (.inr (some a0))]) (by decide +kernel) rfl rfl ?_
      obtain ⟨o_101, h102, h⟩ := bd h
      refine xg_r E 10 5 h102 mw57 (show decode prog_12_method_7_code 213 = .ok (.getfield 20, 3) by decide +kernel) ?_
      refine xv_b E [.aload_n 0] (pc' := 217) (lv' := [(0, .inr (.inr (some a0))), (3, .inl v3)]) (st' := [.inr (.inr (some a0)), .inr (.inr o_101)]) (by decide +kernel) rfl rfl ?_
      obtain ⟨o_103, h104, h⟩ := bd h
      refine xg_r E 10 2 h104 mw53 (show decode prog_12_method_7_code 217 = .ok (.getfield 11, 3) by decide +kernel) ?_
      refine xv_b E [.iload_n 3] (pc' := 221) (lv' := [(0, .inr (.inr (some a0))), (3, .inl v3)]) (st' := [.inl v3, .inr (.inr o_103), .inr (.inr o_101)]) (by decide +kernel) rfl rfl ?_
      obtain ⟨o_105, h106, h⟩ := bd h
      refine xa_r E 38 h106 (show decode prog_12_method_7_code 221 = .ok (.aaload, 1) by decide +kernel) ?_
      obtain ⟨b_109, h110, h⟩ := bd h
      obtain ⟨eh110, th110⟩ := g_o_some h110
      obtain ⟨q_107, h108, h⟩ := bd h
      refine xv_cvo E eh110 8 (as := []) (t116 G l (c_I_some h108)) cd116 mw646 mw647 mw648 (show decode prog_12_method_7_code 222 = .ok (.invokevirtual 159, 3) by decide +kernel) th110 rfl rfl (Nat.le_of_ble_eq_true rfl) ⟨Nat.le_of_ble_eq_true rfl, Nat.le_of_ble_eq_true rfl⟩ ?_
      obtain ⟨b_113, h114, h⟩ := bd h
      obtain ⟨eh114, th114⟩ := g_o_some h114
      obtain ⟨q_111, h112, h⟩ := bd h
      refine xv_cvo E eh114 6 (as := [.inl q_107.1]) (t114 G l (c_V_some h112)) cd114 mw642 mw643 mw644 (show decode prog_12_method_7_code 225 = .ok (.invokevirtual 153, 3) by decide +kernel) th114 rfl rfl (Nat.le_of_ble_eq_true rfl) ⟨Nat.le_of_ble_eq_true rfl, Nat.le_of_ble_eq_true rfl⟩ ?_
      refine xv_b E [.aload_n 0] (pc' := 229) (lv' := [(0, .inr (.inr (some a0))), (3, .inl v3)]) (st' := [.inr (.inr (some a0))]) (by decide +kernel) rfl rfl ?_
      obtain ⟨o_115, h116, h⟩ := bd h
      refine xg_r E 10 5 h116 mw57 (show decode prog_12_method_7_code 229 = .ok (.getfield 20, 3) by decide +kernel) ?_
      refine xv_b E [.iload_n 3] (pc' := 233) (lv' := [(0, .inr (.inr (some a0))), (3, .inl v3)]) (st' := [.inl v3, .inr (.inr o_115)]) (by decide +kernel) rfl rfl ?_
      obtain ⟨b_119, h120, h⟩ := bd h
      obtain ⟨eh120, th120⟩ := g_o_some h120
      obtain ⟨q_117, h118, h⟩ := bd h
      refine xv_cvo E eh120 6 (as := [.inl v3]) (t114 G l (c_V_some h118)) cd114 mw642 mw643 mw644 (show decode prog_12_method_7_code 233 = .ok (.invokevirtual 153, 3) by decide +kernel) th120 rfl rfl (Nat.le_of_ble_eq_true rfl) ⟨Nat.le_of_ble_eq_true rfl, Nat.le_of_ble_eq_true rfl⟩ ?_
      exact xv_w (sb117_236 E B a0 v3 q_117 h hN) rfl
end
theorem t117 (G : gX) (l : Launch) {as : List aV} {M : hM} {r : Option aV} {M' : hM} (h : f117 as M = some (r, M')) : xM G l ym117 prog_12_method_7_code 4 none 2 as M r M' := by
  unfold f117 at h
  split at h
  · have hle : ∀ h as M res, k117 h as M = some res → h_sz M ≤ r_sz res ∧ h_sl M ≤ r_sl res := by
      intro h as M res hb
      unfold k117 at hb
      by_cases e0 : h = 6
      · rw [if_pos e0] at hb
        split at hb
        · exact lb117_6 G l _ _ _ _ M hb
        · cases hb
      · rw [if_neg e0] at hb
        by_cases e1 : h = 79
        · rw [if_pos e1] at hb
          split at hb
          · exact lb117_79 G l _ _ _ _ M hb
          · cases hb
        · rw [if_neg e1] at hb
          by_cases e2 : h = 119
          · rw [if_pos e2] at hb
            split at hb
            · exact lb117_119 G l _ _ _ M hb
            · cases hb
          · rw [if_neg e2] at hb
            by_cases e3 : h = 194
            · rw [if_pos e3] at hb
              split at hb
              · exact lb117_194 G l _ _ M hb
              · cases hb
            · rw [if_neg e3] at hb
              cases hb
    obtain ⟨res, hx, hres⟩ := x_go_ok h
    refine xM_of (by decide) (Nat.le_of_ble_eq_true rfl) ?_ ?_
    · have e1 := lb117_0 G l _ M hx
      have e2 := x_go_le hle hres
      omega
    · intro p e s m args below meth c E B
      refine sb117_0 E B _ M hx (hres _ ?_)
      intro h as M res hb hN
      unfold k117 at hb
      unfold pg117
      by_cases e0 : h = 6
      · rw [if_pos e0] at hb ⊢
        split at hb
        · exact sb117_6 E B _ _ _ _ M hb hN
        · cases hb
      · rw [if_neg e0] at hb ⊢
        by_cases e1 : h = 79
        · rw [if_pos e1] at hb ⊢
          split at hb
          · exact sb117_79 E B _ _ _ _ M hb hN
          · cases hb
        · rw [if_neg e1] at hb ⊢
          by_cases e2 : h = 119
          · rw [if_pos e2] at hb ⊢
            split at hb
            · exact sb117_119 E B _ _ _ M hb hN
            · cases hb
          · rw [if_neg e2] at hb ⊢
            by_cases e3 : h = 194
            · rw [if_pos e3] at hb ⊢
              split at hb
              · exact sb117_194 E B _ _ M hb hN
              · cases hb
            · rw [if_neg e3] at hb ⊢
              cases hb
  · cases h
/-! ZF.Notice.issue()I -/
def ym118 : MethodName := ⟨"ZonedFabric$Notice", "issue", "()I"⟩
theorem cd118 : xCd ym118 prog_8_method_6_code 1 (some FieldType.int) 0 := ⟨mw649, mw46, by decide, by decide, by decide +kernel⟩
def b118_0 (a0 : Nat) (M : hM) : Option xRes :=
  Option.bind (g_o M 6 (some a0)) fun b_3 =>
  Option.bind (c_I (f96 [.inr (.inr (some b_3)), .inl (1 : Int32)] M)) fun q_1 =>
  Option.bind (g_o q_1.2 6 (some a0)) fun b_7 =>
  Option.bind (c_I (f96 [.inr (.inr (some b_7)), .inl (2 : Int32)] q_1.2)) fun q_5 =>
  Option.bind (g_o q_5.2 6 (some a0)) fun b_11 =>
  Option.bind (c_I (f96 [.inr (.inr (some b_11)), .inl (3 : Int32)] q_5.2)) fun q_9 =>
  some (.inl (some (.inl (((q_1.1 <<< ((16 : Int32) &&& 31)) ||| (q_5.1 <<< ((8 : Int32) &&& 31))) ||| q_9.1)), q_9.2))
def f118 (as : List aV) (M : hM) : xO := match as with
  | [.inr (.inr (some a0))] => x_out (b118_0 a0 M)
  | _ => none
theorem lb118_0 (G : gX) (l : Launch) (a0 : Nat) (M : hM) {res : xRes} (h : b118_0 a0 M = some res) : h_sz M ≤ r_sz res ∧ h_sl M ≤ r_sl res := by
  unfold b118_0 at h
  obtain ⟨b_3, h4, h⟩ := bd h
  obtain ⟨q_1, h2, h⟩ := bd h
  have eh2 := (t96 G l (c_I_some h2)).1
  obtain ⟨b_7, h8, h⟩ := bd h
  obtain ⟨q_5, h6, h⟩ := bd h
  have eh6 := (t96 G l (c_I_some h6)).1
  obtain ⟨b_11, h12, h⟩ := bd h
  obtain ⟨q_9, h10, h⟩ := bd h
  have eh10 := (t96 G l (c_I_some h10)).1
  obtain rfl := Option.some.inj h
  show h_sz M ≤ h_sz q_9.2 ∧ h_sl M ≤ h_sl q_9.2
  omega
section
variable {p : Program} {l : Launch} {e : Env} {s : State} {m : MethodId} {args : Array Value} {below : List Frame} {meth : Method} {c : Code} {G : gX} {z0 y0 : Nat} {r : Option aV} {M' : hM}
theorem sb118_0 (E : xE G p (xRm 1 (h_sz M' - z0) (h_sl M' - y0)) s m args c prog_8_method_6_code "ZonedFabric$Notice" z0 y0 (h_sz M') (h_sl M') 1) (B : xB ym118 (some FieldType.int) meth) (a0 : Nat) (M : hM) {res : xRes} (h : b118_0 a0 M = some res) (hN : xN (fun _ _ _ => False) r M' res) : xV G p l e (xRm 1 (h_sz M' - z0) (h_sl M' - y0)) s m args below meth c z0 y0 (h_sz M') (h_sl M') 1 (MQ below (xQc G r M') args s (h_sz M' - z0) (h_sl M' - y0) (xFr G)) 0 [(0, .inr (.inr (some a0)))] [] M := by
  unfold b118_0 at h
  refine xv_b E [.aload_n 0, .iconst 1] (pc' := 2) (lv' := [(0, .inr (.inr (some a0)))]) (st' := [.inl (1 : Int32), .inr (.inr (some a0))]) (by decide +kernel) rfl rfl ?_
  obtain ⟨b_3, h4, h⟩ := bd h
  obtain ⟨eh4, th4⟩ := g_o_some h4
  obtain ⟨q_1, h2, h⟩ := bd h
  refine xv_cvo E eh4 6 (as := [.inl (1 : Int32)]) (t96 G l (c_I_some h2)) cd96 mw562 mw563 mw564 (show decode prog_8_method_6_code 2 = .ok (.invokevirtual 19, 3) by decide +kernel) th4 rfl rfl (Nat.le_of_ble_eq_true rfl) ⟨Nat.le_of_ble_eq_true rfl, Nat.le_of_ble_eq_true rfl⟩ ?_
  refine xv_b E [.bipush 16, .ishl, .aload_n 0, .iconst 2] (pc' := 10) (lv' := [(0, .inr (.inr (some a0)))]) (st' := [.inl (2 : Int32), .inr (.inr (some a0)), .inl (q_1.1 <<< ((16 : Int32) &&& 31))]) (by decide +kernel) rfl rfl ?_
  obtain ⟨b_7, h8, h⟩ := bd h
  obtain ⟨eh8, th8⟩ := g_o_some h8
  obtain ⟨q_5, h6, h⟩ := bd h
  refine xv_cvo E eh8 6 (as := [.inl (2 : Int32)]) (t96 G l (c_I_some h6)) cd96 mw562 mw563 mw564 (show decode prog_8_method_6_code 10 = .ok (.invokevirtual 19, 3) by decide +kernel) th8 rfl rfl (Nat.le_of_ble_eq_true rfl) ⟨Nat.le_of_ble_eq_true rfl, Nat.le_of_ble_eq_true rfl⟩ ?_
  refine xv_b E [.bipush 8, .ishl, .ior, .aload_n 0, .iconst 3] (pc' := 19) (lv' := [(0, .inr (.inr (some a0)))]) (st' := [.inl (3 : Int32), .inr (.inr (some a0)), .inl ((q_1.1 <<< ((16 : Int32) &&& 31)) ||| (q_5.1 <<< ((8 : Int32) &&& 31)))]) (by decide +kernel) rfl rfl ?_
  obtain ⟨b_11, h12, h⟩ := bd h
  obtain ⟨eh12, th12⟩ := g_o_some h12
  obtain ⟨q_9, h10, h⟩ := bd h
  refine xv_cvo E eh12 6 (as := [.inl (3 : Int32)]) (t96 G l (c_I_some h10)) cd96 mw562 mw563 mw564 (show decode prog_8_method_6_code 19 = .ok (.invokevirtual 19, 3) by decide +kernel) th12 rfl rfl (Nat.le_of_ble_eq_true rfl) ⟨Nat.le_of_ble_eq_true rfl, Nat.le_of_ble_eq_true rfl⟩ ?_
  refine xv_b E [.ior] (pc' := 23) (lv' := [(0, .inr (.inr (some a0)))]) (st' := [.inl (((q_1.1 <<< ((16 : Int32) &&& 31)) ||| (q_5.1 <<< ((8 : Int32) &&& 31))) ||| q_9.1)]) (by decide +kernel) rfl rfl ?_
  obtain rfl := Option.some.inj h
  obtain ⟨rfl, rfl⟩ := Prod.mk.inj (show ((some (.inl (((q_1.1 <<< ((16 : Int32) &&& 31)) ||| (q_5.1 <<< ((8 : Int32) &&& 31))) ||| q_9.1)) : Option aV), q_9.2) = (r, M') from hN)
  exact xv_ri E B.1 rfl B.2.1 (show decode prog_8_method_6_code 23 = .ok (.ireturn, 1) by decide +kernel) rfl rfl
end
theorem t118 (G : gX) (l : Launch) {as : List aV} {M : hM} {r : Option aV} {M' : hM} (h : f118 as M = some (r, M')) : xM G l ym118 prog_8_method_6_code 1 (some FieldType.int) 1 as M r M' := by
  unfold f118 at h
  split at h
  · have h := x_out_ok h
    refine xM_of (by decide) (Nat.le_of_ble_eq_true rfl) (lb118_0 G l _ M h) ?_
    intro p e s m args below meth c E B
    exact sb118_0 E B _ M h rfl
  · cases h
/-! ZF.Notice.setIssue(I)V -/
def ym119 : MethodName := ⟨"ZonedFabric$Notice", "setIssue", "(I)V"⟩
theorem cd119 : xCd ym119 prog_8_method_7_code 2 none 1 := ⟨mw650, mw46, by decide, by decide, by decide +kernel⟩
def b119_0 (a0 : Nat) (v1 : Int32) (M : hM) : Option xRes :=
  Option.bind (g_r M 6 0 (some a0)) fun o_1 =>
  Option.bind (as_b M 21 o_1 (1 : Int32) (Int32.toInt8 (v1 >>> ((16 : Int32) &&& 31))).toInt32) fun M3 =>
  Option.bind (g_r M3 6 0 (some a0)) fun o_5 =>
  Option.bind (as_b M3 21 o_5 (2 : Int32) (Int32.toInt8 (v1 >>> ((8 : Int32) &&& 31))).toInt32) fun M7 =>
  Option.bind (g_r M7 6 0 (some a0)) fun o_9 =>
  Option.bind (as_b M7 21 o_9 (3 : Int32) (Int32.toInt8 v1).toInt32) fun M11 =>
  some (.inl (none, M11))
def f119 (as : List aV) (M : hM) : xO := match as with
  | [.inr (.inr (some a0)), .inl v1] => x_out (b119_0 a0 v1 M)
  | _ => none
theorem lb119_0 (G : gX) (l : Launch) (a0 : Nat) (v1 : Int32) (M : hM) {res : xRes} (h : b119_0 a0 v1 M = some res) : h_sz M ≤ r_sz res ∧ h_sl M ≤ r_sl res := by
  unfold b119_0 at h
  obtain ⟨o_1, h2, h⟩ := bd h
  obtain ⟨M3, h4, h⟩ := bd h
  have eh4 := as_b_sz h4
  obtain ⟨o_5, h6, h⟩ := bd h
  obtain ⟨M7, h8, h⟩ := bd h
  have eh8 := as_b_sz h8
  obtain ⟨o_9, h10, h⟩ := bd h
  obtain ⟨M11, h12, h⟩ := bd h
  have eh12 := as_b_sz h12
  obtain rfl := Option.some.inj h
  show h_sz M ≤ h_sz M11 ∧ h_sl M ≤ h_sl M11
  omega
section
variable {p : Program} {l : Launch} {e : Env} {s : State} {m : MethodId} {args : Array Value} {below : List Frame} {meth : Method} {c : Code} {G : gX} {z0 y0 : Nat} {r : Option aV} {M' : hM}
theorem sb119_0 (E : xE G p (xRm 0 (h_sz M' - z0) (h_sl M' - y0)) s m args c prog_8_method_7_code "ZonedFabric$Notice" z0 y0 (h_sz M') (h_sl M') 2) (B : xB ym119 none meth) (a0 : Nat) (v1 : Int32) (M : hM) {res : xRes} (h : b119_0 a0 v1 M = some res) (hN : xN (fun _ _ _ => False) r M' res) : xV G p l e (xRm 0 (h_sz M' - z0) (h_sl M' - y0)) s m args below meth c z0 y0 (h_sz M') (h_sl M') 2 (MQ below (xQc G r M') args s (h_sz M' - z0) (h_sl M' - y0) (xFr G)) 0 [(0, .inr (.inr (some a0))), (1, .inl v1)] [] M := by
  unfold b119_0 at h
  refine xv_b E [.aload_n 0] (pc' := 1) (lv' := [(0, .inr (.inr (some a0))), (1, .inl v1)]) (st' := [.inr (.inr (some a0))]) (by decide +kernel) rfl rfl ?_
  obtain ⟨o_1, h2, h⟩ := bd h
  refine xg_r E 6 0 h2 mw48 (show decode prog_8_method_7_code 1 = .ok (.getfield 9, 3) by decide +kernel) ?_
  refine xv_b E [.iconst 1, .iload_n 1, .bipush 16, .ishr, .i2b] (pc' := 10) (lv' := [(0, .inr (.inr (some a0))), (1, .inl v1)]) (st' := [.inl (Int32.toInt8 (v1 >>> ((16 : Int32) &&& 31))).toInt32, .inl (1 : Int32), .inr (.inr o_1)]) (by decide +kernel) rfl rfl ?_
  obtain ⟨M3, h4, h⟩ := bd h
  refine xs_b E h4 (show decode prog_8_method_7_code 10 = .ok (.bastore, 1) by decide +kernel) ?_
  refine xv_b E [.aload_n 0] (pc' := 12) (lv' := [(0, .inr (.inr (some a0))), (1, .inl v1)]) (st' := [.inr (.inr (some a0))]) (by decide +kernel) rfl rfl ?_
  obtain ⟨o_5, h6, h⟩ := bd h
  refine xg_r E 6 0 h6 mw48 (show decode prog_8_method_7_code 12 = .ok (.getfield 9, 3) by decide +kernel) ?_
  refine xv_b E [.iconst 2, .iload_n 1, .bipush 8, .ishr, .i2b] (pc' := 21) (lv' := [(0, .inr (.inr (some a0))), (1, .inl v1)]) (st' := [.inl (Int32.toInt8 (v1 >>> ((8 : Int32) &&& 31))).toInt32, .inl (2 : Int32), .inr (.inr o_5)]) (by decide +kernel) rfl rfl ?_
  obtain ⟨M7, h8, h⟩ := bd h
  refine xs_b E h8 (show decode prog_8_method_7_code 21 = .ok (.bastore, 1) by decide +kernel) ?_
  refine xv_b E [.aload_n 0] (pc' := 23) (lv' := [(0, .inr (.inr (some a0))), (1, .inl v1)]) (st' := [.inr (.inr (some a0))]) (by decide +kernel) rfl rfl ?_
  obtain ⟨o_9, h10, h⟩ := bd h
  refine xg_r E 6 0 h10 mw48 (show decode prog_8_method_7_code 23 = .ok (.getfield 9, 3) by decide +kernel) ?_
  refine xv_b E [.iconst 3, .iload_n 1, .i2b] (pc' := 29) (lv' := [(0, .inr (.inr (some a0))), (1, .inl v1)]) (st' := [.inl (Int32.toInt8 v1).toInt32, .inl (3 : Int32), .inr (.inr o_9)]) (by decide +kernel) rfl rfl ?_
  obtain ⟨M11, h12, h⟩ := bd h
  refine xs_b E h12 (show decode prog_8_method_7_code 29 = .ok (.bastore, 1) by decide +kernel) ?_
  obtain rfl := Option.some.inj h
  obtain ⟨rfl, rfl⟩ := Prod.mk.inj (show ((none : Option aV), M11) = (r, M') from hN)
  exact xv_rv E B.1 B.2.1 (show decode prog_8_method_7_code 30 = .ok (.return_, 1) by decide +kernel) rfl rfl
end
theorem t119 (G : gX) (l : Launch) {as : List aV} {M : hM} {r : Option aV} {M' : hM} (h : f119 as M = some (r, M')) : xM G l ym119 prog_8_method_7_code 2 none 0 as M r M' := by
  unfold f119 at h
  split at h
  · have h := x_out_ok h
    refine xM_of (by decide) (Nat.le_of_ble_eq_true rfl) (lb119_0 G l _ _ M h) ?_
    intro p e s m args below meth c E B
    exact sb119_0 E B _ _ M h rfl
  · cases h
/-! ZF.Frame.addLoadOf(LZF$Notice;)V -/
def ym120 : MethodName := ⟨"ZonedFabric$Frame", "addLoadOf", "(LZonedFabric$Notice;)V"⟩
theorem cd120 : xCd ym120 prog_4_method_5_code 3 none 1 := ⟨mw651, mw207, by decide, by decide, by decide +kernel⟩
def b120_0 (a0 : Nat) (o1 : Option Nat) (M : hM) : Option xRes :=
  some (.inr (2, [.inr (.inr (some a0)), .inr (.inr o1), .inl (0 : Int32)], M))
def b120_50  (M : hM) : Option xRes :=
  some (.inl (none, M))
def b120_2 (a0 : Nat) (o1 : Option Nat) (v2 : Int32) (M : hM) : Option xRes :=
  Option.bind (g_i M 6 1 o1) fun v_1 =>
  if v_1 ≤ v2 then
    (b120_50  M)
  else
    (Option.bind (g_i M 2 1 (some a0)) fun v_3 =>
    if (44 : Int32) ≤ v_3 then
      (b120_50  M)
    else
      (Option.bind (g_r M 2 0 (some a0)) fun o_5 =>
      Option.bind (g_i M 2 1 (some a0)) fun v_7 =>
      Option.bind (g_o M 6 o1) fun b_11 =>
      Option.bind (c_I (f96 [.inr (.inr (some b_11)), .inl v2] M)) fun q_9 =>
      Option.bind (as_b q_9.2 21 o_5 v_7 (Int32.toInt8 q_9.1).toInt32) fun M13 =>
      Option.bind (g_i M13 2 1 (some a0)) fun v_15 =>
      Option.bind (p_i M13 2 1 (some a0) (v_15 + (1 : Int32))) fun M17 =>
      some (.inr (2, [.inr (.inr (some a0)), .inr (.inr o1), .inl (v2 + (1 : Int32))], M17))))
def k120 (h : Nat) (as : List aV) (M : hM) : Option xRes :=
  if h = 2 then (match as with | [.inr (.inr (some a0)), .inr (.inr o1), .inl v2] => b120_2 a0 o1 v2 M | _ => none) else
  none
def f120 (as : List aV) (M : hM) : xO := match as with
  | [.inr (.inr (some a0)), .inr (.inr o1)] => x_go k120 (b120_0 a0 o1 M)
  | _ => none
theorem lb120_0 (G : gX) (l : Launch) (a0 : Nat) (o1 : Option Nat) (M : hM) {res : xRes} (h : b120_0 a0 o1 M = some res) : h_sz M ≤ r_sz res ∧ h_sl M ≤ r_sl res := by
  unfold b120_0 at h
  obtain rfl := Option.some.inj h
  show h_sz M ≤ h_sz M ∧ h_sl M ≤ h_sl M
  omega
theorem lb120_50 (G : gX) (l : Launch)  (M : hM) {res : xRes} (h : b120_50  M = some res) : h_sz M ≤ r_sz res ∧ h_sl M ≤ r_sl res := by
  unfold b120_50 at h
  obtain rfl := Option.some.inj h
  show h_sz M ≤ h_sz M ∧ h_sl M ≤ h_sl M
  omega
theorem lb120_2 (G : gX) (l : Launch) (a0 : Nat) (o1 : Option Nat) (v2 : Int32) (M : hM) {res : xRes} (h : b120_2 a0 o1 v2 M = some res) : h_sz M ≤ r_sz res ∧ h_sl M ≤ r_sl res := by
  unfold b120_2 at h
  obtain ⟨v_1, h2, h⟩ := bd h
  by_cases q20 : v_1 ≤ v2
  · rw [if_pos q20] at h
    have e := lb120_50 G l  M h
    omega
  · rw [if_neg q20] at h
    obtain ⟨v_3, h4, h⟩ := bd h
    by_cases q19 : (44 : Int32) ≤ v_3
    · rw [if_pos q19] at h
      have e := lb120_50 G l  M h
      omega
    · rw [if_neg q19] at h
      obtain ⟨o_5, h6, h⟩ := bd h
      obtain ⟨v_7, h8, h⟩ := bd h
      obtain ⟨b_11, h12, h⟩ := bd h
      obtain ⟨q_9, h10, h⟩ := bd h
      have eh10 := (t96 G l (c_I_some h10)).1
      obtain ⟨M13, h14, h⟩ := bd h
      have eh14 := as_b_sz h14
      obtain ⟨v_15, h16, h⟩ := bd h
      obtain ⟨M17, h18, h⟩ := bd h
      have eh18 := p_i_sz h18
      obtain rfl := Option.some.inj h
      show h_sz M ≤ h_sz M17 ∧ h_sl M ≤ h_sl M17
      omega
section
variable {p : Program} {l : Launch} {e : Env} {s : State} {m : MethodId} {args : Array Value} {below : List Frame} {meth : Method} {c : Code} {G : gX} {z0 y0 : Nat} {r : Option aV} {M' : hM}
def pg120 (p : Program) (l : Launch) (e : Env) (s : State) (m : MethodId) (args : Array Value) (below : List Frame) (meth : Method) (c : Code) (G : gX) (z0 y0 : Nat) (r : Option aV) (M' : hM) (h : Nat) (as : List aV) (M : hM) : Prop :=
  if h = 2 then (match as with | [.inr (.inr (some a0)), .inr (.inr o1), .inl v2] => xV G p l e (xRm 1 (h_sz M' - z0) (h_sl M' - y0)) s m args below meth c z0 y0 (h_sz M') (h_sl M') 3 (MQ below (xQc G r M') args s (h_sz M' - z0) (h_sl M' - y0) (xFr G)) 2 [(0, .inr (.inr (some a0))), (1, .inr (.inr o1)), (2, .inl v2)] [] M | _ => False) else
  False
theorem sb120_0 (E : xE G p (xRm 1 (h_sz M' - z0) (h_sl M' - y0)) s m args c prog_4_method_5_code "ZonedFabric$Frame" z0 y0 (h_sz M') (h_sl M') 3) (B : xB ym120 none meth) (a0 : Nat) (o1 : Option Nat) (M : hM) {res : xRes} (h : b120_0 a0 o1 M = some res) (hN : xN (pg120 p l e s m args below meth c G z0 y0 r M') r M' res) : xV G p l e (xRm 1 (h_sz M' - z0) (h_sl M' - y0)) s m args below meth c z0 y0 (h_sz M') (h_sl M') 3 (MQ below (xQc G r M') args s (h_sz M' - z0) (h_sl M' - y0) (xFr G)) 0 [(0, .inr (.inr (some a0))), (1, .inr (.inr o1))] [] M := by
  unfold b120_0 at h
  refine xv_b E [.iconst 0, .istore_n 2] (pc' := 2) (lv' := [(2, .inl (0 : Int32)), (0, .inr (.inr (some a0))), (1, .inr (.inr o1))]) (st' := []) (by decide +kernel) rfl rfl ?_
  obtain rfl := Option.some.inj h
  exact xv_w hN rfl
theorem sb120_50 (E : xE G p (xRm 1 (h_sz M' - z0) (h_sl M' - y0)) s m args c prog_4_method_5_code "ZonedFabric$Frame" z0 y0 (h_sz M') (h_sl M') 3) (B : xB ym120 none meth)  (M : hM) {res : xRes} (h : b120_50  M = some res) (hN : xN (pg120 p l e s m args below meth c G z0 y0 r M') r M' res) : xV G p l e (xRm 1 (h_sz M' - z0) (h_sl M' - y0)) s m args below meth c z0 y0 (h_sz M') (h_sl M') 3 (MQ below (xQc G r M') args s (h_sz M' - z0) (h_sl M' - y0) (xFr G)) 50 [] [] M := by
  unfold b120_50 at h
  obtain rfl := Option.some.inj h
  obtain ⟨rfl, rfl⟩ := Prod.mk.inj (show ((none : Option aV), M) = (r, M') from hN)
  exact xv_rv E B.1 B.2.1 (show decode prog_4_method_5_code 50 = .ok (.return_, 1) by decide +kernel) rfl rfl
theorem sb120_2 (E : xE G p (xRm 1 (h_sz M' - z0) (h_sl M' - y0)) s m args c prog_4_method_5_code "ZonedFabric$Frame" z0 y0 (h_sz M') (h_sl M') 3) (B : xB ym120 none meth) (a0 : Nat) (o1 : Option Nat) (v2 : Int32) (M : hM) {res : xRes} (h : b120_2 a0 o1 v2 M = some res) (hN : xN (pg120 p l e s m args below meth c G z0 y0 r M') r M' res) : xV G p l e (xRm 1 (h_sz M' - z0) (h_sl M' - y0)) s m args below meth c z0 y0 (h_sz M') (h_sl M') 3 (MQ below (xQc G r M') args s (h_sz M' - z0) (h_sl M' - y0) (xFr G)) 2 [(0, .inr (.inr (some a0))), (1, .inr (.inr o1)), (2, .inl v2)] [] M := by
  unfold b120_2 at h
  refine xv_b E [.iload_n 2, .aload_n 1] (pc' := 4) (lv' := [(0, .inr (.inr (some a0))), (1, .inr (.inr o1)), (2, .inl v2)]) (st' := [.inr (.inr o1), .inl v2]) (by decide +kernel) rfl rfl ?_
  obtain ⟨v_1, h2, h⟩ := bd h
  refine xg_i E 6 1 h2 mw652 (show decode prog_4_method_5_code 4 = .ok (.getfield 33, 3) by decide +kernel) ?_
  by_cases q20 : v_1 ≤ v2
  · rw [if_pos q20] at h
    refine xv_icmp_ge E 50 (show decode prog_4_method_5_code 7 = .ok (.if_icmp .ge (43), 3) by decide +kernel) rfl (fun _ => ?_) (fun z => absurd q20 z)
    exact xv_w (sb120_50 E B  M h hN) rfl
  · rw [if_neg q20] at h
    refine xv_icmp_ge E 50 (show decode prog_4_method_5_code 7 = .ok (.if_icmp .ge (43), 3) by decide +kernel) rfl (fun z => absurd z q20) (fun _ => ?_)
    refine xv_b E [.aload_n 0] (pc' := 11) (lv' := [(0, .inr (.inr (some a0))), (1, .inr (.inr o1)), (2, .inl v2)]) (st' := [.inr (.inr (some a0))]) (by decide +kernel) rfl rfl ?_
    obtain ⟨v_3, h4, h⟩ := bd h
    refine xg_i E 2 1 h4 mw219 (show decode prog_4_method_5_code 11 = .ok (.getfield 15, 3) by decide +kernel) ?_
    refine xv_b E [.bipush 44] (pc' := 16) (lv' := [(0, .inr (.inr (some a0))), (1, .inr (.inr o1)), (2, .inl v2)]) (st' := [.inl (44 : Int32), .inl v_3]) (by decide +kernel) rfl rfl ?_
    by_cases q19 : (44 : Int32) ≤ v_3
    · rw [if_pos q19] at h
      refine xv_icmp_ge E 50 (show decode prog_4_method_5_code 16 = .ok (.if_icmp .ge (34), 3) by decide +kernel) rfl (fun _ => ?_) (fun z => absurd q19 z)
      exact xv_w (sb120_50 E B  M h hN) rfl
    · rw [if_neg q19] at h
      refine xv_icmp_ge E 50 (show decode prog_4_method_5_code 16 = .ok (.if_icmp .ge (34), 3) by decide +kernel) rfl (fun z => absurd z q19) (fun _ => ?_)
      refine xv_b E [.aload_n 0] (pc' := 20) (lv' := [(0, .inr (.inr (some a0))), (1, .inr (.inr o1)), (2, .inl v2)]) (st' := [.inr (.inr (some a0))]) (by decide +kernel) rfl rfl ?_
      obtain ⟨o_5, h6, h⟩ := bd h
      refine xg_r E 2 0 h6 mw208 (show decode prog_4_method_5_code 20 = .ok (.getfield 9, 3) by decide +kernel) ?_
      refine xv_b E [.aload_n 0] (pc' := 24) (lv' := [(0, .inr (.inr (some a0))), (1, .inr (.inr o1)), (2, .inl v2)]) (st' := [.inr (.inr (some a0)), .inr (.inr o_5)]) (by decide +kernel) rfl rfl ?_
      obtain ⟨v_7, h8, h⟩ := bd h
      refine xg_i E 2 1 h8 mw219 (show decode prog_4_method_5_code 24 = .ok (.getfield 15, 3) by decide +kernel) ?_
      refine xv_b E [.aload_n 1, .iload_n 2] (pc' := 29) (lv' := [(0, .inr (.inr (some a0))), (1, .inr (.inr o1)), (2, .inl v2)]) (st' := [.inl v2, .inr (.inr o1), .inl v_7, .inr (.inr o_5)]) (by decide +kernel) rfl rfl ?_
      obtain ⟨b_11, h12, h⟩ := bd h
      obtain ⟨eh12, th12⟩ := g_o_some h12
      obtain ⟨q_9, h10, h⟩ := bd h
      refine xv_cvo E eh12 6 (as := [.inl v2]) (t96 G l (c_I_some h10)) cd96 mw653 mw563 mw564 (show decode prog_4_method_5_code 29 = .ok (.invokevirtual 38, 3) by decide +kernel) th12 rfl rfl (Nat.le_of_ble_eq_true rfl) ⟨Nat.le_of_ble_eq_true rfl, Nat.le_of_ble_eq_true rfl⟩ ?_
      refine xv_b E [.i2b] (pc' := 33) (lv' := [(0, .inr (.inr (some a0))), (1, .inr (.inr o1)), (2, .inl v2)]) (st' := [.inl (Int32.toInt8 q_9.1).toInt32, .inl v_7, .inr (.inr o_5)]) (by decide +kernel) rfl rfl ?_
      obtain ⟨M13, h14, h⟩ := bd h
      refine xs_b E h14 (show decode prog_4_method_5_code 33 = .ok (.bastore, 1) by decide +kernel) ?_
      refine xv_b E [.aload_n 0, .dup] (pc' := 36) (lv' := [(0, .inr (.inr (some a0))), (1, .inr (.inr o1)), (2, .inl v2)]) (st' := [.inr (.inr (some a0)), .inr (.inr (some a0))]) (by decide +kernel) rfl rfl ?_
      obtain ⟨v_15, h16, h⟩ := bd h
      refine xg_i E 2 1 h16 mw219 (show decode prog_4_method_5_code 36 = .ok (.getfield 15, 3) by decide +kernel) ?_
      refine xv_b E [.iconst 1, .iadd] (pc' := 41) (lv' := [(0, .inr (.inr (some a0))), (1, .inr (.inr o1)), (2, .inl v2)]) (st' := [.inl (v_15 + (1 : Int32)), .inr (.inr (some a0))]) (by decide +kernel) rfl rfl ?_
      obtain ⟨M17, h18, h⟩ := bd h
      refine xp_i E 2 1 h18 mw219 (show decode prog_4_method_5_code 41 = .ok (.putfield 15, 3) by decide +kernel) (Or.inl rfl) ?_
      refine xv_b E [.iinc 2 1] (pc' := 47) (lv' := [(2, .inl (v2 + (1 : Int32))), (0, .inr (.inr (some a0))), (1, .inr (.inr o1))]) (st' := []) (by decide +kernel) rfl rfl ?_
      refine xv_goto E 2 (show decode prog_4_method_5_code 47 = .ok (.goto (-45), 3) by decide +kernel) rfl ?_
      obtain rfl := Option.some.inj h
      exact xv_w hN rfl
end
theorem t120 (G : gX) (l : Launch) {as : List aV} {M : hM} {r : Option aV} {M' : hM} (h : f120 as M = some (r, M')) : xM G l ym120 prog_4_method_5_code 3 none 1 as M r M' := by
  unfold f120 at h
  split at h
  · have hle : ∀ h as M res, k120 h as M = some res → h_sz M ≤ r_sz res ∧ h_sl M ≤ r_sl res := by
      intro h as M res hb
      unfold k120 at hb
      by_cases e0 : h = 2
      · rw [if_pos e0] at hb
        split at hb
        · exact lb120_2 G l _ _ _ M hb
        · cases hb
      · rw [if_neg e0] at hb
        cases hb
    obtain ⟨res, hx, hres⟩ := x_go_ok h
    refine xM_of (by decide) (Nat.le_of_ble_eq_true rfl) ?_ ?_
    · have e1 := lb120_0 G l _ _ M hx
      have e2 := x_go_le hle hres
      omega
    · intro p e s m args below meth c E B
      refine sb120_0 E B _ _ M hx (hres _ ?_)
      intro h as M res hb hN
      unfold k120 at hb
      unfold pg120
      by_cases e0 : h = 2
      · rw [if_pos e0] at hb ⊢
        split at hb
        · exact sb120_2 E B _ _ _ M hb hN
        · cases hb
      · rw [if_neg e0] at hb ⊢
        cases hb
  · cases h
/-! ZF.Switch.postRecord(LZF$Port;LZF$Notice;)V -/
def ym121 : MethodName := ⟨"ZonedFabric$Switch", "postRecord", "(LZonedFabric$Port;LZonedFabric$Notice;)V"⟩
theorem cd121 : xCd ym121 prog_12_method_9_code 4 none 2 := ⟨mw654, mw51, by decide, by decide, by decide +kernel⟩
def b121_0 (a0 : Nat) (o1 : Option Nat) (o2 : Option Nat) (M : hM) : Option xRes :=
  Option.bind (g_r M 10 0 (some a0)) fun o_1 =>
  Option.bind (g_o M 9 o_1) fun b_5 =>
  Option.bind (c_R (f34 [.inr (.inr (some b_5)), .inl (2 : Int32), .inl (16777213 : Int32), .inl (16777213 : Int32), .inl (0 : Int32)] M)) fun q_3 =>
  Option.bind (g_o q_3.2 2 q_3.1) fun b_9 =>
  Option.bind (c_V (f120 [.inr (.inr (some b_9)), .inr (.inr o2)] q_3.2)) fun q_7 =>
  Option.bind (g_o q_7 8 o1) fun b_13 =>
  Option.bind (c_V (f39 [.inr (.inr (some b_13)), .inr (.inr q_3.1)] q_7)) fun q_11 =>
  some (.inl (none, q_11))
def f121 (as : List aV) (M : hM) : xO := match as with
  | [.inr (.inr (some a0)), .inr (.inr o1), .inr (.inr o2)] => x_out (b121_0 a0 o1 o2 M)
  | _ => none
theorem lb121_0 (G : gX) (l : Launch) (a0 : Nat) (o1 : Option Nat) (o2 : Option Nat) (M : hM) {res : xRes} (h : b121_0 a0 o1 o2 M = some res) : h_sz M ≤ r_sz res ∧ h_sl M ≤ r_sl res := by
  unfold b121_0 at h
  obtain ⟨o_1, h2, h⟩ := bd h
  obtain ⟨b_5, h6, h⟩ := bd h
  obtain ⟨q_3, h4, h⟩ := bd h
  have eh4 := (t34 G l (c_R_some h4)).1
  obtain ⟨b_9, h10, h⟩ := bd h
  obtain ⟨q_7, h8, h⟩ := bd h
  have eh8 := (t120 G l (c_V_some h8)).1
  obtain ⟨b_13, h14, h⟩ := bd h
  obtain ⟨q_11, h12, h⟩ := bd h
  have eh12 := (t39 G l (c_V_some h12)).1
  obtain rfl := Option.some.inj h
  show h_sz M ≤ h_sz q_11 ∧ h_sl M ≤ h_sl q_11
  omega
section
variable {p : Program} {l : Launch} {e : Env} {s : State} {m : MethodId} {args : Array Value} {below : List Frame} {meth : Method} {c : Code} {G : gX} {z0 y0 : Nat} {r : Option aV} {M' : hM}
theorem sb121_0 (E : xE G p (xRm 3 (h_sz M' - z0) (h_sl M' - y0)) s m args c prog_12_method_9_code "ZonedFabric$Switch" z0 y0 (h_sz M') (h_sl M') 4) (B : xB ym121 none meth) (a0 : Nat) (o1 : Option Nat) (o2 : Option Nat) (M : hM) {res : xRes} (h : b121_0 a0 o1 o2 M = some res) (hN : xN (fun _ _ _ => False) r M' res) : xV G p l e (xRm 3 (h_sz M' - z0) (h_sl M' - y0)) s m args below meth c z0 y0 (h_sz M') (h_sl M') 4 (MQ below (xQc G r M') args s (h_sz M' - z0) (h_sl M' - y0) (xFr G)) 0 [(0, .inr (.inr (some a0))), (1, .inr (.inr o1)), (2, .inr (.inr o2))] [] M := by
  unfold b121_0 at h
  refine xv_b E [.aload_n 0] (pc' := 1) (lv' := [(0, .inr (.inr (some a0))), (1, .inr (.inr o1)), (2, .inr (.inr o2))]) (st' := [.inr (.inr (some a0))]) (by decide +kernel) rfl rfl ?_
  obtain ⟨o_1, h2, h⟩ := bd h
  refine xg_r E 10 0 h2 mw60 (show decode prog_12_method_9_code 1 = .ok (.getfield 34, 3) by decide +kernel) ?_
  refine xv_b E [.iconst 2] (pc' := 5) (lv' := [(0, .inr (.inr (some a0))), (1, .inr (.inr o1)), (2, .inr (.inr o2))]) (st' := [.inl (2 : Int32), .inr (.inr o_1)]) (by decide +kernel) rfl rfl ?_
  refine xv_ldc E (16777213 : Int32) mw634 (show decode prog_12_method_9_code 5 = .ok (.ldc 124, 2) by decide +kernel) ?_
  refine xv_ldc E (16777213 : Int32) mw634 (show decode prog_12_method_9_code 7 = .ok (.ldc 124, 2) by decide +kernel) ?_
  refine xv_b E [.iconst 0] (pc' := 10) (lv' := [(0, .inr (.inr (some a0))), (1, .inr (.inr o1)), (2, .inr (.inr o2))]) (st' := [.inl (0 : Int32), .inl (16777213 : Int32), .inl (16777213 : Int32), .inl (2 : Int32), .inr (.inr o_1)]) (by decide +kernel) rfl rfl ?_
  obtain ⟨b_5, h6, h⟩ := bd h
  obtain ⟨eh6, th6⟩ := g_o_some h6
  obtain ⟨q_3, h4, h⟩ := bd h
  refine xv_cvo E eh6 9 (as := [.inl (2 : Int32), .inl (16777213 : Int32), .inl (16777213 : Int32), .inl (0 : Int32)]) (t34 G l (c_R_some h4)) cd34 mw556 mw251 mw252 (show decode prog_12_method_9_code 10 = .ok (.invokevirtual 92, 3) by decide +kernel) th6 rfl rfl (Nat.le_of_ble_eq_true rfl) ⟨Nat.le_of_ble_eq_true rfl, Nat.le_of_ble_eq_true rfl⟩ ?_
  refine xv_b E [.astore_n 3, .aload_n 3, .aload_n 2] (pc' := 16) (lv' := [(3, .inr (.inr q_3.1)), (0, .inr (.inr (some a0))), (1, .inr (.inr o1)), (2, .inr (.inr o2))]) (st' := [.inr (.inr o2), .inr (.inr q_3.1)]) (by decide +kernel) rfl rfl ?_
  obtain ⟨b_9, h10, h⟩ := bd h
  obtain ⟨eh10, th10⟩ := g_o_some h10
  obtain ⟨q_7, h8, h⟩ := bd h
  refine xv_cvo E eh10 2 (as := [.inr (.inr o2)]) (t120 G l (c_V_some h8)) cd120 mw655 mw656 mw657 (show decode prog_12_method_9_code 16 = .ok (.invokevirtual 166, 3) by decide +kernel) th10 rfl rfl (Nat.le_of_ble_eq_true rfl) ⟨Nat.le_of_ble_eq_true rfl, Nat.le_of_ble_eq_true rfl⟩ ?_
  refine xv_b E [.aload_n 1, .aload_n 3] (pc' := 21) (lv' := [(3, .inr (.inr q_3.1)), (0, .inr (.inr (some a0))), (1, .inr (.inr o1)), (2, .inr (.inr o2))]) (st' := [.inr (.inr q_3.1), .inr (.inr o1)]) (by decide +kernel) rfl rfl ?_
  obtain ⟨b_13, h14, h⟩ := bd h
  obtain ⟨eh14, th14⟩ := g_o_some h14
  obtain ⟨q_11, h12, h⟩ := bd h
  refine xv_cvo E eh14 8 (as := [.inr (.inr q_3.1)]) (t39 G l (c_V_some h12)) cd39 mw557 mw257 mw258 (show decode prog_12_method_9_code 21 = .ok (.invokevirtual 95, 3) by decide +kernel) th14 rfl rfl (Nat.le_of_ble_eq_true rfl) ⟨Nat.le_of_ble_eq_true rfl, Nat.le_of_ble_eq_true rfl⟩ ?_
  obtain rfl := Option.some.inj h
  obtain ⟨rfl, rfl⟩ := Prod.mk.inj (show ((none : Option aV), q_11) = (r, M') from hN)
  exact xv_rv E B.1 B.2.1 (show decode prog_12_method_9_code 24 = .ok (.return_, 1) by decide +kernel) rfl rfl
end
theorem t121 (G : gX) (l : Launch) {as : List aV} {M : hM} {r : Option aV} {M' : hM} (h : f121 as M = some (r, M')) : xM G l ym121 prog_12_method_9_code 4 none 3 as M r M' := by
  unfold f121 at h
  split at h
  · have h := x_out_ok h
    refine xM_of (by decide) (Nat.le_of_ble_eq_true rfl) (lb121_0 G l _ _ _ M h) ?_
    intro p e s m args below meth c E B
    exact sb121_0 E B _ _ _ M h rfl
  · cases h
/-! ZF.Switch.spread(LZF$Notice;I)V -/
def ym122 : MethodName := ⟨"ZonedFabric$Switch", "spread", "(LZonedFabric$Notice;I)V"⟩
theorem cd122 : xCd ym122 prog_12_method_8_code 4 none 2 := ⟨mw658, mw51, by decide, by decide, by decide +kernel⟩
def b122_0 (a0 : Nat) (o1 : Option Nat) (v2 : Int32) (M : hM) : Option xRes :=
  some (.inr (2, [.inr (.inr (some a0)), .inr (.inr o1), .inl v2, .inl (0 : Int32)], M))
def b122_37 (a0 : Nat) (o1 : Option Nat) (v2 : Int32) (v3 : Int32) (M : hM) : Option xRes :=
  some (.inr (2, [.inr (.inr (some a0)), .inr (.inr o1), .inl v2, .inl (v3 + (1 : Int32))], M))
def b122_2 (a0 : Nat) (o1 : Option Nat) (v2 : Int32) (v3 : Int32) (M : hM) : Option xRes :=
  if (8 : Int32) ≤ v3 then
    (some (.inl (none, M)))
  else
    (if v3 = v2 then
      (b122_37 a0 o1 v2 v3 M)
    else
      (Option.bind (g_r M 10 2 (some a0)) fun o_1 =>
      Option.bind (al_r M 38 o_1 v3) fun o_3 =>
      Option.bind (g_i M 8 11 o_3) fun v_5 =>
      if v_5 = (-1 : Int32) then
        (b122_37 a0 o1 v2 v3 M)
      else
        (Option.bind (g_r M 10 2 (some a0)) fun o_7 =>
        Option.bind (al_r M 38 o_7 v3) fun o_9 =>
        Option.bind (g_o M 10 (some a0)) fun b_13 =>
        Option.bind (c_V (f121 [.inr (.inr (some b_13)), .inr (.inr o_9), .inr (.inr o1)] M)) fun q_11 =>
        b122_37 a0 o1 v2 v3 q_11)))
def k122 (h : Nat) (as : List aV) (M : hM) : Option xRes :=
  if h = 2 then (match as with | [.inr (.inr (some a0)), .inr (.inr o1), .inl v2, .inl v3] => b122_2 a0 o1 v2 v3 M | _ => none) else
  none
def f122 (as : List aV) (M : hM) : xO := match as with
  | [.inr (.inr (some a0)), .inr (.inr o1), .inl v2] => x_go k122 (b122_0 a0 o1 v2 M)
  | _ => none
theorem lb122_0 (G : gX) (l : Launch) (a0 : Nat) (o1 : Option Nat) (v2 : Int32) (M : hM) {res : xRes} (h : b122_0 a0 o1 v2 M = some res) : h_sz M ≤ r_sz res ∧ h_sl M ≤ r_sl res := by
  unfold b122_0 at h
  obtain rfl := Option.some.inj h
  show h_sz M ≤ h_sz M ∧ h_sl M ≤ h_sl M
  omega
theorem lb122_37 (G : gX) (l : Launch) (a0 : Nat) (o1 : Option Nat) (v2 : Int32) (v3 : Int32) (M : hM) {res : xRes} (h : b122_37 a0 o1 v2 v3 M = some res) : h_sz M ≤ r_sz res ∧ h_sl M ≤ r_sl res := by
  unfold b122_37 at h
  obtain rfl := Option.some.inj h
  show h_sz M ≤ h_sz M ∧ h_sl M ≤ h_sl M
  omega
theorem lb122_2 (G : gX) (l : Launch) (a0 : Nat) (o1 : Option Nat) (v2 : Int32) (v3 : Int32) (M : hM) {res : xRes} (h : b122_2 a0 o1 v2 v3 M = some res) : h_sz M ≤ r_sz res ∧ h_sl M ≤ r_sl res := by
  unfold b122_2 at h
  by_cases q17 : (8 : Int32) ≤ v3
  · rw [if_pos q17] at h
    obtain rfl := Option.some.inj h
    show h_sz M ≤ h_sz M ∧ h_sl M ≤ h_sl M
    omega
  · rw [if_neg q17] at h
    by_cases q16 : v3 = v2
    · rw [if_pos q16] at h
      have e := lb122_37 G l a0 o1 v2 v3 M h
      omega
    · rw [if_neg q16] at h
      obtain ⟨o_1, h2, h⟩ := bd h
      obtain ⟨o_3, h4, h⟩ := bd h
      obtain ⟨v_5, h6, h⟩ := bd h
      by_cases q15 : v_5 = (-1 : Int32)
      · rw [if_pos q15] at h
        have e := lb122_37 G l a0 o1 v2 v3 M h
        omega
      · rw [if_neg q15] at h
        obtain ⟨o_7, h8, h⟩ := bd h
        obtain ⟨o_9, h10, h⟩ := bd h
        obtain ⟨b_13, h14, h⟩ := bd h
        obtain ⟨q_11, h12, h⟩ := bd h
        have eh12 := (t121 G l (c_V_some h12)).1
        have e := lb122_37 G l a0 o1 v2 v3 q_11 h
        omega
section
variable {p : Program} {l : Launch} {e : Env} {s : State} {m : MethodId} {args : Array Value} {below : List Frame} {meth : Method} {c : Code} {G : gX} {z0 y0 : Nat} {r : Option aV} {M' : hM}
def pg122 (p : Program) (l : Launch) (e : Env) (s : State) (m : MethodId) (args : Array Value) (below : List Frame) (meth : Method) (c : Code) (G : gX) (z0 y0 : Nat) (r : Option aV) (M' : hM) (h : Nat) (as : List aV) (M : hM) : Prop :=
  if h = 2 then (match as with | [.inr (.inr (some a0)), .inr (.inr o1), .inl v2, .inl v3] => xV G p l e (xRm 4 (h_sz M' - z0) (h_sl M' - y0)) s m args below meth c z0 y0 (h_sz M') (h_sl M') 4 (MQ below (xQc G r M') args s (h_sz M' - z0) (h_sl M' - y0) (xFr G)) 2 [(0, .inr (.inr (some a0))), (1, .inr (.inr o1)), (2, .inl v2), (3, .inl v3)] [] M | _ => False) else
  False
theorem sb122_0 (E : xE G p (xRm 4 (h_sz M' - z0) (h_sl M' - y0)) s m args c prog_12_method_8_code "ZonedFabric$Switch" z0 y0 (h_sz M') (h_sl M') 4) (B : xB ym122 none meth) (a0 : Nat) (o1 : Option Nat) (v2 : Int32) (M : hM) {res : xRes} (h : b122_0 a0 o1 v2 M = some res) (hN : xN (pg122 p l e s m args below meth c G z0 y0 r M') r M' res) : xV G p l e (xRm 4 (h_sz M' - z0) (h_sl M' - y0)) s m args below meth c z0 y0 (h_sz M') (h_sl M') 4 (MQ below (xQc G r M') args s (h_sz M' - z0) (h_sl M' - y0) (xFr G)) 0 [(0, .inr (.inr (some a0))), (1, .inr (.inr o1)), (2, .inl v2)] [] M := by
  unfold b122_0 at h
  refine xv_b E [.iconst 0, .istore_n 3] (pc' := 2) (lv' := [(3, .inl (0 : Int32)), (0, .inr (.inr (some a0))), (1, .inr (.inr o1)), (2, .inl v2)]) (st' := []) (by decide +kernel) rfl rfl ?_
  obtain rfl := Option.some.inj h
  exact xv_w hN rfl
theorem sb122_37 (E : xE G p (xRm 4 (h_sz M' - z0) (h_sl M' - y0)) s m args c prog_12_method_8_code "ZonedFabric$Switch" z0 y0 (h_sz M') (h_sl M') 4) (B : xB ym122 none meth) (a0 : Nat) (o1 : Option Nat) (v2 : Int32) (v3 : Int32) (M : hM) {res : xRes} (h : b122_37 a0 o1 v2 v3 M = some res) (hN : xN (pg122 p l e s m args below meth c G z0 y0 r M') r M' res) : xV G p l e (xRm 4 (h_sz M' - z0) (h_sl M' - y0)) s m args below meth c z0 y0 (h_sz M') (h_sl M') 4 (MQ below (xQc G r M') args s (h_sz M' - z0) (h_sl M' - y0) (xFr G)) 37 [(0, .inr (.inr (some a0))), (1, .inr (.inr o1)), (2, .inl v2), (3, .inl v3)] [] M := by
  unfold b122_37 at h
  refine xv_b E [.iinc 3 1] (pc' := 40) (lv' := [(3, .inl (v3 + (1 : Int32))), (0, .inr (.inr (some a0))), (1, .inr (.inr o1)), (2, .inl v2)]) (st' := []) (by decide +kernel) rfl rfl ?_
  refine xv_goto E 2 (show decode prog_12_method_8_code 40 = .ok (.goto (-38), 3) by decide +kernel) rfl ?_
  obtain rfl := Option.some.inj h
  exact xv_w hN rfl
theorem sb122_2 (E : xE G p (xRm 4 (h_sz M' - z0) (h_sl M' - y0)) s m args c prog_12_method_8_code "ZonedFabric$Switch" z0 y0 (h_sz M') (h_sl M') 4) (B : xB ym122 none meth) (a0 : Nat) (o1 : Option Nat) (v2 : Int32) (v3 : Int32) (M : hM) {res : xRes} (h : b122_2 a0 o1 v2 v3 M = some res) (hN : xN (pg122 p l e s m args below meth c G z0 y0 r M') r M' res) : xV G p l e (xRm 4 (h_sz M' - z0) (h_sl M' - y0)) s m args below meth c z0 y0 (h_sz M') (h_sl M') 4 (MQ below (xQc G r M') args s (h_sz M' - z0) (h_sl M' - y0) (xFr G)) 2 [(0, .inr (.inr (some a0))), (1, .inr (.inr o1)), (2, .inl v2), (3, .inl v3)] [] M := by
  unfold b122_2 at h
  refine xv_b E [.iload_n 3, .bipush 8] (pc' := 5) (lv' := [(0, .inr (.inr (some a0))), (1, .inr (.inr o1)), (2, .inl v2), (3, .inl v3)]) (st' := [.inl (8 : Int32), .inl v3]) (by decide +kernel) rfl rfl ?_
  by_cases q17 : (8 : Int32) ≤ v3
  · rw [if_pos q17] at h
    refine xv_icmp_ge E 43 (show decode prog_12_method_8_code 5 = .ok (.if_icmp .ge (38), 3) by decide +kernel) rfl (fun _ => ?_) (fun z => absurd q17 z)
    obtain rfl := Option.some.inj h
    obtain ⟨rfl, rfl⟩ := Prod.mk.inj (show ((none : Option aV), M) = (r, M') from hN)
    exact xv_rv E B.1 B.2.1 (show decode prog_12_method_8_code 43 = .ok (.return_, 1) by decide +kernel) rfl rfl
  · rw [if_neg q17] at h
    refine xv_icmp_ge E 43 (show decode prog_12_method_8_code 5 = .ok (.if_icmp .ge (38), 3) by decide +kernel) rfl (fun z => absurd z q17) (fun _ => ?_)
    refine xv_b E [.iload_n 3, .iload_n 2] (pc' := 10) (lv' := [(0, .inr (.inr (some a0))), (1, .inr (.inr o1)), (2, .inl v2), (3, .inl v3)]) (st' := [.inl v2, .inl v3]) (by decide +kernel) rfl rfl ?_
    by_cases q16 : v3 = v2
    · rw [if_pos q16] at h
      refine xv_icmp_eq E 37 (show decode prog_12_method_8_code 10 = .ok (.if_icmp .eq (27), 3) by decide +kernel) rfl (fun _ => ?_) (fun z => absurd q16 z)
      exact xv_w (sb122_37 E B a0 o1 v2 v3 M h hN) rfl
    · rw [if_neg q16] at h
      refine xv_icmp_eq E 37 (show decode prog_12_method_8_code 10 = .ok (.if_icmp .eq (27), 3) by decide +kernel) rfl (fun z => absurd z q16) (fun _ => ?_)
      refine xv_b E [.aload_n 0] (pc' := 14) (lv' := [(0, .inr (.inr (some a0))), (1, .inr (.inr o1)), (2, .inl v2), (3, .inl v3)]) (st' := [.inr (.inr (some a0))]) (by decide +kernel) rfl rfl ?_
      obtain ⟨o_1, h2, h⟩ := bd h
      refine xg_r E 10 2 h2 mw53 (show decode prog_12_method_8_code 14 = .ok (.getfield 11, 3) by decide +kernel) ?_
      refine xv_b E [.iload_n 3] (pc' := 18) (lv' := [(0, .inr (.inr (some a0))), (1, .inr (.inr o1)), (2, .inl v2), (3, .inl v3)]) (st' := [.inl v3, .inr (.inr o_1)]) (by decide +kernel) rfl rfl ?_
      obtain ⟨o_3, h4, h⟩ := bd h
      refine xa_r E 38 h4 (show decode prog_12_method_8_code 18 = .ok (.aaload, 1) by decide +kernel) ?_
      obtain ⟨v_5, h6, h⟩ := bd h
      refine xg_i E 8 11 h6 mw631 (show decode prog_12_method_8_code 19 = .ok (.getfield 118, 3) by decide +kernel) ?_
      refine xv_b E [.iconst (-1)] (pc' := 23) (lv' := [(0, .inr (.inr (some a0))), (1, .inr (.inr o1)), (2, .inl v2), (3, .inl v3)]) (st' := [.inl (-1 : Int32), .inl v_5]) (by decide +kernel) rfl rfl ?_
      by_cases q15 : v_5 = (-1 : Int32)
      · rw [if_pos q15] at h
        refine xv_icmp_eq E 37 (show decode prog_12_method_8_code 23 = .ok (.if_icmp .eq (14), 3) by decide +kernel) rfl (fun _ => ?_) (fun z => absurd q15 z)
        exact xv_w (sb122_37 E B a0 o1 v2 v3 M h hN) rfl
      · rw [if_neg q15] at h
        refine xv_icmp_eq E 37 (show decode prog_12_method_8_code 23 = .ok (.if_icmp .eq (14), 3) by decide +kernel) rfl (fun z => absurd z q15) (fun _ => ?_)
        refine xv_b E [.aload_n 0, .aload_n 0] (pc' := 28) (lv' := [(0, .inr (.inr (some a0))), (1, .inr (.inr o1)), (2, .inl v2), (3, .inl v3)]) (st' := [.inr (.inr (some a0)), .inr (.inr (some a0))]) (by decide +kernel) rfl rfl ?_
        obtain ⟨o_7, h8, h⟩ := bd h
        refine xg_r E 10 2 h8 mw53 (show decode prog_12_method_8_code 28 = .ok (.getfield 11, 3) by decide +kernel) ?_
        refine xv_b E [.iload_n 3] (pc' := 32) (lv' := [(0, .inr (.inr (some a0))), (1, .inr (.inr o1)), (2, .inl v2), (3, .inl v3)]) (st' := [.inl v3, .inr (.inr o_7), .inr (.inr (some a0))]) (by decide +kernel) rfl rfl ?_
        obtain ⟨o_9, h10, h⟩ := bd h
        refine xa_r E 38 h10 (show decode prog_12_method_8_code 32 = .ok (.aaload, 1) by decide +kernel) ?_
        refine xv_b E [.aload_n 1] (pc' := 34) (lv' := [(0, .inr (.inr (some a0))), (1, .inr (.inr o1)), (2, .inl v2), (3, .inl v3)]) (st' := [.inr (.inr o1), .inr (.inr o_9), .inr (.inr (some a0))]) (by decide +kernel) rfl rfl ?_
        obtain ⟨b_13, h14, h⟩ := bd h
        obtain ⟨eh14, th14⟩ := g_o_some h14
        obtain ⟨q_11, h12, h⟩ := bd h
        refine xv_cvo E eh14 10 (as := [.inr (.inr o_9), .inr (.inr o1)]) (t121 G l (c_V_some h12)) cd121 mw659 mw660 mw661 (show decode prog_12_method_8_code 34 = .ok (.invokevirtual 162, 3) by decide +kernel) th14 rfl rfl (Nat.le_of_ble_eq_true rfl) ⟨Nat.le_of_ble_eq_true rfl, Nat.le_of_ble_eq_true rfl⟩ ?_
        exact xv_w (sb122_37 E B a0 o1 v2 v3 q_11 h hN) rfl
end
theorem t122 (G : gX) (l : Launch) {as : List aV} {M : hM} {r : Option aV} {M' : hM} (h : f122 as M = some (r, M')) : xM G l ym122 prog_12_method_8_code 4 none 4 as M r M' := by
  unfold f122 at h
  split at h
  · have hle : ∀ h as M res, k122 h as M = some res → h_sz M ≤ r_sz res ∧ h_sl M ≤ r_sl res := by
      intro h as M res hb
      unfold k122 at hb
      by_cases e0 : h = 2
      · rw [if_pos e0] at hb
        split at hb
        · exact lb122_2 G l _ _ _ _ M hb
        · cases hb
      · rw [if_neg e0] at hb
        cases hb
    obtain ⟨res, hx, hres⟩ := x_go_ok h
    refine xM_of (by decide) (Nat.le_of_ble_eq_true rfl) ?_ ?_
    · have e1 := lb122_0 G l _ _ _ M hx
      have e2 := x_go_le hle hres
      omega
    · intro p e s m args below meth c E B
      refine sb122_0 E B _ _ _ M hx (hres _ ?_)
      intro h as M res hb hN
      unfold k122 at hb
      unfold pg122
      by_cases e0 : h = 2
      · rw [if_pos e0] at hb ⊢
        split at hb
        · exact sb122_2 E B _ _ _ _ M hb hN
        · cases hb
      · rw [if_neg e0] at hb ⊢
        cases hb
  · cases h
/-! ZF.Notice.tellsSameAs(LZF$Notice;)Z -/
def ym123 : MethodName := ⟨"ZonedFabric$Notice", "tellsSameAs", "(LZonedFabric$Notice;)Z"⟩
theorem cd123 : xCd ym123 prog_8_method_15_code 3 (some FieldType.boolean) 1 := ⟨mw662, mw46, by decide, by decide, by decide +kernel⟩
def b123_0 (a0 : Nat) (o1 : Option Nat) (M : hM) : Option xRes :=
  Option.bind (g_i M 6 1 (some a0)) fun v_1 =>
  Option.bind (g_i M 6 1 o1) fun v_3 =>
  if v_1 = v_3 then
    (some (.inr (15, [.inr (.inr (some a0)), .inr (.inr o1), .inl (4 : Int32)], M)))
  else
    (some (.inl (some (.inl (0 : Int32)), M)))
def b123_15 (a0 : Nat) (o1 : Option Nat) (v2 : Int32) (M : hM) : Option xRes :=
  Option.bind (g_i M 6 1 (some a0)) fun v_6 =>
  if v_6 ≤ v2 then
    (some (.inl (some (.inl (1 : Int32)), M)))
  else
    (Option.bind (g_r M 6 0 (some a0)) fun o_8 =>
    Option.bind (al_i M 21 o_8 v2) fun v_10 =>
    Option.bind (g_r M 6 0 o1) fun o_12 =>
    Option.bind (al_i M 21 o_12 v2) fun v_14 =>
    if v_10 = v_14 then
      (some (.inr (15, [.inr (.inr (some a0)), .inr (.inr o1), .inl (v2 + (1 : Int32))], M)))
    else
      (some (.inl (some (.inl (0 : Int32)), M))))
def k123 (h : Nat) (as : List aV) (M : hM) : Option xRes :=
  if h = 15 then (match as with | [.inr (.inr (some a0)), .inr (.inr o1), .inl v2] => b123_15 a0 o1 v2 M | _ => none) else
  none
def f123 (as : List aV) (M : hM) : xO := match as with
  | [.inr (.inr (some a0)), .inr (.inr o1)] => x_go k123 (b123_0 a0 o1 M)
  | _ => none
theorem lb123_0 (G : gX) (l : Launch) (a0 : Nat) (o1 : Option Nat) (M : hM) {res : xRes} (h : b123_0 a0 o1 M = some res) : h_sz M ≤ r_sz res ∧ h_sl M ≤ r_sl res := by
  unfold b123_0 at h
  obtain ⟨v_1, h2, h⟩ := bd h
  obtain ⟨v_3, h4, h⟩ := bd h
  by_cases q5 : v_1 = v_3
  · rw [if_pos q5] at h
    obtain rfl := Option.some.inj h
    show h_sz M ≤ h_sz M ∧ h_sl M ≤ h_sl M
    omega
  · rw [if_neg q5] at h
    obtain rfl := Option.some.inj h
    show h_sz M ≤ h_sz M ∧ h_sl M ≤ h_sl M
    omega
theorem lb123_15 (G : gX) (l : Launch) (a0 : Nat) (o1 : Option Nat) (v2 : Int32) (M : hM) {res : xRes} (h : b123_15 a0 o1 v2 M = some res) : h_sz M ≤ r_sz res ∧ h_sl M ≤ r_sl res := by
  unfold b123_15 at h
  obtain ⟨v_6, h7, h⟩ := bd h
  by_cases q17 : v_6 ≤ v2
  · rw [if_pos q17] at h
    obtain rfl := Option.some.inj h
    show h_sz M ≤ h_sz M ∧ h_sl M ≤ h_sl M
    omega
  · rw [if_neg q17] at h
    obtain ⟨o_8, h9, h⟩ := bd h
    obtain ⟨v_10, h11, h⟩ := bd h
    obtain ⟨o_12, h13, h⟩ := bd h
    obtain ⟨v_14, h15, h⟩ := bd h
    by_cases q16 : v_10 = v_14
    · rw [if_pos q16] at h
      obtain rfl := Option.some.inj h
      show h_sz M ≤ h_sz M ∧ h_sl M ≤ h_sl M
      omega
    · rw [if_neg q16] at h
      obtain rfl := Option.some.inj h
      show h_sz M ≤ h_sz M ∧ h_sl M ≤ h_sl M
      omega
section
variable {p : Program} {l : Launch} {e : Env} {s : State} {m : MethodId} {args : Array Value} {below : List Frame} {meth : Method} {c : Code} {G : gX} {z0 y0 : Nat} {r : Option aV} {M' : hM}
def pg123 (p : Program) (l : Launch) (e : Env) (s : State) (m : MethodId) (args : Array Value) (below : List Frame) (meth : Method) (c : Code) (G : gX) (z0 y0 : Nat) (r : Option aV) (M' : hM) (h : Nat) (as : List aV) (M : hM) : Prop :=
  if h = 15 then (match as with | [.inr (.inr (some a0)), .inr (.inr o1), .inl v2] => xV G p l e (xRm 0 (h_sz M' - z0) (h_sl M' - y0)) s m args below meth c z0 y0 (h_sz M') (h_sl M') 3 (MQ below (xQc G r M') args s (h_sz M' - z0) (h_sl M' - y0) (xFr G)) 15 [(0, .inr (.inr (some a0))), (1, .inr (.inr o1)), (2, .inl v2)] [] M | _ => False) else
  False
theorem sb123_0 (E : xE G p (xRm 0 (h_sz M' - z0) (h_sl M' - y0)) s m args c prog_8_method_15_code "ZonedFabric$Notice" z0 y0 (h_sz M') (h_sl M') 3) (B : xB ym123 (some FieldType.boolean) meth) (a0 : Nat) (o1 : Option Nat) (M : hM) {res : xRes} (h : b123_0 a0 o1 M = some res) (hN : xN (pg123 p l e s m args below meth c G z0 y0 r M') r M' res) : xV G p l e (xRm 0 (h_sz M' - z0) (h_sl M' - y0)) s m args below meth c z0 y0 (h_sz M') (h_sl M') 3 (MQ below (xQc G r M') args s (h_sz M' - z0) (h_sl M' - y0) (xFr G)) 0 [(0, .inr (.inr (some a0))), (1, .inr (.inr o1))] [] M := by
  unfold b123_0 at h
  refine xv_b E [.aload_n 0] (pc' := 1) (lv' := [(0, .inr (.inr (some a0))), (1, .inr (.inr o1))]) (st' := [.inr (.inr (some a0))]) (by decide +kernel) rfl rfl ?_
  obtain ⟨v_1, h2, h⟩ := bd h
  refine xg_i E 6 1 h2 mw560 (show decode prog_8_method_15_code 1 = .ok (.getfield 15, 3) by decide +kernel) ?_
  refine xv_b E [.aload_n 1] (pc' := 5) (lv' := [(0, .inr (.inr (some a0))), (1, .inr (.inr o1))]) (st' := [.inr (.inr o1), .inl v_1]) (by decide +kernel) rfl rfl ?_
  obtain ⟨v_3, h4, h⟩ := bd h
  refine xg_i E 6 1 h4 mw560 (show decode prog_8_method_15_code 5 = .ok (.getfield 15, 3) by decide +kernel) ?_
  by_cases q5 : v_1 = v_3
  · rw [if_pos q5] at h
    refine xv_icmp_eq E 13 (show decode prog_8_method_15_code 8 = .ok (.if_icmp .eq (5), 3) by decide +kernel) rfl (fun _ => ?_) (fun z => absurd q5 z)
    refine xv_b E [.iconst 4, .istore_n 2] (pc' := 15) (lv' := [(2, .inl (4 : Int32)), (0, .inr (.inr (some a0))), (1, .inr (.inr o1))]) (st' := []) (by decide +kernel) rfl rfl ?_
    obtain rfl := Option.some.inj h
    exact xv_w hN rfl
  · rw [if_neg q5] at h
    refine xv_icmp_eq E 13 (show decode prog_8_method_15_code 8 = .ok (.if_icmp .eq (5), 3) by decide +kernel) rfl (fun z => absurd z q5) (fun _ => ?_)
    refine xv_b E [.iconst 0] (pc' := 12) (lv' := [(0, .inr (.inr (some a0))), (1, .inr (.inr o1))]) (st' := [.inl (0 : Int32)]) (by decide +kernel) rfl rfl ?_
    obtain rfl := Option.some.inj h
    obtain ⟨rfl, rfl⟩ := Prod.mk.inj (show ((some (.inl (0 : Int32)) : Option aV), M) = (r, M') from hN)
    exact xv_ri E B.1 rfl B.2.1 (show decode prog_8_method_15_code 12 = .ok (.ireturn, 1) by decide +kernel) rfl rfl
theorem sb123_15 (E : xE G p (xRm 0 (h_sz M' - z0) (h_sl M' - y0)) s m args c prog_8_method_15_code "ZonedFabric$Notice" z0 y0 (h_sz M') (h_sl M') 3) (B : xB ym123 (some FieldType.boolean) meth) (a0 : Nat) (o1 : Option Nat) (v2 : Int32) (M : hM) {res : xRes} (h : b123_15 a0 o1 v2 M = some res) (hN : xN (pg123 p l e s m args below meth c G z0 y0 r M') r M' res) : xV G p l e (xRm 0 (h_sz M' - z0) (h_sl M' - y0)) s m args below meth c z0 y0 (h_sz M') (h_sl M') 3 (MQ below (xQc G r M') args s (h_sz M' - z0) (h_sl M' - y0) (xFr G)) 15 [(0, .inr (.inr (some a0))), (1, .inr (.inr o1)), (2, .inl v2)] [] M := by
  unfold b123_15 at h
  refine xv_b E [.iload_n 2, .aload_n 0] (pc' := 17) (lv' := [(0, .inr (.inr (some a0))), (1, .inr (.inr o1)), (2, .inl v2)]) (st' := [.inr (.inr (some a0)), .inl v2]) (by decide +kernel) rfl rfl ?_
  obtain ⟨v_6, h7, h⟩ := bd h
  refine xg_i E 6 1 h7 mw560 (show decode prog_8_method_15_code 17 = .ok (.getfield 15, 3) by decide +kernel) ?_
  by_cases q17 : v_6 ≤ v2
  · rw [if_pos q17] at h
    refine xv_icmp_ge E 46 (show decode prog_8_method_15_code 20 = .ok (.if_icmp .ge (26), 3) by decide +kernel) rfl (fun _ => ?_) (fun z => absurd q17 z)
    refine xv_b E [.iconst 1] (pc' := 47) (lv' := [(0, .inr (.inr (some a0))), (1, .inr (.inr o1)), (2, .inl v2)]) (st' := [.inl (1 : Int32)]) (by decide +kernel) rfl rfl ?_
    obtain rfl := Option.some.inj h
    obtain ⟨rfl, rfl⟩ := Prod.mk.inj (show ((some (.inl (1 : Int32)) : Option aV), M) = (r, M') from hN)
    exact xv_ri E B.1 rfl B.2.1 (show decode prog_8_method_15_code 47 = .ok (.ireturn, 1) by decide +kernel) rfl rfl
  · rw [if_neg q17] at h
    refine xv_icmp_ge E 46 (show decode prog_8_method_15_code 20 = .ok (.if_icmp .ge (26), 3) by decide +kernel) rfl (fun z => absurd z q17) (fun _ => ?_)
    refine xv_b E [.aload_n 0] (pc' := 24) (lv' := [(0, .inr (.inr (some a0))), (1, .inr (.inr o1)), (2, .inl v2)]) (st' := [.inr (.inr (some a0))]) (by decide +kernel) rfl rfl ?_
    obtain ⟨o_8, h9, h⟩ := bd h
    refine xg_r E 6 0 h9 mw48 (show decode prog_8_method_15_code 24 = .ok (.getfield 9, 3) by decide +kernel) ?_
    refine xv_b E [.iload_n 2] (pc' := 28) (lv' := [(0, .inr (.inr (some a0))), (1, .inr (.inr o1)), (2, .inl v2)]) (st' := [.inl v2, .inr (.inr o_8)]) (by decide +kernel) rfl rfl ?_
    obtain ⟨v_10, h11, h⟩ := bd h
    refine xa_b E h11 (show decode prog_8_method_15_code 28 = .ok (.baload, 1) by decide +kernel) ?_
    refine xv_b E [.aload_n 1] (pc' := 30) (lv' := [(0, .inr (.inr (some a0))), (1, .inr (.inr o1)), (2, .inl v2)]) (st' := [.inr (.inr o1), .inl v_10]) (by decide +kernel) rfl rfl ?_
    obtain ⟨o_12, h13, h⟩ := bd h
    refine xg_r E 6 0 h13 mw48 (show decode prog_8_method_15_code 30 = .ok (.getfield 9, 3) by decide +kernel) ?_
    refine xv_b E [.iload_n 2] (pc' := 34) (lv' := [(0, .inr (.inr (some a0))), (1, .inr (.inr o1)), (2, .inl v2)]) (st' := [.inl v2, .inr (.inr o_12), .inl v_10]) (by decide +kernel) rfl rfl ?_
    obtain ⟨v_14, h15, h⟩ := bd h
    refine xa_b E h15 (show decode prog_8_method_15_code 34 = .ok (.baload, 1) by decide +kernel) ?_
    by_cases q16 : v_10 = v_14
    · rw [if_pos q16] at h
      refine xv_icmp_eq E 40 (show decode prog_8_method_15_code 35 = .ok (.if_icmp .eq (5), 3) by decide +kernel) rfl (fun _ => ?_) (fun z => absurd q16 z)
      refine xv_b E [.iinc 2 1] (pc' := 43) (lv' := [(2, .inl (v2 + (1 : Int32))), (0, .inr (.inr (some a0))), (1, .inr (.inr o1))]) (st' := []) (by decide +kernel) rfl rfl ?_
      refine xv_goto E 15 (show decode prog_8_method_15_code 43 = .ok (.goto (-28), 3) by decide +kernel) rfl ?_
      obtain rfl := Option.some.inj h
      exact xv_w hN rfl
    · rw [if_neg q16] at h
      refine xv_icmp_eq E 40 (show decode prog_8_method_15_code 35 = .ok (.if_icmp .eq (5), 3) by decide +kernel) rfl (fun z => absurd z q16) (fun _ => ?_)
      refine xv_b E [.iconst 0] (pc' := 39) (lv' := [(0, .inr (.inr (some a0))), (1, .inr (.inr o1)), (2, .inl v2)]) (st' := [.inl (0 : Int32)]) (by decide +kernel) rfl rfl ?_
      obtain rfl := Option.some.inj h
      obtain ⟨rfl, rfl⟩ := Prod.mk.inj (show ((some (.inl (0 : Int32)) : Option aV), M) = (r, M') from hN)
      exact xv_ri E B.1 rfl B.2.1 (show decode prog_8_method_15_code 39 = .ok (.ireturn, 1) by decide +kernel) rfl rfl
end
theorem t123 (G : gX) (l : Launch) {as : List aV} {M : hM} {r : Option aV} {M' : hM} (h : f123 as M = some (r, M')) : xM G l ym123 prog_8_method_15_code 3 (some FieldType.boolean) 0 as M r M' := by
  unfold f123 at h
  split at h
  · have hle : ∀ h as M res, k123 h as M = some res → h_sz M ≤ r_sz res ∧ h_sl M ≤ r_sl res := by
      intro h as M res hb
      unfold k123 at hb
      by_cases e0 : h = 15
      · rw [if_pos e0] at hb
        split at hb
        · exact lb123_15 G l _ _ _ M hb
        · cases hb
      · rw [if_neg e0] at hb
        cases hb
    obtain ⟨res, hx, hres⟩ := x_go_ok h
    refine xM_of (by decide) (Nat.le_of_ble_eq_true rfl) ?_ ?_
    · have e1 := lb123_0 G l _ _ M hx
      have e2 := x_go_le hle hres
      omega
    · intro p e s m args below meth c E B
      refine sb123_0 E B _ _ M hx (hres _ ?_)
      intro h as M res hb hN
      unfold k123 at hb
      unfold pg123
      by_cases e0 : h = 15
      · rw [if_pos e0] at hb ⊢
        split at hb
        · exact sb123_15 E B _ _ _ M hb hN
        · cases hb
      · rw [if_neg e0] at hb ⊢
        cases hb
  · cases h
