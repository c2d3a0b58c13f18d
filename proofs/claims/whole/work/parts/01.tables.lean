-- ===== PART A: goes FIRST, ahead of the names: the tables' words, and 'selects' of the private methods out of them =====
/-- a private method of a class that the tables say can be made, by its rows of tables_1 -/
def lw_okq (q : MethodName × Nat) : Prop := (q.1.cls ≠ "java/lang/invoke/MethodHandle" ∧ q.1.cls ≠ "java/lang/invoke/VarHandle") ∧ Cond.instantiable q.1.cls q.2 ∈ tables_1 ∧ Cond.privateMethod q.1 ∈ tables_1 ∧ Cond.instanceMethod q.1 ∈ tables_1
theorem lw_p0 : lw_okq (⟨"ZonedFabric", "isSwitch", "(I)Z"⟩, 8) := ⟨⟨by decide +kernel, by decide +kernel⟩, List.mem_of_getElem? (i := 17) (by decide +kernel), List.mem_of_getElem? (i := 403) (by decide +kernel), List.mem_of_getElem? (i := 404) (by decide +kernel)⟩
theorem lw_p1 : lw_okq (⟨"ZonedFabric", "portOf", "(II)LZonedFabric$Port;"⟩, 8) := ⟨⟨by decide +kernel, by decide +kernel⟩, List.mem_of_getElem? (i := 17) (by decide +kernel), List.mem_of_getElem? (i := 407) (by decide +kernel), List.mem_of_getElem? (i := 408) (by decide +kernel)⟩
theorem lw_p2 : lw_okq (⟨"ZonedFabric", "isWire", "(I)Z"⟩, 8) := ⟨⟨by decide +kernel, by decide +kernel⟩, List.mem_of_getElem? (i := 17) (by decide +kernel), List.mem_of_getElem? (i := 419) (by decide +kernel), List.mem_of_getElem? (i := 420) (by decide +kernel)⟩
theorem lw_p3 : lw_okq (⟨"ZonedFabric$Node", "forgetLogins", "()V"⟩, 6) := ⟨⟨by decide +kernel, by decide +kernel⟩, List.mem_of_getElem? (i := 232) (by decide +kernel), List.mem_of_getElem? (i := 439) (by decide +kernel), List.mem_of_getElem? (i := 440) (by decide +kernel)⟩
theorem lw_p4 : lw_okq (⟨"ZonedFabric", "onTheWay", "(II)LZonedFabric$Frame;"⟩, 8) := ⟨⟨by decide +kernel, by decide +kernel⟩, List.mem_of_getElem? (i := 17) (by decide +kernel), List.mem_of_getElem? (i := 471) (by decide +kernel), List.mem_of_getElem? (i := 472) (by decide +kernel)⟩
theorem lw_p5 : lw_okq (⟨"ZonedFabric$Switch", "takeBackAddresses", "()V"⟩, 11) := ⟨⟨by decide +kernel, by decide +kernel⟩, List.mem_of_getElem? (i := 73) (by decide +kernel), List.mem_of_getElem? (i := 495) (by decide +kernel), List.mem_of_getElem? (i := 496) (by decide +kernel)⟩
theorem lw_p6 : lw_okq (⟨"ZonedFabric$Switch", "forgetOldRecords", "()V"⟩, 11) := ⟨⟨by decide +kernel, by decide +kernel⟩, List.mem_of_getElem? (i := 73) (by decide +kernel), List.mem_of_getElem? (i := 538) (by decide +kernel), List.mem_of_getElem? (i := 539) (by decide +kernel)⟩
theorem lw_p7 : lw_okq (⟨"ZonedFabric$Switch", "findWays", "()V"⟩, 11) := ⟨⟨by decide +kernel, by decide +kernel⟩, List.mem_of_getElem? (i := 73) (by decide +kernel), List.mem_of_getElem? (i := 550) (by decide +kernel), List.mem_of_getElem? (i := 551) (by decide +kernel)⟩
theorem lw_p8 : lw_okq (⟨"ZonedFabric$Switch", "noteCosts", "()V"⟩, 11) := ⟨⟨by decide +kernel, by decide +kernel⟩, List.mem_of_getElem? (i := 73) (by decide +kernel), List.mem_of_getElem? (i := 554) (by decide +kernel), List.mem_of_getElem? (i := 555) (by decide +kernel)⟩
theorem lw_p9 : lw_okq (⟨"ZonedFabric$Switch", "addUpCosts", "()V"⟩, 11) := ⟨⟨by decide +kernel, by decide +kernel⟩, List.mem_of_getElem? (i := 73) (by decide +kernel), List.mem_of_getElem? (i := 578) (by decide +kernel), List.mem_of_getElem? (i := 579) (by decide +kernel)⟩
theorem lw_p10 : lw_okq (⟨"ZonedFabric$Switch", "areJoined", "(II)Z"⟩, 11) := ⟨⟨by decide +kernel, by decide +kernel⟩, List.mem_of_getElem? (i := 73) (by decide +kernel), List.mem_of_getElem? (i := 582) (by decide +kernel), List.mem_of_getElem? (i := 583) (by decide +kernel)⟩
theorem lw_p11 : lw_okq (⟨"ZonedFabric$Switch", "firstPortTo", "(ILZonedFabric$Notice;)I"⟩, 11) := ⟨⟨by decide +kernel, by decide +kernel⟩, List.mem_of_getElem? (i := 73) (by decide +kernel), List.mem_of_getElem? (i := 586) (by decide +kernel), List.mem_of_getElem? (i := 587) (by decide +kernel)⟩
theorem lw_p12 : lw_okq (⟨"ZonedFabric$Switch", "noteHolders", "()V"⟩, 11) := ⟨⟨by decide +kernel, by decide +kernel⟩, List.mem_of_getElem? (i := 73) (by decide +kernel), List.mem_of_getElem? (i := 594) (by decide +kernel), List.mem_of_getElem? (i := 595) (by decide +kernel)⟩
theorem lw_p13 : lw_okq (⟨"ZonedFabric$Switch", "isOn", "(I)Z"⟩, 11) := ⟨⟨by decide +kernel, by decide +kernel⟩, List.mem_of_getElem? (i := 73) (by decide +kernel), List.mem_of_getElem? (i := 602) (by decide +kernel), List.mem_of_getElem? (i := 603) (by decide +kernel)⟩
theorem lw_p14 : lw_okq (⟨"ZonedFabric$Switch", "sayHello", "()V"⟩, 11) := ⟨⟨by decide +kernel, by decide +kernel⟩, List.mem_of_getElem? (i := 73) (by decide +kernel), List.mem_of_getElem? (i := 606) (by decide +kernel), List.mem_of_getElem? (i := 607) (by decide +kernel)⟩
theorem lw_p15 : lw_okq (⟨"ZonedFabric$Switch", "tellOwnRecord", "()V"⟩, 11) := ⟨⟨by decide +kernel, by decide +kernel⟩, List.mem_of_getElem? (i := 73) (by decide +kernel), List.mem_of_getElem? (i := 624) (by decide +kernel), List.mem_of_getElem? (i := 625) (by decide +kernel)⟩
def lw_privs_1 : List (MethodName × Nat) := [(⟨"ZonedFabric", "isSwitch", "(I)Z"⟩, 8), (⟨"ZonedFabric", "portOf", "(II)LZonedFabric$Port;"⟩, 8), (⟨"ZonedFabric", "isWire", "(I)Z"⟩, 8), (⟨"ZonedFabric$Node", "forgetLogins", "()V"⟩, 6), (⟨"ZonedFabric", "onTheWay", "(II)LZonedFabric$Frame;"⟩, 8), (⟨"ZonedFabric$Switch", "takeBackAddresses", "()V"⟩, 11), (⟨"ZonedFabric$Switch", "forgetOldRecords", "()V"⟩, 11), (⟨"ZonedFabric$Switch", "findWays", "()V"⟩, 11), (⟨"ZonedFabric$Switch", "noteCosts", "()V"⟩, 11), (⟨"ZonedFabric$Switch", "addUpCosts", "()V"⟩, 11), (⟨"ZonedFabric$Switch", "areJoined", "(II)Z"⟩, 11), (⟨"ZonedFabric$Switch", "firstPortTo", "(ILZonedFabric$Notice;)I"⟩, 11), (⟨"ZonedFabric$Switch", "noteHolders", "()V"⟩, 11), (⟨"ZonedFabric$Switch", "isOn", "(I)Z"⟩, 11), (⟨"ZonedFabric$Switch", "sayHello", "()V"⟩, 11), (⟨"ZonedFabric$Switch", "tellOwnRecord", "()V"⟩, 11)]
theorem lw_r1 : ∀ q ∈ lw_privs_1, lw_okq q := List.forall_mem_cons.mpr ⟨lw_p0, List.forall_mem_cons.mpr ⟨lw_p1, List.forall_mem_cons.mpr ⟨lw_p2, List.forall_mem_cons.mpr ⟨lw_p3, List.forall_mem_cons.mpr ⟨lw_p4, List.forall_mem_cons.mpr ⟨lw_p5, List.forall_mem_cons.mpr ⟨lw_p6, List.forall_mem_cons.mpr ⟨lw_p7, List.forall_mem_cons.mpr ⟨lw_p8, List.forall_mem_cons.mpr ⟨lw_p9, List.forall_mem_cons.mpr ⟨lw_p10, List.forall_mem_cons.mpr ⟨lw_p11, List.forall_mem_cons.mpr ⟨lw_p12, List.forall_mem_cons.mpr ⟨lw_p13, List.forall_mem_cons.mpr ⟨lw_p14, List.forall_mem_cons.mpr ⟨lw_p15, fun _ h => absurd h List.not_mem_nil⟩⟩⟩⟩⟩⟩⟩⟩⟩⟩⟩⟩⟩⟩⟩⟩
theorem lw_p16 : lw_okq (⟨"ZonedFabric$Switch", "draftOwnRecord", "()V"⟩, 11) := ⟨⟨by decide +kernel, by decide +kernel⟩, List.mem_of_getElem? (i := 73) (by decide +kernel), List.mem_of_getElem? (i := 628) (by decide +kernel), List.mem_of_getElem? (i := 629) (by decide +kernel)⟩
theorem lw_p17 : lw_okq (⟨"ZonedFabric$Switch", "spread", "(LZonedFabric$Notice;I)V"⟩, 11) := ⟨⟨by decide +kernel, by decide +kernel⟩, List.mem_of_getElem? (i := 73) (by decide +kernel), List.mem_of_getElem? (i := 657) (by decide +kernel), List.mem_of_getElem? (i := 658) (by decide +kernel)⟩
theorem lw_p18 : lw_okq (⟨"ZonedFabric$Switch", "postRecord", "(LZonedFabric$Port;LZonedFabric$Notice;)V"⟩, 11) := ⟨⟨by decide +kernel, by decide +kernel⟩, List.mem_of_getElem? (i := 73) (by decide +kernel), List.mem_of_getElem? (i := 661) (by decide +kernel), List.mem_of_getElem? (i := 662) (by decide +kernel)⟩
theorem lw_p19 : lw_okq (⟨"ZonedFabric$Frame", "reckonCheck", "(I)I"⟩, 4) := ⟨⟨by decide +kernel, by decide +kernel⟩, List.mem_of_getElem? (i := 504) (by decide +kernel), List.mem_of_getElem? (i := 682) (by decide +kernel), List.mem_of_getElem? (i := 683) (by decide +kernel)⟩
theorem lw_p20 : lw_okq (⟨"ZonedFabric$Switch", "serve", "(LZonedFabric$Port;)V"⟩, 11) := ⟨⟨by decide +kernel, by decide +kernel⟩, List.mem_of_getElem? (i := 73) (by decide +kernel), List.mem_of_getElem? (i := 692) (by decide +kernel), List.mem_of_getElem? (i := 693) (by decide +kernel)⟩
theorem lw_p21 : lw_okq (⟨"ZonedFabric$Frame", "hasRecordForm", "(ILZonedFabric$Shared;)Z"⟩, 4) := ⟨⟨by decide +kernel, by decide +kernel⟩, List.mem_of_getElem? (i := 504) (by decide +kernel), List.mem_of_getElem? (i := 712) (by decide +kernel), List.mem_of_getElem? (i := 713) (by decide +kernel)⟩
theorem lw_p22 : lw_okq (⟨"ZonedFabric$Frame", "haveNeighboursForm", "(ILZonedFabric$Shared;)Z"⟩, 4) := ⟨⟨by decide +kernel, by decide +kernel⟩, List.mem_of_getElem? (i := 504) (by decide +kernel), List.mem_of_getElem? (i := 720) (by decide +kernel), List.mem_of_getElem? (i := 721) (by decide +kernel)⟩
theorem lw_p23 : lw_okq (⟨"ZonedFabric$Frame", "haveNodesForm", "(ILZonedFabric$Shared;)Z"⟩, 4) := ⟨⟨by decide +kernel, by decide +kernel⟩, List.mem_of_getElem? (i := 504) (by decide +kernel), List.mem_of_getElem? (i := 724) (by decide +kernel), List.mem_of_getElem? (i := 725) (by decide +kernel)⟩
theorem lw_p24 : lw_okq (⟨"ZonedFabric$Frame", "hasForm", "(ILZonedFabric$Shared;)Z"⟩, 4) := ⟨⟨by decide +kernel, by decide +kernel⟩, List.mem_of_getElem? (i := 504) (by decide +kernel), List.mem_of_getElem? (i := 729) (by decide +kernel), List.mem_of_getElem? (i := 730) (by decide +kernel)⟩
theorem lw_p25 : lw_okq (⟨"ZonedFabric$Switch", "passOn", "(LZonedFabric$Port;LZonedFabric$Frame;)V"⟩, 11) := ⟨⟨by decide +kernel, by decide +kernel⟩, List.mem_of_getElem? (i := 73) (by decide +kernel), List.mem_of_getElem? (i := 747) (by decide +kernel), List.mem_of_getElem? (i := 748) (by decide +kernel)⟩
theorem lw_p26 : lw_okq (⟨"ZonedFabric$Switch", "outPort", "(LZonedFabric$Port;II)I"⟩, 11) := ⟨⟨by decide +kernel, by decide +kernel⟩, List.mem_of_getElem? (i := 73) (by decide +kernel), List.mem_of_getElem? (i := 755) (by decide +kernel), List.mem_of_getElem? (i := 756) (by decide +kernel)⟩
theorem lw_p27 : lw_okq (⟨"ZonedFabric$Switch", "takeHello", "(LZonedFabric$Port;LZonedFabric$Frame;)V"⟩, 11) := ⟨⟨by decide +kernel, by decide +kernel⟩, List.mem_of_getElem? (i := 73) (by decide +kernel), List.mem_of_getElem? (i := 777) (by decide +kernel), List.mem_of_getElem? (i := 778) (by decide +kernel)⟩
theorem lw_p28 : lw_okq (⟨"ZonedFabric$Switch", "takeRecord", "(LZonedFabric$Port;LZonedFabric$Frame;)V"⟩, 11) := ⟨⟨by decide +kernel, by decide +kernel⟩, List.mem_of_getElem? (i := 73) (by decide +kernel), List.mem_of_getElem? (i := 782) (by decide +kernel), List.mem_of_getElem? (i := 783) (by decide +kernel)⟩
theorem lw_p29 : lw_okq (⟨"ZonedFabric$Switch", "takeFlogi", "(LZonedFabric$Port;)V"⟩, 11) := ⟨⟨by decide +kernel, by decide +kernel⟩, List.mem_of_getElem? (i := 73) (by decide +kernel), List.mem_of_getElem? (i := 787) (by decide +kernel), List.mem_of_getElem? (i := 788) (by decide +kernel)⟩
theorem lw_p30 : lw_okq (⟨"ZonedFabric$Switch", "takeAsk", "(LZonedFabric$Port;LZonedFabric$Frame;)V"⟩, 11) := ⟨⟨by decide +kernel, by decide +kernel⟩, List.mem_of_getElem? (i := 73) (by decide +kernel), List.mem_of_getElem? (i := 791) (by decide +kernel), List.mem_of_getElem? (i := 792) (by decide +kernel)⟩
theorem lw_p31 : lw_okq (⟨"ZonedFabric$Switch", "addressOf", "(I)I"⟩, 11) := ⟨⟨by decide +kernel, by decide +kernel⟩, List.mem_of_getElem? (i := 73) (by decide +kernel), List.mem_of_getElem? (i := 795) (by decide +kernel), List.mem_of_getElem? (i := 796) (by decide +kernel)⟩
def lw_privs_2 : List (MethodName × Nat) := [(⟨"ZonedFabric$Switch", "draftOwnRecord", "()V"⟩, 11), (⟨"ZonedFabric$Switch", "spread", "(LZonedFabric$Notice;I)V"⟩, 11), (⟨"ZonedFabric$Switch", "postRecord", "(LZonedFabric$Port;LZonedFabric$Notice;)V"⟩, 11), (⟨"ZonedFabric$Frame", "reckonCheck", "(I)I"⟩, 4), (⟨"ZonedFabric$Switch", "serve", "(LZonedFabric$Port;)V"⟩, 11), (⟨"ZonedFabric$Frame", "hasRecordForm", "(ILZonedFabric$Shared;)Z"⟩, 4), (⟨"ZonedFabric$Frame", "haveNeighboursForm", "(ILZonedFabric$Shared;)Z"⟩, 4), (⟨"ZonedFabric$Frame", "haveNodesForm", "(ILZonedFabric$Shared;)Z"⟩, 4), (⟨"ZonedFabric$Frame", "hasForm", "(ILZonedFabric$Shared;)Z"⟩, 4), (⟨"ZonedFabric$Switch", "passOn", "(LZonedFabric$Port;LZonedFabric$Frame;)V"⟩, 11), (⟨"ZonedFabric$Switch", "outPort", "(LZonedFabric$Port;II)I"⟩, 11), (⟨"ZonedFabric$Switch", "takeHello", "(LZonedFabric$Port;LZonedFabric$Frame;)V"⟩, 11), (⟨"ZonedFabric$Switch", "takeRecord", "(LZonedFabric$Port;LZonedFabric$Frame;)V"⟩, 11), (⟨"ZonedFabric$Switch", "takeFlogi", "(LZonedFabric$Port;)V"⟩, 11), (⟨"ZonedFabric$Switch", "takeAsk", "(LZonedFabric$Port;LZonedFabric$Frame;)V"⟩, 11), (⟨"ZonedFabric$Switch", "addressOf", "(I)I"⟩, 11)]
theorem lw_r2 : ∀ q ∈ lw_privs_2, lw_okq q := List.forall_mem_cons.mpr ⟨lw_p16, List.forall_mem_cons.mpr ⟨lw_p17, List.forall_mem_cons.mpr ⟨lw_p18, List.forall_mem_cons.mpr ⟨lw_p19, List.forall_mem_cons.mpr ⟨lw_p20, List.forall_mem_cons.mpr ⟨lw_p21, List.forall_mem_cons.mpr ⟨lw_p22, List.forall_mem_cons.mpr ⟨lw_p23, List.forall_mem_cons.mpr ⟨lw_p24, List.forall_mem_cons.mpr ⟨lw_p25, List.forall_mem_cons.mpr ⟨lw_p26, List.forall_mem_cons.mpr ⟨lw_p27, List.forall_mem_cons.mpr ⟨lw_p28, List.forall_mem_cons.mpr ⟨lw_p29, List.forall_mem_cons.mpr ⟨lw_p30, List.forall_mem_cons.mpr ⟨lw_p31, fun _ h => absurd h List.not_mem_nil⟩⟩⟩⟩⟩⟩⟩⟩⟩⟩⟩⟩⟩⟩⟩⟩
theorem lw_p32 : lw_okq (⟨"ZonedFabric$Node", "takeAddress", "(I)V"⟩, 6) := ⟨⟨by decide +kernel, by decide +kernel⟩, List.mem_of_getElem? (i := 232) (by decide +kernel), List.mem_of_getElem? (i := 815) (by decide +kernel), List.mem_of_getElem? (i := 816) (by decide +kernel)⟩
theorem lw_p33 : lw_okq (⟨"ZonedFabric$Host", "takeTold", "(LZonedFabric$Frame;)V"⟩, 6) := ⟨⟨by decide +kernel, by decide +kernel⟩, List.mem_of_getElem? (i := 268) (by decide +kernel), List.mem_of_getElem? (i := 824) (by decide +kernel), List.mem_of_getElem? (i := 825) (by decide +kernel)⟩
theorem lw_p34 : lw_okq (⟨"ZonedFabric$Host", "enter", "(LZonedFabric$Command;I)V"⟩, 6) := ⟨⟨by decide +kernel, by decide +kernel⟩, List.mem_of_getElem? (i := 268) (by decide +kernel), List.mem_of_getElem? (i := 832) (by decide +kernel), List.mem_of_getElem? (i := 833) (by decide +kernel)⟩
theorem lw_p35 : lw_okq (⟨"ZonedFabric$Host", "sendForPhase", "(LZonedFabric$Command;)V"⟩, 6) := ⟨⟨by decide +kernel, by decide +kernel⟩, List.mem_of_getElem? (i := 268) (by decide +kernel), List.mem_of_getElem? (i := 836) (by decide +kernel), List.mem_of_getElem? (i := 837) (by decide +kernel)⟩
theorem lw_p36 : lw_okq (⟨"ZonedFabric$Host", "takeLogged", "(I)V"⟩, 6) := ⟨⟨by decide +kernel, by decide +kernel⟩, List.mem_of_getElem? (i := 268) (by decide +kernel), List.mem_of_getElem? (i := 853) (by decide +kernel), List.mem_of_getElem? (i := 854) (by decide +kernel)⟩
theorem lw_p37 : lw_okq (⟨"ZonedFabric$Host", "takeReady", "(LZonedFabric$Frame;)V"⟩, 6) := ⟨⟨by decide +kernel, by decide +kernel⟩, List.mem_of_getElem? (i := 268) (by decide +kernel), List.mem_of_getElem? (i := 857) (by decide +kernel), List.mem_of_getElem? (i := 858) (by decide +kernel)⟩
theorem lw_p38 : lw_okq (⟨"ZonedFabric$Host", "commandOf", "(LZonedFabric$Frame;I)LZonedFabric$Command;"⟩, 6) := ⟨⟨by decide +kernel, by decide +kernel⟩, List.mem_of_getElem? (i := 268) (by decide +kernel), List.mem_of_getElem? (i := 861) (by decide +kernel), List.mem_of_getElem? (i := 862) (by decide +kernel)⟩
theorem lw_p39 : lw_okq (⟨"ZonedFabric$Host", "takeData", "(LZonedFabric$Frame;)V"⟩, 6) := ⟨⟨by decide +kernel, by decide +kernel⟩, List.mem_of_getElem? (i := 268) (by decide +kernel), List.mem_of_getElem? (i := 874) (by decide +kernel), List.mem_of_getElem? (i := 875) (by decide +kernel)⟩
theorem lw_p40 : lw_okq (⟨"ZonedFabric$Host", "takeDone", "(LZonedFabric$Frame;)V"⟩, 6) := ⟨⟨by decide +kernel, by decide +kernel⟩, List.mem_of_getElem? (i := 268) (by decide +kernel), List.mem_of_getElem? (i := 886) (by decide +kernel), List.mem_of_getElem? (i := 887) (by decide +kernel)⟩
theorem lw_p41 : lw_okq (⟨"ZonedFabric$Host", "takeAborted", "(LZonedFabric$Frame;)V"⟩, 6) := ⟨⟨by decide +kernel, by decide +kernel⟩, List.mem_of_getElem? (i := 268) (by decide +kernel), List.mem_of_getElem? (i := 898) (by decide +kernel), List.mem_of_getElem? (i := 899) (by decide +kernel)⟩
theorem lw_p42 : lw_okq (⟨"ZonedFabric$Disc", "logIn", "(I)V"⟩, 7) := ⟨⟨by decide +kernel, by decide +kernel⟩, List.mem_of_getElem? (i := 328) (by decide +kernel), List.mem_of_getElem? (i := 908) (by decide +kernel), List.mem_of_getElem? (i := 909) (by decide +kernel)⟩
theorem lw_p43 : lw_okq (⟨"ZonedFabric$Disc", "isLoggedIn", "(I)Z"⟩, 7) := ⟨⟨by decide +kernel, by decide +kernel⟩, List.mem_of_getElem? (i := 328) (by decide +kernel), List.mem_of_getElem? (i := 912) (by decide +kernel), List.mem_of_getElem? (i := 913) (by decide +kernel)⟩
theorem lw_p44 : lw_okq (⟨"ZonedFabric$Disc", "answer", "(ILZonedFabric$Frame;IIJ)V"⟩, 7) := ⟨⟨by decide +kernel, by decide +kernel⟩, List.mem_of_getElem? (i := 328) (by decide +kernel), List.mem_of_getElem? (i := 919) (by decide +kernel), List.mem_of_getElem? (i := 920) (by decide +kernel)⟩
theorem lw_p45 : lw_okq (⟨"ZonedFabric$Disc", "takeCommand", "(LZonedFabric$Frame;)V"⟩, 7) := ⟨⟨by decide +kernel, by decide +kernel⟩, List.mem_of_getElem? (i := 328) (by decide +kernel), List.mem_of_getElem? (i := 928) (by decide +kernel), List.mem_of_getElem? (i := 929) (by decide +kernel)⟩
theorem lw_p46 : lw_okq (⟨"ZonedFabric$Disc", "freeWrite", "()LZonedFabric$OpenWrite;"⟩, 7) := ⟨⟨by decide +kernel, by decide +kernel⟩, List.mem_of_getElem? (i := 328) (by decide +kernel), List.mem_of_getElem? (i := 933) (by decide +kernel), List.mem_of_getElem? (i := 934) (by decide +kernel)⟩
theorem lw_p47 : lw_okq (⟨"ZonedFabric$Disc", "sendBlocks", "(LZonedFabric$Frame;II)V"⟩, 7) := ⟨⟨by decide +kernel, by decide +kernel⟩, List.mem_of_getElem? (i := 328) (by decide +kernel), List.mem_of_getElem? (i := 945) (by decide +kernel), List.mem_of_getElem? (i := 946) (by decide +kernel)⟩
def lw_privs_3 : List (MethodName × Nat) := [(⟨"ZonedFabric$Node", "takeAddress", "(I)V"⟩, 6), (⟨"ZonedFabric$Host", "takeTold", "(LZonedFabric$Frame;)V"⟩, 6), (⟨"ZonedFabric$Host", "enter", "(LZonedFabric$Command;I)V"⟩, 6), (⟨"ZonedFabric$Host", "sendForPhase", "(LZonedFabric$Command;)V"⟩, 6), (⟨"ZonedFabric$Host", "takeLogged", "(I)V"⟩, 6), (⟨"ZonedFabric$Host", "takeReady", "(LZonedFabric$Frame;)V"⟩, 6), (⟨"ZonedFabric$Host", "commandOf", "(LZonedFabric$Frame;I)LZonedFabric$Command;"⟩, 6), (⟨"ZonedFabric$Host", "takeData", "(LZonedFabric$Frame;)V"⟩, 6), (⟨"ZonedFabric$Host", "takeDone", "(LZonedFabric$Frame;)V"⟩, 6), (⟨"ZonedFabric$Host", "takeAborted", "(LZonedFabric$Frame;)V"⟩, 6), (⟨"ZonedFabric$Disc", "logIn", "(I)V"⟩, 7), (⟨"ZonedFabric$Disc", "isLoggedIn", "(I)Z"⟩, 7), (⟨"ZonedFabric$Disc", "answer", "(ILZonedFabric$Frame;IIJ)V"⟩, 7), (⟨"ZonedFabric$Disc", "takeCommand", "(LZonedFabric$Frame;)V"⟩, 7), (⟨"ZonedFabric$Disc", "freeWrite", "()LZonedFabric$OpenWrite;"⟩, 7), (⟨"ZonedFabric$Disc", "sendBlocks", "(LZonedFabric$Frame;II)V"⟩, 7)]
theorem lw_r3 : ∀ q ∈ lw_privs_3, lw_okq q := List.forall_mem_cons.mpr ⟨lw_p32, List.forall_mem_cons.mpr ⟨lw_p33, List.forall_mem_cons.mpr ⟨lw_p34, List.forall_mem_cons.mpr ⟨lw_p35, List.forall_mem_cons.mpr ⟨lw_p36, List.forall_mem_cons.mpr ⟨lw_p37, List.forall_mem_cons.mpr ⟨lw_p38, List.forall_mem_cons.mpr ⟨lw_p39, List.forall_mem_cons.mpr ⟨lw_p40, List.forall_mem_cons.mpr ⟨lw_p41, List.forall_mem_cons.mpr ⟨lw_p42, List.forall_mem_cons.mpr ⟨lw_p43, List.forall_mem_cons.mpr ⟨lw_p44, List.forall_mem_cons.mpr ⟨lw_p45, List.forall_mem_cons.mpr ⟨lw_p46, List.forall_mem_cons.mpr ⟨lw_p47, fun _ h => absurd h List.not_mem_nil⟩⟩⟩⟩⟩⟩⟩⟩⟩⟩⟩⟩⟩⟩⟩⟩
theorem lw_p48 : lw_okq (⟨"ZonedFabric$Disc", "takeData", "(LZonedFabric$Frame;)V"⟩, 7) := ⟨⟨by decide +kernel, by decide +kernel⟩, List.mem_of_getElem? (i := 328) (by decide +kernel), List.mem_of_getElem? (i := 949) (by decide +kernel), List.mem_of_getElem? (i := 950) (by decide +kernel)⟩
theorem lw_p49 : lw_okq (⟨"ZonedFabric$Disc", "store", "(LZonedFabric$OpenWrite;)V"⟩, 7) := ⟨⟨by decide +kernel, by decide +kernel⟩, List.mem_of_getElem? (i := 328) (by decide +kernel), List.mem_of_getElem? (i := 968) (by decide +kernel), List.mem_of_getElem? (i := 969) (by decide +kernel)⟩
theorem lw_p50 : lw_okq (⟨"ZonedFabric$Disc", "takeAbort", "(LZonedFabric$Frame;)V"⟩, 7) := ⟨⟨by decide +kernel, by decide +kernel⟩, List.mem_of_getElem? (i := 328) (by decide +kernel), List.mem_of_getElem? (i := 972) (by decide +kernel), List.mem_of_getElem? (i := 973) (by decide +kernel)⟩
theorem lw_p51 : lw_okq (⟨"ZonedFabric$Node", "callSwitch", "()V"⟩, 6) := ⟨⟨by decide +kernel, by decide +kernel⟩, List.mem_of_getElem? (i := 232) (by decide +kernel), List.mem_of_getElem? (i := 977) (by decide +kernel), List.mem_of_getElem? (i := 978) (by decide +kernel)⟩
theorem lw_p52 : lw_okq (⟨"ZonedFabric$Host", "runTimer", "(LZonedFabric$Command;)V"⟩, 6) := ⟨⟨by decide +kernel, by decide +kernel⟩, List.mem_of_getElem? (i := 268) (by decide +kernel), List.mem_of_getElem? (i := 988) (by decide +kernel), List.mem_of_getElem? (i := 989) (by decide +kernel)⟩
theorem lw_p53 : lw_okq (⟨"ZonedFabric", "canBegin", "(IIIII)Z"⟩, 8) := ⟨⟨by decide +kernel, by decide +kernel⟩, List.mem_of_getElem? (i := 17) (by decide +kernel), List.mem_of_getElem? (i := 1001) (by decide +kernel), List.mem_of_getElem? (i := 1002) (by decide +kernel)⟩
theorem lw_p54 : lw_okq (⟨"ZonedFabric", "isHost", "(I)Z"⟩, 8) := ⟨⟨by decide +kernel, by decide +kernel⟩, List.mem_of_getElem? (i := 17) (by decide +kernel), List.mem_of_getElem? (i := 1005) (by decide +kernel), List.mem_of_getElem? (i := 1006) (by decide +kernel)⟩
theorem lw_p55 : lw_okq (⟨"ZonedFabric", "isDisc", "(I)Z"⟩, 8) := ⟨⟨by decide +kernel, by decide +kernel⟩, List.mem_of_getElem? (i := 17) (by decide +kernel), List.mem_of_getElem? (i := 1009) (by decide +kernel), List.mem_of_getElem? (i := 1010) (by decide +kernel)⟩
theorem lw_p56 : lw_okq (⟨"ZonedFabric", "begin", "(IILZonedFabric$Command;)I"⟩, 8) := ⟨⟨by decide +kernel, by decide +kernel⟩, List.mem_of_getElem? (i := 17) (by decide +kernel), List.mem_of_getElem? (i := 1077) (by decide +kernel), List.mem_of_getElem? (i := 1078) (by decide +kernel)⟩
theorem lw_p57 : lw_okq (⟨"ZonedFabric", "isCommand", "(I)Z"⟩, 8) := ⟨⟨by decide +kernel, by decide +kernel⟩, List.mem_of_getElem? (i := 17) (by decide +kernel), List.mem_of_getElem? (i := 1093) (by decide +kernel), List.mem_of_getElem? (i := 1094) (by decide +kernel)⟩
theorem lw_p58 : lw_okq (⟨"ZonedFabricModel", "nodeSide", "(I)I"⟩, 61) := ⟨⟨by decide +kernel, by decide +kernel⟩, List.mem_of_getElem? (i := 1156) (by decide +kernel), List.mem_of_getElem? (i := 1352) (by decide +kernel), List.mem_of_getElem? (i := 1353) (by decide +kernel)⟩
theorem lw_p59 : lw_okq (⟨"ZonedFabricModel", "side", "(II)I"⟩, 61) := ⟨⟨by decide +kernel, by decide +kernel⟩, List.mem_of_getElem? (i := 1156) (by decide +kernel), List.mem_of_getElem? (i := 1360) (by decide +kernel), List.mem_of_getElem? (i := 1361) (by decide +kernel)⟩
theorem lw_p60 : lw_okq (⟨"ZonedFabricModel", "empties", "(I)V"⟩, 61) := ⟨⟨by decide +kernel, by decide +kernel⟩, List.mem_of_getElem? (i := 1156) (by decide +kernel), List.mem_of_getElem? (i := 1364) (by decide +kernel), List.mem_of_getElem? (i := 1365) (by decide +kernel)⟩
theorem lw_p61 : lw_okq (⟨"ZonedFabricModel", "drops", "(I)V"⟩, 61) := ⟨⟨by decide +kernel, by decide +kernel⟩, List.mem_of_getElem? (i := 1156) (by decide +kernel), List.mem_of_getElem? (i := 1368) (by decide +kernel), List.mem_of_getElem? (i := 1369) (by decide +kernel)⟩
theorem lw_p62 : lw_okq (⟨"ZonedFabricModel", "forgets", "(I)V"⟩, 61) := ⟨⟨by decide +kernel, by decide +kernel⟩, List.mem_of_getElem? (i := 1156) (by decide +kernel), List.mem_of_getElem? (i := 1372) (by decide +kernel), List.mem_of_getElem? (i := 1373) (by decide +kernel)⟩
theorem lw_p63 : lw_okq (⟨"ZonedFabricModel", "isWire", "(I)Z"⟩, 61) := ⟨⟨by decide +kernel, by decide +kernel⟩, List.mem_of_getElem? (i := 1156) (by decide +kernel), List.mem_of_getElem? (i := 1380) (by decide +kernel), List.mem_of_getElem? (i := 1381) (by decide +kernel)⟩
def lw_privs_4 : List (MethodName × Nat) := [(⟨"ZonedFabric$Disc", "takeData", "(LZonedFabric$Frame;)V"⟩, 7), (⟨"ZonedFabric$Disc", "store", "(LZonedFabric$OpenWrite;)V"⟩, 7), (⟨"ZonedFabric$Disc", "takeAbort", "(LZonedFabric$Frame;)V"⟩, 7), (⟨"ZonedFabric$Node", "callSwitch", "()V"⟩, 6), (⟨"ZonedFabric$Host", "runTimer", "(LZonedFabric$Command;)V"⟩, 6), (⟨"ZonedFabric", "canBegin", "(IIIII)Z"⟩, 8), (⟨"ZonedFabric", "isHost", "(I)Z"⟩, 8), (⟨"ZonedFabric", "isDisc", "(I)Z"⟩, 8), (⟨"ZonedFabric", "begin", "(IILZonedFabric$Command;)I"⟩, 8), (⟨"ZonedFabric", "isCommand", "(I)Z"⟩, 8), (⟨"ZonedFabricModel", "nodeSide", "(I)I"⟩, 61), (⟨"ZonedFabricModel", "side", "(II)I"⟩, 61), (⟨"ZonedFabricModel", "empties", "(I)V"⟩, 61), (⟨"ZonedFabricModel", "drops", "(I)V"⟩, 61), (⟨"ZonedFabricModel", "forgets", "(I)V"⟩, 61), (⟨"ZonedFabricModel", "isWire", "(I)Z"⟩, 61)]
theorem lw_r4 : ∀ q ∈ lw_privs_4, lw_okq q := List.forall_mem_cons.mpr ⟨lw_p48, List.forall_mem_cons.mpr ⟨lw_p49, List.forall_mem_cons.mpr ⟨lw_p50, List.forall_mem_cons.mpr ⟨lw_p51, List.forall_mem_cons.mpr ⟨lw_p52, List.forall_mem_cons.mpr ⟨lw_p53, List.forall_mem_cons.mpr ⟨lw_p54, List.forall_mem_cons.mpr ⟨lw_p55, List.forall_mem_cons.mpr ⟨lw_p56, List.forall_mem_cons.mpr ⟨lw_p57, List.forall_mem_cons.mpr ⟨lw_p58, List.forall_mem_cons.mpr ⟨lw_p59, List.forall_mem_cons.mpr ⟨lw_p60, List.forall_mem_cons.mpr ⟨lw_p61, List.forall_mem_cons.mpr ⟨lw_p62, List.forall_mem_cons.mpr ⟨lw_p63, fun _ h => absurd h List.not_mem_nil⟩⟩⟩⟩⟩⟩⟩⟩⟩⟩⟩⟩⟩⟩⟩⟩
theorem lw_p64 : lw_okq (⟨"ZonedFabricModel", "frameAt", "(II)I"⟩, 61) := ⟨⟨by decide +kernel, by decide +kernel⟩, List.mem_of_getElem? (i := 1156) (by decide +kernel), List.mem_of_getElem? (i := 1404) (by decide +kernel), List.mem_of_getElem? (i := 1405) (by decide +kernel)⟩
theorem lw_p65 : lw_okq (⟨"ZonedFabricModel", "ticks", "()I"⟩, 61) := ⟨⟨by decide +kernel, by decide +kernel⟩, List.mem_of_getElem? (i := 1156) (by decide +kernel), List.mem_of_getElem? (i := 1412) (by decide +kernel), List.mem_of_getElem? (i := 1413) (by decide +kernel)⟩
theorem lw_p66 : lw_okq (⟨"ZonedFabricModel", "other", "(I)I"⟩, 61) := ⟨⟨by decide +kernel, by decide +kernel⟩, List.mem_of_getElem? (i := 1156) (by decide +kernel), List.mem_of_getElem? (i := 1416) (by decide +kernel), List.mem_of_getElem? (i := 1417) (by decide +kernel)⟩
theorem lw_p67 : lw_okq (⟨"ZonedFabricModel", "switchTicks", "(I)V"⟩, 61) := ⟨⟨by decide +kernel, by decide +kernel⟩, List.mem_of_getElem? (i := 1156) (by decide +kernel), List.mem_of_getElem? (i := 1420) (by decide +kernel), List.mem_of_getElem? (i := 1421) (by decide +kernel)⟩
theorem lw_p68 : lw_okq (⟨"ZonedFabricModel", "timers", "(I)V"⟩, 61) := ⟨⟨by decide +kernel, by decide +kernel⟩, List.mem_of_getElem? (i := 1156) (by decide +kernel), List.mem_of_getElem? (i := 1424) (by decide +kernel), List.mem_of_getElem? (i := 1425) (by decide +kernel)⟩
theorem lw_p69 : lw_okq (⟨"ZonedFabricModel", "isOffItself", "(I)Z"⟩, 61) := ⟨⟨by decide +kernel, by decide +kernel⟩, List.mem_of_getElem? (i := 1156) (by decide +kernel), List.mem_of_getElem? (i := 1428) (by decide +kernel), List.mem_of_getElem? (i := 1429) (by decide +kernel)⟩
theorem lw_p70 : lw_okq (⟨"ZonedFabricModel", "sums", "(I)V"⟩, 61) := ⟨⟨by decide +kernel, by decide +kernel⟩, List.mem_of_getElem? (i := 1156) (by decide +kernel), List.mem_of_getElem? (i := 1432) (by decide +kernel), List.mem_of_getElem? (i := 1433) (by decide +kernel)⟩
theorem lw_p71 : lw_okq (⟨"ZonedFabricModel", "joined", "(III)Z"⟩, 61) := ⟨⟨by decide +kernel, by decide +kernel⟩, List.mem_of_getElem? (i := 1156) (by decide +kernel), List.mem_of_getElem? (i := 1436) (by decide +kernel), List.mem_of_getElem? (i := 1437) (by decide +kernel)⟩
theorem lw_p72 : lw_okq (⟨"ZonedFabricModel", "tells", "(III)I"⟩, 61) := ⟨⟨by decide +kernel, by decide +kernel⟩, List.mem_of_getElem? (i := 1156) (by decide +kernel), List.mem_of_getElem? (i := 1440) (by decide +kernel), List.mem_of_getElem? (i := 1441) (by decide +kernel)⟩
theorem lw_p73 : lw_okq (⟨"ZonedFabricModel", "ofRecord", "(III)I"⟩, 61) := ⟨⟨by decide +kernel, by decide +kernel⟩, List.mem_of_getElem? (i := 1156) (by decide +kernel), List.mem_of_getElem? (i := 1445) (by decide +kernel), List.mem_of_getElem? (i := 1446) (by decide +kernel)⟩
theorem lw_p74 : lw_okq (⟨"ZonedFabricModel", "isOff", "(II)Z"⟩, 61) := ⟨⟨by decide +kernel, by decide +kernel⟩, List.mem_of_getElem? (i := 1156) (by decide +kernel), List.mem_of_getElem? (i := 1450) (by decide +kernel), List.mem_of_getElem? (i := 1451) (by decide +kernel)⟩
theorem lw_p75 : lw_okq (⟨"ZonedFabricModel", "domainOf", "(II)I"⟩, 61) := ⟨⟨by decide +kernel, by decide +kernel⟩, List.mem_of_getElem? (i := 1156) (by decide +kernel), List.mem_of_getElem? (i := 1454) (by decide +kernel), List.mem_of_getElem? (i := 1455) (by decide +kernel)⟩
theorem lw_p76 : lw_okq (⟨"ZonedFabricModel", "isReached", "(II)Z"⟩, 61) := ⟨⟨by decide +kernel, by decide +kernel⟩, List.mem_of_getElem? (i := 1156) (by decide +kernel), List.mem_of_getElem? (i := 1458) (by decide +kernel), List.mem_of_getElem? (i := 1459) (by decide +kernel)⟩
theorem lw_p77 : lw_okq (⟨"ZonedFabricModel", "wayTo", "(II)I"⟩, 61) := ⟨⟨by decide +kernel, by decide +kernel⟩, List.mem_of_getElem? (i := 1156) (by decide +kernel), List.mem_of_getElem? (i := 1462) (by decide +kernel), List.mem_of_getElem? (i := 1463) (by decide +kernel)⟩
theorem lw_p78 : lw_okq (⟨"ZonedFabricModel", "begins", "(IIIIII)I"⟩, 61) := ⟨⟨by decide +kernel, by decide +kernel⟩, List.mem_of_getElem? (i := 1156) (by decide +kernel), List.mem_of_getElem? (i := 1467) (by decide +kernel), List.mem_of_getElem? (i := 1468) (by decide +kernel)⟩
theorem lw_p79 : lw_okq (⟨"ZonedFabricModel", "add", "(IJI)V"⟩, 61) := ⟨⟨by decide +kernel, by decide +kernel⟩, List.mem_of_getElem? (i := 1156) (by decide +kernel), List.mem_of_getElem? (i := 1471) (by decide +kernel), List.mem_of_getElem? (i := 1472) (by decide +kernel)⟩
def lw_privs_5 : List (MethodName × Nat) := [(⟨"ZonedFabricModel", "frameAt", "(II)I"⟩, 61), (⟨"ZonedFabricModel", "ticks", "()I"⟩, 61), (⟨"ZonedFabricModel", "other", "(I)I"⟩, 61), (⟨"ZonedFabricModel", "switchTicks", "(I)V"⟩, 61), (⟨"ZonedFabricModel", "timers", "(I)V"⟩, 61), (⟨"ZonedFabricModel", "isOffItself", "(I)Z"⟩, 61), (⟨"ZonedFabricModel", "sums", "(I)V"⟩, 61), (⟨"ZonedFabricModel", "joined", "(III)Z"⟩, 61), (⟨"ZonedFabricModel", "tells", "(III)I"⟩, 61), (⟨"ZonedFabricModel", "ofRecord", "(III)I"⟩, 61), (⟨"ZonedFabricModel", "isOff", "(II)Z"⟩, 61), (⟨"ZonedFabricModel", "domainOf", "(II)I"⟩, 61), (⟨"ZonedFabricModel", "isReached", "(II)Z"⟩, 61), (⟨"ZonedFabricModel", "wayTo", "(II)I"⟩, 61), (⟨"ZonedFabricModel", "begins", "(IIIIII)I"⟩, 61), (⟨"ZonedFabricModel", "add", "(IJI)V"⟩, 61)]
theorem lw_r5 : ∀ q ∈ lw_privs_5, lw_okq q := List.forall_mem_cons.mpr ⟨lw_p64, List.forall_mem_cons.mpr ⟨lw_p65, List.forall_mem_cons.mpr ⟨lw_p66, List.forall_mem_cons.mpr ⟨lw_p67, List.forall_mem_cons.mpr ⟨lw_p68, List.forall_mem_cons.mpr ⟨lw_p69, List.forall_mem_cons.mpr ⟨lw_p70, List.forall_mem_cons.mpr ⟨lw_p71, List.forall_mem_cons.mpr ⟨lw_p72, List.forall_mem_cons.mpr ⟨lw_p73, List.forall_mem_cons.mpr ⟨lw_p74, List.forall_mem_cons.mpr ⟨lw_p75, List.forall_mem_cons.mpr ⟨lw_p76, List.forall_mem_cons.mpr ⟨lw_p77, List.forall_mem_cons.mpr ⟨lw_p78, List.forall_mem_cons.mpr ⟨lw_p79, fun _ h => absurd h List.not_mem_nil⟩⟩⟩⟩⟩⟩⟩⟩⟩⟩⟩⟩⟩⟩⟩⟩
theorem lw_p80 : lw_okq (⟨"ZonedFabricModel", "queues", "(II)V"⟩, 61) := ⟨⟨by decide +kernel, by decide +kernel⟩, List.mem_of_getElem? (i := 1156) (by decide +kernel), List.mem_of_getElem? (i := 1475) (by decide +kernel), List.mem_of_getElem? (i := 1476) (by decide +kernel)⟩
theorem lw_p81 : lw_okq (⟨"ZonedFabricModel", "closes", "(I)V"⟩, 61) := ⟨⟨by decide +kernel, by decide +kernel⟩, List.mem_of_getElem? (i := 1156) (by decide +kernel), List.mem_of_getElem? (i := 1479) (by decide +kernel), List.mem_of_getElem? (i := 1480) (by decide +kernel)⟩
theorem lw_p82 : lw_okq (⟨"ZonedFabricModel", "check", "(II)I"⟩, 61) := ⟨⟨by decide +kernel, by decide +kernel⟩, List.mem_of_getElem? (i := 1156) (by decide +kernel), List.mem_of_getElem? (i := 1483) (by decide +kernel), List.mem_of_getElem? (i := 1484) (by decide +kernel)⟩
theorem lw_p83 : lw_okq (⟨"ZonedFabricModel", "at", "(II)I"⟩, 61) := ⟨⟨by decide +kernel, by decide +kernel⟩, List.mem_of_getElem? (i := 1156) (by decide +kernel), List.mem_of_getElem? (i := 1487) (by decide +kernel), List.mem_of_getElem? (i := 1488) (by decide +kernel)⟩
theorem lw_p84 : lw_okq (⟨"ZonedFabricModel", "isUp", "(I)Z"⟩, 61) := ⟨⟨by decide +kernel, by decide +kernel⟩, List.mem_of_getElem? (i := 1156) (by decide +kernel), List.mem_of_getElem? (i := 1492) (by decide +kernel), List.mem_of_getElem? (i := 1493) (by decide +kernel)⟩
theorem lw_p85 : lw_okq (⟨"ZonedFabricModel", "nodeAt", "(I)I"⟩, 61) := ⟨⟨by decide +kernel, by decide +kernel⟩, List.mem_of_getElem? (i := 1156) (by decide +kernel), List.mem_of_getElem? (i := 1496) (by decide +kernel), List.mem_of_getElem? (i := 1497) (by decide +kernel)⟩
theorem lw_p86 : lw_okq (⟨"ZonedFabricModel", "issues", "(I)V"⟩, 61) := ⟨⟨by decide +kernel, by decide +kernel⟩, List.mem_of_getElem? (i := 1156) (by decide +kernel), List.mem_of_getElem? (i := 1501) (by decide +kernel), List.mem_of_getElem? (i := 1502) (by decide +kernel)⟩
theorem lw_p87 : lw_okq (⟨"ZonedFabricModel", "nodeOf", "(I)I"⟩, 61) := ⟨⟨by decide +kernel, by decide +kernel⟩, List.mem_of_getElem? (i := 1156) (by decide +kernel), List.mem_of_getElem? (i := 1505) (by decide +kernel), List.mem_of_getElem? (i := 1506) (by decide +kernel)⟩
theorem lw_p88 : lw_okq (⟨"ZonedFabricModel", "issue", "(II)I"⟩, 61) := ⟨⟨by decide +kernel, by decide +kernel⟩, List.mem_of_getElem? (i := 1156) (by decide +kernel), List.mem_of_getElem? (i := 1509) (by decide +kernel), List.mem_of_getElem? (i := 1510) (by decide +kernel)⟩
theorem lw_p89 : lw_okq (⟨"ZonedFabricModel", "floods", "(III)V"⟩, 61) := ⟨⟨by decide +kernel, by decide +kernel⟩, List.mem_of_getElem? (i := 1156) (by decide +kernel), List.mem_of_getElem? (i := 1513) (by decide +kernel), List.mem_of_getElem? (i := 1514) (by decide +kernel)⟩
theorem lw_p90 : lw_okq (⟨"ZonedFabricModel", "recordFrame", "(II)I"⟩, 61) := ⟨⟨by decide +kernel, by decide +kernel⟩, List.mem_of_getElem? (i := 1156) (by decide +kernel), List.mem_of_getElem? (i := 1517) (by decide +kernel), List.mem_of_getElem? (i := 1518) (by decide +kernel)⟩
theorem lw_p91 : lw_okq (⟨"ZonedFabricModel", "sendsQueued", "(I)V"⟩, 61) := ⟨⟨by decide +kernel, by decide +kernel⟩, List.mem_of_getElem? (i := 1156) (by decide +kernel), List.mem_of_getElem? (i := 1521) (by decide +kernel), List.mem_of_getElem? (i := 1522) (by decide +kernel)⟩
theorem lw_p92 : lw_okq (⟨"ZonedFabricModel", "can", "(I)Z"⟩, 61) := ⟨⟨by decide +kernel, by decide +kernel⟩, List.mem_of_getElem? (i := 1156) (by decide +kernel), List.mem_of_getElem? (i := 1525) (by decide +kernel), List.mem_of_getElem? (i := 1526) (by decide +kernel)⟩
theorem lw_p93 : lw_okq (⟨"ZonedFabricModel", "credits", "(I)I"⟩, 61) := ⟨⟨by decide +kernel, by decide +kernel⟩, List.mem_of_getElem? (i := 1156) (by decide +kernel), List.mem_of_getElem? (i := 1529) (by decide +kernel), List.mem_of_getElem? (i := 1530) (by decide +kernel)⟩
theorem lw_p94 : lw_okq (⟨"ZonedFabricModel", "sends", "(II)V"⟩, 61) := ⟨⟨by decide +kernel, by decide +kernel⟩, List.mem_of_getElem? (i := 1156) (by decide +kernel), List.mem_of_getElem? (i := 1533) (by decide +kernel), List.mem_of_getElem? (i := 1534) (by decide +kernel)⟩
theorem lw_p95 : lw_okq (⟨"ZonedFabricModel", "looks", "(II)V"⟩, 61) := ⟨⟨by decide +kernel, by decide +kernel⟩, List.mem_of_getElem? (i := 1156) (by decide +kernel), List.mem_of_getElem? (i := 1537) (by decide +kernel), List.mem_of_getElem? (i := 1538) (by decide +kernel)⟩
def lw_privs_6 : List (MethodName × Nat) := [(⟨"ZonedFabricModel", "queues", "(II)V"⟩, 61), (⟨"ZonedFabricModel", "closes", "(I)V"⟩, 61), (⟨"ZonedFabricModel", "check", "(II)I"⟩, 61), (⟨"ZonedFabricModel", "at", "(II)I"⟩, 61), (⟨"ZonedFabricModel", "isUp", "(I)Z"⟩, 61), (⟨"ZonedFabricModel", "nodeAt", "(I)I"⟩, 61), (⟨"ZonedFabricModel", "issues", "(I)V"⟩, 61), (⟨"ZonedFabricModel", "nodeOf", "(I)I"⟩, 61), (⟨"ZonedFabricModel", "issue", "(II)I"⟩, 61), (⟨"ZonedFabricModel", "floods", "(III)V"⟩, 61), (⟨"ZonedFabricModel", "recordFrame", "(II)I"⟩, 61), (⟨"ZonedFabricModel", "sendsQueued", "(I)V"⟩, 61), (⟨"ZonedFabricModel", "can", "(I)Z"⟩, 61), (⟨"ZonedFabricModel", "credits", "(I)I"⟩, 61), (⟨"ZonedFabricModel", "sends", "(II)V"⟩, 61), (⟨"ZonedFabricModel", "looks", "(II)V"⟩, 61)]
theorem lw_r6 : ∀ q ∈ lw_privs_6, lw_okq q := List.forall_mem_cons.mpr ⟨lw_p80, List.forall_mem_cons.mpr ⟨lw_p81, List.forall_mem_cons.mpr ⟨lw_p82, List.forall_mem_cons.mpr ⟨lw_p83, List.forall_mem_cons.mpr ⟨lw_p84, List.forall_mem_cons.mpr ⟨lw_p85, List.forall_mem_cons.mpr ⟨lw_p86, List.forall_mem_cons.mpr ⟨lw_p87, List.forall_mem_cons.mpr ⟨lw_p88, List.forall_mem_cons.mpr ⟨lw_p89, List.forall_mem_cons.mpr ⟨lw_p90, List.forall_mem_cons.mpr ⟨lw_p91, List.forall_mem_cons.mpr ⟨lw_p92, List.forall_mem_cons.mpr ⟨lw_p93, List.forall_mem_cons.mpr ⟨lw_p94, List.forall_mem_cons.mpr ⟨lw_p95, fun _ h => absurd h List.not_mem_nil⟩⟩⟩⟩⟩⟩⟩⟩⟩⟩⟩⟩⟩⟩⟩⟩
theorem lw_p96 : lw_okq (⟨"ZonedFabricModel", "number", "(III)I"⟩, 61) := ⟨⟨by decide +kernel, by decide +kernel⟩, List.mem_of_getElem? (i := 1156) (by decide +kernel), List.mem_of_getElem? (i := 1541) (by decide +kernel), List.mem_of_getElem? (i := 1542) (by decide +kernel)⟩
theorem lw_p97 : lw_okq (⟨"ZonedFabricModel", "isTrue", "(I)Z"⟩, 61) := ⟨⟨by decide +kernel, by decide +kernel⟩, List.mem_of_getElem? (i := 1156) (by decide +kernel), List.mem_of_getElem? (i := 1545) (by decide +kernel), List.mem_of_getElem? (i := 1546) (by decide +kernel)⟩
theorem lw_p98 : lw_okq (⟨"ZonedFabricModel", "hasForm", "(II)Z"⟩, 61) := ⟨⟨by decide +kernel, by decide +kernel⟩, List.mem_of_getElem? (i := 1156) (by decide +kernel), List.mem_of_getElem? (i := 1549) (by decide +kernel), List.mem_of_getElem? (i := 1550) (by decide +kernel)⟩
theorem lw_p99 : lw_okq (⟨"ZonedFabricModel", "isRecord", "(II)Z"⟩, 61) := ⟨⟨by decide +kernel, by decide +kernel⟩, List.mem_of_getElem? (i := 1156) (by decide +kernel), List.mem_of_getElem? (i := 1553) (by decide +kernel), List.mem_of_getElem? (i := 1554) (by decide +kernel)⟩
theorem lw_p100 : lw_okq (⟨"ZonedFabricModel", "leaves", "(I)I"⟩, 61) := ⟨⟨by decide +kernel, by decide +kernel⟩, List.mem_of_getElem? (i := 1156) (by decide +kernel), List.mem_of_getElem? (i := 1557) (by decide +kernel), List.mem_of_getElem? (i := 1558) (by decide +kernel)⟩
theorem lw_p101 : lw_okq (⟨"ZonedFabricModel", "taken", "(IIII)V"⟩, 61) := ⟨⟨by decide +kernel, by decide +kernel⟩, List.mem_of_getElem? (i := 1156) (by decide +kernel), List.mem_of_getElem? (i := 1562) (by decide +kernel), List.mem_of_getElem? (i := 1563) (by decide +kernel)⟩
theorem lw_p102 : lw_okq (⟨"ZonedFabricModel", "common", "(II)Z"⟩, 61) := ⟨⟨by decide +kernel, by decide +kernel⟩, List.mem_of_getElem? (i := 1156) (by decide +kernel), List.mem_of_getElem? (i := 1566) (by decide +kernel), List.mem_of_getElem? (i := 1567) (by decide +kernel)⟩
theorem lw_p103 : lw_okq (⟨"ZonedFabricModel", "addressOf", "(II)I"⟩, 61) := ⟨⟨by decide +kernel, by decide +kernel⟩, List.mem_of_getElem? (i := 1156) (by decide +kernel), List.mem_of_getElem? (i := 1570) (by decide +kernel), List.mem_of_getElem? (i := 1571) (by decide +kernel)⟩
theorem lw_p104 : lw_okq (⟨"ZonedFabricModel", "nodesFrom", "(II)I"⟩, 61) := ⟨⟨by decide +kernel, by decide +kernel⟩, List.mem_of_getElem? (i := 1156) (by decide +kernel), List.mem_of_getElem? (i := 1574) (by decide +kernel), List.mem_of_getElem? (i := 1575) (by decide +kernel)⟩
theorem lw_p105 : lw_okq (⟨"ZonedFabricModel", "passes", "(IIII)V"⟩, 61) := ⟨⟨by decide +kernel, by decide +kernel⟩, List.mem_of_getElem? (i := 1156) (by decide +kernel), List.mem_of_getElem? (i := 1578) (by decide +kernel), List.mem_of_getElem? (i := 1579) (by decide +kernel)⟩
theorem lw_p106 : lw_okq (⟨"ZonedFabricModel", "wayOn", "(IIII)I"⟩, 61) := ⟨⟨by decide +kernel, by decide +kernel⟩, List.mem_of_getElem? (i := 1156) (by decide +kernel), List.mem_of_getElem? (i := 1582) (by decide +kernel), List.mem_of_getElem? (i := 1583) (by decide +kernel)⟩
theorem lw_p107 : lw_okq (⟨"ZonedFabricModel", "wayOut", "(II)I"⟩, 61) := ⟨⟨by decide +kernel, by decide +kernel⟩, List.mem_of_getElem? (i := 1156) (by decide +kernel), List.mem_of_getElem? (i := 1586) (by decide +kernel), List.mem_of_getElem? (i := 1587) (by decide +kernel)⟩
theorem lw_p108 : lw_okq (⟨"ZonedFabricModel", "nodeTicks", "(I)V"⟩, 61) := ⟨⟨by decide +kernel, by decide +kernel⟩, List.mem_of_getElem? (i := 1156) (by decide +kernel), List.mem_of_getElem? (i := 1590) (by decide +kernel), List.mem_of_getElem? (i := 1591) (by decide +kernel)⟩
theorem lw_p109 : lw_okq (⟨"ZonedFabricModel", "welcomes", "(II)V"⟩, 61) := ⟨⟨by decide +kernel, by decide +kernel⟩, List.mem_of_getElem? (i := 1156) (by decide +kernel), List.mem_of_getElem? (i := 1594) (by decide +kernel), List.mem_of_getElem? (i := 1595) (by decide +kernel)⟩
theorem lw_p110 : lw_okq (⟨"ZonedFabricModel", "gets", "(II)V"⟩, 61) := ⟨⟨by decide +kernel, by decide +kernel⟩, List.mem_of_getElem? (i := 1156) (by decide +kernel), List.mem_of_getElem? (i := 1598) (by decide +kernel), List.mem_of_getElem? (i := 1599) (by decide +kernel)⟩
theorem lw_p111 : lw_okq (⟨"ZonedFabricModel", "discGets", "(II)V"⟩, 61) := ⟨⟨by decide +kernel, by decide +kernel⟩, List.mem_of_getElem? (i := 1156) (by decide +kernel), List.mem_of_getElem? (i := 1602) (by decide +kernel), List.mem_of_getElem? (i := 1603) (by decide +kernel)⟩
def lw_privs_7 : List (MethodName × Nat) := [(⟨"ZonedFabricModel", "number", "(III)I"⟩, 61), (⟨"ZonedFabricModel", "isTrue", "(I)Z"⟩, 61), (⟨"ZonedFabricModel", "hasForm", "(II)Z"⟩, 61), (⟨"ZonedFabricModel", "isRecord", "(II)Z"⟩, 61), (⟨"ZonedFabricModel", "leaves", "(I)I"⟩, 61), (⟨"ZonedFabricModel", "taken", "(IIII)V"⟩, 61), (⟨"ZonedFabricModel", "common", "(II)Z"⟩, 61), (⟨"ZonedFabricModel", "addressOf", "(II)I"⟩, 61), (⟨"ZonedFabricModel", "nodesFrom", "(II)I"⟩, 61), (⟨"ZonedFabricModel", "passes", "(IIII)V"⟩, 61), (⟨"ZonedFabricModel", "wayOn", "(IIII)I"⟩, 61), (⟨"ZonedFabricModel", "wayOut", "(II)I"⟩, 61), (⟨"ZonedFabricModel", "nodeTicks", "(I)V"⟩, 61), (⟨"ZonedFabricModel", "welcomes", "(II)V"⟩, 61), (⟨"ZonedFabricModel", "gets", "(II)V"⟩, 61), (⟨"ZonedFabricModel", "discGets", "(II)V"⟩, 61)]
theorem lw_r7 : ∀ q ∈ lw_privs_7, lw_okq q := List.forall_mem_cons.mpr ⟨lw_p96, List.forall_mem_cons.mpr ⟨lw_p97, List.forall_mem_cons.mpr ⟨lw_p98, List.forall_mem_cons.mpr ⟨lw_p99, List.forall_mem_cons.mpr ⟨lw_p100, List.forall_mem_cons.mpr ⟨lw_p101, List.forall_mem_cons.mpr ⟨lw_p102, List.forall_mem_cons.mpr ⟨lw_p103, List.forall_mem_cons.mpr ⟨lw_p104, List.forall_mem_cons.mpr ⟨lw_p105, List.forall_mem_cons.mpr ⟨lw_p106, List.forall_mem_cons.mpr ⟨lw_p107, List.forall_mem_cons.mpr ⟨lw_p108, List.forall_mem_cons.mpr ⟨lw_p109, List.forall_mem_cons.mpr ⟨lw_p110, List.forall_mem_cons.mpr ⟨lw_p111, fun _ h => absurd h List.not_mem_nil⟩⟩⟩⟩⟩⟩⟩⟩⟩⟩⟩⟩⟩⟩⟩⟩
theorem lw_p112 : lw_okq (⟨"ZonedFabricModel", "logs", "(II)V"⟩, 61) := ⟨⟨by decide +kernel, by decide +kernel⟩, List.mem_of_getElem? (i := 1156) (by decide +kernel), List.mem_of_getElem? (i := 1606) (by decide +kernel), List.mem_of_getElem? (i := 1607) (by decide +kernel)⟩
theorem lw_p113 : lw_okq (⟨"ZonedFabricModel", "isLogged", "(II)Z"⟩, 61) := ⟨⟨by decide +kernel, by decide +kernel⟩, List.mem_of_getElem? (i := 1156) (by decide +kernel), List.mem_of_getElem? (i := 1610) (by decide +kernel), List.mem_of_getElem? (i := 1611) (by decide +kernel)⟩
theorem lw_p114 : lw_okq (⟨"ZonedFabricModel", "answers", "(IIIII)I"⟩, 61) := ⟨⟨by decide +kernel, by decide +kernel⟩, List.mem_of_getElem? (i := 1156) (by decide +kernel), List.mem_of_getElem? (i := 1614) (by decide +kernel), List.mem_of_getElem? (i := 1615) (by decide +kernel)⟩
theorem lw_p115 : lw_okq (⟨"ZonedFabricModel", "command", "(III)V"⟩, 61) := ⟨⟨by decide +kernel, by decide +kernel⟩, List.mem_of_getElem? (i := 1156) (by decide +kernel), List.mem_of_getElem? (i := 1618) (by decide +kernel), List.mem_of_getElem? (i := 1619) (by decide +kernel)⟩
theorem lw_p116 : lw_okq (⟨"ZonedFabricModel", "done", "(IIII)V"⟩, 61) := ⟨⟨by decide +kernel, by decide +kernel⟩, List.mem_of_getElem? (i := 1156) (by decide +kernel), List.mem_of_getElem? (i := 1622) (by decide +kernel), List.mem_of_getElem? (i := 1623) (by decide +kernel)⟩
theorem lw_p117 : lw_okq (⟨"ZonedFabricModel", "data", "(III)V"⟩, 61) := ⟨⟨by decide +kernel, by decide +kernel⟩, List.mem_of_getElem? (i := 1156) (by decide +kernel), List.mem_of_getElem? (i := 1627) (by decide +kernel), List.mem_of_getElem? (i := 1628) (by decide +kernel)⟩
theorem lw_p118 : lw_okq (⟨"ZonedFabricModel", "eight", "(I)J"⟩, 61) := ⟨⟨by decide +kernel, by decide +kernel⟩, List.mem_of_getElem? (i := 1156) (by decide +kernel), List.mem_of_getElem? (i := 1631) (by decide +kernel), List.mem_of_getElem? (i := 1632) (by decide +kernel)⟩
theorem lw_p119 : lw_okq (⟨"ZonedFabricModel", "closesOpen", "(II)V"⟩, 61) := ⟨⟨by decide +kernel, by decide +kernel⟩, List.mem_of_getElem? (i := 1156) (by decide +kernel), List.mem_of_getElem? (i := 1635) (by decide +kernel), List.mem_of_getElem? (i := 1636) (by decide +kernel)⟩
theorem lw_p120 : lw_okq (⟨"ZonedFabricModel", "hostGets", "(II)V"⟩, 61) := ⟨⟨by decide +kernel, by decide +kernel⟩, List.mem_of_getElem? (i := 1156) (by decide +kernel), List.mem_of_getElem? (i := 1639) (by decide +kernel), List.mem_of_getElem? (i := 1640) (by decide +kernel)⟩
theorem lw_p121 : lw_okq (⟨"ZonedFabricModel", "turns", "(II)V"⟩, 61) := ⟨⟨by decide +kernel, by decide +kernel⟩, List.mem_of_getElem? (i := 1156) (by decide +kernel), List.mem_of_getElem? (i := 1643) (by decide +kernel), List.mem_of_getElem? (i := 1644) (by decide +kernel)⟩
theorem lw_p122 : lw_okq (⟨"ZonedFabricModel", "tellsPhase", "(I)V"⟩, 61) := ⟨⟨by decide +kernel, by decide +kernel⟩, List.mem_of_getElem? (i := 1156) (by decide +kernel), List.mem_of_getElem? (i := 1647) (by decide +kernel), List.mem_of_getElem? (i := 1648) (by decide +kernel)⟩
theorem lw_p123 : lw_okq (⟨"ZonedFabricModel", "ofCommand", "(III)V"⟩, 61) := ⟨⟨by decide +kernel, by decide +kernel⟩, List.mem_of_getElem? (i := 1156) (by decide +kernel), List.mem_of_getElem? (i := 1651) (by decide +kernel), List.mem_of_getElem? (i := 1652) (by decide +kernel)⟩
theorem lw_p124 : lw_okq (⟨"ZonedFabricModel", "ends", "(II)V"⟩, 61) := ⟨⟨by decide +kernel, by decide +kernel⟩, List.mem_of_getElem? (i := 1156) (by decide +kernel), List.mem_of_getElem? (i := 1655) (by decide +kernel), List.mem_of_getElem? (i := 1656) (by decide +kernel)⟩
theorem lw_p125 : lw_okq (⟨"ZonedFabricModel", "nodeTimers", "(I)V"⟩, 61) := ⟨⟨by decide +kernel, by decide +kernel⟩, List.mem_of_getElem? (i := 1156) (by decide +kernel), List.mem_of_getElem? (i := 1659) (by decide +kernel), List.mem_of_getElem? (i := 1660) (by decide +kernel)⟩
theorem lw_p126 : lw_okq (⟨"ZonedFabricModel", "commandTimer", "(I)V"⟩, 61) := ⟨⟨by decide +kernel, by decide +kernel⟩, List.mem_of_getElem? (i := 1156) (by decide +kernel), List.mem_of_getElem? (i := 1663) (by decide +kernel), List.mem_of_getElem? (i := 1664) (by decide +kernel)⟩
theorem lw_p127 : lw_okq (⟨"ZonedFabricModel", "begin", "(IIIIIZ)I"⟩, 61) := ⟨⟨by decide +kernel, by decide +kernel⟩, List.mem_of_getElem? (i := 1156) (by decide +kernel), List.mem_of_getElem? (i := 1671) (by decide +kernel), List.mem_of_getElem? (i := 1672) (by decide +kernel)⟩
def lw_privs_8 : List (MethodName × Nat) := [(⟨"ZonedFabricModel", "logs", "(II)V"⟩, 61), (⟨"ZonedFabricModel", "isLogged", "(II)Z"⟩, 61), (⟨"ZonedFabricModel", "answers", "(IIIII)I"⟩, 61), (⟨"ZonedFabricModel", "command", "(III)V"⟩, 61), (⟨"ZonedFabricModel", "done", "(IIII)V"⟩, 61), (⟨"ZonedFabricModel", "data", "(III)V"⟩, 61), (⟨"ZonedFabricModel", "eight", "(I)J"⟩, 61), (⟨"ZonedFabricModel", "closesOpen", "(II)V"⟩, 61), (⟨"ZonedFabricModel", "hostGets", "(II)V"⟩, 61), (⟨"ZonedFabricModel", "turns", "(II)V"⟩, 61), (⟨"ZonedFabricModel", "tellsPhase", "(I)V"⟩, 61), (⟨"ZonedFabricModel", "ofCommand", "(III)V"⟩, 61), (⟨"ZonedFabricModel", "ends", "(II)V"⟩, 61), (⟨"ZonedFabricModel", "nodeTimers", "(I)V"⟩, 61), (⟨"ZonedFabricModel", "commandTimer", "(I)V"⟩, 61), (⟨"ZonedFabricModel", "begin", "(IIIIIZ)I"⟩, 61)]
theorem lw_r8 : ∀ q ∈ lw_privs_8, lw_okq q := List.forall_mem_cons.mpr ⟨lw_p112, List.forall_mem_cons.mpr ⟨lw_p113, List.forall_mem_cons.mpr ⟨lw_p114, List.forall_mem_cons.mpr ⟨lw_p115, List.forall_mem_cons.mpr ⟨lw_p116, List.forall_mem_cons.mpr ⟨lw_p117, List.forall_mem_cons.mpr ⟨lw_p118, List.forall_mem_cons.mpr ⟨lw_p119, List.forall_mem_cons.mpr ⟨lw_p120, List.forall_mem_cons.mpr ⟨lw_p121, List.forall_mem_cons.mpr ⟨lw_p122, List.forall_mem_cons.mpr ⟨lw_p123, List.forall_mem_cons.mpr ⟨lw_p124, List.forall_mem_cons.mpr ⟨lw_p125, List.forall_mem_cons.mpr ⟨lw_p126, List.forall_mem_cons.mpr ⟨lw_p127, fun _ h => absurd h List.not_mem_nil⟩⟩⟩⟩⟩⟩⟩⟩⟩⟩⟩⟩⟩⟩⟩⟩
theorem lw_p128 : lw_okq (⟨"ZonedFabricModel", "isCommand", "(I)Z"⟩, 61) := ⟨⟨by decide +kernel, by decide +kernel⟩, List.mem_of_getElem? (i := 1156) (by decide +kernel), List.mem_of_getElem? (i := 1683) (by decide +kernel), List.mem_of_getElem? (i := 1684) (by decide +kernel)⟩
def lw_privs_9 : List (MethodName × Nat) := [(⟨"ZonedFabricModel", "isCommand", "(I)Z"⟩, 61)]
theorem lw_r9 : ∀ q ∈ lw_privs_9, lw_okq q := List.forall_mem_cons.mpr ⟨lw_p128, fun _ h => absurd h List.not_mem_nil⟩
def lw_privs : List (MethodName × Nat) := lw_privs_1 ++ (lw_privs_2 ++ (lw_privs_3 ++ (lw_privs_4 ++ (lw_privs_5 ++ (lw_privs_6 ++ (lw_privs_7 ++ (lw_privs_8 ++ (lw_privs_9))))))))
def lw_tbl : List Cond := k2_sels lw_privs ++ tables_1
theorem lw_privs_ok : ∀ q ∈ lw_privs, lw_okq q := by
  show ∀ q ∈ lw_privs_1 ++ (lw_privs_2 ++ (lw_privs_3 ++ (lw_privs_4 ++ (lw_privs_5 ++ (lw_privs_6 ++ (lw_privs_7 ++ (lw_privs_8 ++ (lw_privs_9)))))))), lw_okq q
  exact List.forall_mem_append.mpr ⟨lw_r1, List.forall_mem_append.mpr ⟨lw_r2, List.forall_mem_append.mpr ⟨lw_r3, List.forall_mem_append.mpr ⟨lw_r4, List.forall_mem_append.mpr ⟨lw_r5, List.forall_mem_append.mpr ⟨lw_r6, List.forall_mem_append.mpr ⟨lw_r7, List.forall_mem_append.mpr ⟨lw_r8, lw_r9⟩⟩⟩⟩⟩⟩⟩⟩
/-! ===== the classes: fields by number ===== -/
def xR0 : String := "ZonedFabric$Command"
def xT0 : u_T := fun k => match k with
  | 0 => ("ZonedFabric$Command", "writes", "Z", true)
  | 1 => ("ZonedFabric$Command", "unit", "I", true)
  | 2 => ("ZonedFabric$Command", "block", "I", true)
  | 3 => ("ZonedFabric$Command", "count", "I", true)
  | 4 => ("ZonedFabric$Command", "first", "J", true)
  | 5 => ("ZonedFabric$Command", "came", "[J", true)
  | 6 => ("ZonedFabric$Command", "cameBits", "I", false)
  | 7 => ("ZonedFabric$Command", "number", "I", false)
  | 8 => ("ZonedFabric$Command", "disc", "I", false)
  | 9 => ("ZonedFabric$Command", "address", "I", false)
  | 10 => ("ZonedFabric$Command", "state", "I", false)
  | 11 => ("ZonedFabric$Command", "beganAt", "I", false)
  | 12 => ("ZonedFabric$Command", "phaseAt", "I", false)
  | _ => ("ZonedFabric$Command", "endedAt", "I", false)
def xY0 : Nat → FieldType := fun k => match k with
  | 0 => .boolean
  | 1 => .int
  | 2 => .int
  | 3 => .int
  | 4 => .long
  | 5 => .array .long
  | 6 => .int
  | 7 => .int
  | 8 => .int
  | 9 => .int
  | 10 => .int
  | 11 => .int
  | 12 => .int
  | _ => .int
theorem xn0 : ∀ a, a < 14 → ∀ b, b < 14 → a ≠ b → (xT0 a).2.1 ≠ (xT0 b).2.1 := by decide +kernel
theorem xy0 : ∀ k, k < 14 → parseFieldDescriptor (xT0 k).2.2.1 = some (xY0 k) := by decide +kernel
theorem xi0 : ∀ w ∈ u_ws xR0 xT0 14, w ∈ lw_tbl := by decide +kernel
def xk0 : List Nat := [3, 0, 0, 0, 1, 2, 0, 0, 0, 0, 0, 0, 0, 0]
def xR1 : String := "ZonedFabric$Disc"
def xT1 : u_T := fun k => match k with
  | 0 => ("ZonedFabric$Disc", "shared", "LZonedFabric$Shared;", true)
  | 1 => ("ZonedFabric$Disc", "node", "LZonedFabric$Node;", true)
  | 2 => ("ZonedFabric$Disc", "blocks", "[J", true)
  | 3 => ("ZonedFabric$Disc", "logins", "[I", true)
  | 4 => ("ZonedFabric$Disc", "loginCount", "I", false)
  | 5 => ("ZonedFabric$Disc", "writes", "[LZonedFabric$OpenWrite;", true)
  | _ => ("ZonedFabric$Disc", "lastRx", "I", false)
def xY1 : Nat → FieldType := fun k => match k with
  | 0 => .object "ZonedFabric$Shared"
  | 1 => .object "ZonedFabric$Node"
  | 2 => .array .long
  | 3 => .array .int
  | 4 => .int
  | 5 => .array (.object "ZonedFabric$OpenWrite")
  | _ => .int
theorem xn1 : ∀ a, a < 7 → ∀ b, b < 7 → a ≠ b → (xT1 a).2.1 ≠ (xT1 b).2.1 := by decide +kernel
theorem xy1 : ∀ k, k < 7 → parseFieldDescriptor (xT1 k).2.2.1 = some (xY1 k) := by decide +kernel
theorem xi1 : ∀ w ∈ u_ws xR1 xT1 7, w ∈ lw_tbl := by decide +kernel
def xk1 : List Nat := [2, 2, 2, 2, 0, 2, 0]
def xR2 : String := "ZonedFabric$Frame"
def xT2 : u_T := fun k => match k with
  | 0 => ("ZonedFabric$Frame", "bytes", "[B", true)
  | 1 => ("ZonedFabric$Frame", "length", "I", false)
  | 2 => ("ZonedFabric$Frame", "flipped", "Z", false)
  | _ => ("ZonedFabric$Frame", "next", "LZonedFabric$Frame;", false)
def xY2 : Nat → FieldType := fun k => match k with
  | 0 => .array .byte
  | 1 => .int
  | 2 => .boolean
  | _ => .object "ZonedFabric$Frame"
theorem xn2 : ∀ a, a < 4 → ∀ b, b < 4 → a ≠ b → (xT2 a).2.1 ≠ (xT2 b).2.1 := by decide +kernel
theorem xy2 : ∀ k, k < 4 → parseFieldDescriptor (xT2 k).2.2.1 = some (xY2 k) := by decide +kernel
theorem xi2 : ∀ w ∈ u_ws xR2 xT2 4, w ∈ lw_tbl := by decide +kernel
def xk2 : List Nat := [2, 0, 3, 2]
def xR3 : String := "ZonedFabric$FrameLine"
def xT3 : u_T := fun k => match k with
  | 0 => ("ZonedFabric$FrameLine", "first", "LZonedFabric$Frame;", false)
  | 1 => ("ZonedFabric$FrameLine", "last", "LZonedFabric$Frame;", false)
  | _ => ("ZonedFabric$FrameLine", "size", "I", false)
def xY3 : Nat → FieldType := fun k => match k with
  | 0 => .object "ZonedFabric$Frame"
  | 1 => .object "ZonedFabric$Frame"
  | _ => .int
theorem xn3 : ∀ a, a < 3 → ∀ b, b < 3 → a ≠ b → (xT3 a).2.1 ≠ (xT3 b).2.1 := by decide +kernel
theorem xy3 : ∀ k, k < 3 → parseFieldDescriptor (xT3 k).2.2.1 = some (xY3 k) := by decide +kernel
theorem xi3 : ∀ w ∈ u_ws xR3 xT3 3, w ∈ lw_tbl := by decide +kernel
def xk3 : List Nat := [2, 2, 0]
def xR4 : String := "ZonedFabric$Host"
def xT4 : u_T := fun k => match k with
  | 0 => ("ZonedFabric$Host", "shared", "LZonedFabric$Shared;", true)
  | 1 => ("ZonedFabric$Host", "node", "LZonedFabric$Node;", true)
  | 2 => ("ZonedFabric$Host", "hadCommand", "Z", false)
  | 3 => ("ZonedFabric$Host", "logins", "[I", true)
  | 4 => ("ZonedFabric$Host", "recent", "[LZonedFabric$Command;", true)
  | _ => ("ZonedFabric$Host", "recentCount", "I", false)
def xY4 : Nat → FieldType := fun k => match k with
  | 0 => .object "ZonedFabric$Shared"
  | 1 => .object "ZonedFabric$Node"
  | 2 => .boolean
  | 3 => .array .int
  | 4 => .array (.object "ZonedFabric$Command")
  | _ => .int
theorem xn4 : ∀ a, a < 6 → ∀ b, b < 6 → a ≠ b → (xT4 a).2.1 ≠ (xT4 b).2.1 := by decide +kernel
theorem xy4 : ∀ k, k < 6 → parseFieldDescriptor (xT4 k).2.2.1 = some (xY4 k) := by decide +kernel
theorem xi4 : ∀ w ∈ u_ws xR4 xT4 6, w ∈ lw_tbl := by decide +kernel
def xk4 : List Nat := [2, 2, 3, 2, 2, 0]
def xR5 : String := "ZonedFabric$Node"
def xT5 : u_T := fun k => match k with
  | 0 => ("ZonedFabric$Node", "shared", "LZonedFabric$Shared;", true)
  | 1 => ("ZonedFabric$Node", "number", "I", true)
  | 2 => ("ZonedFabric$Node", "port", "LZonedFabric$Port;", true)
  | 3 => ("ZonedFabric$Node", "address", "I", false)
  | 4 => ("ZonedFabric$Node", "host", "LZonedFabric$Host;", false)
  | _ => ("ZonedFabric$Node", "disc", "LZonedFabric$Disc;", false)
def xY5 : Nat → FieldType := fun k => match k with
  | 0 => .object "ZonedFabric$Shared"
  | 1 => .int
  | 2 => .object "ZonedFabric$Port"
  | 3 => .int
  | 4 => .object "ZonedFabric$Host"
  | _ => .object "ZonedFabric$Disc"
theorem xn5 : ∀ a, a < 6 → ∀ b, b < 6 → a ≠ b → (xT5 a).2.1 ≠ (xT5 b).2.1 := by decide +kernel
theorem xy5 : ∀ k, k < 6 → parseFieldDescriptor (xT5 k).2.2.1 = some (xY5 k) := by decide +kernel
theorem xi5 : ∀ w ∈ u_ws xR5 xT5 6, w ∈ lw_tbl := by decide +kernel
def xk5 : List Nat := [2, 0, 2, 0, 2, 2]
def xR6 : String := "ZonedFabric$Notice"
def xT6 : u_T := fun k => match k with
  | 0 => ("ZonedFabric$Notice", "load", "[B", true)
  | 1 => ("ZonedFabric$Notice", "size", "I", false)
  | _ => ("ZonedFabric$Notice", "keptAt", "I", false)
def xY6 : Nat → FieldType := fun k => match k with
  | 0 => .array .byte
  | 1 => .int
  | _ => .int
theorem xn6 : ∀ a, a < 3 → ∀ b, b < 3 → a ≠ b → (xT6 a).2.1 ≠ (xT6 b).2.1 := by decide +kernel
theorem xy6 : ∀ k, k < 3 → parseFieldDescriptor (xT6 k).2.2.1 = some (xY6 k) := by decide +kernel
theorem xi6 : ∀ w ∈ u_ws xR6 xT6 3, w ∈ lw_tbl := by decide +kernel
def xk6 : List Nat := [2, 0, 0]
def xR7 : String := "ZonedFabric$OpenWrite"
def xT7 : u_T := fun k => match k with
  | 0 => ("ZonedFabric$OpenWrite", "open", "Z", false)
  | 1 => ("ZonedFabric$OpenWrite", "ox", "I", false)
  | 2 => ("ZonedFabric$OpenWrite", "from", "I", false)
  | 3 => ("ZonedFabric$OpenWrite", "rx", "I", false)
  | 4 => ("ZonedFabric$OpenWrite", "at", "I", false)
  | 5 => ("ZonedFabric$OpenWrite", "count", "I", false)
  | 6 => ("ZonedFabric$OpenWrite", "openedAt", "I", false)
  | 7 => ("ZonedFabric$OpenWrite", "cameBits", "I", false)
  | _ => ("ZonedFabric$OpenWrite", "values", "[J", true)
def xY7 : Nat → FieldType := fun k => match k with
  | 0 => .boolean
  | 1 => .int
  | 2 => .int
  | 3 => .int
  | 4 => .int
  | 5 => .int
  | 6 => .int
  | 7 => .int
  | _ => .array .long
theorem xn7 : ∀ a, a < 9 → ∀ b, b < 9 → a ≠ b → (xT7 a).2.1 ≠ (xT7 b).2.1 := by decide +kernel
theorem xy7 : ∀ k, k < 9 → parseFieldDescriptor (xT7 k).2.2.1 = some (xY7 k) := by decide +kernel
theorem xi7 : ∀ w ∈ u_ws xR7 xT7 9, w ∈ lw_tbl := by decide +kernel
def xk7 : List Nat := [3, 0, 0, 0, 0, 0, 0, 0, 2]
def xR8 : String := "ZonedFabric$Port"
def xT8 : u_T := fun k => match k with
  | 0 => ("ZonedFabric$Port", "shared", "LZonedFabric$Shared;", true)
  | 1 => ("ZonedFabric$Port", "owner", "I", true)
  | 2 => ("ZonedFabric$Port", "number", "I", true)
  | 3 => ("ZonedFabric$Port", "peer", "LZonedFabric$Port;", false)
  | 4 => ("ZonedFabric$Port", "cost", "I", false)
  | 5 => ("ZonedFabric$Port", "up", "Z", false)
  | 6 => ("ZonedFabric$Port", "credits", "I", false)
  | 7 => ("ZonedFabric$Port", "coming", "I", false)
  | 8 => ("ZonedFabric$Port", "sent", "LZonedFabric$Frame;", false)
  | 9 => ("ZonedFabric$Port", "queue", "LZonedFabric$FrameLine;", true)
  | 10 => ("ZonedFabric$Port", "buffers", "LZonedFabric$FrameLine;", true)
  | 11 => ("ZonedFabric$Port", "neighbour", "I", false)
  | 12 => ("ZonedFabric$Port", "given", "I", false)
  | 13 => ("ZonedFabric$Port", "stays", "I", false)
  | _ => ("ZonedFabric$Port", "calledAt", "I", false)
def xY8 : Nat → FieldType := fun k => match k with
  | 0 => .object "ZonedFabric$Shared"
  | 1 => .int
  | 2 => .int
  | 3 => .object "ZonedFabric$Port"
  | 4 => .int
  | 5 => .boolean
  | 6 => .int
  | 7 => .int
  | 8 => .object "ZonedFabric$Frame"
  | 9 => .object "ZonedFabric$FrameLine"
  | 10 => .object "ZonedFabric$FrameLine"
  | 11 => .int
  | 12 => .int
  | 13 => .int
  | _ => .int
theorem xn8 : ∀ a, a < 15 → ∀ b, b < 15 → a ≠ b → (xT8 a).2.1 ≠ (xT8 b).2.1 := by decide +kernel
theorem xy8 : ∀ k, k < 15 → parseFieldDescriptor (xT8 k).2.2.1 = some (xY8 k) := by decide +kernel
theorem xi8 : ∀ w ∈ u_ws xR8 xT8 15, w ∈ lw_tbl := by decide +kernel
def xk8 : List Nat := [2, 0, 0, 2, 0, 3, 0, 0, 2, 2, 2, 0, 0, 0, 0]
def xR9 : String := "ZonedFabric$Shared"
def xT9 : u_T := fun k => match k with
  | 0 => ("ZonedFabric$Shared", "switchCount", "I", true)
  | 1 => ("ZonedFabric$Shared", "nodeCount", "I", true)
  | 2 => ("ZonedFabric$Shared", "room", "I", true)
  | 3 => ("ZonedFabric$Shared", "time", "I", false)
  | 4 => ("ZonedFabric$Shared", "counts", "[I", true)
  | 5 => ("ZonedFabric$Shared", "zones", "[I", true)
  | 6 => ("ZonedFabric$Shared", "zonesOn", "Z", false)
  | _ => ("ZonedFabric$Shared", "spare", "LZonedFabric$Frame;", false)
def xY9 : Nat → FieldType := fun k => match k with
  | 0 => .int
  | 1 => .int
  | 2 => .int
  | 3 => .int
  | 4 => .array .int
  | 5 => .array .int
  | 6 => .boolean
  | _ => .object "ZonedFabric$Frame"
theorem xn9 : ∀ a, a < 8 → ∀ b, b < 8 → a ≠ b → (xT9 a).2.1 ≠ (xT9 b).2.1 := by decide +kernel
theorem xy9 : ∀ k, k < 8 → parseFieldDescriptor (xT9 k).2.2.1 = some (xY9 k) := by decide +kernel
theorem xi9 : ∀ w ∈ u_ws xR9 xT9 8, w ∈ lw_tbl := by decide +kernel
def xk9 : List Nat := [0, 0, 0, 0, 2, 2, 3, 2]
def xR10 : String := "ZonedFabric$Switch"
def xT10 : u_T := fun k => match k with
  | 0 => ("ZonedFabric$Switch", "shared", "LZonedFabric$Shared;", true)
  | 1 => ("ZonedFabric$Switch", "number", "I", true)
  | 2 => ("ZonedFabric$Switch", "ports", "[LZonedFabric$Port;", true)
  | 3 => ("ZonedFabric$Switch", "domainNow", "I", false)
  | 4 => ("ZonedFabric$Switch", "notices", "[LZonedFabric$Notice;", true)
  | 5 => ("ZonedFabric$Switch", "draft", "LZonedFabric$Notice;", false)
  | 6 => ("ZonedFabric$Switch", "costs", "[[I", true)
  | 7 => ("ZonedFabric$Switch", "sums", "[[I", true)
  | 8 => ("ZonedFabric$Switch", "ways", "[I", true)
  | 9 => ("ZonedFabric$Switch", "holders", "[I", true)
  | _ => ("ZonedFabric$Switch", "off", "Z", false)
def xY10 : Nat → FieldType := fun k => match k with
  | 0 => .object "ZonedFabric$Shared"
  | 1 => .int
  | 2 => .array (.object "ZonedFabric$Port")
  | 3 => .int
  | 4 => .array (.object "ZonedFabric$Notice")
  | 5 => .object "ZonedFabric$Notice"
  | 6 => .array (.array .int)
  | 7 => .array (.array .int)
  | 8 => .array .int
  | 9 => .array .int
  | _ => .boolean
theorem xn10 : ∀ a, a < 11 → ∀ b, b < 11 → a ≠ b → (xT10 a).2.1 ≠ (xT10 b).2.1 := by decide +kernel
theorem xy10 : ∀ k, k < 11 → parseFieldDescriptor (xT10 k).2.2.1 = some (xY10 k) := by decide +kernel
theorem xi10 : ∀ w ∈ u_ws xR10 xT10 11, w ∈ lw_tbl := by decide +kernel
def xk10 : List Nat := [2, 0, 2, 0, 2, 2, 2, 2, 2, 2, 3]
def xR11 : String := "ZonedFabric"
def xT11 : u_T := fun k => match k with
  | 0 => ("ZonedFabric", "shared", "LZonedFabric$Shared;", true)
  | 1 => ("ZonedFabric", "switches", "[LZonedFabric$Switch;", true)
  | 2 => ("ZonedFabric", "nodes", "[LZonedFabric$Node;", true)
  | 3 => ("ZonedFabric", "firstEnds", "[LZonedFabric$Port;", true)
  | 4 => ("ZonedFabric", "secondEnds", "[LZonedFabric$Port;", true)
  | 5 => ("ZonedFabric", "wires", "I", false)
  | 6 => ("ZonedFabric", "commands", "[LZonedFabric$Command;", true)
  | _ => ("ZonedFabric", "commandsBegun", "I", false)
def xY11 : Nat → FieldType := fun k => match k with
  | 0 => .object "ZonedFabric$Shared"
  | 1 => .array (.object "ZonedFabric$Switch")
  | 2 => .array (.object "ZonedFabric$Node")
  | 3 => .array (.object "ZonedFabric$Port")
  | 4 => .array (.object "ZonedFabric$Port")
  | 5 => .int
  | 6 => .array (.object "ZonedFabric$Command")
  | _ => .int
theorem xn11 : ∀ a, a < 8 → ∀ b, b < 8 → a ≠ b → (xT11 a).2.1 ≠ (xT11 b).2.1 := by decide +kernel
theorem xy11 : ∀ k, k < 8 → parseFieldDescriptor (xT11 k).2.2.1 = some (xY11 k) := by decide +kernel
theorem xi11 : ∀ w ∈ u_ws xR11 xT11 8, w ∈ lw_tbl := by decide +kernel
def xk11 : List Nat := [2, 2, 2, 2, 2, 0, 2, 0]
def xR12 : String := "ZonedFabricModel"
def xT12 : u_T := fun k => match k with
  | 0 => ("ZonedFabricModel", "switches", "I", true)
  | 1 => ("ZonedFabricModel", "nodes", "I", true)
  | 2 => ("ZonedFabricModel", "room", "I", true)
  | 3 => ("ZonedFabricModel", "time", "I", false)
  | 4 => ("ZonedFabricModel", "counts", "[I", true)
  | 5 => ("ZonedFabricModel", "books", "[I", true)
  | 6 => ("ZonedFabricModel", "bytes", "[B", true)
  | 7 => ("ZonedFabricModel", "size", "[I", true)
  | 8 => ("ZonedFabricModel", "free", "[I", true)
  | 9 => ("ZonedFabricModel", "frees", "I", false)
  | 10 => ("ZonedFabricModel", "ends", "[I", true)
  | 11 => ("ZonedFabricModel", "costs", "[I", true)
  | 12 => ("ZonedFabricModel", "ups", "[Z", true)
  | 13 => ("ZonedFabricModel", "wires", "I", false)
  | 14 => ("ZonedFabricModel", "wireOf", "[I", true)
  | 15 => ("ZonedFabricModel", "onWay", "[I", true)
  | 16 => ("ZonedFabricModel", "buffers", "[I", true)
  | 17 => ("ZonedFabricModel", "buffered", "[I", true)
  | 18 => ("ZonedFabricModel", "queues", "[I", true)
  | 19 => ("ZonedFabricModel", "queued", "[I", true)
  | 20 => ("ZonedFabricModel", "left", "[I", true)
  | 21 => ("ZonedFabricModel", "stays", "[I", true)
  | 22 => ("ZonedFabricModel", "sent", "[Z", true)
  | 23 => ("ZonedFabricModel", "neighbour", "[I", true)
  | 24 => ("ZonedFabricModel", "helloAt", "[I", true)
  | 25 => ("ZonedFabricModel", "given", "[I", true)
  | 26 => ("ZonedFabricModel", "domains", "[I", true)
  | 27 => ("ZonedFabricModel", "kept", "[Z", true)
  | 28 => ("ZonedFabricModel", "keptAt", "[I", true)
  | 29 => ("ZonedFabricModel", "told", "[I", true)
  | 30 => ("ZonedFabricModel", "toldMany", "[I", true)
  | 31 => ("ZonedFabricModel", "fresh", "[I", true)
  | 32 => ("ZonedFabricModel", "sums", "[I", true)
  | 33 => ("ZonedFabricModel", "isDisc", "[Z", true)
  | 34 => ("ZonedFabricModel", "commanded", "[Z", true)
  | 35 => ("ZonedFabricModel", "addresses", "[I", true)
  | 36 => ("ZonedFabricModel", "flogiAt", "[I", true)
  | 37 => ("ZonedFabricModel", "zones", "[I", true)
  | 38 => ("ZonedFabricModel", "zoned", "Z", false)
  | 39 => ("ZonedFabricModel", "loginAt", "[I", true)
  | 40 => ("ZonedFabricModel", "logged", "[I", true)
  | 41 => ("ZonedFabricModel", "loggedMany", "[I", true)
  | 42 => ("ZonedFabricModel", "blocks", "[J", true)
  | 43 => ("ZonedFabricModel", "lastRx", "[I", true)
  | 44 => ("ZonedFabricModel", "open", "[I", true)
  | 45 => ("ZonedFabricModel", "openValues", "[J", true)
  | 46 => ("ZonedFabricModel", "openMany", "[I", true)
  | 47 => ("ZonedFabricModel", "commands", "I", false)
  | 48 => ("ZonedFabricModel", "host", "[I", true)
  | 49 => ("ZonedFabricModel", "target", "[I", true)
  | 50 => ("ZonedFabricModel", "writes", "[Z", true)
  | 51 => ("ZonedFabricModel", "unit", "[I", true)
  | 52 => ("ZonedFabricModel", "first", "[I", true)
  | 53 => ("ZonedFabricModel", "many", "[I", true)
  | 54 => ("ZonedFabricModel", "values", "[J", true)
  | 55 => ("ZonedFabricModel", "came", "[I", true)
  | 56 => ("ZonedFabricModel", "phase", "[I", true)
  | 57 => ("ZonedFabricModel", "phaseAt", "[I", true)
  | 58 => ("ZonedFabricModel", "began", "[I", true)
  | 59 => ("ZonedFabricModel", "ended", "[I", true)
  | _ => ("ZonedFabricModel", "goal", "[I", true)
def xY12 : Nat → FieldType := fun k => match k with
  | 0 => .int
  | 1 => .int
  | 2 => .int
  | 3 => .int
  | 4 => .array .int
  | 5 => .array .int
  | 6 => .array .byte
  | 7 => .array .int
  | 8 => .array .int
  | 9 => .int
  | 10 => .array .int
  | 11 => .array .int
  | 12 => .array .boolean
  | 13 => .int
  | 14 => .array .int
  | 15 => .array .int
  | 16 => .array .int
  | 17 => .array .int
  | 18 => .array .int
  | 19 => .array .int
  | 20 => .array .int
  | 21 => .array .int
  | 22 => .array .boolean
  | 23 => .array .int
  | 24 => .array .int
  | 25 => .array .int
  | 26 => .array .int
  | 27 => .array .boolean
  | 28 => .array .int
  | 29 => .array .int
  | 30 => .array .int
  | 31 => .array .int
  | 32 => .array .int
  | 33 => .array .boolean
  | 34 => .array .boolean
  | 35 => .array .int
  | 36 => .array .int
  | 37 => .array .int
  | 38 => .boolean
  | 39 => .array .int
  | 40 => .array .int
  | 41 => .array .int
  | 42 => .array .long
  | 43 => .array .int
  | 44 => .array .int
  | 45 => .array .long
  | 46 => .array .int
  | 47 => .int
  | 48 => .array .int
  | 49 => .array .int
  | 50 => .array .boolean
  | 51 => .array .int
  | 52 => .array .int
  | 53 => .array .int
  | 54 => .array .long
  | 55 => .array .int
  | 56 => .array .int
  | 57 => .array .int
  | 58 => .array .int
  | 59 => .array .int
  | _ => .array .int
theorem xn12 : ∀ a, a < 61 → ∀ b, b < 61 → a ≠ b → (xT12 a).2.1 ≠ (xT12 b).2.1 := by decide +kernel
theorem xy12 : ∀ k, k < 61 → parseFieldDescriptor (xT12 k).2.2.1 = some (xY12 k) := by decide +kernel
theorem xi12 : ∀ w ∈ u_ws xR12 xT12 61, w ∈ lw_tbl := by decide +kernel
def xk12 : List Nat := [0, 0, 0, 0, 2, 2, 2, 2, 2, 0, 2, 2, 2, 0, 2, 2, 2, 2, 2, 2, 2, 2, 2, 2, 2, 2, 2, 2, 2, 2, 2, 2, 2, 2, 2, 2, 2, 2, 3, 2, 2, 2, 2, 2, 2, 2, 2, 0, 2, 2, 2, 2, 2, 2, 2, 2, 2, 2, 2, 2, 2]
abbrev xCl : List vw_C := [(xR0, xT0, 14), (xR1, xT1, 7), (xR2, xT2, 4), (xR3, xT3, 3), (xR4, xT4, 6), (xR5, xT5, 6), (xR6, xT6, 3), (xR7, xT7, 9), (xR8, xT8, 15), (xR9, xT9, 8), (xR10, xT10, 11), (xR11, xT11, 8), (xR12, xT12, 61)]
def xTT (ci : Nat) : u_T := match ci with
  | 0 => xT0
  | 1 => xT1
  | 2 => xT2
  | 3 => xT3
  | 4 => xT4
  | 5 => xT5
  | 6 => xT6
  | 7 => xT7
  | 8 => xT8
  | 9 => xT9
  | 10 => xT10
  | 11 => xT11
  | _ => xT12
def xRR (ci : Nat) : String := match ci with
  | 0 => xR0
  | 1 => xR1
  | 2 => xR2
  | 3 => xR3
  | 4 => xR4
  | 5 => xR5
  | 6 => xR6
  | 7 => xR7
  | 8 => xR8
  | 9 => xR9
  | 10 => xR10
  | 11 => xR11
  | _ => xR12
def xYY (ci : Nat) : Nat → FieldType := match ci with
  | 0 => xY0
  | 1 => xY1
  | 2 => xY2
  | 3 => xY3
  | 4 => xY4
  | 5 => xY5
  | 6 => xY6
  | 7 => xY7
  | 8 => xY8
  | 9 => xY9
  | 10 => xY10
  | 11 => xY11
  | _ => xY12
def xkk (ci : Nat) : List Nat := match ci with
  | 0 => xk0
  | 1 => xk1
  | 2 => xk2
  | 3 => xk3
  | 4 => xk4
  | 5 => xk5
  | 6 => xk6
  | 7 => xk7
  | 8 => xk8
  | 9 => xk9
  | 10 => xk10
  | 11 => xk11
  | 12 => xk12
  | _ => []
def xNN (ci : Nat) : Nat := (xkk ci).length
def xTs : List Cond := lw_tbl.filter goodWord
theorem xTs_in {w : Cond} (h : w ∈ lw_tbl) (hg : goodWord w = true) : w ∈ xTs := List.mem_filter.mpr ⟨h, hg⟩
theorem xcl_at {ci : Nat} (h : ci < 13) : xCl[ci]? = some (xRR ci, xTT ci, xNN ci) := by
  have h0 : ci = 0 ∨ ci = 1 ∨ ci = 2 ∨ ci = 3 ∨ ci = 4 ∨ ci = 5 ∨ ci = 6 ∨ ci = 7 ∨ ci = 8 ∨ ci = 9 ∨ ci = 10 ∨ ci = 11 ∨ ci = 12 := by omega
  rcases h0 with rfl | rfl | rfl | rfl | rfl | rfl | rfl | rfl | rfl | rfl | rfl | rfl | rfl
  · exact rfl
  · exact rfl
  · exact rfl
  · exact rfl
  · exact rfl
  · exact rfl
  · exact rfl
  · exact rfl
  · exact rfl
  · exact rfl
  · exact rfl
  · exact rfl
  · exact rfl
theorem xnm_at {ci : Nat} (h : ci < 13) : ∀ a, a < xNN ci → ∀ b, b < xNN ci → a ≠ b → (xTT ci a).2.1 ≠ (xTT ci b).2.1 := by
  have h0 : ci = 0 ∨ ci = 1 ∨ ci = 2 ∨ ci = 3 ∨ ci = 4 ∨ ci = 5 ∨ ci = 6 ∨ ci = 7 ∨ ci = 8 ∨ ci = 9 ∨ ci = 10 ∨ ci = 11 ∨ ci = 12 := by omega
  rcases h0 with rfl | rfl | rfl | rfl | rfl | rfl | rfl | rfl | rfl | rfl | rfl | rfl | rfl
  · exact xn0
  · exact xn1
  · exact xn2
  · exact xn3
  · exact xn4
  · exact xn5
  · exact xn6
  · exact xn7
  · exact xn8
  · exact xn9
  · exact xn10
  · exact xn11
  · exact xn12
theorem xty_at {ci : Nat} (h : ci < 13) : ∀ k, k < xNN ci → parseFieldDescriptor (xTT ci k).2.2.1 = some (xYY ci k) := by
  have h0 : ci = 0 ∨ ci = 1 ∨ ci = 2 ∨ ci = 3 ∨ ci = 4 ∨ ci = 5 ∨ ci = 6 ∨ ci = 7 ∨ ci = 8 ∨ ci = 9 ∨ ci = 10 ∨ ci = 11 ∨ ci = 12 := by omega
  rcases h0 with rfl | rfl | rfl | rfl | rfl | rfl | rfl | rfl | rfl | rfl | rfl | rfl | rfl
  · exact xy0
  · exact xy1
  · exact xy2
  · exact xy3
  · exact xy4
  · exact xy5
  · exact xy6
  · exact xy7
  · exact xy8
  · exact xy9
  · exact xy10
  · exact xy11
  · exact xy12
theorem xin_at {ci : Nat} (h : ci < 13) : ∀ w ∈ u_ws (xRR ci) (xTT ci) (xNN ci), w ∈ xTs := by
  have h0 : ci = 0 ∨ ci = 1 ∨ ci = 2 ∨ ci = 3 ∨ ci = 4 ∨ ci = 5 ∨ ci = 6 ∨ ci = 7 ∨ ci = 8 ∨ ci = 9 ∨ ci = 10 ∨ ci = 11 ∨ ci = 12 := by omega
  rcases h0 with rfl | rfl | rfl | rfl | rfl | rfl | rfl | rfl | rfl | rfl | rfl | rfl | rfl
  · exact fun w h => List.mem_filter.mpr ⟨xi0 w h, List.all_eq_true.mp (show (u_ws xR0 xT0 14).all goodWord = true by decide +kernel) w h⟩
  · exact fun w h => List.mem_filter.mpr ⟨xi1 w h, List.all_eq_true.mp (show (u_ws xR1 xT1 7).all goodWord = true by decide +kernel) w h⟩
  · exact fun w h => List.mem_filter.mpr ⟨xi2 w h, List.all_eq_true.mp (show (u_ws xR2 xT2 4).all goodWord = true by decide +kernel) w h⟩
  · exact fun w h => List.mem_filter.mpr ⟨xi3 w h, List.all_eq_true.mp (show (u_ws xR3 xT3 3).all goodWord = true by decide +kernel) w h⟩
  · exact fun w h => List.mem_filter.mpr ⟨xi4 w h, List.all_eq_true.mp (show (u_ws xR4 xT4 6).all goodWord = true by decide +kernel) w h⟩
  · exact fun w h => List.mem_filter.mpr ⟨xi5 w h, List.all_eq_true.mp (show (u_ws xR5 xT5 6).all goodWord = true by decide +kernel) w h⟩
  · exact fun w h => List.mem_filter.mpr ⟨xi6 w h, List.all_eq_true.mp (show (u_ws xR6 xT6 3).all goodWord = true by decide +kernel) w h⟩
  · exact fun w h => List.mem_filter.mpr ⟨xi7 w h, List.all_eq_true.mp (show (u_ws xR7 xT7 9).all goodWord = true by decide +kernel) w h⟩
  · exact fun w h => List.mem_filter.mpr ⟨xi8 w h, List.all_eq_true.mp (show (u_ws xR8 xT8 15).all goodWord = true by decide +kernel) w h⟩
  · exact fun w h => List.mem_filter.mpr ⟨xi9 w h, List.all_eq_true.mp (show (u_ws xR9 xT9 8).all goodWord = true by decide +kernel) w h⟩
  · exact fun w h => List.mem_filter.mpr ⟨xi10 w h, List.all_eq_true.mp (show (u_ws xR10 xT10 11).all goodWord = true by decide +kernel) w h⟩
  · exact fun w h => List.mem_filter.mpr ⟨xi11 w h, List.all_eq_true.mp (show (u_ws xR11 xT11 8).all goodWord = true by decide +kernel) w h⟩
  · exact fun w h => List.mem_filter.mpr ⟨xi12 w h, List.all_eq_true.mp (show (u_ws xR12 xT12 61).all goodWord = true by decide +kernel) w h⟩
def xkt (ty : FieldType) : Nat := match ty with
  | .long => 1
  | .object _ => 2
  | .array _ => 2
  | .boolean => 3
  | .int => 0
  | _ => 9
theorem xkt_at {ci : Nat} (h : ci < 13) : ∀ k, k < xNN ci → (xkk ci)[k]? = some (xkt (xYY ci k)) ∧ xkt (xYY ci k) ≠ 9 := by
  have h0 : ci = 0 ∨ ci = 1 ∨ ci = 2 ∨ ci = 3 ∨ ci = 4 ∨ ci = 5 ∨ ci = 6 ∨ ci = 7 ∨ ci = 8 ∨ ci = 9 ∨ ci = 10 ∨ ci = 11 ∨ ci = 12 := by omega
  rcases h0 with rfl | rfl | rfl | rfl | rfl | rfl | rfl | rfl | rfl | rfl | rfl | rfl | rfl
  · exact (by decide +kernel)
  · exact (by decide +kernel)
  · exact (by decide +kernel)
  · exact (by decide +kernel)
  · exact (by decide +kernel)
  · exact (by decide +kernel)
  · exact (by decide +kernel)
  · exact (by decide +kernel)
  · exact (by decide +kernel)
  · exact (by decide +kernel)
  · exact (by decide +kernel)
  · exact (by decide +kernel)
  · exact (by decide +kernel)
