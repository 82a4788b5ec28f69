section
-- ===== PART A: goes FIRST, ahead of the names: the tables' words, and 'selects' of the private methods out of them =====
/-- a private method of a class that the tables say can be made, by its rows of tables_1 -/
def lw_okq (q : MethodName × Nat) : Prop := (q.1.cls ≠ "java/lang/invoke/MethodHandle" ∧ q.1.cls ≠ "java/lang/invoke/VarHandle") ∧ Cond.instantiable q.1.cls q.2 ∈ tables_1 ∧ Cond.privateMethod q.1 ∈ tables_1 ∧ Cond.instanceMethod q.1 ∈ tables_1
theorem lw_p0 : lw_okq (⟨"EclipseHouse$Sky", "sunKind", "(II)I"⟩, 9) := ⟨⟨by decide +kernel, by decide +kernel⟩, List.mem_of_getElem? (i := 26) (by decide +kernel), List.mem_of_getElem? (i := 252) (by decide +kernel), List.mem_of_getElem? (i := 253) (by decide +kernel)⟩
theorem lw_p1 : lw_okq (⟨"EclipseHouse$Sky", "isAsked", "(II)Z"⟩, 9) := ⟨⟨by decide +kernel, by decide +kernel⟩, List.mem_of_getElem? (i := 26) (by decide +kernel), List.mem_of_getElem? (i := 273) (by decide +kernel), List.mem_of_getElem? (i := 274) (by decide +kernel)⟩
theorem lw_p2 : lw_okq (⟨"EclipseHouse$Reader", "advance", "()V"⟩, 11) := ⟨⟨by decide +kernel, by decide +kernel⟩, List.mem_of_getElem? (i := 135) (by decide +kernel), List.mem_of_getElem? (i := 423) (by decide +kernel), List.mem_of_getElem? (i := 424) (by decide +kernel)⟩
theorem lw_p3 : lw_okq (⟨"EclipseHouse$Reader", "takeSign", "()V"⟩, 11) := ⟨⟨by decide +kernel, by decide +kernel⟩, List.mem_of_getElem? (i := 135) (by decide +kernel), List.mem_of_getElem? (i := 432) (by decide +kernel), List.mem_of_getElem? (i := 433) (by decide +kernel)⟩
theorem lw_p4 : lw_okq (⟨"EclipseHouse$Reader", "readWhat", "()Z"⟩, 11) := ⟨⟨by decide +kernel, by decide +kernel⟩, List.mem_of_getElem? (i := 135) (by decide +kernel), List.mem_of_getElem? (i := 440) (by decide +kernel), List.mem_of_getElem? (i := 441) (by decide +kernel)⟩
theorem lw_p5 : lw_okq (⟨"EclipseHouse$Reader", "isWord", "(Ljava/lang/String;)Z"⟩, 11) := ⟨⟨by decide +kernel, by decide +kernel⟩, List.mem_of_getElem? (i := 135) (by decide +kernel), List.mem_of_getElem? (i := 445) (by decide +kernel), List.mem_of_getElem? (i := 446) (by decide +kernel)⟩
theorem lw_p6 : lw_okq (⟨"EclipseHouse$Reader", "refuse", "(II)Z"⟩, 11) := ⟨⟨by decide +kernel, by decide +kernel⟩, List.mem_of_getElem? (i := 135) (by decide +kernel), List.mem_of_getElem? (i := 498) (by decide +kernel), List.mem_of_getElem? (i := 499) (by decide +kernel)⟩
theorem lw_p7 : lw_okq (⟨"EclipseHouse$Reader", "sunKind", "()I"⟩, 11) := ⟨⟨by decide +kernel, by decide +kernel⟩, List.mem_of_getElem? (i := 135) (by decide +kernel), List.mem_of_getElem? (i := 502) (by decide +kernel), List.mem_of_getElem? (i := 503) (by decide +kernel)⟩
theorem lw_p8 : lw_okq (⟨"EclipseHouse$Reader", "moonKind", "()I"⟩, 11) := ⟨⟨by decide +kernel, by decide +kernel⟩, List.mem_of_getElem? (i := 135) (by decide +kernel), List.mem_of_getElem? (i := 509) (by decide +kernel), List.mem_of_getElem? (i := 510) (by decide +kernel)⟩
theorem lw_p9 : lw_okq (⟨"EclipseHouse$Reader", "readParts", "()Z"⟩, 11) := ⟨⟨by decide +kernel, by decide +kernel⟩, List.mem_of_getElem? (i := 135) (by decide +kernel), List.mem_of_getElem? (i := 519) (by decide +kernel), List.mem_of_getElem? (i := 520) (by decide +kernel)⟩
theorem lw_p10 : lw_okq (⟨"EclipseHouse$Reader", "readPart", "()Z"⟩, 11) := ⟨⟨by decide +kernel, by decide +kernel⟩, List.mem_of_getElem? (i := 135) (by decide +kernel), List.mem_of_getElem? (i := 524) (by decide +kernel), List.mem_of_getElem? (i := 525) (by decide +kernel)⟩
theorem lw_p11 : lw_okq (⟨"EclipseHouse$Reader", "partHere", "()I"⟩, 11) := ⟨⟨by decide +kernel, by decide +kernel⟩, List.mem_of_getElem? (i := 135) (by decide +kernel), List.mem_of_getElem? (i := 528) (by decide +kernel), List.mem_of_getElem? (i := 529) (by decide +kernel)⟩
theorem lw_p12 : lw_okq (⟨"EclipseHouse$Reader", "readNumber", "(I)Z"⟩, 11) := ⟨⟨by decide +kernel, by decide +kernel⟩, List.mem_of_getElem? (i := 135) (by decide +kernel), List.mem_of_getElem? (i := 540) (by decide +kernel), List.mem_of_getElem? (i := 541) (by decide +kernel)⟩
theorem lw_p13 : lw_okq (⟨"EclipseHouse$Reader", "readRuler", "()Z"⟩, 11) := ⟨⟨by decide +kernel, by decide +kernel⟩, List.mem_of_getElem? (i := 135) (by decide +kernel), List.mem_of_getElem? (i := 553) (by decide +kernel), List.mem_of_getElem? (i := 554) (by decide +kernel)⟩
theorem lw_p14 : lw_okq (⟨"EclipseHouse$Reader", "readCalendar", "()Z"⟩, 11) := ⟨⟨by decide +kernel, by decide +kernel⟩, List.mem_of_getElem? (i := 135) (by decide +kernel), List.mem_of_getElem? (i := 559) (by decide +kernel), List.mem_of_getElem? (i := 560) (by decide +kernel)⟩
theorem lw_p15 : lw_okq (⟨"EclipseHouse$Reader", "readClose", "()Z"⟩, 11) := ⟨⟨by decide +kernel, by decide +kernel⟩, List.mem_of_getElem? (i := 135) (by decide +kernel), List.mem_of_getElem? (i := 570) (by decide +kernel), List.mem_of_getElem? (i := 571) (by decide +kernel)⟩
def lw_privs_1 : List (MethodName × Nat) := [(⟨"EclipseHouse$Sky", "sunKind", "(II)I"⟩, 9), (⟨"EclipseHouse$Sky", "isAsked", "(II)Z"⟩, 9), (⟨"EclipseHouse$Reader", "advance", "()V"⟩, 11), (⟨"EclipseHouse$Reader", "takeSign", "()V"⟩, 11), (⟨"EclipseHouse$Reader", "readWhat", "()Z"⟩, 11), (⟨"EclipseHouse$Reader", "isWord", "(Ljava/lang/String;)Z"⟩, 11), (⟨"EclipseHouse$Reader", "refuse", "(II)Z"⟩, 11), (⟨"EclipseHouse$Reader", "sunKind", "()I"⟩, 11), (⟨"EclipseHouse$Reader", "moonKind", "()I"⟩, 11), (⟨"EclipseHouse$Reader", "readParts", "()Z"⟩, 11), (⟨"EclipseHouse$Reader", "readPart", "()Z"⟩, 11), (⟨"EclipseHouse$Reader", "partHere", "()I"⟩, 11), (⟨"EclipseHouse$Reader", "readNumber", "(I)Z"⟩, 11), (⟨"EclipseHouse$Reader", "readRuler", "()Z"⟩, 11), (⟨"EclipseHouse$Reader", "readCalendar", "()Z"⟩, 11), (⟨"EclipseHouse$Reader", "readClose", "()Z"⟩, 11)]
theorem lw_r1 : ∀ q ∈ lw_privs_1, lw_okq q := List.forall_mem_cons.mpr ⟨lw_p0, List.forall_mem_cons.mpr ⟨lw_p1, List.forall_mem_cons.mpr ⟨lw_p2, List.forall_mem_cons.mpr ⟨lw_p3, List.forall_mem_cons.mpr ⟨lw_p4, List.forall_mem_cons.mpr ⟨lw_p5, List.forall_mem_cons.mpr ⟨lw_p6, List.forall_mem_cons.mpr ⟨lw_p7, List.forall_mem_cons.mpr ⟨lw_p8, List.forall_mem_cons.mpr ⟨lw_p9, List.forall_mem_cons.mpr ⟨lw_p10, List.forall_mem_cons.mpr ⟨lw_p11, List.forall_mem_cons.mpr ⟨lw_p12, List.forall_mem_cons.mpr ⟨lw_p13, List.forall_mem_cons.mpr ⟨lw_p14, List.forall_mem_cons.mpr ⟨lw_p15, fun _ h => absurd h List.not_mem_nil⟩⟩⟩⟩⟩⟩⟩⟩⟩⟩⟩⟩⟩⟩⟩⟩
theorem lw_p16 : lw_okq (⟨"EclipseHouse$Reader", "joinRuler", "()Z"⟩, 11) := ⟨⟨by decide +kernel, by decide +kernel⟩, List.mem_of_getElem? (i := 135) (by decide +kernel), List.mem_of_getElem? (i := 574) (by decide +kernel), List.mem_of_getElem? (i := 575) (by decide +kernel)⟩
theorem lw_p17 : lw_okq (⟨"EclipseHouse$Reigns", "isThere", "(I)Z"⟩, 4) := ⟨⟨by decide +kernel, by decide +kernel⟩, List.mem_of_getElem? (i := 74) (by decide +kernel), List.mem_of_getElem? (i := 582) (by decide +kernel), List.mem_of_getElem? (i := 583) (by decide +kernel)⟩
theorem lw_p18 : lw_okq (⟨"EclipseHouse$Account", "isMeant", "(LEclipseHouse$Sky;II)Z"⟩, 7) := ⟨⟨by decide +kernel, by decide +kernel⟩, List.mem_of_getElem? (i := 100) (by decide +kernel), List.mem_of_getElem? (i := 624) (by decide +kernel), List.mem_of_getElem? (i := 625) (by decide +kernel)⟩
theorem lw_p19 : lw_okq (⟨"EclipseHouse$Account", "hoursSeen", "(LEclipseHouse$Sky;II)I"⟩, 7) := ⟨⟨by decide +kernel, by decide +kernel⟩, List.mem_of_getElem? (i := 100) (by decide +kernel), List.mem_of_getElem? (i := 628) (by decide +kernel), List.mem_of_getElem? (i := 629) (by decide +kernel)⟩
theorem lw_p20 : lw_okq (⟨"EclipseHouse$Account", "isOfKind", "(LEclipseHouse$Sky;I)Z"⟩, 7) := ⟨⟨by decide +kernel, by decide +kernel⟩, List.mem_of_getElem? (i := 100) (by decide +kernel), List.mem_of_getElem? (i := 632) (by decide +kernel), List.mem_of_getElem? (i := 633) (by decide +kernel)⟩
theorem lw_p21 : lw_okq (⟨"EclipseHouse$Sky", "isListed", "(I)Z"⟩, 9) := ⟨⟨by decide +kernel, by decide +kernel⟩, List.mem_of_getElem? (i := 26) (by decide +kernel), List.mem_of_getElem? (i := 640) (by decide +kernel), List.mem_of_getElem? (i := 641) (by decide +kernel)⟩
theorem lw_p22 : lw_okq (⟨"EclipseHouse$Account", "hoursAt", "(II)I"⟩, 7) := ⟨⟨by decide +kernel, by decide +kernel⟩, List.mem_of_getElem? (i := 100) (by decide +kernel), List.mem_of_getElem? (i := 648) (by decide +kernel), List.mem_of_getElem? (i := 649) (by decide +kernel)⟩
theorem lw_p23 : lw_okq (⟨"EclipseHouse$Account", "slipsAt", "(II)I"⟩, 7) := ⟨⟨by decide +kernel, by decide +kernel⟩, List.mem_of_getElem? (i := 100) (by decide +kernel), List.mem_of_getElem? (i := 665) (by decide +kernel), List.mem_of_getElem? (i := 666) (by decide +kernel)⟩
theorem lw_p24 : lw_okq (⟨"EclipseHouse$Account", "slipOf", "(II)I"⟩, 7) := ⟨⟨by decide +kernel, by decide +kernel⟩, List.mem_of_getElem? (i := 100) (by decide +kernel), List.mem_of_getElem? (i := 669) (by decide +kernel), List.mem_of_getElem? (i := 670) (by decide +kernel)⟩
theorem lw_p25 : lw_okq (⟨"EclipseHouse$Account", "slowsMeaning", "(LEclipseHouse$Sky;I)J"⟩, 7) := ⟨⟨by decide +kernel, by decide +kernel⟩, List.mem_of_getElem? (i := 100) (by decide +kernel), List.mem_of_getElem? (i := 712) (by decide +kernel), List.mem_of_getElem? (i := 713) (by decide +kernel)⟩
theorem lw_p26 : lw_okq (⟨"EclipseHouse$Account", "slowsWithin", "(II)J"⟩, 7) := ⟨⟨by decide +kernel, by decide +kernel⟩, List.mem_of_getElem? (i := 100) (by decide +kernel), List.mem_of_getElem? (i := 716) (by decide +kernel), List.mem_of_getElem? (i := 717) (by decide +kernel)⟩
theorem lw_p27 : lw_okq (⟨"EclipseHouseModel", "moonAt", "(I)I"⟩, 50) := ⟨⟨by decide +kernel, by decide +kernel⟩, List.mem_of_getElem? (i := 758) (by decide +kernel), List.mem_of_getElem? (i := 932) (by decide +kernel), List.mem_of_getElem? (i := 933) (by decide +kernel)⟩
theorem lw_p28 : lw_okq (⟨"EclipseHouseModel", "sunAt", "(I)I"⟩, 50) := ⟨⟨by decide +kernel, by decide +kernel⟩, List.mem_of_getElem? (i := 758) (by decide +kernel), List.mem_of_getElem? (i := 938) (by decide +kernel), List.mem_of_getElem? (i := 939) (by decide +kernel)⟩
theorem lw_p29 : lw_okq (⟨"EclipseHouseModel", "nodeAt", "(I)I"⟩, 50) := ⟨⟨by decide +kernel, by decide +kernel⟩, List.mem_of_getElem? (i := 758) (by decide +kernel), List.mem_of_getElem? (i := 943) (by decide +kernel), List.mem_of_getElem? (i := 944) (by decide +kernel)⟩
theorem lw_p30 : lw_okq (⟨"EclipseHouseModel", "timeOf", "(I)I"⟩, 50) := ⟨⟨by decide +kernel, by decide +kernel⟩, List.mem_of_getElem? (i := 758) (by decide +kernel), List.mem_of_getElem? (i := 949) (by decide +kernel), List.mem_of_getElem? (i := 950) (by decide +kernel)⟩
theorem lw_p31 : lw_okq (⟨"EclipseHouseModel", "wave", "(I)I"⟩, 50) := ⟨⟨by decide +kernel, by decide +kernel⟩, List.mem_of_getElem? (i := 758) (by decide +kernel), List.mem_of_getElem? (i := 956) (by decide +kernel), List.mem_of_getElem? (i := 957) (by decide +kernel)⟩
def lw_privs_2 : List (MethodName × Nat) := [(⟨"EclipseHouse$Reader", "joinRuler", "()Z"⟩, 11), (⟨"EclipseHouse$Reigns", "isThere", "(I)Z"⟩, 4), (⟨"EclipseHouse$Account", "isMeant", "(LEclipseHouse$Sky;II)Z"⟩, 7), (⟨"EclipseHouse$Account", "hoursSeen", "(LEclipseHouse$Sky;II)I"⟩, 7), (⟨"EclipseHouse$Account", "isOfKind", "(LEclipseHouse$Sky;I)Z"⟩, 7), (⟨"EclipseHouse$Sky", "isListed", "(I)Z"⟩, 9), (⟨"EclipseHouse$Account", "hoursAt", "(II)I"⟩, 7), (⟨"EclipseHouse$Account", "slipsAt", "(II)I"⟩, 7), (⟨"EclipseHouse$Account", "slipOf", "(II)I"⟩, 7), (⟨"EclipseHouse$Account", "slowsMeaning", "(LEclipseHouse$Sky;I)J"⟩, 7), (⟨"EclipseHouse$Account", "slowsWithin", "(II)J"⟩, 7), (⟨"EclipseHouseModel", "moonAt", "(I)I"⟩, 50), (⟨"EclipseHouseModel", "sunAt", "(I)I"⟩, 50), (⟨"EclipseHouseModel", "nodeAt", "(I)I"⟩, 50), (⟨"EclipseHouseModel", "timeOf", "(I)I"⟩, 50), (⟨"EclipseHouseModel", "wave", "(I)I"⟩, 50)]
theorem lw_r2 : ∀ q ∈ lw_privs_2, lw_okq q := List.forall_mem_cons.mpr ⟨lw_p16, List.forall_mem_cons.mpr ⟨lw_p17, List.forall_mem_cons.mpr ⟨lw_p18, List.forall_mem_cons.mpr ⟨lw_p19, List.forall_mem_cons.mpr ⟨lw_p20, List.forall_mem_cons.mpr ⟨lw_p21, List.forall_mem_cons.mpr ⟨lw_p22, List.forall_mem_cons.mpr ⟨lw_p23, List.forall_mem_cons.mpr ⟨lw_p24, List.forall_mem_cons.mpr ⟨lw_p25, List.forall_mem_cons.mpr ⟨lw_p26, List.forall_mem_cons.mpr ⟨lw_p27, List.forall_mem_cons.mpr ⟨lw_p28, List.forall_mem_cons.mpr ⟨lw_p29, List.forall_mem_cons.mpr ⟨lw_p30, List.forall_mem_cons.mpr ⟨lw_p31, fun _ h => absurd h List.not_mem_nil⟩⟩⟩⟩⟩⟩⟩⟩⟩⟩⟩⟩⟩⟩⟩⟩
theorem lw_p32 : lw_okq (⟨"EclipseHouseModel", "quarter", "(I)I"⟩, 50) := ⟨⟨by decide +kernel, by decide +kernel⟩, List.mem_of_getElem? (i := 758) (by decide +kernel), List.mem_of_getElem? (i := 960) (by decide +kernel), List.mem_of_getElem? (i := 961) (by decide +kernel)⟩
theorem lw_p33 : lw_okq (⟨"EclipseHouseModel", "sortOf", "(I)I"⟩, 50) := ⟨⟨by decide +kernel, by decide +kernel⟩, List.mem_of_getElem? (i := 758) (by decide +kernel), List.mem_of_getElem? (i := 969) (by decide +kernel), List.mem_of_getElem? (i := 970) (by decide +kernel)⟩
theorem lw_p34 : lw_okq (⟨"EclipseHouseModel", "notes", "()V"⟩, 50) := ⟨⟨by decide +kernel, by decide +kernel⟩, List.mem_of_getElem? (i := 758) (by decide +kernel), List.mem_of_getElem? (i := 977) (by decide +kernel), List.mem_of_getElem? (i := 978) (by decide +kernel)⟩
theorem lw_p35 : lw_okq (⟨"EclipseHouseModel", "dates", "(II)V"⟩, 50) := ⟨⟨by decide +kernel, by decide +kernel⟩, List.mem_of_getElem? (i := 758) (by decide +kernel), List.mem_of_getElem? (i := 994) (by decide +kernel), List.mem_of_getElem? (i := 995) (by decide +kernel)⟩
theorem lw_p36 : lw_okq (⟨"EclipseHouseModel", "monthDays", "(III)I"⟩, 50) := ⟨⟨by decide +kernel, by decide +kernel⟩, List.mem_of_getElem? (i := 758) (by decide +kernel), List.mem_of_getElem? (i := 1004) (by decide +kernel), List.mem_of_getElem? (i := 1005) (by decide +kernel)⟩
theorem lw_p37 : lw_okq (⟨"EclipseHouseModel", "packed", "(II)J"⟩, 50) := ⟨⟨by decide +kernel, by decide +kernel⟩, List.mem_of_getElem? (i := 758) (by decide +kernel), List.mem_of_getElem? (i := 1036) (by decide +kernel), List.mem_of_getElem? (i := 1037) (by decide +kernel)⟩
theorem lw_p38 : lw_okq (⟨"EclipseHouseModel", "reignOf", "(J)I"⟩, 50) := ⟨⟨by decide +kernel, by decide +kernel⟩, List.mem_of_getElem? (i := 758) (by decide +kernel), List.mem_of_getElem? (i := 1042) (by decide +kernel), List.mem_of_getElem? (i := 1043) (by decide +kernel)⟩
theorem lw_p39 : lw_okq (⟨"EclipseHouseModel", "reads", "(I)V"⟩, 50) := ⟨⟨by decide +kernel, by decide +kernel⟩, List.mem_of_getElem? (i := 758) (by decide +kernel), List.mem_of_getElem? (i := 1050) (by decide +kernel), List.mem_of_getElem? (i := 1051) (by decide +kernel)⟩
theorem lw_p40 : lw_okq (⟨"EclipseHouseModel", "whats", "()I"⟩, 50) := ⟨⟨by decide +kernel, by decide +kernel⟩, List.mem_of_getElem? (i := 758) (by decide +kernel), List.mem_of_getElem? (i := 1054) (by decide +kernel), List.mem_of_getElem? (i := 1055) (by decide +kernel)⟩
theorem lw_p41 : lw_okq (⟨"EclipseHouseModel", "takes", "([C)Z"⟩, 50) := ⟨⟨by decide +kernel, by decide +kernel⟩, List.mem_of_getElem? (i := 758) (by decide +kernel), List.mem_of_getElem? (i := 1058) (by decide +kernel), List.mem_of_getElem? (i := 1059) (by decide +kernel)⟩
theorem lw_p42 : lw_okq (⟨"EclipseHouseModel", "next", "()I"⟩, 50) := ⟨⟨by decide +kernel, by decide +kernel⟩, List.mem_of_getElem? (i := 758) (by decide +kernel), List.mem_of_getElem? (i := 1062) (by decide +kernel), List.mem_of_getElem? (i := 1063) (by decide +kernel)⟩
theorem lw_p43 : lw_okq (⟨"EclipseHouseModel", "wordEnd", "()I"⟩, 50) := ⟨⟨by decide +kernel, by decide +kernel⟩, List.mem_of_getElem? (i := 758) (by decide +kernel), List.mem_of_getElem? (i := 1066) (by decide +kernel), List.mem_of_getElem? (i := 1067) (by decide +kernel)⟩
theorem lw_p44 : lw_okq (⟨"EclipseHouseModel", "fail", "(II)V"⟩, 50) := ⟨⟨by decide +kernel, by decide +kernel⟩, List.mem_of_getElem? (i := 758) (by decide +kernel), List.mem_of_getElem? (i := 1070) (by decide +kernel), List.mem_of_getElem? (i := 1071) (by decide +kernel)⟩
theorem lw_p45 : lw_okq (⟨"EclipseHouseModel", "partOf", "()I"⟩, 50) := ⟨⟨by decide +kernel, by decide +kernel⟩, List.mem_of_getElem? (i := 758) (by decide +kernel), List.mem_of_getElem? (i := 1074) (by decide +kernel), List.mem_of_getElem? (i := 1075) (by decide +kernel)⟩
theorem lw_p46 : lw_okq (⟨"EclipseHouseModel", "number", "(II)I"⟩, 50) := ⟨⟨by decide +kernel, by decide +kernel⟩, List.mem_of_getElem? (i := 758) (by decide +kernel), List.mem_of_getElem? (i := 1078) (by decide +kernel), List.mem_of_getElem? (i := 1079) (by decide +kernel)⟩
theorem lw_p47 : lw_okq (⟨"EclipseHouseModel", "name", "()V"⟩, 50) := ⟨⟨by decide +kernel, by decide +kernel⟩, List.mem_of_getElem? (i := 758) (by decide +kernel), List.mem_of_getElem? (i := 1085) (by decide +kernel), List.mem_of_getElem? (i := 1086) (by decide +kernel)⟩
def lw_privs_3 : List (MethodName × Nat) := [(⟨"EclipseHouseModel", "quarter", "(I)I"⟩, 50), (⟨"EclipseHouseModel", "sortOf", "(I)I"⟩, 50), (⟨"EclipseHouseModel", "notes", "()V"⟩, 50), (⟨"EclipseHouseModel", "dates", "(II)V"⟩, 50), (⟨"EclipseHouseModel", "monthDays", "(III)I"⟩, 50), (⟨"EclipseHouseModel", "packed", "(II)J"⟩, 50), (⟨"EclipseHouseModel", "reignOf", "(J)I"⟩, 50), (⟨"EclipseHouseModel", "reads", "(I)V"⟩, 50), (⟨"EclipseHouseModel", "whats", "()I"⟩, 50), (⟨"EclipseHouseModel", "takes", "([C)Z"⟩, 50), (⟨"EclipseHouseModel", "next", "()I"⟩, 50), (⟨"EclipseHouseModel", "wordEnd", "()I"⟩, 50), (⟨"EclipseHouseModel", "fail", "(II)V"⟩, 50), (⟨"EclipseHouseModel", "partOf", "()I"⟩, 50), (⟨"EclipseHouseModel", "number", "(II)I"⟩, 50), (⟨"EclipseHouseModel", "name", "()V"⟩, 50)]
theorem lw_r3 : ∀ q ∈ lw_privs_3, lw_okq q := List.forall_mem_cons.mpr ⟨lw_p32, List.forall_mem_cons.mpr ⟨lw_p33, List.forall_mem_cons.mpr ⟨lw_p34, List.forall_mem_cons.mpr ⟨lw_p35, List.forall_mem_cons.mpr ⟨lw_p36, List.forall_mem_cons.mpr ⟨lw_p37, List.forall_mem_cons.mpr ⟨lw_p38, List.forall_mem_cons.mpr ⟨lw_p39, List.forall_mem_cons.mpr ⟨lw_p40, List.forall_mem_cons.mpr ⟨lw_p41, List.forall_mem_cons.mpr ⟨lw_p42, List.forall_mem_cons.mpr ⟨lw_p43, List.forall_mem_cons.mpr ⟨lw_p44, List.forall_mem_cons.mpr ⟨lw_p45, List.forall_mem_cons.mpr ⟨lw_p46, List.forall_mem_cons.mpr ⟨lw_p47, fun _ h => absurd h List.not_mem_nil⟩⟩⟩⟩⟩⟩⟩⟩⟩⟩⟩⟩⟩⟩⟩⟩
theorem lw_p48 : lw_okq (⟨"EclipseHouseModel", "isAsked", "(II)Z"⟩, 50) := ⟨⟨by decide +kernel, by decide +kernel⟩, List.mem_of_getElem? (i := 758) (by decide +kernel), List.mem_of_getElem? (i := 1097) (by decide +kernel), List.mem_of_getElem? (i := 1098) (by decide +kernel)⟩
theorem lw_p49 : lw_okq (⟨"EclipseHouseModel", "isRecord", "(I)Z"⟩, 50) := ⟨⟨by decide +kernel, by decide +kernel⟩, List.mem_of_getElem? (i := 758) (by decide +kernel), List.mem_of_getElem? (i := 1101) (by decide +kernel), List.mem_of_getElem? (i := 1102) (by decide +kernel)⟩
theorem lw_p50 : lw_okq (⟨"EclipseHouseModel", "differs", "(III)I"⟩, 50) := ⟨⟨by decide +kernel, by decide +kernel⟩, List.mem_of_getElem? (i := 758) (by decide +kernel), List.mem_of_getElem? (i := 1105) (by decide +kernel), List.mem_of_getElem? (i := 1106) (by decide +kernel)⟩
theorem lw_p51 : lw_okq (⟨"EclipseHouseModel", "isLet", "(II)Z"⟩, 50) := ⟨⟨by decide +kernel, by decide +kernel⟩, List.mem_of_getElem? (i := 758) (by decide +kernel), List.mem_of_getElem? (i := 1121) (by decide +kernel), List.mem_of_getElem? (i := 1122) (by decide +kernel)⟩
def lw_privs_4 : List (MethodName × Nat) := [(⟨"EclipseHouseModel", "isAsked", "(II)Z"⟩, 50), (⟨"EclipseHouseModel", "isRecord", "(I)Z"⟩, 50), (⟨"EclipseHouseModel", "differs", "(III)I"⟩, 50), (⟨"EclipseHouseModel", "isLet", "(II)Z"⟩, 50)]
theorem lw_r4 : ∀ q ∈ lw_privs_4, lw_okq q := List.forall_mem_cons.mpr ⟨lw_p48, List.forall_mem_cons.mpr ⟨lw_p49, List.forall_mem_cons.mpr ⟨lw_p50, List.forall_mem_cons.mpr ⟨lw_p51, fun _ h => absurd h List.not_mem_nil⟩⟩⟩⟩
def lw_privs : List (MethodName × Nat) := lw_privs_1 ++ (lw_privs_2 ++ (lw_privs_3 ++ (lw_privs_4)))
def lw_tbl : List Cond := k2_sels lw_privs ++ tables_1
theorem lw_privs_ok : ∀ q ∈ lw_privs, lw_okq q := by
  show ∀ q ∈ lw_privs_1 ++ (lw_privs_2 ++ (lw_privs_3 ++ (lw_privs_4))), lw_okq q
  exact List.forall_mem_append.mpr ⟨lw_r1, List.forall_mem_append.mpr ⟨lw_r2, List.forall_mem_append.mpr ⟨lw_r3, lw_r4⟩⟩⟩

/-- the words that may be handed to a callee -/
def tb : List Cond := lw_tbl.filter goodWord
theorem tb_mem {w : Cond} (i : Nat) (h : lw_tbl[i]? = some w) (g : goodWord w = true) : w ∈ tb := List.mem_filter.mpr ⟨List.mem_of_getElem? h, g⟩
theorem tb_good {w : Cond} (h : w ∈ tb) : goodWord w = true := (List.mem_filter.mp h).2
theorem tb_tbl {w : Cond} (h : w ∈ tb) : w ∈ lw_tbl := (List.mem_filter.mp h).1
theorem tb_m0 {w : Cond} (h : w ∈ k2_sels lw_privs) (g : goodWord w = true) : w ∈ tb := List.mem_filter.mpr ⟨List.mem_append_left _ h, g⟩
theorem tb_m1 {w : Cond} (h : w ∈ tables_1_1) (g : goodWord w = true) : w ∈ tb := List.mem_filter.mpr ⟨List.mem_append_right _ (List.mem_append_left _ h), g⟩
theorem tb_m2 {w : Cond} (h : w ∈ tables_1_2) (g : goodWord w = true) : w ∈ tb := List.mem_filter.mpr ⟨List.mem_append_right _ (List.mem_append_right _ (List.mem_append_left _ h)), g⟩
theorem tb_m3 {w : Cond} (h : w ∈ tables_1_3) (g : goodWord w = true) : w ∈ tb := List.mem_filter.mpr ⟨List.mem_append_right _ (List.mem_append_right _ (List.mem_append_right _ (List.mem_append_left _ h))), g⟩
theorem tb_m4 {w : Cond} (h : w ∈ tables_1_4) (g : goodWord w = true) : w ∈ tb := List.mem_filter.mpr ⟨List.mem_append_right _ (List.mem_append_right _ (List.mem_append_right _ (List.mem_append_right _ (List.mem_append_left _ h)))), g⟩
theorem tb_m5 {w : Cond} (h : w ∈ tables_1_5) (g : goodWord w = true) : w ∈ tb := List.mem_filter.mpr ⟨List.mem_append_right _ (List.mem_append_right _ (List.mem_append_right _ (List.mem_append_right _ (List.mem_append_right _ h)))), g⟩
theorem tb_sub : GoodIn tb tb := fun w h => ⟨h, good_of_word (tb_good h)⟩
end
section
def RX0 : String := "EclipseHouse$Account"
def TX0 : u_T := fun k => match k with
  | 0 => ("EclipseHouse$Account", "kinds", "I", false)
  | 1 => ("EclipseHouse$Account", "calendar", "I", false)
  | 2 => ("EclipseHouse$Account", "east", "I", false)
  | 3 => ("EclipseHouse$Account", "yearZero", "I", false)
  | 4 => ("EclipseHouse$Account", "numbers", "[I", true)
  | 5 => ("EclipseHouse$Account", "slows", "J", false)
  | _ => ("EclipseHouse$Account", "slowsVersion", "I", false)
def tyX0 : Nat → FieldType := fun k => match k with
  | 0 => .int
  | 1 => .int
  | 2 => .int
  | 3 => .int
  | 4 => .array .int
  | 5 => .long
  | _ => .int
abbrev wsX00 : List Cond := u_ws RX0 TX0 7
theorem nmX0 : ∀ a, a < 7 → ∀ b, b < 7 → a ≠ b → (TX0 a).2.1 ≠ (TX0 b).2.1 := by decide +kernel
theorem tyX0_ok : ∀ k, k < 7 → parseFieldDescriptor (TX0 k).2.2.1 = some (tyX0 k) := by decide +kernel
abbrev cX0_init : ByteArray := prog_2_method_1_code
def yX0_init : MethodName := ⟨RX0, "<init>", "()V"⟩
abbrev cX0_clear : ByteArray := prog_2_method_2_code
def yX0_clear : MethodName := ⟨RX0, "clear", "(I)V"⟩
abbrev cX0_setKinds : ByteArray := prog_2_method_3_code
def yX0_setKinds : MethodName := ⟨RX0, "setKinds", "(I)V"⟩
abbrev cX0_setCalendar : ByteArray := prog_2_method_4_code
def yX0_setCalendar : MethodName := ⟨RX0, "setCalendar", "(I)V"⟩
abbrev cX0_setYearZero : ByteArray := prog_2_method_5_code
def yX0_setYearZero : MethodName := ⟨RX0, "setYearZero", "(I)V"⟩
abbrev cX0_setNumber : ByteArray := prog_2_method_6_code
def yX0_setNumber : MethodName := ⟨RX0, "setNumber", "(II)V"⟩
abbrev cX0_has : ByteArray := prog_2_method_7_code
def yX0_has : MethodName := ⟨RX0, "has", "(I)Z"⟩
abbrev cX0_countMeant : ByteArray := prog_2_method_8_code
def yX0_countMeant : MethodName := ⟨RX0, "countMeant", "(LEclipseHouse$Sky;I)I"⟩
abbrev cX0_findMeant : ByteArray := prog_2_method_9_code
def yX0_findMeant : MethodName := ⟨RX0, "findMeant", "(LEclipseHouse$Sky;II)I"⟩
abbrev cX0_leastSlips : ByteArray := prog_2_method_10_code
def yX0_leastSlips : MethodName := ⟨RX0, "leastSlips", "(LEclipseHouse$Sky;I)I"⟩
abbrev cX0_slowsLet : ByteArray := prog_2_method_11_code
def yX0_slowsLet : MethodName := ⟨RX0, "slowsLet", "(LEclipseHouse$Sky;)J"⟩
abbrev cX0_slowsMeaning : ByteArray := prog_2_method_12_code
def yX0_slowsMeaning : MethodName := ⟨RX0, "slowsMeaning", "(LEclipseHouse$Sky;I)J"⟩
abbrev cX0_slowsWithin : ByteArray := prog_2_method_13_code
def yX0_slowsWithin : MethodName := ⟨RX0, "slowsWithin", "(II)J"⟩
abbrev cX0_hoursAt : ByteArray := prog_2_method_14_code
def yX0_hoursAt : MethodName := ⟨RX0, "hoursAt", "(II)I"⟩
abbrev cX0_isOfKind : ByteArray := prog_2_method_15_code
def yX0_isOfKind : MethodName := ⟨RX0, "isOfKind", "(LEclipseHouse$Sky;I)Z"⟩
abbrev cX0_isMeant : ByteArray := prog_2_method_16_code
def yX0_isMeant : MethodName := ⟨RX0, "isMeant", "(LEclipseHouse$Sky;II)Z"⟩
abbrev cX0_hoursSeen : ByteArray := prog_2_method_17_code
def yX0_hoursSeen : MethodName := ⟨RX0, "hoursSeen", "(LEclipseHouse$Sky;II)I"⟩
abbrev cX0_isSeenAt : ByteArray := prog_2_method_18_code
def yX0_isSeenAt : MethodName := ⟨RX0, "isSeenAt", "(IZ)Z"⟩
abbrev cX0_slipsAt : ByteArray := prog_2_method_19_code
def yX0_slipsAt : MethodName := ⟨RX0, "slipsAt", "(II)I"⟩
abbrev cX0_canTell : ByteArray := prog_2_method_20_code
def yX0_canTell : MethodName := ⟨RX0, "canTell", "(I)Z"⟩
abbrev cX0_slipOf : ByteArray := prog_2_method_21_code
def yX0_slipOf : MethodName := ⟨RX0, "slipOf", "(II)I"⟩
def RX1 : String := "EclipseHouse$Archive"
def TX1 : u_T := fun k => match k with
  | 0 => ("EclipseHouse$Archive", "accounts", "[LEclipseHouse$Account;", true)
  | _ => ("EclipseHouse$Archive", "count", "I", false)
def tyX1 : Nat → FieldType := fun k => match k with
  | 0 => .array (.object "EclipseHouse$Account")
  | _ => .int
abbrev wsX10 : List Cond := u_ws RX1 TX1 2
theorem nmX1 : ∀ a, a < 2 → ∀ b, b < 2 → a ≠ b → (TX1 a).2.1 ≠ (TX1 b).2.1 := by decide +kernel
theorem tyX1_ok : ∀ k, k < 2 → parseFieldDescriptor (TX1 k).2.2.1 = some (tyX1 k) := by decide +kernel
abbrev cX1_init : ByteArray := prog_3_method_1_code
def yX1_init : MethodName := ⟨RX1, "<init>", "()V"⟩
abbrev cX1_hasRoom : ByteArray := prog_3_method_2_code
def yX1_hasRoom : MethodName := ⟨RX1, "hasRoom", "()Z"⟩
abbrev cX1_spare : ByteArray := prog_3_method_3_code
def yX1_spare : MethodName := ⟨RX1, "spare", "()LEclipseHouse$Account;"⟩
abbrev cX1_keepSpare : ByteArray := prog_3_method_4_code
def yX1_keepSpare : MethodName := ⟨RX1, "keepSpare", "()I"⟩
abbrev cX1_find : ByteArray := prog_3_method_5_code
def yX1_find : MethodName := ⟨RX1, "find", "(I)LEclipseHouse$Account;"⟩
abbrev cX1_remove : ByteArray := prog_3_method_6_code
def yX1_remove : MethodName := ⟨RX1, "remove", "(I)I"⟩
abbrev cX1_slowsOfAll : ByteArray := prog_3_method_7_code
def yX1_slowsOfAll : MethodName := ⟨RX1, "slowsOfAll", "(LEclipseHouse$Sky;)J"⟩
def RX2 : String := "EclipseHouse$Calendars"
def TX2 : u_T := fun k => match k with
  | _ => ("", "", "", false)
def tyX2 : Nat → FieldType := fun k => match k with
  | _ => .int
abbrev wsX20 : List Cond := u_ws RX2 TX2 0
theorem nmX2 : ∀ a, a < 0 → ∀ b, b < 0 → a ≠ b → (TX2 a).2.1 ≠ (TX2 b).2.1 := by decide +kernel
theorem tyX2_ok : ∀ k, k < 0 → parseFieldDescriptor (TX2 k).2.2.1 = some (tyX2 k) := by decide +kernel
abbrev cX2_isCalendar : ByteArray := prog_4_method_2_code
def yX2_isCalendar : MethodName := ⟨RX2, "isCalendar", "(I)Z"⟩
abbrev cX2_firstDay : ByteArray := prog_4_method_3_code
def yX2_firstDay : MethodName := ⟨RX2, "firstDay", "(II)I"⟩
abbrev cX2_monthLength : ByteArray := prog_4_method_4_code
def yX2_monthLength : MethodName := ⟨RX2, "monthLength", "(III)I"⟩
abbrev cX2_yearOf : ByteArray := prog_4_method_5_code
def yX2_yearOf : MethodName := ⟨RX2, "yearOf", "(II)I"⟩
abbrev cX2_guessYear : ByteArray := prog_4_method_6_code
def yX2_guessYear : MethodName := ⟨RX2, "guessYear", "(II)I"⟩
abbrev cX2_monthDayOf : ByteArray := prog_4_method_7_code
def yX2_monthDayOf : MethodName := ⟨RX2, "monthDayOf", "(III)I"⟩
abbrev cX2_monthIn : ByteArray := prog_4_method_8_code
def yX2_monthIn : MethodName := ⟨RX2, "monthIn", "(I)I"⟩
abbrev cX2_dayIn : ByteArray := prog_4_method_9_code
def yX2_dayIn : MethodName := ⟨RX2, "dayIn", "(I)I"⟩
abbrev cX2_dayOf : ByteArray := prog_4_method_10_code
def yX2_dayOf : MethodName := ⟨RX2, "dayOf", "(IIII)I"⟩
def RX3 : String := "EclipseHouse$Reader"
def TX3 : u_T := fun k => match k with
  | 0 => ("EclipseHouse$Reader", "tape", "LEclipseHouse$Tape;", true)
  | 1 => ("EclipseHouse$Reader", "reigns", "LEclipseHouse$Reigns;", true)
  | 2 => ("EclipseHouse$Reader", "account", "LEclipseHouse$Account;", false)
  | 3 => ("EclipseHouse$Reader", "sort", "I", false)
  | 4 => ("EclipseHouse$Reader", "start", "I", false)
  | 5 => ("EclipseHouse$Reader", "stop", "I", false)
  | 6 => ("EclipseHouse$Reader", "calendar", "I", false)
  | 7 => ("EclipseHouse$Reader", "ruler", "I", false)
  | 8 => ("EclipseHouse$Reader", "rulerPlace", "I", false)
  | 9 => ("EclipseHouse$Reader", "fault", "I", false)
  | _ => ("EclipseHouse$Reader", "place", "I", false)
def tyX3 : Nat → FieldType := fun k => match k with
  | 0 => .object "EclipseHouse$Tape"
  | 1 => .object "EclipseHouse$Reigns"
  | 2 => .object "EclipseHouse$Account"
  | 3 => .int
  | 4 => .int
  | 5 => .int
  | 6 => .int
  | 7 => .int
  | 8 => .int
  | 9 => .int
  | _ => .int
abbrev wsX30 : List Cond := u_ws RX3 TX3 11
theorem nmX3 : ∀ a, a < 11 → ∀ b, b < 11 → a ≠ b → (TX3 a).2.1 ≠ (TX3 b).2.1 := by decide +kernel
theorem tyX3_ok : ∀ k, k < 11 → parseFieldDescriptor (TX3 k).2.2.1 = some (tyX3 k) := by decide +kernel
abbrev cX3_init : ByteArray := prog_5_method_1_code
def yX3_init : MethodName := ⟨RX3, "<init>", "(LEclipseHouse$Tape;LEclipseHouse$Reigns;)V"⟩
abbrev cX3_faultKind : ByteArray := prog_5_method_2_code
def yX3_faultKind : MethodName := ⟨RX3, "faultKind", "()I"⟩
abbrev cX3_faultPlace : ByteArray := prog_5_method_3_code
def yX3_faultPlace : MethodName := ⟨RX3, "faultPlace", "()I"⟩
abbrev cX3_read : ByteArray := prog_5_method_4_code
def yX3_read : MethodName := ⟨RX3, "read", "(LEclipseHouse$Account;I)Z"⟩
abbrev cX3_refuse : ByteArray := prog_5_method_5_code
def yX3_refuse : MethodName := ⟨RX3, "refuse", "(II)Z"⟩
abbrev cX3_advance : ByteArray := prog_5_method_6_code
def yX3_advance : MethodName := ⟨RX3, "advance", "()V"⟩
abbrev cX3_takeSign : ByteArray := prog_5_method_7_code
def yX3_takeSign : MethodName := ⟨RX3, "takeSign", "()V"⟩
abbrev cX3_isWord : ByteArray := prog_5_method_8_code
def yX3_isWord : MethodName := ⟨RX3, "isWord", "(Ljava/lang/String;)Z"⟩
abbrev cX3_readWhat : ByteArray := prog_5_method_9_code
def yX3_readWhat : MethodName := ⟨RX3, "readWhat", "()Z"⟩
abbrev cX3_sunKind : ByteArray := prog_5_method_10_code
def yX3_sunKind : MethodName := ⟨RX3, "sunKind", "()I"⟩
abbrev cX3_moonKind : ByteArray := prog_5_method_11_code
def yX3_moonKind : MethodName := ⟨RX3, "moonKind", "()I"⟩
abbrev cX3_readParts : ByteArray := prog_5_method_12_code
def yX3_readParts : MethodName := ⟨RX3, "readParts", "()Z"⟩
abbrev cX3_partHere : ByteArray := prog_5_method_13_code
def yX3_partHere : MethodName := ⟨RX3, "partHere", "()I"⟩
abbrev cX3_readPart : ByteArray := prog_5_method_14_code
def yX3_readPart : MethodName := ⟨RX3, "readPart", "()Z"⟩
abbrev cX3_readNumber : ByteArray := prog_5_method_15_code
def yX3_readNumber : MethodName := ⟨RX3, "readNumber", "(I)Z"⟩
abbrev cX3_readRuler : ByteArray := prog_5_method_16_code
def yX3_readRuler : MethodName := ⟨RX3, "readRuler", "()Z"⟩
abbrev cX3_readCalendar : ByteArray := prog_5_method_17_code
def yX3_readCalendar : MethodName := ⟨RX3, "readCalendar", "()Z"⟩
abbrev cX3_readClose : ByteArray := prog_5_method_18_code
def yX3_readClose : MethodName := ⟨RX3, "readClose", "()Z"⟩
abbrev cX3_joinRuler : ByteArray := prog_5_method_19_code
def yX3_joinRuler : MethodName := ⟨RX3, "joinRuler", "()Z"⟩
def RX4 : String := "EclipseHouse$Reigns"
def TX4 : u_T := fun k => match k with
  | 0 => ("EclipseHouse$Reigns", "names", "[I", true)
  | 1 => ("EclipseHouse$Reigns", "calendars", "[I", true)
  | 2 => ("EclipseHouse$Reigns", "years", "[I", true)
  | _ => ("EclipseHouse$Reigns", "count", "I", false)
def tyX4 : Nat → FieldType := fun k => match k with
  | 0 => .array .int
  | 1 => .array .int
  | 2 => .array .int
  | _ => .int
abbrev wsX40 : List Cond := u_ws RX4 TX4 4
theorem nmX4 : ∀ a, a < 4 → ∀ b, b < 4 → a ≠ b → (TX4 a).2.1 ≠ (TX4 b).2.1 := by decide +kernel
theorem tyX4_ok : ∀ k, k < 4 → parseFieldDescriptor (TX4 k).2.2.1 = some (tyX4 k) := by decide +kernel
abbrev cX4_init : ByteArray := prog_6_method_1_code
def yX4_init : MethodName := ⟨RX4, "<init>", "()V"⟩
abbrev cX4_begin : ByteArray := prog_6_method_2_code
def yX4_begin : MethodName := ⟨RX4, "begin", "(III)I"⟩
abbrev cX4_find : ByteArray := prog_6_method_3_code
def yX4_find : MethodName := ⟨RX4, "find", "(I)I"⟩
abbrev cX4_isThere : ByteArray := prog_6_method_4_code
def yX4_isThere : MethodName := ⟨RX4, "isThere", "(I)Z"⟩
abbrev cX4_calendarOf : ByteArray := prog_6_method_5_code
def yX4_calendarOf : MethodName := ⟨RX4, "calendarOf", "(I)I"⟩
abbrev cX4_firstYearOf : ByteArray := prog_6_method_6_code
def yX4_firstYearOf : MethodName := ⟨RX4, "firstYearOf", "(I)I"⟩
def RX5 : String := "EclipseHouse$Sky"
def TX5 : u_T := fun k => match k with
  | 0 => ("EclipseHouse$Sky", "moonStart", "I", false)
  | 1 => ("EclipseHouse$Sky", "sunStart", "I", false)
  | 2 => ("EclipseHouse$Sky", "nodeStart", "I", false)
  | 3 => ("EclipseHouse$Sky", "version", "I", false)
  | 4 => ("EclipseHouse$Sky", "listed", "Z", false)
  | 5 => ("EclipseHouse$Sky", "listSize", "I", false)
  | 6 => ("EclipseHouse$Sky", "listMoon", "[I", true)
  | 7 => ("EclipseHouse$Sky", "listKind", "[I", true)
  | _ => ("EclipseHouse$Sky", "listTime", "[I", true)
def tyX5 : Nat → FieldType := fun k => match k with
  | 0 => .int
  | 1 => .int
  | 2 => .int
  | 3 => .int
  | 4 => .boolean
  | 5 => .int
  | 6 => .array .int
  | 7 => .array .int
  | _ => .array .int
abbrev wsX50 : List Cond := u_ws RX5 TX5 9
theorem nmX5 : ∀ a, a < 9 → ∀ b, b < 9 → a ≠ b → (TX5 a).2.1 ≠ (TX5 b).2.1 := by decide +kernel
theorem tyX5_ok : ∀ k, k < 9 → parseFieldDescriptor (TX5 k).2.2.1 = some (tyX5 k) := by decide +kernel
abbrev cX5_init : ByteArray := prog_7_method_1_code
def yX5_init : MethodName := ⟨RX5, "<init>", "()V"⟩
abbrev cX5_isMoon : ByteArray := prog_7_method_2_code
def yX5_isMoon : MethodName := ⟨RX5, "isMoon", "(I)Z"⟩
abbrev cX5_isPlace : ByteArray := prog_7_method_3_code
def yX5_isPlace : MethodName := ⟨RX5, "isPlace", "(I)Z"⟩
abbrev cX5_setTables : ByteArray := prog_7_method_4_code
def yX5_setTables : MethodName := ⟨RX5, "setTables", "(III)Z"⟩
abbrev cX5_tablesVersion : ByteArray := prog_7_method_5_code
def yX5_tablesVersion : MethodName := ⟨RX5, "tablesVersion", "()I"⟩
abbrev cX5_moonPlace : ByteArray := prog_7_method_6_code
def yX5_moonPlace : MethodName := ⟨RX5, "moonPlace", "(I)I"⟩
abbrev cX5_sunPlace : ByteArray := prog_7_method_7_code
def yX5_sunPlace : MethodName := ⟨RX5, "sunPlace", "(I)I"⟩
abbrev cX5_nodePlace : ByteArray := prog_7_method_8_code
def yX5_nodePlace : MethodName := ⟨RX5, "nodePlace", "(I)I"⟩
abbrev cX5_timeOf : ByteArray := prog_7_method_9_code
def yX5_timeOf : MethodName := ⟨RX5, "timeOf", "(I)I"⟩
abbrev cX5_waveOf : ByteArray := prog_7_method_10_code
def yX5_waveOf : MethodName := ⟨RX5, "waveOf", "(I)I"⟩
abbrev cX5_halfWave : ByteArray := prog_7_method_11_code
def yX5_halfWave : MethodName := ⟨RX5, "halfWave", "(I)I"⟩
abbrev cX5_kindOf : ByteArray := prog_7_method_12_code
def yX5_kindOf : MethodName := ⟨RX5, "kindOf", "(I)I"⟩
abbrev cX5_sunKind : ByteArray := prog_7_method_13_code
def yX5_sunKind : MethodName := ⟨RX5, "sunKind", "(II)I"⟩
abbrev cX5_moonKind : ByteArray := prog_7_method_14_code
def yX5_moonKind : MethodName := ⟨RX5, "moonKind", "(I)I"⟩
abbrev cX5_firstOfRound : ByteArray := prog_7_method_15_code
def yX5_firstOfRound : MethodName := ⟨RX5, "firstOfRound", "(I)I"⟩
abbrev cX5_lastOfRound : ByteArray := prog_7_method_16_code
def yX5_lastOfRound : MethodName := ⟨RX5, "lastOfRound", "(I)I"⟩
abbrev cX5_minuteSeen : ByteArray := prog_7_method_17_code
def yX5_minuteSeen : MethodName := ⟨RX5, "minuteSeen", "(III)I"⟩
abbrev cX5_listEclipses : ByteArray := prog_7_method_18_code
def yX5_listEclipses : MethodName := ⟨RX5, "listEclipses", "()I"⟩
abbrev cX5_isListed : ByteArray := prog_7_method_19_code
def yX5_isListed : MethodName := ⟨RX5, "isListed", "(I)Z"⟩
abbrev cX5_moonAt : ByteArray := prog_7_method_20_code
def yX5_moonAt : MethodName := ⟨RX5, "moonAt", "(I)I"⟩
abbrev cX5_kindAt : ByteArray := prog_7_method_21_code
def yX5_kindAt : MethodName := ⟨RX5, "kindAt", "(I)I"⟩
abbrev cX5_isOfSunAt : ByteArray := prog_7_method_22_code
def yX5_isOfSunAt : MethodName := ⟨RX5, "isOfSunAt", "(I)Z"⟩
abbrev cX5_timeAt : ByteArray := prog_7_method_23_code
def yX5_timeAt : MethodName := ⟨RX5, "timeAt", "(I)I"⟩
abbrev cX5_isAsked : ByteArray := prog_7_method_24_code
def yX5_isAsked : MethodName := ⟨RX5, "isAsked", "(II)Z"⟩
abbrev cX5_findEclipse : ByteArray := prog_7_method_25_code
def yX5_findEclipse : MethodName := ⟨RX5, "findEclipse", "(III)I"⟩
abbrev cX5_countEclipses : ByteArray := prog_7_method_26_code
def yX5_countEclipses : MethodName := ⟨RX5, "countEclipses", "(III)I"⟩
def RX6 : String := "EclipseHouse$Tape"
def TX6 : u_T := fun k => match k with
  | 0 => ("EclipseHouse$Tape", "bytes", "[I", true)
  | _ => ("EclipseHouse$Tape", "length", "I", false)
def tyX6 : Nat → FieldType := fun k => match k with
  | 0 => .array .int
  | _ => .int
abbrev wsX60 : List Cond := u_ws RX6 TX6 2
theorem nmX6 : ∀ a, a < 2 → ∀ b, b < 2 → a ≠ b → (TX6 a).2.1 ≠ (TX6 b).2.1 := by decide +kernel
theorem tyX6_ok : ∀ k, k < 2 → parseFieldDescriptor (TX6 k).2.2.1 = some (tyX6 k) := by decide +kernel
abbrev cX6_init : ByteArray := prog_8_method_1_code
def yX6_init : MethodName := ⟨RX6, "<init>", "()V"⟩
abbrev cX6_size : ByteArray := prog_8_method_2_code
def yX6_size : MethodName := ⟨RX6, "size", "()I"⟩
abbrev cX6_hasRoom : ByteArray := prog_8_method_3_code
def yX6_hasRoom : MethodName := ⟨RX6, "hasRoom", "()Z"⟩
abbrev cX6_addNumber : ByteArray := prog_8_method_4_code
def yX6_addNumber : MethodName := ⟨RX6, "addNumber", "(I)V"⟩
abbrev cX6_cutTo : ByteArray := prog_8_method_5_code
def yX6_cutTo : MethodName := ⟨RX6, "cutTo", "(I)Z"⟩
abbrev cX6_clear : ByteArray := prog_8_method_6_code
def yX6_clear : MethodName := ⟨RX6, "clear", "()V"⟩
abbrev cX6_byteAt : ByteArray := prog_8_method_7_code
def yX6_byteAt : MethodName := ⟨RX6, "byteAt", "(I)I"⟩
abbrev cX6_isLetter : ByteArray := prog_8_method_8_code
def yX6_isLetter : MethodName := ⟨RX6, "isLetter", "(I)Z"⟩
abbrev cX6_isDigit : ByteArray := prog_8_method_9_code
def yX6_isDigit : MethodName := ⟨RX6, "isDigit", "(I)Z"⟩
abbrev cX6_isBlank : ByteArray := prog_8_method_10_code
def yX6_isBlank : MethodName := ⟨RX6, "isBlank", "(I)Z"⟩
abbrev cX6_nameBetween : ByteArray := prog_8_method_11_code
def yX6_nameBetween : MethodName := ⟨RX6, "nameBetween", "(II)I"⟩
def RX7 : String := "EclipseHouse"
def TX7 : u_T := fun k => match k with
  | 0 => ("EclipseHouse", "sky", "LEclipseHouse$Sky;", true)
  | 1 => ("EclipseHouse", "tape", "LEclipseHouse$Tape;", true)
  | 2 => ("EclipseHouse", "reigns", "LEclipseHouse$Reigns;", true)
  | 3 => ("EclipseHouse", "archive", "LEclipseHouse$Archive;", true)
  | _ => ("EclipseHouse", "reader", "LEclipseHouse$Reader;", true)
def tyX7 : Nat → FieldType := fun k => match k with
  | 0 => .object "EclipseHouse$Sky"
  | 1 => .object "EclipseHouse$Tape"
  | 2 => .object "EclipseHouse$Reigns"
  | 3 => .object "EclipseHouse$Archive"
  | _ => .object "EclipseHouse$Reader"
abbrev wsX70 : List Cond := u_ws RX7 TX7 5
theorem nmX7 : ∀ a, a < 5 → ∀ b, b < 5 → a ≠ b → (TX7 a).2.1 ≠ (TX7 b).2.1 := by decide +kernel
theorem tyX7_ok : ∀ k, k < 5 → parseFieldDescriptor (TX7 k).2.2.1 = some (tyX7 k) := by decide +kernel
abbrev cX7_init : ByteArray := prog_1_method_1_code
def yX7_init : MethodName := ⟨RX7, "<init>", "()V"⟩
abbrev cX7_tables : ByteArray := prog_1_method_2_code
def yX7_tables : MethodName := ⟨RX7, "tables", "(III)Z"⟩
abbrev cX7_moon : ByteArray := prog_1_method_3_code
def yX7_moon : MethodName := ⟨RX7, "moon", "(II)I"⟩
abbrev cX7_next : ByteArray := prog_1_method_4_code
def yX7_next : MethodName := ⟨RX7, "next", "(III)I"⟩
abbrev cX7_round : ByteArray := prog_1_method_5_code
def yX7_round : MethodName := ⟨RX7, "round", "(II)I"⟩
abbrev cX7_many : ByteArray := prog_1_method_6_code
def yX7_many : MethodName := ⟨RX7, "many", "(III)I"⟩
abbrev cX7_date : ByteArray := prog_1_method_7_code
def yX7_date : MethodName := ⟨RX7, "date", "(III)I"⟩
abbrev cX7_day : ByteArray := prog_1_method_8_code
def yX7_day : MethodName := ⟨RX7, "day", "(IIII)I"⟩
abbrev cX7_seen : ByteArray := prog_1_method_9_code
def yX7_seen : MethodName := ⟨RX7, "seen", "(III)I"⟩
abbrev cX7_feed : ByteArray := prog_1_method_10_code
def yX7_feed : MethodName := ⟨RX7, "feed", "(IIIII)I"⟩
abbrev cX7_end : ByteArray := prog_1_method_11_code
def yX7_end : MethodName := ⟨RX7, "end", "(I)Z"⟩
abbrev cX7_reign : ByteArray := prog_1_method_12_code
def yX7_reign : MethodName := ⟨RX7, "reign", "(II)I"⟩
abbrev cX7_record : ByteArray := prog_1_method_13_code
def yX7_record : MethodName := ⟨RX7, "record", "(I)I"⟩
abbrev cX7_fault : ByteArray := prog_1_method_14_code
def yX7_fault : MethodName := ⟨RX7, "fault", "(I)I"⟩
abbrev cX7_means : ByteArray := prog_1_method_15_code
def yX7_means : MethodName := ⟨RX7, "means", "(II)I"⟩
abbrev cX7_meant : ByteArray := prog_1_method_16_code
def yX7_meant : MethodName := ⟨RX7, "meant", "(III)I"⟩
abbrev cX7_slips : ByteArray := prog_1_method_17_code
def yX7_slips : MethodName := ⟨RX7, "slips", "(II)I"⟩
abbrev cX7_lets : ByteArray := prog_1_method_18_code
def yX7_lets : MethodName := ⟨RX7, "lets", "(I)I"⟩
abbrev cX7_slow : ByteArray := prog_1_method_19_code
def yX7_slow : MethodName := ⟨RX7, "slow", "(I)I"⟩
abbrev cX7_drop : ByteArray := prog_1_method_20_code
def yX7_drop : MethodName := ⟨RX7, "drop", "(I)I"⟩
abbrev cX7_isEast : ByteArray := prog_1_method_21_code
def yX7_isEast : MethodName := ⟨RX7, "isEast", "(I)Z"⟩
abbrev cX7_isSlow : ByteArray := prog_1_method_22_code
def yX7_isSlow : MethodName := ⟨RX7, "isSlow", "(I)Z"⟩
def RX8 : String := "EclipseHouseModel"
def TX8 : u_T := fun k => match k with
  | 0 => ("EclipseHouseModel", "a", "I", false)
  | 1 => ("EclipseHouseModel", "b", "I", false)
  | 2 => ("EclipseHouseModel", "f", "I", false)
  | 3 => ("EclipseHouseModel", "isNoted", "Z", false)
  | 4 => ("EclipseHouseModel", "eclipses", "I", false)
  | 5 => ("EclipseHouseModel", "eclipse", "[I", true)
  | 6 => ("EclipseHouseModel", "sort", "[I", true)
  | 7 => ("EclipseHouseModel", "minute", "[I", true)
  | 8 => ("EclipseHouseModel", "waveRow", "[I", true)
  | 9 => ("EclipseHouseModel", "leapMonths", "[I", true)
  | 10 => ("EclipseHouseModel", "dateYear", "I", false)
  | 11 => ("EclipseHouseModel", "dateMonth", "I", false)
  | 12 => ("EclipseHouseModel", "dateDay", "I", false)
  | 13 => ("EclipseHouseModel", "tape", "[I", true)
  | 14 => ("EclipseHouseModel", "taped", "I", false)
  | 15 => ("EclipseHouseModel", "at", "I", false)
  | 16 => ("EclipseHouseModel", "size", "I", false)
  | 17 => ("EclipseHouseModel", "ended", "I", false)
  | 18 => ("EclipseHouseModel", "bad", "I", false)
  | 19 => ("EclipseHouseModel", "badPlace", "I", false)
  | 20 => ("EclipseHouseModel", "fault", "I", false)
  | 21 => ("EclipseHouseModel", "faultPlace", "I", false)
  | 22 => ("EclipseHouseModel", "reigns", "I", false)
  | 23 => ("EclipseHouseModel", "reignName", "[J", true)
  | 24 => ("EclipseHouseModel", "reignCalendar", "[I", true)
  | 25 => ("EclipseHouseModel", "reignYear", "[I", true)
  | 26 => ("EclipseHouseModel", "records", "I", false)
  | 27 => ("EclipseHouseModel", "sorts", "[I", true)
  | 28 => ("EclipseHouseModel", "numbers", "[I", true)
  | 29 => ("EclipseHouseModel", "began", "[I", true)
  | 30 => ("EclipseHouseModel", "calendarOf", "[I", true)
  | 31 => ("EclipseHouseModel", "eastOf", "[I", true)
  | 32 => ("EclipseHouseModel", "namePlace", "I", false)
  | 33 => ("EclipseHouseModel", "nameReign", "I", false)
  | 34 => ("EclipseHouseModel", "sunWord", "[C", true)
  | 35 => ("EclipseHouseModel", "moonWord", "[C", true)
  | 36 => ("EclipseHouseModel", "totalWord", "[C", true)
  | 37 => ("EclipseHouseModel", "ringWord", "[C", true)
  | 38 => ("EclipseHouseModel", "partWord", "[C", true)
  | 39 => ("EclipseHouseModel", "wholeWord", "[C", true)
  | 40 => ("EclipseHouseModel", "halfWord", "[C", true)
  | 41 => ("EclipseHouseModel", "yearWord", "[C", true)
  | 42 => ("EclipseHouseModel", "monthWord", "[C", true)
  | 43 => ("EclipseHouseModel", "dayWord", "[C", true)
  | 44 => ("EclipseHouseModel", "hourWord", "[C", true)
  | 45 => ("EclipseHouseModel", "ofWord", "[C", true)
  | 46 => ("EclipseHouseModel", "inWord", "[C", true)
  | 47 => ("EclipseHouseModel", "evenWord", "[C", true)
  | 48 => ("EclipseHouseModel", "leapWord", "[C", true)
  | _ => ("EclipseHouseModel", "moonsWord", "[C", true)
def tyX8 : Nat → FieldType := fun k => match k with
  | 0 => .int
  | 1 => .int
  | 2 => .int
  | 3 => .boolean
  | 4 => .int
  | 5 => .array .int
  | 6 => .array .int
  | 7 => .array .int
  | 8 => .array .int
  | 9 => .array .int
  | 10 => .int
  | 11 => .int
  | 12 => .int
  | 13 => .array .int
  | 14 => .int
  | 15 => .int
  | 16 => .int
  | 17 => .int
  | 18 => .int
  | 19 => .int
  | 20 => .int
  | 21 => .int
  | 22 => .int
  | 23 => .array .long
  | 24 => .array .int
  | 25 => .array .int
  | 26 => .int
  | 27 => .array .int
  | 28 => .array .int
  | 29 => .array .int
  | 30 => .array .int
  | 31 => .array .int
  | 32 => .int
  | 33 => .int
  | 34 => .array .char
  | 35 => .array .char
  | 36 => .array .char
  | 37 => .array .char
  | 38 => .array .char
  | 39 => .array .char
  | 40 => .array .char
  | 41 => .array .char
  | 42 => .array .char
  | 43 => .array .char
  | 44 => .array .char
  | 45 => .array .char
  | 46 => .array .char
  | 47 => .array .char
  | 48 => .array .char
  | _ => .array .char
abbrev wsX80 : List Cond := u_ws RX8 TX8 50
theorem nmX8 : ∀ a, a < 50 → ∀ b, b < 50 → a ≠ b → (TX8 a).2.1 ≠ (TX8 b).2.1 := by decide +kernel
theorem tyX8_ok : ∀ k, k < 50 → parseFieldDescriptor (TX8 k).2.2.1 = some (tyX8 k) := by decide +kernel
abbrev cX8_init : ByteArray := prog_10_method_1_code
def yX8_init : MethodName := ⟨RX8, "<init>", "()V"⟩
abbrev cX8_isIn : ByteArray := prog_10_method_2_code
def yX8_isIn : MethodName := ⟨RX8, "isIn", "(III)Z"⟩
abbrev cX8_floor : ByteArray := prog_10_method_3_code
def yX8_floor : MethodName := ⟨RX8, "floor", "(JJ)J"⟩
abbrev cX8_tables : ByteArray := prog_10_method_4_code
def yX8_tables : MethodName := ⟨RX8, "tables", "(III)Z"⟩
abbrev cX8_moonAt : ByteArray := prog_10_method_5_code
def yX8_moonAt : MethodName := ⟨RX8, "moonAt", "(I)I"⟩
abbrev cX8_sunAt : ByteArray := prog_10_method_6_code
def yX8_sunAt : MethodName := ⟨RX8, "sunAt", "(I)I"⟩
abbrev cX8_nodeAt : ByteArray := prog_10_method_7_code
def yX8_nodeAt : MethodName := ⟨RX8, "nodeAt", "(I)I"⟩
abbrev cX8_quarter : ByteArray := prog_10_method_8_code
def yX8_quarter : MethodName := ⟨RX8, "quarter", "(I)I"⟩
abbrev cX8_wave : ByteArray := prog_10_method_9_code
def yX8_wave : MethodName := ⟨RX8, "wave", "(I)I"⟩
abbrev cX8_timeOf : ByteArray := prog_10_method_10_code
def yX8_timeOf : MethodName := ⟨RX8, "timeOf", "(I)I"⟩
abbrev cX8_sortOf : ByteArray := prog_10_method_11_code
def yX8_sortOf : MethodName := ⟨RX8, "sortOf", "(I)I"⟩
abbrev cX8_isMoon : ByteArray := prog_10_method_12_code
def yX8_isMoon : MethodName := ⟨RX8, "isMoon", "(I)Z"⟩
abbrev cX8_moon : ByteArray := prog_10_method_13_code
def yX8_moon : MethodName := ⟨RX8, "moon", "(II)I"⟩
abbrev cX8_notes : ByteArray := prog_10_method_14_code
def yX8_notes : MethodName := ⟨RX8, "notes", "()V"⟩
abbrev cX8_next : ByteArray := prog_10_method_15_code
def yX8_next : MethodName := ⟨RX8, "next", "(III)I"⟩
abbrev cX8_many : ByteArray := prog_10_method_16_code
def yX8_many : MethodName := ⟨RX8, "many", "(III)I"⟩
abbrev cX8_round : ByteArray := prog_10_method_17_code
def yX8_round : MethodName := ⟨RX8, "round", "(II)I"⟩
abbrev cX8_isLong : ByteArray := prog_10_method_18_code
def yX8_isLong : MethodName := ⟨RX8, "isLong", "(II)Z"⟩
abbrev cX8_yearDays : ByteArray := prog_10_method_19_code
def yX8_yearDays : MethodName := ⟨RX8, "yearDays", "(II)I"⟩
abbrev cX8_monthDays : ByteArray := prog_10_method_20_code
def yX8_monthDays : MethodName := ⟨RX8, "monthDays", "(III)I"⟩
abbrev cX8_dates : ByteArray := prog_10_method_21_code
def yX8_dates : MethodName := ⟨RX8, "dates", "(II)V"⟩
abbrev cX8_date : ByteArray := prog_10_method_22_code
def yX8_date : MethodName := ⟨RX8, "date", "(III)I"⟩
abbrev cX8_day : ByteArray := prog_10_method_23_code
def yX8_day : MethodName := ⟨RX8, "day", "(IIII)I"⟩
abbrev cX8_seenAt : ByteArray := prog_10_method_24_code
def yX8_seenAt : MethodName := ⟨RX8, "seenAt", "(III)I"⟩
abbrev cX8_seen : ByteArray := prog_10_method_25_code
def yX8_seen : MethodName := ⟨RX8, "seen", "(III)I"⟩
abbrev cX8_feed : ByteArray := prog_10_method_26_code
def yX8_feed : MethodName := ⟨RX8, "feed", "(IIIII)I"⟩
abbrev cX8_end : ByteArray := prog_10_method_27_code
def yX8_end : MethodName := ⟨RX8, "end", "(I)Z"⟩
abbrev cX8_fail : ByteArray := prog_10_method_28_code
def yX8_fail : MethodName := ⟨RX8, "fail", "(II)V"⟩
abbrev cX8_isLetter : ByteArray := prog_10_method_29_code
def yX8_isLetter : MethodName := ⟨RX8, "isLetter", "(I)Z"⟩
abbrev cX8_isDigit : ByteArray := prog_10_method_30_code
def yX8_isDigit : MethodName := ⟨RX8, "isDigit", "(I)Z"⟩
abbrev cX8_next_ : ByteArray := prog_10_method_31_code
def yX8_next_ : MethodName := ⟨RX8, "next", "()I"⟩
abbrev cX8_wordEnd : ByteArray := prog_10_method_32_code
def yX8_wordEnd : MethodName := ⟨RX8, "wordEnd", "()I"⟩
abbrev cX8_takes : ByteArray := prog_10_method_33_code
def yX8_takes : MethodName := ⟨RX8, "takes", "([C)Z"⟩
abbrev cX8_number : ByteArray := prog_10_method_34_code
def yX8_number : MethodName := ⟨RX8, "number", "(II)I"⟩
abbrev cX8_packed : ByteArray := prog_10_method_35_code
def yX8_packed : MethodName := ⟨RX8, "packed", "(II)J"⟩
abbrev cX8_reignOf : ByteArray := prog_10_method_36_code
def yX8_reignOf : MethodName := ⟨RX8, "reignOf", "(J)I"⟩
abbrev cX8_reign : ByteArray := prog_10_method_37_code
def yX8_reign : MethodName := ⟨RX8, "reign", "(II)I"⟩
abbrev cX8_whats : ByteArray := prog_10_method_38_code
def yX8_whats : MethodName := ⟨RX8, "whats", "()I"⟩
abbrev cX8_partOf : ByteArray := prog_10_method_39_code
def yX8_partOf : MethodName := ⟨RX8, "partOf", "()I"⟩
abbrev cX8_name : ByteArray := prog_10_method_40_code
def yX8_name : MethodName := ⟨RX8, "name", "()V"⟩
abbrev cX8_reads : ByteArray := prog_10_method_41_code
def yX8_reads : MethodName := ⟨RX8, "reads", "(I)V"⟩
abbrev cX8_record : ByteArray := prog_10_method_42_code
def yX8_record : MethodName := ⟨RX8, "record", "(I)I"⟩
abbrev cX8_fault : ByteArray := prog_10_method_43_code
def yX8_fault : MethodName := ⟨RX8, "fault", "(I)I"⟩
abbrev cX8_isRecord : ByteArray := prog_10_method_44_code
def yX8_isRecord : MethodName := ⟨RX8, "isRecord", "(I)Z"⟩
abbrev cX8_differs : ByteArray := prog_10_method_45_code
def yX8_differs : MethodName := ⟨RX8, "differs", "(III)I"⟩
abbrev cX8_isAsked : ByteArray := prog_10_method_46_code
def yX8_isAsked : MethodName := ⟨RX8, "isAsked", "(II)Z"⟩
abbrev cX8_means : ByteArray := prog_10_method_47_code
def yX8_means : MethodName := ⟨RX8, "means", "(II)I"⟩
abbrev cX8_meant : ByteArray := prog_10_method_48_code
def yX8_meant : MethodName := ⟨RX8, "meant", "(III)I"⟩
abbrev cX8_slips : ByteArray := prog_10_method_49_code
def yX8_slips : MethodName := ⟨RX8, "slips", "(II)I"⟩
abbrev cX8_isLet : ByteArray := prog_10_method_50_code
def yX8_isLet : MethodName := ⟨RX8, "isLet", "(II)Z"⟩
abbrev cX8_lets : ByteArray := prog_10_method_51_code
def yX8_lets : MethodName := ⟨RX8, "lets", "(I)I"⟩
abbrev cX8_slow : ByteArray := prog_10_method_52_code
def yX8_slow : MethodName := ⟨RX8, "slow", "(I)I"⟩
abbrev cX8_drop : ByteArray := prog_10_method_53_code
def yX8_drop : MethodName := ⟨RX8, "drop", "(I)I"⟩
def RJ6 : String := "java/lang/Integer"
def TJ6 : u_T := fun k => match k with
  | _ => ("", "", "", false)
def tyJ6 : Nat → FieldType := fun k => match k with
  | _ => .int
abbrev cJ6_numberOfLeadingZeros_0f7a4 : ByteArray := prog_11_method_47_code
def yJ6_numberOfLeadingZeros_0f7a4 : MethodName := ⟨RJ6, "numberOfLeadingZeros", "(I)I"⟩
abbrev cJ6_numberOfTrailingZeros_0f7a4 : ByteArray := prog_11_method_48_code
def yJ6_numberOfTrailingZeros_0f7a4 : MethodName := ⟨RJ6, "numberOfTrailingZeros", "(I)I"⟩
def RJ13 : String := "java/lang/Long"
def TJ13 : u_T := fun k => match k with
  | _ => ("", "", "", false)
def tyJ13 : Nat → FieldType := fun k => match k with
  | _ => .int
abbrev cJ13_numberOfLeadingZeros_95d88 : ByteArray := prog_12_method_48_code
def yJ13_numberOfLeadingZeros_95d88 : MethodName := ⟨RJ13, "numberOfLeadingZeros", "(J)I"⟩
abbrev cJ13_numberOfTrailingZeros_95d88 : ByteArray := prog_12_method_49_code
def yJ13_numberOfTrailingZeros_95d88 : MethodName := ⟨RJ13, "numberOfTrailingZeros", "(J)I"⟩
abbrev cJ13_bitCount_95d88 : ByteArray := prog_12_method_50_code
def yJ13_bitCount_95d88 : MethodName := ⟨RJ13, "bitCount", "(J)I"⟩
def RJ9 : String := "java/lang/Math"
def TJ9 : u_T := fun k => match k with
  | _ => ("", "", "", false)
def tyJ9 : Nat → FieldType := fun k => match k with
  | _ => .int
abbrev cJ9_floorDiv_7cf53 : ByteArray := prog_13_method_47_code
def yJ9_floorDiv_7cf53 : MethodName := ⟨RJ9, "floorDiv", "(II)I"⟩
abbrev cJ9_min_7cf53 : ByteArray := prog_13_method_69_code
def yJ9_min_7cf53 : MethodName := ⟨RJ9, "min", "(II)I"⟩
def RJ0 : String := "java/lang/String"
def TJ0 : u_T := fun k => match k with
  | _ => ("", "", "", false)
def tyJ0 : Nat → FieldType := fun k => match k with
  | _ => .int
abbrev cJ0_length_8abf5 : ByteArray := prog_14_method_54_code
def yJ0_length_8abf5 : MethodName := ⟨RJ0, "length", "()I"⟩
abbrev cJ0_charAt_5068e : ByteArray := prog_14_method_56_code
def yJ0_charAt_5068e : MethodName := ⟨RJ0, "charAt", "(I)C"⟩
abbrev cJ0_coder_7d493 : ByteArray := prog_14_method_152_code
def yJ0_coder_7d493 : MethodName := ⟨RJ0, "coder", "()B"⟩
abbrev cJ0_isLatin1_aae02 : ByteArray := prog_14_method_154_code
def yJ0_isLatin1_aae02 : MethodName := ⟨RJ0, "isLatin1", "()Z"⟩
abbrev cJ0_checkIndex_df160 : ByteArray := prog_14_method_155_code
def yJ0_checkIndex_df160 : MethodName := ⟨RJ0, "checkIndex", "(II)V"⟩
def RJ1 : String := "java/lang/StringLatin1"
def TJ1 : u_T := fun k => match k with
  | _ => ("", "", "", false)
def tyJ1 : Nat → FieldType := fun k => match k with
  | _ => .int
abbrev cJ1_charAt_3b067 : ByteArray := prog_15_method_2_code
def yJ1_charAt_3b067 : MethodName := ⟨RJ1, "charAt", "([BI)C"⟩
def RJ2 : String := "java/lang/StringUTF16"
def TJ2 : u_T := fun k => match k with
  | _ => ("", "", "", false)
def tyJ2 : Nat → FieldType := fun k => match k with
  | _ => .int
abbrev cJ2_getChar_3b067 : ByteArray := prog_16_method_5_code
def yJ2_getChar_3b067 : MethodName := ⟨RJ2, "getChar", "([BI)C"⟩
abbrev cJ2_length_9d52b : ByteArray := prog_16_method_6_code
def yJ2_length_9d52b : MethodName := ⟨RJ2, "length", "([B)I"⟩
abbrev cJ2_charAt_3b067 : ByteArray := prog_16_method_83_code
def yJ2_charAt_3b067 : MethodName := ⟨RJ2, "charAt", "([BI)C"⟩
abbrev cJ2_checkIndex_2214a : ByteArray := prog_16_method_91_code
def yJ2_checkIndex_2214a : MethodName := ⟨RJ2, "checkIndex", "(I[B)V"⟩
def RJ3 : String := "jdk/internal/util/Preconditions"
def TJ3 : u_T := fun k => match k with
  | _ => ("", "", "", false)
def tyJ3 : Nat → FieldType := fun k => match k with
  | _ => .int
abbrev cJ3_checkIndex_8e157 : ByteArray := prog_17_method_11_code
def yJ3_checkIndex_8e157 : MethodName := ⟨RJ3, "checkIndex", "(IILjava/util/function/BiFunction;)I"⟩
def RL : String := "EclipseHouseLaw"
abbrev cL_law : ByteArray := code
def yL_law : MethodName := ⟨RL, "law", "([I)Z"⟩
abbrev vwCl : List vw_C := [(RX0, TX0, 7), (RX1, TX1, 2), (RX3, TX3, 11), (RX4, TX4, 4), (RX5, TX5, 9), (RX6, TX6, 2), (RX7, TX7, 5), (RX8, TX8, 50)]
end
section
theorem tm_0 : (.selects RX5 yX5_sunKind yX5_sunKind : Cond) ∈ tb := tb_m0 (List.mem_of_getElem? (i := 0) rfl) rfl
theorem tm_1 : (.selects RX5 yX5_isAsked yX5_isAsked : Cond) ∈ tb := tb_m0 (List.mem_of_getElem? (i := 1) rfl) rfl
theorem tm_2 : (.selects RX3 yX3_advance yX3_advance : Cond) ∈ tb := tb_m0 (List.mem_of_getElem? (i := 2) rfl) rfl
theorem tm_3 : (.selects RX3 yX3_takeSign yX3_takeSign : Cond) ∈ tb := tb_m0 (List.mem_of_getElem? (i := 3) rfl) rfl
theorem tm_4 : (.selects RX3 yX3_readWhat yX3_readWhat : Cond) ∈ tb := tb_m0 (List.mem_of_getElem? (i := 4) rfl) rfl
theorem tm_5 : (.selects RX3 yX3_isWord yX3_isWord : Cond) ∈ tb := tb_m0 (List.mem_of_getElem? (i := 5) rfl) rfl
theorem tm_6 : (.selects RX3 yX3_refuse yX3_refuse : Cond) ∈ tb := tb_m0 (List.mem_of_getElem? (i := 6) rfl) rfl
theorem tm_7 : (.selects RX3 yX3_sunKind yX3_sunKind : Cond) ∈ tb := tb_m0 (List.mem_of_getElem? (i := 7) rfl) rfl
theorem tm_8 : (.selects RX3 yX3_moonKind yX3_moonKind : Cond) ∈ tb := tb_m0 (List.mem_of_getElem? (i := 8) rfl) rfl
theorem tm_9 : (.selects RX3 yX3_readParts yX3_readParts : Cond) ∈ tb := tb_m0 (List.mem_of_getElem? (i := 9) rfl) rfl
theorem tm_10 : (.selects RX3 yX3_readPart yX3_readPart : Cond) ∈ tb := tb_m0 (List.mem_of_getElem? (i := 10) rfl) rfl
theorem tm_11 : (.selects RX3 yX3_partHere yX3_partHere : Cond) ∈ tb := tb_m0 (List.mem_of_getElem? (i := 11) rfl) rfl
theorem tm_12 : (.selects RX3 yX3_readNumber yX3_readNumber : Cond) ∈ tb := tb_m0 (List.mem_of_getElem? (i := 12) rfl) rfl
theorem tm_13 : (.selects RX3 yX3_readRuler yX3_readRuler : Cond) ∈ tb := tb_m0 (List.mem_of_getElem? (i := 13) rfl) rfl
theorem tm_14 : (.selects RX3 yX3_readCalendar yX3_readCalendar : Cond) ∈ tb := tb_m0 (List.mem_of_getElem? (i := 14) rfl) rfl
theorem tm_15 : (.selects RX3 yX3_readClose yX3_readClose : Cond) ∈ tb := tb_m0 (List.mem_of_getElem? (i := 15) rfl) rfl
theorem tm_16 : (.selects RX3 yX3_joinRuler yX3_joinRuler : Cond) ∈ tb := tb_m0 (List.mem_of_getElem? (i := 16) rfl) rfl
theorem tm_17 : (.selects RX4 yX4_isThere yX4_isThere : Cond) ∈ tb := tb_m0 (List.mem_of_getElem? (i := 17) rfl) rfl
theorem tm_18 : (.selects RX0 yX0_isMeant yX0_isMeant : Cond) ∈ tb := tb_m0 (List.mem_of_getElem? (i := 18) rfl) rfl
theorem tm_19 : (.selects RX0 yX0_hoursSeen yX0_hoursSeen : Cond) ∈ tb := tb_m0 (List.mem_of_getElem? (i := 19) rfl) rfl
theorem tm_20 : (.selects RX0 yX0_isOfKind yX0_isOfKind : Cond) ∈ tb := tb_m0 (List.mem_of_getElem? (i := 20) rfl) rfl
theorem tm_21 : (.selects RX5 yX5_isListed yX5_isListed : Cond) ∈ tb := tb_m0 (List.mem_of_getElem? (i := 21) rfl) rfl
theorem tm_22 : (.selects RX0 yX0_hoursAt yX0_hoursAt : Cond) ∈ tb := tb_m0 (List.mem_of_getElem? (i := 22) rfl) rfl
theorem tm_23 : (.selects RX0 yX0_slipsAt yX0_slipsAt : Cond) ∈ tb := tb_m0 (List.mem_of_getElem? (i := 23) rfl) rfl
theorem tm_24 : (.selects RX0 yX0_slipOf yX0_slipOf : Cond) ∈ tb := tb_m0 (List.mem_of_getElem? (i := 24) rfl) rfl
theorem tm_25 : (.selects RX0 yX0_slowsMeaning yX0_slowsMeaning : Cond) ∈ tb := tb_m0 (List.mem_of_getElem? (i := 25) rfl) rfl
theorem tm_26 : (.selects RX0 yX0_slowsWithin yX0_slowsWithin : Cond) ∈ tb := tb_m0 (List.mem_of_getElem? (i := 26) rfl) rfl
theorem tm_27 : (.selects RX8 yX8_moonAt yX8_moonAt : Cond) ∈ tb := tb_m0 (List.mem_of_getElem? (i := 27) rfl) rfl
theorem tm_28 : (.selects RX8 yX8_sunAt yX8_sunAt : Cond) ∈ tb := tb_m0 (List.mem_of_getElem? (i := 28) rfl) rfl
theorem tm_29 : (.selects RX8 yX8_nodeAt yX8_nodeAt : Cond) ∈ tb := tb_m0 (List.mem_of_getElem? (i := 29) rfl) rfl
theorem tm_30 : (.selects RX8 yX8_timeOf yX8_timeOf : Cond) ∈ tb := tb_m0 (List.mem_of_getElem? (i := 30) rfl) rfl
theorem tm_31 : (.selects RX8 yX8_wave yX8_wave : Cond) ∈ tb := tb_m0 (List.mem_of_getElem? (i := 31) rfl) rfl
theorem tm_32 : (.selects RX8 yX8_quarter yX8_quarter : Cond) ∈ tb := tb_m0 (List.mem_of_getElem? (i := 32) rfl) rfl
theorem tm_33 : (.selects RX8 yX8_sortOf yX8_sortOf : Cond) ∈ tb := tb_m0 (List.mem_of_getElem? (i := 33) rfl) rfl
theorem tm_34 : (.selects RX8 yX8_notes yX8_notes : Cond) ∈ tb := tb_m0 (List.mem_of_getElem? (i := 34) rfl) rfl
theorem tm_35 : (.selects RX8 yX8_dates yX8_dates : Cond) ∈ tb := tb_m0 (List.mem_of_getElem? (i := 35) rfl) rfl
theorem tm_36 : (.selects RX8 yX8_monthDays yX8_monthDays : Cond) ∈ tb := tb_m0 (List.mem_of_getElem? (i := 36) rfl) rfl
theorem tm_37 : (.selects RX8 yX8_packed yX8_packed : Cond) ∈ tb := tb_m0 (List.mem_of_getElem? (i := 37) rfl) rfl
theorem tm_38 : (.selects RX8 yX8_reignOf yX8_reignOf : Cond) ∈ tb := tb_m0 (List.mem_of_getElem? (i := 38) rfl) rfl
theorem tm_39 : (.selects RX8 yX8_reads yX8_reads : Cond) ∈ tb := tb_m0 (List.mem_of_getElem? (i := 39) rfl) rfl
theorem tm_40 : (.selects RX8 yX8_whats yX8_whats : Cond) ∈ tb := tb_m0 (List.mem_of_getElem? (i := 40) rfl) rfl
theorem tm_41 : (.selects RX8 yX8_takes yX8_takes : Cond) ∈ tb := tb_m0 (List.mem_of_getElem? (i := 41) rfl) rfl
theorem tm_42 : (.selects RX8 yX8_next_ yX8_next_ : Cond) ∈ tb := tb_m0 (List.mem_of_getElem? (i := 42) rfl) rfl
theorem tm_43 : (.selects RX8 yX8_wordEnd yX8_wordEnd : Cond) ∈ tb := tb_m0 (List.mem_of_getElem? (i := 43) rfl) rfl
theorem tm_44 : (.selects RX8 yX8_fail yX8_fail : Cond) ∈ tb := tb_m0 (List.mem_of_getElem? (i := 44) rfl) rfl
theorem tm_45 : (.selects RX8 yX8_partOf yX8_partOf : Cond) ∈ tb := tb_m0 (List.mem_of_getElem? (i := 45) rfl) rfl
theorem tm_46 : (.selects RX8 yX8_number yX8_number : Cond) ∈ tb := tb_m0 (List.mem_of_getElem? (i := 46) rfl) rfl
theorem tm_47 : (.selects RX8 yX8_name yX8_name : Cond) ∈ tb := tb_m0 (List.mem_of_getElem? (i := 47) rfl) rfl
theorem tm_48 : (.selects RX8 yX8_isAsked yX8_isAsked : Cond) ∈ tb := tb_m0 (List.mem_of_getElem? (i := 48) rfl) rfl
theorem tm_49 : (.selects RX8 yX8_isRecord yX8_isRecord : Cond) ∈ tb := tb_m0 (List.mem_of_getElem? (i := 49) rfl) rfl
theorem tm_50 : (.selects RX8 yX8_differs yX8_differs : Cond) ∈ tb := tb_m0 (List.mem_of_getElem? (i := 50) rfl) rfl
theorem tm_51 : (.selects RX8 yX8_isLet yX8_isLet : Cond) ∈ tb := tb_m0 (List.mem_of_getElem? (i := 51) rfl) rfl
theorem tm_52 : (.initialized RL : Cond) ∈ tb := tb_m1 (List.mem_of_getElem? (i := 0) rfl) rfl
theorem tm_53 : (.initialized RX7 : Cond) ∈ tb := tb_m1 (List.mem_of_getElem? (i := 1) rfl) rfl
theorem tm_54 : (.initialized RX5 : Cond) ∈ tb := tb_m1 (List.mem_of_getElem? (i := 2) rfl) rfl
theorem tm_55 : (.initialized RX6 : Cond) ∈ tb := tb_m1 (List.mem_of_getElem? (i := 3) rfl) rfl
theorem tm_56 : (.initialized RX4 : Cond) ∈ tb := tb_m1 (List.mem_of_getElem? (i := 4) rfl) rfl
theorem tm_57 : (.initialized RX1 : Cond) ∈ tb := tb_m1 (List.mem_of_getElem? (i := 5) rfl) rfl
theorem tm_58 : (.initialized RX0 : Cond) ∈ tb := tb_m1 (List.mem_of_getElem? (i := 6) rfl) rfl
theorem tm_59 : (.initialized RX3 : Cond) ∈ tb := tb_m1 (List.mem_of_getElem? (i := 7) rfl) rfl
theorem tm_60 : (.initialized RX8 : Cond) ∈ tb := tb_m1 (List.mem_of_getElem? (i := 8) rfl) rfl
theorem tm_61 : (.initialized RJ9 : Cond) ∈ tb := tb_m1 (List.mem_of_getElem? (i := 9) rfl) rfl
theorem tm_62 : (.initialized RX2 : Cond) ∈ tb := tb_m1 (List.mem_of_getElem? (i := 10) rfl) rfl
theorem tm_63 : (.initialized RJ0 : Cond) ∈ tb := tb_m1 (List.mem_of_getElem? (i := 11) rfl) rfl
theorem tm_64 : (.initialized RJ1 : Cond) ∈ tb := tb_m1 (List.mem_of_getElem? (i := 12) rfl) rfl
theorem tm_65 : (.initialized RJ3 : Cond) ∈ tb := tb_m1 (List.mem_of_getElem? (i := 13) rfl) rfl
theorem tm_66 : (.initialized RJ2 : Cond) ∈ tb := tb_m1 (List.mem_of_getElem? (i := 14) rfl) rfl
theorem tm_67 : (.initialized RJ13 : Cond) ∈ tb := tb_m1 (List.mem_of_getElem? (i := 15) rfl) rfl
theorem tm_68 : (.initialized RJ6 : Cond) ∈ tb := tb_m1 (List.mem_of_getElem? (i := 16) rfl) rfl
theorem tm_69 : (.classLink RL 7 RX7 : Cond) ∈ tb := tb_m1 (List.mem_of_getElem? (i := 17) rfl) rfl
theorem tm_70 : (.instantiable RX7 5 : Cond) ∈ tb := tb_m1 (List.mem_of_getElem? (i := 18) rfl) rfl
theorem tm_71 : (.methodLink RL 9 yX7_init : Cond) ∈ tb := tb_m1 (List.mem_of_getElem? (i := 19) rfl) rfl
theorem tm_72 : (.instanceMethod yX7_init : Cond) ∈ tb := tb_m1 (List.mem_of_getElem? (i := 20) rfl) rfl
theorem tm_73 : (.code yX7_init cX7_init 1 none : Cond) ∈ tb := tb_m1 (List.mem_of_getElem? (i := 21) rfl) rfl
theorem tm_74 : (.methodLink RX7 3 objectInit : Cond) ∈ tb := tb_m1 (List.mem_of_getElem? (i := 22) rfl) rfl
theorem tm_75 : (.instanceMethod objectInit : Cond) ∈ tb := tb_m1 (List.mem_of_getElem? (i := 23) rfl) rfl
theorem tm_76 : (.code objectInit object_method_1_code 1 none : Cond) ∈ tb := tb_m1 (List.mem_of_getElem? (i := 24) rfl) rfl
theorem tm_77 : (.classLink RX7 9 RX5 : Cond) ∈ tb := tb_m1 (List.mem_of_getElem? (i := 25) rfl) rfl
theorem tm_78 : (.instantiable RX5 9 : Cond) ∈ tb := tb_m1 (List.mem_of_getElem? (i := 26) rfl) rfl
theorem tm_79 : (.methodLink RX7 11 yX5_init : Cond) ∈ tb := tb_m1 (List.mem_of_getElem? (i := 27) rfl) rfl
theorem tm_80 : (.instanceMethod yX5_init : Cond) ∈ tb := tb_m1 (List.mem_of_getElem? (i := 28) rfl) rfl
theorem tm_81 : (.code yX5_init cX5_init 1 none : Cond) ∈ tb := tb_m1 (List.mem_of_getElem? (i := 29) rfl) rfl
theorem tm_82 : (.methodLink RX5 3 objectInit : Cond) ∈ tb := tb_m1 (List.mem_of_getElem? (i := 30) rfl) rfl
theorem tm_83 : (.fieldLink RX5 9 "EclipseHouse$Sky" "moonStart" "I" : Cond) ∈ tb := tb_m1 (List.mem_of_getElem? (i := 31) rfl) rfl
theorem tm_84 : (.fieldLink RX5 15 "EclipseHouse$Sky" "sunStart" "I" : Cond) ∈ tb := tb_m1 (List.mem_of_getElem? (i := 32) rfl) rfl
theorem tm_85 : (.fieldLink RX5 18 "EclipseHouse$Sky" "nodeStart" "I" : Cond) ∈ tb := tb_m1 (List.mem_of_getElem? (i := 33) rfl) rfl
theorem tm_86 : (.fieldLink RX5 21 "EclipseHouse$Sky" "version" "I" : Cond) ∈ tb := tb_m1 (List.mem_of_getElem? (i := 34) rfl) rfl
theorem tm_87 : (.fieldLink RX5 39 "EclipseHouse$Sky" "listed" "Z" : Cond) ∈ tb := tb_m1 (List.mem_of_getElem? (i := 35) rfl) rfl
theorem tm_88 : (.fieldLink RX5 91 "EclipseHouse$Sky" "listSize" "I" : Cond) ∈ tb := tb_m1 (List.mem_of_getElem? (i := 36) rfl) rfl
theorem tm_89 : (.fieldLink RX5 24 "EclipseHouse$Sky" "listMoon" "[I" : Cond) ∈ tb := tb_m1 (List.mem_of_getElem? (i := 37) rfl) rfl
theorem tm_90 : (.fieldLink RX5 28 "EclipseHouse$Sky" "listKind" "[I" : Cond) ∈ tb := tb_m1 (List.mem_of_getElem? (i := 38) rfl) rfl
theorem tm_91 : (.fieldLink RX5 31 "EclipseHouse$Sky" "listTime" "[I" : Cond) ∈ tb := tb_m1 (List.mem_of_getElem? (i := 39) rfl) rfl
theorem tm_92 : (.lays "EclipseHouse$Sky" "EclipseHouse$Sky" "moonStart" "I" : Cond) ∈ tb := tb_m1 (List.mem_of_getElem? (i := 40) rfl) rfl
theorem tm_94 : (.lays "EclipseHouse$Sky" "EclipseHouse$Sky" "sunStart" "I" : Cond) ∈ tb := tb_m1 (List.mem_of_getElem? (i := 42) rfl) rfl
theorem tm_96 : (.lays "EclipseHouse$Sky" "EclipseHouse$Sky" "nodeStart" "I" : Cond) ∈ tb := tb_m1 (List.mem_of_getElem? (i := 44) rfl) rfl
theorem tm_98 : (.lays "EclipseHouse$Sky" "EclipseHouse$Sky" "version" "I" : Cond) ∈ tb := tb_m1 (List.mem_of_getElem? (i := 46) rfl) rfl
theorem tm_100 : (.lays "EclipseHouse$Sky" "EclipseHouse$Sky" "listed" "Z" : Cond) ∈ tb := tb_m1 (List.mem_of_getElem? (i := 48) rfl) rfl
theorem tm_102 : (.lays "EclipseHouse$Sky" "EclipseHouse$Sky" "listSize" "I" : Cond) ∈ tb := tb_m1 (List.mem_of_getElem? (i := 50) rfl) rfl
theorem tm_104 : (.laysFinal "EclipseHouse$Sky" "EclipseHouse$Sky" "listMoon" "[I" : Cond) ∈ tb := tb_m1 (List.mem_of_getElem? (i := 52) rfl) rfl
theorem tm_106 : (.laysFinal "EclipseHouse$Sky" "EclipseHouse$Sky" "listKind" "[I" : Cond) ∈ tb := tb_m1 (List.mem_of_getElem? (i := 54) rfl) rfl
theorem tm_108 : (.laysFinal "EclipseHouse$Sky" "EclipseHouse$Sky" "listTime" "[I" : Cond) ∈ tb := tb_m1 (List.mem_of_getElem? (i := 56) rfl) rfl
theorem tm_111 : (.arrayClass .int : Cond) ∈ tb := tb_m1 (List.mem_of_getElem? (i := 59) rfl) rfl
theorem tm_112 : (.classLink RX7 16 RX6 : Cond) ∈ tb := tb_m1 (List.mem_of_getElem? (i := 60) rfl) rfl
theorem tm_113 : (.instantiable RX6 2 : Cond) ∈ tb := tb_m1 (List.mem_of_getElem? (i := 61) rfl) rfl
theorem tm_114 : (.methodLink RX7 18 yX6_init : Cond) ∈ tb := tb_m1 (List.mem_of_getElem? (i := 62) rfl) rfl
theorem tm_115 : (.instanceMethod yX6_init : Cond) ∈ tb := tb_m1 (List.mem_of_getElem? (i := 63) rfl) rfl
theorem tm_116 : (.code yX6_init cX6_init 1 none : Cond) ∈ tb := tb_m1 (List.mem_of_getElem? (i := 64) rfl) rfl
theorem tm_117 : (.methodLink RX6 3 objectInit : Cond) ∈ tb := tb_m1 (List.mem_of_getElem? (i := 65) rfl) rfl
theorem tm_118 : (.fieldLink RX6 11 "EclipseHouse$Tape" "bytes" "[I" : Cond) ∈ tb := tb_m1 (List.mem_of_getElem? (i := 66) rfl) rfl
theorem tm_119 : (.fieldLink RX6 15 "EclipseHouse$Tape" "length" "I" : Cond) ∈ tb := tb_m1 (List.mem_of_getElem? (i := 67) rfl) rfl
theorem tm_120 : (.laysFinal "EclipseHouse$Tape" "EclipseHouse$Tape" "bytes" "[I" : Cond) ∈ tb := tb_m1 (List.mem_of_getElem? (i := 68) rfl) rfl
theorem tm_122 : (.lays "EclipseHouse$Tape" "EclipseHouse$Tape" "length" "I" : Cond) ∈ tb := tb_m1 (List.mem_of_getElem? (i := 70) rfl) rfl
theorem tm_125 : (.classLink RX7 23 RX4 : Cond) ∈ tb := tb_m1 (List.mem_of_getElem? (i := 73) rfl) rfl
theorem tm_126 : (.instantiable RX4 4 : Cond) ∈ tb := tb_m1 (List.mem_of_getElem? (i := 74) rfl) rfl
theorem tm_127 : (.methodLink RX7 25 yX4_init : Cond) ∈ tb := tb_m1 (List.mem_of_getElem? (i := 75) rfl) rfl
theorem tm_128 : (.instanceMethod yX4_init : Cond) ∈ tb := tb_m1 (List.mem_of_getElem? (i := 76) rfl) rfl
theorem tm_129 : (.code yX4_init cX4_init 1 none : Cond) ∈ tb := tb_m1 (List.mem_of_getElem? (i := 77) rfl) rfl
theorem tm_130 : (.methodLink RX4 3 objectInit : Cond) ∈ tb := tb_m1 (List.mem_of_getElem? (i := 78) rfl) rfl
theorem tm_131 : (.fieldLink RX4 11 "EclipseHouse$Reigns" "names" "[I" : Cond) ∈ tb := tb_m1 (List.mem_of_getElem? (i := 79) rfl) rfl
theorem tm_132 : (.fieldLink RX4 15 "EclipseHouse$Reigns" "calendars" "[I" : Cond) ∈ tb := tb_m1 (List.mem_of_getElem? (i := 80) rfl) rfl
theorem tm_133 : (.fieldLink RX4 18 "EclipseHouse$Reigns" "years" "[I" : Cond) ∈ tb := tb_m1 (List.mem_of_getElem? (i := 81) rfl) rfl
theorem tm_134 : (.fieldLink RX4 27 "EclipseHouse$Reigns" "count" "I" : Cond) ∈ tb := tb_m1 (List.mem_of_getElem? (i := 82) rfl) rfl
theorem tm_135 : (.laysFinal "EclipseHouse$Reigns" "EclipseHouse$Reigns" "names" "[I" : Cond) ∈ tb := tb_m1 (List.mem_of_getElem? (i := 83) rfl) rfl
theorem tm_137 : (.laysFinal "EclipseHouse$Reigns" "EclipseHouse$Reigns" "calendars" "[I" : Cond) ∈ tb := tb_m1 (List.mem_of_getElem? (i := 85) rfl) rfl
theorem tm_139 : (.laysFinal "EclipseHouse$Reigns" "EclipseHouse$Reigns" "years" "[I" : Cond) ∈ tb := tb_m1 (List.mem_of_getElem? (i := 87) rfl) rfl
theorem tm_141 : (.lays "EclipseHouse$Reigns" "EclipseHouse$Reigns" "count" "I" : Cond) ∈ tb := tb_m1 (List.mem_of_getElem? (i := 89) rfl) rfl
theorem tm_144 : (.classLink RX7 30 RX1 : Cond) ∈ tb := tb_m1 (List.mem_of_getElem? (i := 92) rfl) rfl
theorem tm_145 : (.instantiable RX1 2 : Cond) ∈ tb := tb_m1 (List.mem_of_getElem? (i := 93) rfl) rfl
theorem tm_146 : (.methodLink RX7 32 yX1_init : Cond) ∈ tb := tb_m1 (List.mem_of_getElem? (i := 94) rfl) rfl
theorem tm_147 : (.instanceMethod yX1_init : Cond) ∈ tb := tb_m1 (List.mem_of_getElem? (i := 95) rfl) rfl
theorem tm_148 : (.code yX1_init cX1_init 2 none : Cond) ∈ tb := tb_m1 (List.mem_of_getElem? (i := 96) rfl) rfl
theorem tm_149 : (.methodLink RX1 3 objectInit : Cond) ∈ tb := tb_m1 (List.mem_of_getElem? (i := 97) rfl) rfl
theorem tm_150 : (.classLink RX1 11 RX0 : Cond) ∈ tb := tb_m1 (List.mem_of_getElem? (i := 98) rfl) rfl
theorem tm_152 : (.instantiable RX0 7 : Cond) ∈ tb := tb_m1 (List.mem_of_getElem? (i := 100) rfl) rfl
theorem tm_153 : (.methodLink RX1 17 yX0_init : Cond) ∈ tb := tb_m1 (List.mem_of_getElem? (i := 101) rfl) rfl
theorem tm_154 : (.instanceMethod yX0_init : Cond) ∈ tb := tb_m1 (List.mem_of_getElem? (i := 102) rfl) rfl
theorem tm_155 : (.code yX0_init cX0_init 1 none : Cond) ∈ tb := tb_m1 (List.mem_of_getElem? (i := 103) rfl) rfl
theorem tm_156 : (.methodLink RX0 3 objectInit : Cond) ∈ tb := tb_m1 (List.mem_of_getElem? (i := 104) rfl) rfl
theorem tm_157 : (.fieldLink RX0 15 "EclipseHouse$Account" "kinds" "I" : Cond) ∈ tb := tb_m1 (List.mem_of_getElem? (i := 105) rfl) rfl
theorem tm_158 : (.fieldLink RX0 19 "EclipseHouse$Account" "calendar" "I" : Cond) ∈ tb := tb_m1 (List.mem_of_getElem? (i := 106) rfl) rfl
theorem tm_159 : (.fieldLink RX0 22 "EclipseHouse$Account" "east" "I" : Cond) ∈ tb := tb_m1 (List.mem_of_getElem? (i := 107) rfl) rfl
theorem tm_160 : (.fieldLink RX0 25 "EclipseHouse$Account" "yearZero" "I" : Cond) ∈ tb := tb_m1 (List.mem_of_getElem? (i := 108) rfl) rfl
theorem tm_161 : (.fieldLink RX0 9 "EclipseHouse$Account" "numbers" "[I" : Cond) ∈ tb := tb_m1 (List.mem_of_getElem? (i := 109) rfl) rfl
theorem tm_162 : (.fieldLink RX0 61 "EclipseHouse$Account" "slows" "J" : Cond) ∈ tb := tb_m1 (List.mem_of_getElem? (i := 110) rfl) rfl
theorem tm_163 : (.fieldLink RX0 28 "EclipseHouse$Account" "slowsVersion" "I" : Cond) ∈ tb := tb_m1 (List.mem_of_getElem? (i := 111) rfl) rfl
theorem tm_164 : (.lays "EclipseHouse$Account" "EclipseHouse$Account" "kinds" "I" : Cond) ∈ tb := tb_m1 (List.mem_of_getElem? (i := 112) rfl) rfl
theorem tm_166 : (.lays "EclipseHouse$Account" "EclipseHouse$Account" "calendar" "I" : Cond) ∈ tb := tb_m1 (List.mem_of_getElem? (i := 114) rfl) rfl
theorem tm_168 : (.lays "EclipseHouse$Account" "EclipseHouse$Account" "east" "I" : Cond) ∈ tb := tb_m1 (List.mem_of_getElem? (i := 116) rfl) rfl
theorem tm_170 : (.lays "EclipseHouse$Account" "EclipseHouse$Account" "yearZero" "I" : Cond) ∈ tb := tb_m1 (List.mem_of_getElem? (i := 118) rfl) rfl
theorem tm_172 : (.laysFinal "EclipseHouse$Account" "EclipseHouse$Account" "numbers" "[I" : Cond) ∈ tb := tb_m1 (List.mem_of_getElem? (i := 120) rfl) rfl
theorem tm_174 : (.lays "EclipseHouse$Account" "EclipseHouse$Account" "slows" "J" : Cond) ∈ tb := tb_m1 (List.mem_of_getElem? (i := 122) rfl) rfl
theorem tm_176 : (.lays "EclipseHouse$Account" "EclipseHouse$Account" "slowsVersion" "I" : Cond) ∈ tb := tb_m1 (List.mem_of_getElem? (i := 124) rfl) rfl
theorem tm_179 : (.fieldLink RX1 13 "EclipseHouse$Archive" "accounts" "[LEclipseHouse$Account;" : Cond) ∈ tb := tb_m1 (List.mem_of_getElem? (i := 127) rfl) rfl
theorem tm_180 : (.fieldLink RX1 18 "EclipseHouse$Archive" "count" "I" : Cond) ∈ tb := tb_m1 (List.mem_of_getElem? (i := 128) rfl) rfl
theorem tm_181 : (.laysFinal "EclipseHouse$Archive" "EclipseHouse$Archive" "accounts" "[LEclipseHouse$Account;" : Cond) ∈ tb := tb_m1 (List.mem_of_getElem? (i := 129) rfl) rfl
theorem tm_183 : (.lays "EclipseHouse$Archive" "EclipseHouse$Archive" "count" "I" : Cond) ∈ tb := tb_m1 (List.mem_of_getElem? (i := 131) rfl) rfl
theorem tm_186 : (.classLink RX7 37 RX3 : Cond) ∈ tb := tb_m1 (List.mem_of_getElem? (i := 134) rfl) rfl
theorem tm_187 : (.instantiable RX3 11 : Cond) ∈ tb := tb_m1 (List.mem_of_getElem? (i := 135) rfl) rfl
theorem tm_188 : (.methodLink RX7 39 yX3_init : Cond) ∈ tb := tb_m1 (List.mem_of_getElem? (i := 136) rfl) rfl
theorem tm_189 : (.instanceMethod yX3_init : Cond) ∈ tb := tb_m1 (List.mem_of_getElem? (i := 137) rfl) rfl
theorem tm_190 : (.code yX3_init cX3_init 3 none : Cond) ∈ tb := tb_m1 (List.mem_of_getElem? (i := 138) rfl) rfl
theorem tm_191 : (.methodLink RX3 3 objectInit : Cond) ∈ tb := tb_m1 (List.mem_of_getElem? (i := 139) rfl) rfl
theorem tm_192 : (.fieldLink RX3 9 "EclipseHouse$Reader" "tape" "LEclipseHouse$Tape;" : Cond) ∈ tb := tb_m1 (List.mem_of_getElem? (i := 140) rfl) rfl
theorem tm_193 : (.fieldLink RX3 15 "EclipseHouse$Reader" "reigns" "LEclipseHouse$Reigns;" : Cond) ∈ tb := tb_m1 (List.mem_of_getElem? (i := 141) rfl) rfl
theorem tm_194 : (.fieldLink RX3 26 "EclipseHouse$Reader" "account" "LEclipseHouse$Account;" : Cond) ∈ tb := tb_m1 (List.mem_of_getElem? (i := 142) rfl) rfl
theorem tm_195 : (.fieldLink RX3 36 "EclipseHouse$Reader" "sort" "I" : Cond) ∈ tb := tb_m1 (List.mem_of_getElem? (i := 143) rfl) rfl
theorem tm_196 : (.fieldLink RX3 67 "EclipseHouse$Reader" "start" "I" : Cond) ∈ tb := tb_m1 (List.mem_of_getElem? (i := 144) rfl) rfl
theorem tm_197 : (.fieldLink RX3 39 "EclipseHouse$Reader" "stop" "I" : Cond) ∈ tb := tb_m1 (List.mem_of_getElem? (i := 145) rfl) rfl
theorem tm_198 : (.fieldLink RX3 42 "EclipseHouse$Reader" "calendar" "I" : Cond) ∈ tb := tb_m1 (List.mem_of_getElem? (i := 146) rfl) rfl
theorem tm_199 : (.fieldLink RX3 45 "EclipseHouse$Reader" "ruler" "I" : Cond) ∈ tb := tb_m1 (List.mem_of_getElem? (i := 147) rfl) rfl
theorem tm_200 : (.fieldLink RX3 180 "EclipseHouse$Reader" "rulerPlace" "I" : Cond) ∈ tb := tb_m1 (List.mem_of_getElem? (i := 148) rfl) rfl
theorem tm_201 : (.fieldLink RX3 23 "EclipseHouse$Reader" "fault" "I" : Cond) ∈ tb := tb_m1 (List.mem_of_getElem? (i := 149) rfl) rfl
theorem tm_202 : (.fieldLink RX3 19 "EclipseHouse$Reader" "place" "I" : Cond) ∈ tb := tb_m1 (List.mem_of_getElem? (i := 150) rfl) rfl
theorem tm_203 : (.laysFinal "EclipseHouse$Reader" "EclipseHouse$Reader" "tape" "LEclipseHouse$Tape;" : Cond) ∈ tb := tb_m1 (List.mem_of_getElem? (i := 151) rfl) rfl
theorem tm_205 : (.laysFinal "EclipseHouse$Reader" "EclipseHouse$Reader" "reigns" "LEclipseHouse$Reigns;" : Cond) ∈ tb := tb_m1 (List.mem_of_getElem? (i := 153) rfl) rfl
theorem tm_207 : (.lays "EclipseHouse$Reader" "EclipseHouse$Reader" "account" "LEclipseHouse$Account;" : Cond) ∈ tb := tb_m1 (List.mem_of_getElem? (i := 155) rfl) rfl
theorem tm_209 : (.lays "EclipseHouse$Reader" "EclipseHouse$Reader" "sort" "I" : Cond) ∈ tb := tb_m1 (List.mem_of_getElem? (i := 157) rfl) rfl
theorem tm_211 : (.lays "EclipseHouse$Reader" "EclipseHouse$Reader" "start" "I" : Cond) ∈ tb := tb_m1 (List.mem_of_getElem? (i := 159) rfl) rfl
theorem tm_213 : (.lays "EclipseHouse$Reader" "EclipseHouse$Reader" "stop" "I" : Cond) ∈ tb := tb_m1 (List.mem_of_getElem? (i := 161) rfl) rfl
theorem tm_215 : (.lays "EclipseHouse$Reader" "EclipseHouse$Reader" "calendar" "I" : Cond) ∈ tb := tb_m1 (List.mem_of_getElem? (i := 163) rfl) rfl
theorem tm_217 : (.lays "EclipseHouse$Reader" "EclipseHouse$Reader" "ruler" "I" : Cond) ∈ tb := tb_m1 (List.mem_of_getElem? (i := 165) rfl) rfl
theorem tm_219 : (.lays "EclipseHouse$Reader" "EclipseHouse$Reader" "rulerPlace" "I" : Cond) ∈ tb := tb_m1 (List.mem_of_getElem? (i := 167) rfl) rfl
theorem tm_221 : (.lays "EclipseHouse$Reader" "EclipseHouse$Reader" "fault" "I" : Cond) ∈ tb := tb_m1 (List.mem_of_getElem? (i := 169) rfl) rfl
theorem tm_223 : (.lays "EclipseHouse$Reader" "EclipseHouse$Reader" "place" "I" : Cond) ∈ tb := tb_m1 (List.mem_of_getElem? (i := 171) rfl) rfl
theorem tm_226 : (.fieldLink RX7 12 "EclipseHouse" "sky" "LEclipseHouse$Sky;" : Cond) ∈ tb := tb_m1 (List.mem_of_getElem? (i := 174) rfl) rfl
theorem tm_227 : (.fieldLink RX7 19 "EclipseHouse" "tape" "LEclipseHouse$Tape;" : Cond) ∈ tb := tb_m1 (List.mem_of_getElem? (i := 175) rfl) rfl
theorem tm_228 : (.fieldLink RX7 26 "EclipseHouse" "reigns" "LEclipseHouse$Reigns;" : Cond) ∈ tb := tb_m1 (List.mem_of_getElem? (i := 176) rfl) rfl
theorem tm_229 : (.fieldLink RX7 33 "EclipseHouse" "archive" "LEclipseHouse$Archive;" : Cond) ∈ tb := tb_m1 (List.mem_of_getElem? (i := 177) rfl) rfl
theorem tm_230 : (.fieldLink RX7 42 "EclipseHouse" "reader" "LEclipseHouse$Reader;" : Cond) ∈ tb := tb_m1 (List.mem_of_getElem? (i := 178) rfl) rfl
theorem tm_231 : (.laysFinal "EclipseHouse" "EclipseHouse" "sky" "LEclipseHouse$Sky;" : Cond) ∈ tb := tb_m1 (List.mem_of_getElem? (i := 179) rfl) rfl
theorem tm_233 : (.laysFinal "EclipseHouse" "EclipseHouse" "tape" "LEclipseHouse$Tape;" : Cond) ∈ tb := tb_m1 (List.mem_of_getElem? (i := 181) rfl) rfl
theorem tm_235 : (.laysFinal "EclipseHouse" "EclipseHouse" "reigns" "LEclipseHouse$Reigns;" : Cond) ∈ tb := tb_m1 (List.mem_of_getElem? (i := 183) rfl) rfl
theorem tm_237 : (.laysFinal "EclipseHouse" "EclipseHouse" "archive" "LEclipseHouse$Archive;" : Cond) ∈ tb := tb_m1 (List.mem_of_getElem? (i := 185) rfl) rfl
theorem tm_239 : (.laysFinal "EclipseHouse" "EclipseHouse" "reader" "LEclipseHouse$Reader;" : Cond) ∈ tb := tb_m1 (List.mem_of_getElem? (i := 187) rfl) rfl
theorem tm_242 : (.methodLink RL 13 yX7_tables : Cond) ∈ tb := tb_m1 (List.mem_of_getElem? (i := 190) rfl) rfl
theorem tm_243 : (.instanceMethod yX7_tables : Cond) ∈ tb := tb_m1 (List.mem_of_getElem? (i := 191) rfl) rfl
theorem tm_244 : (.selects RX7 yX7_tables yX7_tables : Cond) ∈ tb := tb_m1 (List.mem_of_getElem? (i := 192) rfl) rfl
theorem tm_245 : (.code yX7_tables cX7_tables 4 (some .boolean) : Cond) ∈ tb := tb_m1 (List.mem_of_getElem? (i := 193) rfl) rfl
theorem tm_246 : (.methodLink RX7 46 yX5_setTables : Cond) ∈ tb := tb_m1 (List.mem_of_getElem? (i := 194) rfl) rfl
theorem tm_247 : (.instanceMethod yX5_setTables : Cond) ∈ tb := tb_m1 (List.mem_of_getElem? (i := 195) rfl) rfl
theorem tm_248 : (.selects RX5 yX5_setTables yX5_setTables : Cond) ∈ tb := tb_m1 (List.mem_of_getElem? (i := 196) rfl) rfl
theorem tm_249 : (.code yX5_setTables cX5_setTables 4 (some .boolean) : Cond) ∈ tb := tb_m1 (List.mem_of_getElem? (i := 197) rfl) rfl
theorem tm_250 : (.methodLink RX5 35 yX5_isPlace : Cond) ∈ tb := tb_m1 (List.mem_of_getElem? (i := 198) rfl) rfl
theorem tm_251 : (.static yX5_isPlace : Cond) ∈ tb := tb_m1 (List.mem_of_getElem? (i := 199) rfl) rfl
theorem tm_252 : (.code yX5_isPlace cX5_isPlace 1 (some .boolean) : Cond) ∈ tb := tb_m1 (List.mem_of_getElem? (i := 200) rfl) rfl
theorem tm_253 : (.constant RX5 34 (36000) : Cond) ∈ tb := tb_m1 (List.mem_of_getElem? (i := 201) rfl) rfl
theorem tm_254 : (.methodLink RL 18 yX7_moon : Cond) ∈ tb := tb_m1 (List.mem_of_getElem? (i := 202) rfl) rfl
theorem tm_255 : (.instanceMethod yX7_moon : Cond) ∈ tb := tb_m1 (List.mem_of_getElem? (i := 203) rfl) rfl
theorem tm_256 : (.selects RX7 yX7_moon yX7_moon : Cond) ∈ tb := tb_m1 (List.mem_of_getElem? (i := 204) rfl) rfl
theorem tm_257 : (.code yX7_moon cX7_moon 3 (some .int) : Cond) ∈ tb := tb_m1 (List.mem_of_getElem? (i := 205) rfl) rfl
theorem tm_258 : (.methodLink RX7 50 yX5_isMoon : Cond) ∈ tb := tb_m1 (List.mem_of_getElem? (i := 206) rfl) rfl
theorem tm_259 : (.static yX5_isMoon : Cond) ∈ tb := tb_m1 (List.mem_of_getElem? (i := 207) rfl) rfl
theorem tm_260 : (.code yX5_isMoon cX5_isMoon 1 (some .boolean) : Cond) ∈ tb := tb_m1 (List.mem_of_getElem? (i := 208) rfl) rfl
theorem tm_261 : (.methodLink RX7 54 yX5_moonPlace : Cond) ∈ tb := tb_m1 (List.mem_of_getElem? (i := 209) rfl) rfl
theorem tm_262 : (.instanceMethod yX5_moonPlace : Cond) ∈ tb := tb_m1 (List.mem_of_getElem? (i := 210) rfl) rfl
theorem tm_263 : (.selects RX5 yX5_moonPlace yX5_moonPlace : Cond) ∈ tb := tb_m1 (List.mem_of_getElem? (i := 211) rfl) rfl
theorem tm_264 : (.code yX5_moonPlace cX5_moonPlace 2 (some .int) : Cond) ∈ tb := tb_m1 (List.mem_of_getElem? (i := 212) rfl) rfl
theorem tm_265 : (.methodLink RX7 58 yX5_sunPlace : Cond) ∈ tb := tb_m1 (List.mem_of_getElem? (i := 213) rfl) rfl
theorem tm_266 : (.instanceMethod yX5_sunPlace : Cond) ∈ tb := tb_m1 (List.mem_of_getElem? (i := 214) rfl) rfl
theorem tm_267 : (.selects RX5 yX5_sunPlace yX5_sunPlace : Cond) ∈ tb := tb_m1 (List.mem_of_getElem? (i := 215) rfl) rfl
theorem tm_268 : (.code yX5_sunPlace cX5_sunPlace 2 (some .int) : Cond) ∈ tb := tb_m1 (List.mem_of_getElem? (i := 216) rfl) rfl
theorem tm_269 : (.methodLink RX7 61 yX5_nodePlace : Cond) ∈ tb := tb_m1 (List.mem_of_getElem? (i := 217) rfl) rfl
theorem tm_270 : (.instanceMethod yX5_nodePlace : Cond) ∈ tb := tb_m1 (List.mem_of_getElem? (i := 218) rfl) rfl
theorem tm_271 : (.selects RX5 yX5_nodePlace yX5_nodePlace : Cond) ∈ tb := tb_m1 (List.mem_of_getElem? (i := 219) rfl) rfl
theorem tm_272 : (.code yX5_nodePlace cX5_nodePlace 2 (some .int) : Cond) ∈ tb := tb_m1 (List.mem_of_getElem? (i := 220) rfl) rfl
theorem tm_273 : (.constantLong RX5 43 (1953353) : Cond) ∈ tb := tb_m1 (List.mem_of_getElem? (i := 221) rfl) rfl
theorem tm_274 : (.constantLong RX5 45 (100) : Cond) ∈ tb := tb_m1 (List.mem_of_getElem? (i := 222) rfl) rfl
theorem tm_275 : (.constantLong RX5 47 (36000) : Cond) ∈ tb := tb_m1 (List.mem_of_getElem? (i := 223) rfl) rfl
theorem tm_276 : (.methodLink RX7 64 yX5_timeOf : Cond) ∈ tb := tb_m1 (List.mem_of_getElem? (i := 224) rfl) rfl
theorem tm_277 : (.instanceMethod yX5_timeOf : Cond) ∈ tb := tb_m1 (List.mem_of_getElem? (i := 225) rfl) rfl
theorem tm_278 : (.selects RX5 yX5_timeOf yX5_timeOf : Cond) ∈ tb := tb_m1 (List.mem_of_getElem? (i := 226) rfl) rfl
theorem tm_279 : (.code yX5_timeOf cX5_timeOf 5 (some .int) : Cond) ∈ tb := tb_m1 (List.mem_of_getElem? (i := 227) rfl) rfl
theorem tm_280 : (.constantLong RX5 49 (212620236) : Cond) ∈ tb := tb_m1 (List.mem_of_getElem? (i := 228) rfl) rfl
theorem tm_281 : (.constantLong RX5 51 (10000) : Cond) ∈ tb := tb_m1 (List.mem_of_getElem? (i := 229) rfl) rfl
theorem tm_282 : (.methodLink RX5 53 yX5_moonPlace : Cond) ∈ tb := tb_m1 (List.mem_of_getElem? (i := 230) rfl) rfl
theorem tm_283 : (.methodLink RX5 57 yX5_waveOf : Cond) ∈ tb := tb_m1 (List.mem_of_getElem? (i := 231) rfl) rfl
theorem tm_284 : (.static yX5_waveOf : Cond) ∈ tb := tb_m1 (List.mem_of_getElem? (i := 232) rfl) rfl
theorem tm_285 : (.code yX5_waveOf cX5_waveOf 1 (some .int) : Cond) ∈ tb := tb_m1 (List.mem_of_getElem? (i := 233) rfl) rfl
theorem tm_286 : (.methodLink RX5 69 yX5_halfWave : Cond) ∈ tb := tb_m1 (List.mem_of_getElem? (i := 234) rfl) rfl
theorem tm_287 : (.static yX5_halfWave : Cond) ∈ tb := tb_m1 (List.mem_of_getElem? (i := 235) rfl) rfl
theorem tm_288 : (.code yX5_halfWave cX5_halfWave 3 (some .int) : Cond) ∈ tb := tb_m1 (List.mem_of_getElem? (i := 236) rfl) rfl
theorem tm_289 : (.fieldLink RX5 72 "EclipseHouse$Sky" "WAVES" "[I" : Cond) ∈ tb := tb_m1 (List.mem_of_getElem? (i := 237) rfl) rfl
theorem tm_291 : (.methodLink RX5 60 yJ9_floorDiv_7cf53 : Cond) ∈ tb := tb_m1 (List.mem_of_getElem? (i := 239) rfl) rfl
theorem tm_292 : (.static yJ9_floorDiv_7cf53 : Cond) ∈ tb := tb_m2 (List.mem_of_getElem? (i := 0) rfl) rfl
theorem tm_293 : (.code yJ9_floorDiv_7cf53 cJ9_floorDiv_7cf53 3 (some .int) : Cond) ∈ tb := tb_m2 (List.mem_of_getElem? (i := 1) rfl) rfl
theorem tm_294 : (.methodLink RX5 66 yX5_sunPlace : Cond) ∈ tb := tb_m2 (List.mem_of_getElem? (i := 2) rfl) rfl
theorem tm_295 : (.methodLink RX7 67 yX5_kindOf : Cond) ∈ tb := tb_m2 (List.mem_of_getElem? (i := 3) rfl) rfl
theorem tm_296 : (.instanceMethod yX5_kindOf : Cond) ∈ tb := tb_m2 (List.mem_of_getElem? (i := 4) rfl) rfl
theorem tm_297 : (.selects RX5 yX5_kindOf yX5_kindOf : Cond) ∈ tb := tb_m2 (List.mem_of_getElem? (i := 5) rfl) rfl
theorem tm_298 : (.code yX5_kindOf cX5_kindOf 4 (some .int) : Cond) ∈ tb := tb_m2 (List.mem_of_getElem? (i := 6) rfl) rfl
theorem tm_299 : (.methodLink RX5 75 yX5_nodePlace : Cond) ∈ tb := tb_m2 (List.mem_of_getElem? (i := 7) rfl) rfl
theorem tm_300 : (.methodLink RX5 78 yJ9_min_7cf53 : Cond) ∈ tb := tb_m2 (List.mem_of_getElem? (i := 8) rfl) rfl
theorem tm_301 : (.static yJ9_min_7cf53 : Cond) ∈ tb := tb_m2 (List.mem_of_getElem? (i := 9) rfl) rfl
theorem tm_302 : (.code yJ9_min_7cf53 cJ9_min_7cf53 2 (some .int) : Cond) ∈ tb := tb_m2 (List.mem_of_getElem? (i := 10) rfl) rfl
theorem tm_303 : (.methodLink RX5 81 yX5_sunKind : Cond) ∈ tb := tb_m2 (List.mem_of_getElem? (i := 11) rfl) rfl
theorem tm_305 : (.instanceMethod yX5_sunKind : Cond) ∈ tb := tb_m2 (List.mem_of_getElem? (i := 13) rfl) rfl
theorem tm_306 : (.code yX5_sunKind cX5_sunKind 4 (some .int) : Cond) ∈ tb := tb_m2 (List.mem_of_getElem? (i := 14) rfl) rfl
theorem tm_307 : (.methodLink RX5 84 yX5_moonKind : Cond) ∈ tb := tb_m2 (List.mem_of_getElem? (i := 15) rfl) rfl
theorem tm_308 : (.static yX5_moonKind : Cond) ∈ tb := tb_m2 (List.mem_of_getElem? (i := 16) rfl) rfl
theorem tm_309 : (.code yX5_moonKind cX5_moonKind 1 (some .int) : Cond) ∈ tb := tb_m2 (List.mem_of_getElem? (i := 17) rfl) rfl
theorem tm_310 : (.methodLink RL 23 yX7_next : Cond) ∈ tb := tb_m2 (List.mem_of_getElem? (i := 18) rfl) rfl
theorem tm_311 : (.instanceMethod yX7_next : Cond) ∈ tb := tb_m2 (List.mem_of_getElem? (i := 19) rfl) rfl
theorem tm_312 : (.selects RX7 yX7_next yX7_next : Cond) ∈ tb := tb_m2 (List.mem_of_getElem? (i := 20) rfl) rfl
theorem tm_313 : (.code yX7_next cX7_next 4 (some .int) : Cond) ∈ tb := tb_m2 (List.mem_of_getElem? (i := 21) rfl) rfl
theorem tm_314 : (.methodLink RX7 70 yX5_findEclipse : Cond) ∈ tb := tb_m2 (List.mem_of_getElem? (i := 22) rfl) rfl
theorem tm_315 : (.instanceMethod yX5_findEclipse : Cond) ∈ tb := tb_m2 (List.mem_of_getElem? (i := 23) rfl) rfl
theorem tm_316 : (.selects RX5 yX5_findEclipse yX5_findEclipse : Cond) ∈ tb := tb_m2 (List.mem_of_getElem? (i := 24) rfl) rfl
theorem tm_317 : (.code yX5_findEclipse cX5_findEclipse 7 (some .int) : Cond) ∈ tb := tb_m2 (List.mem_of_getElem? (i := 25) rfl) rfl
theorem tm_318 : (.methodLink RX5 103 yX5_listEclipses : Cond) ∈ tb := tb_m2 (List.mem_of_getElem? (i := 26) rfl) rfl
theorem tm_319 : (.instanceMethod yX5_listEclipses : Cond) ∈ tb := tb_m2 (List.mem_of_getElem? (i := 27) rfl) rfl
theorem tm_320 : (.selects RX5 yX5_listEclipses yX5_listEclipses : Cond) ∈ tb := tb_m2 (List.mem_of_getElem? (i := 28) rfl) rfl
theorem tm_321 : (.code yX5_listEclipses cX5_listEclipses 3 (some .int) : Cond) ∈ tb := tb_m2 (List.mem_of_getElem? (i := 29) rfl) rfl
theorem tm_322 : (.methodLink RX5 87 yX5_kindOf : Cond) ∈ tb := tb_m2 (List.mem_of_getElem? (i := 30) rfl) rfl
theorem tm_323 : (.methodLink RX5 94 yX5_timeOf : Cond) ∈ tb := tb_m2 (List.mem_of_getElem? (i := 31) rfl) rfl
theorem tm_324 : (.methodLink RX5 107 yX5_isAsked : Cond) ∈ tb := tb_m2 (List.mem_of_getElem? (i := 32) rfl) rfl
theorem tm_326 : (.instanceMethod yX5_isAsked : Cond) ∈ tb := tb_m2 (List.mem_of_getElem? (i := 34) rfl) rfl
theorem tm_327 : (.code yX5_isAsked cX5_isAsked 3 (some .boolean) : Cond) ∈ tb := tb_m2 (List.mem_of_getElem? (i := 35) rfl) rfl
theorem tm_328 : (.methodLink RL 28 yX7_round : Cond) ∈ tb := tb_m2 (List.mem_of_getElem? (i := 36) rfl) rfl
theorem tm_329 : (.instanceMethod yX7_round : Cond) ∈ tb := tb_m2 (List.mem_of_getElem? (i := 37) rfl) rfl
theorem tm_330 : (.selects RX7 yX7_round yX7_round : Cond) ∈ tb := tb_m2 (List.mem_of_getElem? (i := 38) rfl) rfl
theorem tm_331 : (.code yX7_round cX7_round 5 (some .int) : Cond) ∈ tb := tb_m2 (List.mem_of_getElem? (i := 39) rfl) rfl
theorem tm_332 : (.methodLink RX7 74 yX5_firstOfRound : Cond) ∈ tb := tb_m2 (List.mem_of_getElem? (i := 40) rfl) rfl
theorem tm_333 : (.instanceMethod yX5_firstOfRound : Cond) ∈ tb := tb_m2 (List.mem_of_getElem? (i := 41) rfl) rfl
theorem tm_334 : (.selects RX5 yX5_firstOfRound yX5_firstOfRound : Cond) ∈ tb := tb_m2 (List.mem_of_getElem? (i := 42) rfl) rfl
theorem tm_335 : (.code yX5_firstOfRound cX5_firstOfRound 3 (some .int) : Cond) ∈ tb := tb_m2 (List.mem_of_getElem? (i := 43) rfl) rfl
theorem tm_336 : (.methodLink RX7 77 yX5_lastOfRound : Cond) ∈ tb := tb_m2 (List.mem_of_getElem? (i := 44) rfl) rfl
theorem tm_337 : (.instanceMethod yX5_lastOfRound : Cond) ∈ tb := tb_m2 (List.mem_of_getElem? (i := 45) rfl) rfl
theorem tm_338 : (.selects RX5 yX5_lastOfRound yX5_lastOfRound : Cond) ∈ tb := tb_m2 (List.mem_of_getElem? (i := 46) rfl) rfl
theorem tm_339 : (.code yX5_lastOfRound cX5_lastOfRound 3 (some .int) : Cond) ∈ tb := tb_m2 (List.mem_of_getElem? (i := 47) rfl) rfl
theorem tm_340 : (.methodLink RL 32 yX7_many : Cond) ∈ tb := tb_m2 (List.mem_of_getElem? (i := 48) rfl) rfl
theorem tm_341 : (.instanceMethod yX7_many : Cond) ∈ tb := tb_m2 (List.mem_of_getElem? (i := 49) rfl) rfl
theorem tm_342 : (.selects RX7 yX7_many yX7_many : Cond) ∈ tb := tb_m2 (List.mem_of_getElem? (i := 50) rfl) rfl
theorem tm_343 : (.code yX7_many cX7_many 4 (some .int) : Cond) ∈ tb := tb_m2 (List.mem_of_getElem? (i := 51) rfl) rfl
theorem tm_344 : (.methodLink RX7 80 yX5_countEclipses : Cond) ∈ tb := tb_m2 (List.mem_of_getElem? (i := 52) rfl) rfl
theorem tm_345 : (.instanceMethod yX5_countEclipses : Cond) ∈ tb := tb_m2 (List.mem_of_getElem? (i := 53) rfl) rfl
theorem tm_346 : (.selects RX5 yX5_countEclipses yX5_countEclipses : Cond) ∈ tb := tb_m2 (List.mem_of_getElem? (i := 54) rfl) rfl
theorem tm_347 : (.code yX5_countEclipses cX5_countEclipses 7 (some .int) : Cond) ∈ tb := tb_m2 (List.mem_of_getElem? (i := 55) rfl) rfl
theorem tm_348 : (.methodLink RL 36 yX7_date : Cond) ∈ tb := tb_m2 (List.mem_of_getElem? (i := 56) rfl) rfl
theorem tm_349 : (.instanceMethod yX7_date : Cond) ∈ tb := tb_m2 (List.mem_of_getElem? (i := 57) rfl) rfl
theorem tm_350 : (.selects RX7 yX7_date yX7_date : Cond) ∈ tb := tb_m2 (List.mem_of_getElem? (i := 58) rfl) rfl
theorem tm_351 : (.code yX7_date cX7_date 6 (some .int) : Cond) ∈ tb := tb_m2 (List.mem_of_getElem? (i := 59) rfl) rfl
theorem tm_352 : (.constant RX7 83 (400000) : Cond) ∈ tb := tb_m2 (List.mem_of_getElem? (i := 60) rfl) rfl
theorem tm_353 : (.methodLink RX7 84 yX2_isCalendar : Cond) ∈ tb := tb_m2 (List.mem_of_getElem? (i := 61) rfl) rfl
theorem tm_354 : (.static yX2_isCalendar : Cond) ∈ tb := tb_m2 (List.mem_of_getElem? (i := 62) rfl) rfl
theorem tm_355 : (.code yX2_isCalendar cX2_isCalendar 1 (some .boolean) : Cond) ∈ tb := tb_m2 (List.mem_of_getElem? (i := 63) rfl) rfl
theorem tm_356 : (.methodLink RX7 89 yX2_yearOf : Cond) ∈ tb := tb_m2 (List.mem_of_getElem? (i := 64) rfl) rfl
theorem tm_357 : (.static yX2_yearOf : Cond) ∈ tb := tb_m2 (List.mem_of_getElem? (i := 65) rfl) rfl
theorem tm_358 : (.code yX2_yearOf cX2_yearOf 3 (some .int) : Cond) ∈ tb := tb_m2 (List.mem_of_getElem? (i := 66) rfl) rfl
theorem tm_359 : (.methodLink RX2 15 yX2_guessYear : Cond) ∈ tb := tb_m2 (List.mem_of_getElem? (i := 67) rfl) rfl
theorem tm_360 : (.static yX2_guessYear : Cond) ∈ tb := tb_m2 (List.mem_of_getElem? (i := 68) rfl) rfl
theorem tm_361 : (.code yX2_guessYear cX2_guessYear 2 (some .int) : Cond) ∈ tb := tb_m2 (List.mem_of_getElem? (i := 69) rfl) rfl
theorem tm_362 : (.methodLink RX2 19 yX2_firstDay : Cond) ∈ tb := tb_m2 (List.mem_of_getElem? (i := 70) rfl) rfl
theorem tm_363 : (.static yX2_firstDay : Cond) ∈ tb := tb_m2 (List.mem_of_getElem? (i := 71) rfl) rfl
theorem tm_364 : (.code yX2_firstDay cX2_firstDay 2 (some .int) : Cond) ∈ tb := tb_m2 (List.mem_of_getElem? (i := 72) rfl) rfl
theorem tm_365 : (.methodLink RX7 93 yX2_monthDayOf : Cond) ∈ tb := tb_m2 (List.mem_of_getElem? (i := 73) rfl) rfl
theorem tm_366 : (.static yX2_monthDayOf : Cond) ∈ tb := tb_m2 (List.mem_of_getElem? (i := 74) rfl) rfl
theorem tm_367 : (.code yX2_monthDayOf cX2_monthDayOf 6 (some .int) : Cond) ∈ tb := tb_m2 (List.mem_of_getElem? (i := 75) rfl) rfl
theorem tm_368 : (.methodLink RX2 22 yX2_monthLength : Cond) ∈ tb := tb_m2 (List.mem_of_getElem? (i := 76) rfl) rfl
theorem tm_369 : (.static yX2_monthLength : Cond) ∈ tb := tb_m2 (List.mem_of_getElem? (i := 77) rfl) rfl
theorem tm_370 : (.code yX2_monthLength cX2_monthLength 3 (some .int) : Cond) ∈ tb := tb_m2 (List.mem_of_getElem? (i := 78) rfl) rfl
theorem tm_371 : (.fieldLink RX2 11 "EclipseHouse$Calendars" "LEAP_MONTHS" "[I" : Cond) ∈ tb := tb_m2 (List.mem_of_getElem? (i := 79) rfl) rfl
theorem tm_373 : (.methodLink RX7 96 yX2_monthIn : Cond) ∈ tb := tb_m2 (List.mem_of_getElem? (i := 81) rfl) rfl
theorem tm_374 : (.static yX2_monthIn : Cond) ∈ tb := tb_m2 (List.mem_of_getElem? (i := 82) rfl) rfl
theorem tm_375 : (.code yX2_monthIn cX2_monthIn 1 (some .int) : Cond) ∈ tb := tb_m2 (List.mem_of_getElem? (i := 83) rfl) rfl
theorem tm_376 : (.methodLink RX7 99 yX2_dayIn : Cond) ∈ tb := tb_m2 (List.mem_of_getElem? (i := 84) rfl) rfl
theorem tm_377 : (.static yX2_dayIn : Cond) ∈ tb := tb_m2 (List.mem_of_getElem? (i := 85) rfl) rfl
theorem tm_378 : (.code yX2_dayIn cX2_dayIn 1 (some .int) : Cond) ∈ tb := tb_m2 (List.mem_of_getElem? (i := 86) rfl) rfl
theorem tm_379 : (.methodLink RL 40 yX7_day : Cond) ∈ tb := tb_m2 (List.mem_of_getElem? (i := 87) rfl) rfl
theorem tm_380 : (.instanceMethod yX7_day : Cond) ∈ tb := tb_m2 (List.mem_of_getElem? (i := 88) rfl) rfl
theorem tm_381 : (.selects RX7 yX7_day yX7_day : Cond) ∈ tb := tb_m2 (List.mem_of_getElem? (i := 89) rfl) rfl
theorem tm_382 : (.code yX7_day cX7_day 5 (some .int) : Cond) ∈ tb := tb_m2 (List.mem_of_getElem? (i := 90) rfl) rfl
theorem tm_383 : (.methodLink RX7 102 yX2_dayOf : Cond) ∈ tb := tb_m2 (List.mem_of_getElem? (i := 91) rfl) rfl
theorem tm_384 : (.static yX2_dayOf : Cond) ∈ tb := tb_m2 (List.mem_of_getElem? (i := 92) rfl) rfl
theorem tm_385 : (.code yX2_dayOf cX2_dayOf 6 (some .int) : Cond) ∈ tb := tb_m2 (List.mem_of_getElem? (i := 93) rfl) rfl
theorem tm_386 : (.methodLink RL 45 yX7_seen : Cond) ∈ tb := tb_m2 (List.mem_of_getElem? (i := 94) rfl) rfl
theorem tm_387 : (.instanceMethod yX7_seen : Cond) ∈ tb := tb_m2 (List.mem_of_getElem? (i := 95) rfl) rfl
theorem tm_388 : (.selects RX7 yX7_seen yX7_seen : Cond) ∈ tb := tb_m2 (List.mem_of_getElem? (i := 96) rfl) rfl
theorem tm_389 : (.code yX7_seen cX7_seen 4 (some .int) : Cond) ∈ tb := tb_m2 (List.mem_of_getElem? (i := 97) rfl) rfl
theorem tm_390 : (.methodLink RX7 106 yX7_isEast : Cond) ∈ tb := tb_m2 (List.mem_of_getElem? (i := 98) rfl) rfl
theorem tm_391 : (.static yX7_isEast : Cond) ∈ tb := tb_m2 (List.mem_of_getElem? (i := 99) rfl) rfl
theorem tm_392 : (.code yX7_isEast cX7_isEast 1 (some .boolean) : Cond) ∈ tb := tb_m2 (List.mem_of_getElem? (i := 100) rfl) rfl
theorem tm_393 : (.methodLink RX7 109 yX7_isSlow : Cond) ∈ tb := tb_m2 (List.mem_of_getElem? (i := 101) rfl) rfl
theorem tm_394 : (.static yX7_isSlow : Cond) ∈ tb := tb_m2 (List.mem_of_getElem? (i := 102) rfl) rfl
theorem tm_395 : (.code yX7_isSlow cX7_isSlow 1 (some .boolean) : Cond) ∈ tb := tb_m2 (List.mem_of_getElem? (i := 103) rfl) rfl
theorem tm_396 : (.constant RX7 112 (-1000000) : Cond) ∈ tb := tb_m2 (List.mem_of_getElem? (i := 104) rfl) rfl
theorem tm_397 : (.methodLink RX7 113 yX5_minuteSeen : Cond) ∈ tb := tb_m2 (List.mem_of_getElem? (i := 105) rfl) rfl
theorem tm_398 : (.static yX5_minuteSeen : Cond) ∈ tb := tb_m2 (List.mem_of_getElem? (i := 106) rfl) rfl
theorem tm_399 : (.code yX5_minuteSeen cX5_minuteSeen 4 (some .int) : Cond) ∈ tb := tb_m2 (List.mem_of_getElem? (i := 107) rfl) rfl
theorem tm_400 : (.constant RX5 90 (525600) : Cond) ∈ tb := tb_m2 (List.mem_of_getElem? (i := 108) rfl) rfl
theorem tm_401 : (.methodLink RL 49 yX7_feed : Cond) ∈ tb := tb_m2 (List.mem_of_getElem? (i := 109) rfl) rfl
theorem tm_402 : (.instanceMethod yX7_feed : Cond) ∈ tb := tb_m2 (List.mem_of_getElem? (i := 110) rfl) rfl
theorem tm_403 : (.selects RX7 yX7_feed yX7_feed : Cond) ∈ tb := tb_m2 (List.mem_of_getElem? (i := 111) rfl) rfl
theorem tm_404 : (.code yX7_feed cX7_feed 6 (some .int) : Cond) ∈ tb := tb_m2 (List.mem_of_getElem? (i := 112) rfl) rfl
theorem tm_405 : (.methodLink RX7 116 yX6_hasRoom : Cond) ∈ tb := tb_m2 (List.mem_of_getElem? (i := 113) rfl) rfl
theorem tm_406 : (.instanceMethod yX6_hasRoom : Cond) ∈ tb := tb_m2 (List.mem_of_getElem? (i := 114) rfl) rfl
theorem tm_407 : (.selects RX6 yX6_hasRoom yX6_hasRoom : Cond) ∈ tb := tb_m2 (List.mem_of_getElem? (i := 115) rfl) rfl
theorem tm_408 : (.code yX6_hasRoom cX6_hasRoom 1 (some .boolean) : Cond) ∈ tb := tb_m2 (List.mem_of_getElem? (i := 116) rfl) rfl
theorem tm_409 : (.methodLink RX7 120 yX6_addNumber : Cond) ∈ tb := tb_m2 (List.mem_of_getElem? (i := 117) rfl) rfl
theorem tm_410 : (.instanceMethod yX6_addNumber : Cond) ∈ tb := tb_m2 (List.mem_of_getElem? (i := 118) rfl) rfl
theorem tm_411 : (.selects RX6 yX6_addNumber yX6_addNumber : Cond) ∈ tb := tb_m2 (List.mem_of_getElem? (i := 119) rfl) rfl
theorem tm_412 : (.code yX6_addNumber cX6_addNumber 3 none : Cond) ∈ tb := tb_m2 (List.mem_of_getElem? (i := 120) rfl) rfl
theorem tm_413 : (.methodLink RX7 124 yX6_size : Cond) ∈ tb := tb_m2 (List.mem_of_getElem? (i := 121) rfl) rfl
theorem tm_414 : (.instanceMethod yX6_size : Cond) ∈ tb := tb_m2 (List.mem_of_getElem? (i := 122) rfl) rfl
theorem tm_415 : (.selects RX6 yX6_size yX6_size : Cond) ∈ tb := tb_m2 (List.mem_of_getElem? (i := 123) rfl) rfl
theorem tm_416 : (.code yX6_size cX6_size 1 (some .int) : Cond) ∈ tb := tb_m2 (List.mem_of_getElem? (i := 124) rfl) rfl
theorem tm_417 : (.methodLink RL 54 yX7_end : Cond) ∈ tb := tb_m2 (List.mem_of_getElem? (i := 125) rfl) rfl
theorem tm_418 : (.instanceMethod yX7_end : Cond) ∈ tb := tb_m2 (List.mem_of_getElem? (i := 126) rfl) rfl
theorem tm_419 : (.selects RX7 yX7_end yX7_end : Cond) ∈ tb := tb_m2 (List.mem_of_getElem? (i := 127) rfl) rfl
theorem tm_420 : (.code yX7_end cX7_end 2 (some .boolean) : Cond) ∈ tb := tb_m2 (List.mem_of_getElem? (i := 128) rfl) rfl
theorem tm_421 : (.methodLink RX7 128 yX6_cutTo : Cond) ∈ tb := tb_m2 (List.mem_of_getElem? (i := 129) rfl) rfl
theorem tm_422 : (.instanceMethod yX6_cutTo : Cond) ∈ tb := tb_m2 (List.mem_of_getElem? (i := 130) rfl) rfl
theorem tm_423 : (.selects RX6 yX6_cutTo yX6_cutTo : Cond) ∈ tb := tb_m2 (List.mem_of_getElem? (i := 131) rfl) rfl
theorem tm_424 : (.code yX6_cutTo cX6_cutTo 2 (some .boolean) : Cond) ∈ tb := tb_m2 (List.mem_of_getElem? (i := 132) rfl) rfl
theorem tm_425 : (.methodLink RL 59 yX7_reign : Cond) ∈ tb := tb_m2 (List.mem_of_getElem? (i := 133) rfl) rfl
theorem tm_426 : (.instanceMethod yX7_reign : Cond) ∈ tb := tb_m2 (List.mem_of_getElem? (i := 134) rfl) rfl
theorem tm_427 : (.selects RX7 yX7_reign yX7_reign : Cond) ∈ tb := tb_m2 (List.mem_of_getElem? (i := 135) rfl) rfl
theorem tm_428 : (.code yX7_reign cX7_reign 4 (some .int) : Cond) ∈ tb := tb_m2 (List.mem_of_getElem? (i := 136) rfl) rfl
theorem tm_429 : (.methodLink RX7 131 yX6_nameBetween : Cond) ∈ tb := tb_m2 (List.mem_of_getElem? (i := 137) rfl) rfl
theorem tm_430 : (.instanceMethod yX6_nameBetween : Cond) ∈ tb := tb_m2 (List.mem_of_getElem? (i := 138) rfl) rfl
theorem tm_431 : (.selects RX6 yX6_nameBetween yX6_nameBetween : Cond) ∈ tb := tb_m2 (List.mem_of_getElem? (i := 139) rfl) rfl
theorem tm_432 : (.code yX6_nameBetween cX6_nameBetween 6 (some .int) : Cond) ∈ tb := tb_m2 (List.mem_of_getElem? (i := 140) rfl) rfl
theorem tm_433 : (.methodLink RX6 19 yX6_byteAt : Cond) ∈ tb := tb_m2 (List.mem_of_getElem? (i := 141) rfl) rfl
theorem tm_434 : (.instanceMethod yX6_byteAt : Cond) ∈ tb := tb_m2 (List.mem_of_getElem? (i := 142) rfl) rfl
theorem tm_435 : (.selects RX6 yX6_byteAt yX6_byteAt : Cond) ∈ tb := tb_m2 (List.mem_of_getElem? (i := 143) rfl) rfl
theorem tm_436 : (.code yX6_byteAt cX6_byteAt 2 (some .int) : Cond) ∈ tb := tb_m2 (List.mem_of_getElem? (i := 144) rfl) rfl
theorem tm_437 : (.methodLink RX6 23 yX6_isLetter : Cond) ∈ tb := tb_m2 (List.mem_of_getElem? (i := 145) rfl) rfl
theorem tm_438 : (.static yX6_isLetter : Cond) ∈ tb := tb_m2 (List.mem_of_getElem? (i := 146) rfl) rfl
theorem tm_439 : (.code yX6_isLetter cX6_isLetter 1 (some .boolean) : Cond) ∈ tb := tb_m2 (List.mem_of_getElem? (i := 147) rfl) rfl
theorem tm_440 : (.methodLink RX7 134 yX6_clear : Cond) ∈ tb := tb_m2 (List.mem_of_getElem? (i := 148) rfl) rfl
theorem tm_441 : (.instanceMethod yX6_clear : Cond) ∈ tb := tb_m2 (List.mem_of_getElem? (i := 149) rfl) rfl
theorem tm_442 : (.selects RX6 yX6_clear yX6_clear : Cond) ∈ tb := tb_m2 (List.mem_of_getElem? (i := 150) rfl) rfl
theorem tm_443 : (.code yX6_clear cX6_clear 1 none : Cond) ∈ tb := tb_m2 (List.mem_of_getElem? (i := 151) rfl) rfl
theorem tm_444 : (.methodLink RX7 137 yX4_begin : Cond) ∈ tb := tb_m2 (List.mem_of_getElem? (i := 152) rfl) rfl
theorem tm_445 : (.instanceMethod yX4_begin : Cond) ∈ tb := tb_m2 (List.mem_of_getElem? (i := 153) rfl) rfl
theorem tm_446 : (.selects RX4 yX4_begin yX4_begin : Cond) ∈ tb := tb_m2 (List.mem_of_getElem? (i := 154) rfl) rfl
theorem tm_447 : (.code yX4_begin cX4_begin 5 (some .int) : Cond) ∈ tb := tb_m2 (List.mem_of_getElem? (i := 155) rfl) rfl
theorem tm_448 : (.methodLink RX4 21 yX2_isCalendar : Cond) ∈ tb := tb_m2 (List.mem_of_getElem? (i := 156) rfl) rfl
theorem tm_449 : (.methodLink RX4 31 yX4_find : Cond) ∈ tb := tb_m2 (List.mem_of_getElem? (i := 157) rfl) rfl
theorem tm_450 : (.instanceMethod yX4_find : Cond) ∈ tb := tb_m2 (List.mem_of_getElem? (i := 158) rfl) rfl
theorem tm_451 : (.selects RX4 yX4_find yX4_find : Cond) ∈ tb := tb_m2 (List.mem_of_getElem? (i := 159) rfl) rfl
theorem tm_452 : (.code yX4_find cX4_find 3 (some .int) : Cond) ∈ tb := tb_m2 (List.mem_of_getElem? (i := 160) rfl) rfl
theorem tm_453 : (.methodLink RL 63 yX7_record : Cond) ∈ tb := tb_m2 (List.mem_of_getElem? (i := 161) rfl) rfl
theorem tm_454 : (.instanceMethod yX7_record : Cond) ∈ tb := tb_m2 (List.mem_of_getElem? (i := 162) rfl) rfl
theorem tm_455 : (.selects RX7 yX7_record yX7_record : Cond) ∈ tb := tb_m2 (List.mem_of_getElem? (i := 163) rfl) rfl
theorem tm_456 : (.code yX7_record cX7_record 4 (some .int) : Cond) ∈ tb := tb_m2 (List.mem_of_getElem? (i := 164) rfl) rfl
theorem tm_457 : (.methodLink RX7 140 yX1_hasRoom : Cond) ∈ tb := tb_m2 (List.mem_of_getElem? (i := 165) rfl) rfl
theorem tm_458 : (.instanceMethod yX1_hasRoom : Cond) ∈ tb := tb_m2 (List.mem_of_getElem? (i := 166) rfl) rfl
theorem tm_459 : (.selects RX1 yX1_hasRoom yX1_hasRoom : Cond) ∈ tb := tb_m2 (List.mem_of_getElem? (i := 167) rfl) rfl
theorem tm_460 : (.code yX1_hasRoom cX1_hasRoom 1 (some .boolean) : Cond) ∈ tb := tb_m2 (List.mem_of_getElem? (i := 168) rfl) rfl
theorem tm_461 : (.methodLink RX7 141 yX1_spare : Cond) ∈ tb := tb_m2 (List.mem_of_getElem? (i := 169) rfl) rfl
theorem tm_462 : (.instanceMethod yX1_spare : Cond) ∈ tb := tb_m2 (List.mem_of_getElem? (i := 170) rfl) rfl
theorem tm_463 : (.selects RX1 yX1_spare yX1_spare : Cond) ∈ tb := tb_m2 (List.mem_of_getElem? (i := 171) rfl) rfl
theorem tm_464 : (.code yX1_spare cX1_spare 1 (some (.object "EclipseHouse$Account")) : Cond) ∈ tb := tb_m2 (List.mem_of_getElem? (i := 172) rfl) rfl
theorem tm_465 : (.methodLink RX1 22 yX1_hasRoom : Cond) ∈ tb := tb_m2 (List.mem_of_getElem? (i := 173) rfl) rfl
theorem tm_466 : (.methodLink RX7 145 yX3_read : Cond) ∈ tb := tb_m2 (List.mem_of_getElem? (i := 174) rfl) rfl
theorem tm_467 : (.instanceMethod yX3_read : Cond) ∈ tb := tb_m2 (List.mem_of_getElem? (i := 175) rfl) rfl
theorem tm_468 : (.selects RX3 yX3_read yX3_read : Cond) ∈ tb := tb_m2 (List.mem_of_getElem? (i := 176) rfl) rfl
theorem tm_469 : (.code yX3_read cX3_read 3 (some .boolean) : Cond) ∈ tb := tb_m2 (List.mem_of_getElem? (i := 177) rfl) rfl
theorem tm_470 : (.methodLink RX3 30 yX0_clear : Cond) ∈ tb := tb_m2 (List.mem_of_getElem? (i := 178) rfl) rfl
theorem tm_471 : (.instanceMethod yX0_clear : Cond) ∈ tb := tb_m2 (List.mem_of_getElem? (i := 179) rfl) rfl
theorem tm_472 : (.selects RX0 yX0_clear yX0_clear : Cond) ∈ tb := tb_m2 (List.mem_of_getElem? (i := 180) rfl) rfl
theorem tm_473 : (.code yX0_clear cX0_clear 3 none : Cond) ∈ tb := tb_m2 (List.mem_of_getElem? (i := 181) rfl) rfl
theorem tm_474 : (.methodLink RX3 48 yX3_advance : Cond) ∈ tb := tb_m2 (List.mem_of_getElem? (i := 182) rfl) rfl
theorem tm_476 : (.instanceMethod yX3_advance : Cond) ∈ tb := tb_m2 (List.mem_of_getElem? (i := 184) rfl) rfl
theorem tm_477 : (.code yX3_advance cX3_advance 3 none : Cond) ∈ tb := tb_m2 (List.mem_of_getElem? (i := 185) rfl) rfl
theorem tm_478 : (.methodLink RX3 70 yX6_size : Cond) ∈ tb := tb_m2 (List.mem_of_getElem? (i := 186) rfl) rfl
theorem tm_479 : (.methodLink RX3 76 yX6_byteAt : Cond) ∈ tb := tb_m2 (List.mem_of_getElem? (i := 187) rfl) rfl
theorem tm_480 : (.methodLink RX3 80 yX6_isBlank : Cond) ∈ tb := tb_m2 (List.mem_of_getElem? (i := 188) rfl) rfl
theorem tm_481 : (.static yX6_isBlank : Cond) ∈ tb := tb_m2 (List.mem_of_getElem? (i := 189) rfl) rfl
theorem tm_482 : (.code yX6_isBlank cX6_isBlank 1 (some .boolean) : Cond) ∈ tb := tb_m2 (List.mem_of_getElem? (i := 190) rfl) rfl
theorem tm_483 : (.methodLink RX3 84 yX3_takeSign : Cond) ∈ tb := tb_m2 (List.mem_of_getElem? (i := 191) rfl) rfl
theorem tm_485 : (.instanceMethod yX3_takeSign : Cond) ∈ tb := tb_m2 (List.mem_of_getElem? (i := 193) rfl) rfl
theorem tm_486 : (.code yX3_takeSign cX3_takeSign 2 none : Cond) ∈ tb := tb_m2 (List.mem_of_getElem? (i := 194) rfl) rfl
theorem tm_487 : (.methodLink RX3 87 yX6_isLetter : Cond) ∈ tb := tb_m2 (List.mem_of_getElem? (i := 195) rfl) rfl
theorem tm_488 : (.methodLink RX3 90 yX6_isDigit : Cond) ∈ tb := tb_m2 (List.mem_of_getElem? (i := 196) rfl) rfl
theorem tm_489 : (.static yX6_isDigit : Cond) ∈ tb := tb_m2 (List.mem_of_getElem? (i := 197) rfl) rfl
theorem tm_490 : (.code yX6_isDigit cX6_isDigit 1 (some .boolean) : Cond) ∈ tb := tb_m2 (List.mem_of_getElem? (i := 198) rfl) rfl
theorem tm_491 : (.methodLink RX3 51 yX3_readWhat : Cond) ∈ tb := tb_m2 (List.mem_of_getElem? (i := 199) rfl) rfl
theorem tm_493 : (.instanceMethod yX3_readWhat : Cond) ∈ tb := tb_m2 (List.mem_of_getElem? (i := 201) rfl) rfl
theorem tm_494 : (.code yX3_readWhat cX3_readWhat 3 (some .boolean) : Cond) ∈ tb := tb_m2 (List.mem_of_getElem? (i := 202) rfl) rfl
theorem tm_496 : (.methodLink RX3 104 yX3_isWord : Cond) ∈ tb := tb_m2 (List.mem_of_getElem? (i := 204) rfl) rfl
theorem tm_498 : (.instanceMethod yX3_isWord : Cond) ∈ tb := tb_m2 (List.mem_of_getElem? (i := 206) rfl) rfl
theorem tm_499 : (.code yX3_isWord cX3_isWord 3 (some .boolean) : Cond) ∈ tb := tb_m2 (List.mem_of_getElem? (i := 207) rfl) rfl
theorem tm_500 : (.methodLink RX3 93 yJ0_length_8abf5 : Cond) ∈ tb := tb_m2 (List.mem_of_getElem? (i := 208) rfl) rfl
theorem tm_501 : (.instanceMethod yJ0_length_8abf5 : Cond) ∈ tb := tb_m2 (List.mem_of_getElem? (i := 209) rfl) rfl
theorem tm_502 : (.selects RJ0 yJ0_length_8abf5 yJ0_length_8abf5 : Cond) ∈ tb := tb_m2 (List.mem_of_getElem? (i := 210) rfl) rfl
theorem tm_503 : (.code yJ0_length_8abf5 cJ0_length_8abf5 1 (some .int) : Cond) ∈ tb := tb_m2 (List.mem_of_getElem? (i := 211) rfl) rfl
theorem tm_504 : (.methodLink RJ0 335 yJ0_coder_7d493 : Cond) ∈ tb := tb_m2 (List.mem_of_getElem? (i := 212) rfl) rfl
theorem tm_505 : (.instanceMethod yJ0_coder_7d493 : Cond) ∈ tb := tb_m2 (List.mem_of_getElem? (i := 213) rfl) rfl
theorem tm_506 : (.selects RJ0 yJ0_coder_7d493 yJ0_coder_7d493 : Cond) ∈ tb := tb_m2 (List.mem_of_getElem? (i := 214) rfl) rfl
theorem tm_507 : (.code yJ0_coder_7d493 cJ0_coder_7d493 1 (some .byte) : Cond) ∈ tb := tb_m2 (List.mem_of_getElem? (i := 215) rfl) rfl
theorem tm_508 : (.fieldLink RJ0 38 "java/lang/String" "COMPACT_STRINGS" "Z" : Cond) ∈ tb := tb_m2 (List.mem_of_getElem? (i := 216) rfl) rfl
theorem tm_510 : (.methodLink RX3 98 yJ0_charAt_5068e : Cond) ∈ tb := tb_m2 (List.mem_of_getElem? (i := 218) rfl) rfl
theorem tm_511 : (.instanceMethod yJ0_charAt_5068e : Cond) ∈ tb := tb_m2 (List.mem_of_getElem? (i := 219) rfl) rfl
theorem tm_512 : (.selects RJ0 yJ0_charAt_5068e yJ0_charAt_5068e : Cond) ∈ tb := tb_m2 (List.mem_of_getElem? (i := 220) rfl) rfl
theorem tm_513 : (.code yJ0_charAt_5068e cJ0_charAt_5068e 2 (some .char) : Cond) ∈ tb := tb_m2 (List.mem_of_getElem? (i := 221) rfl) rfl
theorem tm_514 : (.methodLink RJ0 492 yJ0_isLatin1_aae02 : Cond) ∈ tb := tb_m2 (List.mem_of_getElem? (i := 222) rfl) rfl
theorem tm_515 : (.instanceMethod yJ0_isLatin1_aae02 : Cond) ∈ tb := tb_m2 (List.mem_of_getElem? (i := 223) rfl) rfl
theorem tm_516 : (.selects RJ0 yJ0_isLatin1_aae02 yJ0_isLatin1_aae02 : Cond) ∈ tb := tb_m2 (List.mem_of_getElem? (i := 224) rfl) rfl
theorem tm_517 : (.code yJ0_isLatin1_aae02 cJ0_isLatin1_aae02 1 (some .boolean) : Cond) ∈ tb := tb_m2 (List.mem_of_getElem? (i := 225) rfl) rfl
theorem tm_518 : (.methodLink RJ0 495 yJ1_charAt_3b067 : Cond) ∈ tb := tb_m2 (List.mem_of_getElem? (i := 226) rfl) rfl
theorem tm_519 : (.static yJ1_charAt_3b067 : Cond) ∈ tb := tb_m2 (List.mem_of_getElem? (i := 227) rfl) rfl
theorem tm_520 : (.code yJ1_charAt_3b067 cJ1_charAt_3b067 2 (some .char) : Cond) ∈ tb := tb_m2 (List.mem_of_getElem? (i := 228) rfl) rfl
theorem tm_521 : (.methodLink RJ1 9 yJ0_checkIndex_df160 : Cond) ∈ tb := tb_m2 (List.mem_of_getElem? (i := 229) rfl) rfl
theorem tm_522 : (.static yJ0_checkIndex_df160 : Cond) ∈ tb := tb_m2 (List.mem_of_getElem? (i := 230) rfl) rfl
theorem tm_523 : (.code yJ0_checkIndex_df160 cJ0_checkIndex_df160 2 none : Cond) ∈ tb := tb_m2 (List.mem_of_getElem? (i := 231) rfl) rfl
theorem tm_524 : (.fieldLink RJ0 1053 "jdk/internal/util/Preconditions" "SIOOBE_FORMATTER" "Ljava/util/function/BiFunction;" : Cond) ∈ tb := tb_m2 (List.mem_of_getElem? (i := 232) rfl) rfl
theorem tm_526 : (.methodLink RJ0 1059 yJ3_checkIndex_8e157 : Cond) ∈ tb := tb_m2 (List.mem_of_getElem? (i := 234) rfl) rfl
theorem tm_527 : (.static yJ3_checkIndex_8e157 : Cond) ∈ tb := tb_m2 (List.mem_of_getElem? (i := 235) rfl) rfl
theorem tm_528 : (.code yJ3_checkIndex_8e157 cJ3_checkIndex_8e157 3 (some .int) : Cond) ∈ tb := tb_m2 (List.mem_of_getElem? (i := 236) rfl) rfl
theorem tm_529 : (.methodLink RJ0 498 yJ2_charAt_3b067 : Cond) ∈ tb := tb_m2 (List.mem_of_getElem? (i := 237) rfl) rfl
theorem tm_530 : (.static yJ2_charAt_3b067 : Cond) ∈ tb := tb_m2 (List.mem_of_getElem? (i := 238) rfl) rfl
theorem tm_531 : (.code yJ2_charAt_3b067 cJ2_charAt_3b067 2 (some .char) : Cond) ∈ tb := tb_m2 (List.mem_of_getElem? (i := 239) rfl) rfl
theorem tm_532 : (.methodLink RJ2 67 yJ2_checkIndex_2214a : Cond) ∈ tb := tb_m3 (List.mem_of_getElem? (i := 0) rfl) rfl
theorem tm_533 : (.static yJ2_checkIndex_2214a : Cond) ∈ tb := tb_m3 (List.mem_of_getElem? (i := 1) rfl) rfl
theorem tm_534 : (.code yJ2_checkIndex_2214a cJ2_checkIndex_2214a 2 none : Cond) ∈ tb := tb_m3 (List.mem_of_getElem? (i := 2) rfl) rfl
theorem tm_535 : (.methodLink RJ2 48 yJ2_length_9d52b : Cond) ∈ tb := tb_m3 (List.mem_of_getElem? (i := 3) rfl) rfl
theorem tm_536 : (.static yJ2_length_9d52b : Cond) ∈ tb := tb_m3 (List.mem_of_getElem? (i := 4) rfl) rfl
theorem tm_537 : (.code yJ2_length_9d52b cJ2_length_9d52b 1 (some .int) : Cond) ∈ tb := tb_m3 (List.mem_of_getElem? (i := 5) rfl) rfl
theorem tm_538 : (.methodLink RJ2 414 yJ0_checkIndex_df160 : Cond) ∈ tb := tb_m3 (List.mem_of_getElem? (i := 6) rfl) rfl
theorem tm_539 : (.methodLink RJ2 71 yJ2_getChar_3b067 : Cond) ∈ tb := tb_m3 (List.mem_of_getElem? (i := 7) rfl) rfl
theorem tm_540 : (.static yJ2_getChar_3b067 : Cond) ∈ tb := tb_m3 (List.mem_of_getElem? (i := 8) rfl) rfl
theorem tm_541 : (.code yJ2_getChar_3b067 cJ2_getChar_3b067 2 (some .char) : Cond) ∈ tb := tb_m3 (List.mem_of_getElem? (i := 9) rfl) rfl
theorem tm_542 : (.fieldLink RJ2 44 "java/lang/StringUTF16" "$assertionsDisabled" "Z" : Cond) ∈ tb := tb_m3 (List.mem_of_getElem? (i := 10) rfl) rfl
theorem tm_544 : (.fieldLink RJ2 59 "java/lang/StringUTF16" "HI_BYTE_SHIFT" "I" : Cond) ∈ tb := tb_m3 (List.mem_of_getElem? (i := 12) rfl) rfl
theorem tm_546 : (.fieldLink RJ2 63 "java/lang/StringUTF16" "LO_BYTE_SHIFT" "I" : Cond) ∈ tb := tb_m3 (List.mem_of_getElem? (i := 14) rfl) rfl
theorem tm_549 : (.methodLink RX3 110 yX3_refuse : Cond) ∈ tb := tb_m3 (List.mem_of_getElem? (i := 17) rfl) rfl
theorem tm_551 : (.instanceMethod yX3_refuse : Cond) ∈ tb := tb_m3 (List.mem_of_getElem? (i := 19) rfl) rfl
theorem tm_552 : (.code yX3_refuse cX3_refuse 3 (some .boolean) : Cond) ∈ tb := tb_m3 (List.mem_of_getElem? (i := 20) rfl) rfl
theorem tm_553 : (.methodLink RX3 114 yX3_sunKind : Cond) ∈ tb := tb_m3 (List.mem_of_getElem? (i := 21) rfl) rfl
theorem tm_555 : (.instanceMethod yX3_sunKind : Cond) ∈ tb := tb_m3 (List.mem_of_getElem? (i := 23) rfl) rfl
theorem tm_556 : (.code yX3_sunKind cX3_sunKind 1 (some .int) : Cond) ∈ tb := tb_m3 (List.mem_of_getElem? (i := 24) rfl) rfl
theorem tm_560 : (.methodLink RX3 117 yX3_moonKind : Cond) ∈ tb := tb_m3 (List.mem_of_getElem? (i := 28) rfl) rfl
theorem tm_562 : (.instanceMethod yX3_moonKind : Cond) ∈ tb := tb_m3 (List.mem_of_getElem? (i := 30) rfl) rfl
theorem tm_563 : (.code yX3_moonKind cX3_moonKind 1 (some .int) : Cond) ∈ tb := tb_m3 (List.mem_of_getElem? (i := 31) rfl) rfl
theorem tm_566 : (.methodLink RX3 120 yX0_setKinds : Cond) ∈ tb := tb_m3 (List.mem_of_getElem? (i := 34) rfl) rfl
theorem tm_567 : (.instanceMethod yX0_setKinds : Cond) ∈ tb := tb_m3 (List.mem_of_getElem? (i := 35) rfl) rfl
theorem tm_568 : (.selects RX0 yX0_setKinds yX0_setKinds : Cond) ∈ tb := tb_m3 (List.mem_of_getElem? (i := 36) rfl) rfl
theorem tm_569 : (.code yX0_setKinds cX0_setKinds 2 none : Cond) ∈ tb := tb_m3 (List.mem_of_getElem? (i := 37) rfl) rfl
theorem tm_570 : (.methodLink RX3 55 yX3_readParts : Cond) ∈ tb := tb_m3 (List.mem_of_getElem? (i := 38) rfl) rfl
theorem tm_572 : (.instanceMethod yX3_readParts : Cond) ∈ tb := tb_m3 (List.mem_of_getElem? (i := 40) rfl) rfl
theorem tm_573 : (.code yX3_readParts cX3_readParts 2 (some .boolean) : Cond) ∈ tb := tb_m3 (List.mem_of_getElem? (i := 41) rfl) rfl
theorem tm_575 : (.methodLink RX3 135 yX3_readPart : Cond) ∈ tb := tb_m3 (List.mem_of_getElem? (i := 43) rfl) rfl
theorem tm_577 : (.instanceMethod yX3_readPart : Cond) ∈ tb := tb_m3 (List.mem_of_getElem? (i := 45) rfl) rfl
theorem tm_578 : (.code yX3_readPart cX3_readPart 2 (some .boolean) : Cond) ∈ tb := tb_m3 (List.mem_of_getElem? (i := 46) rfl) rfl
theorem tm_579 : (.methodLink RX3 146 yX3_partHere : Cond) ∈ tb := tb_m3 (List.mem_of_getElem? (i := 47) rfl) rfl
theorem tm_581 : (.instanceMethod yX3_partHere : Cond) ∈ tb := tb_m3 (List.mem_of_getElem? (i := 49) rfl) rfl
theorem tm_582 : (.code yX3_partHere cX3_partHere 1 (some .int) : Cond) ∈ tb := tb_m3 (List.mem_of_getElem? (i := 50) rfl) rfl
theorem tm_587 : (.methodLink RX3 149 yX0_has : Cond) ∈ tb := tb_m3 (List.mem_of_getElem? (i := 55) rfl) rfl
theorem tm_588 : (.instanceMethod yX0_has : Cond) ∈ tb := tb_m3 (List.mem_of_getElem? (i := 56) rfl) rfl
theorem tm_589 : (.selects RX0 yX0_has yX0_has : Cond) ∈ tb := tb_m3 (List.mem_of_getElem? (i := 57) rfl) rfl
theorem tm_590 : (.code yX0_has cX0_has 2 (some .boolean) : Cond) ∈ tb := tb_m3 (List.mem_of_getElem? (i := 58) rfl) rfl
theorem tm_591 : (.methodLink RX3 152 yX3_readNumber : Cond) ∈ tb := tb_m3 (List.mem_of_getElem? (i := 59) rfl) rfl
theorem tm_593 : (.instanceMethod yX3_readNumber : Cond) ∈ tb := tb_m3 (List.mem_of_getElem? (i := 61) rfl) rfl
theorem tm_594 : (.code yX3_readNumber cX3_readNumber 4 (some .boolean) : Cond) ∈ tb := tb_m3 (List.mem_of_getElem? (i := 62) rfl) rfl
theorem tm_595 : (.fieldLink RX3 160 "EclipseHouse$Reader" "LEAST" "[I" : Cond) ∈ tb := tb_m3 (List.mem_of_getElem? (i := 63) rfl) rfl
theorem tm_597 : (.fieldLink RX3 164 "EclipseHouse$Reader" "GREATEST" "[I" : Cond) ∈ tb := tb_m3 (List.mem_of_getElem? (i := 65) rfl) rfl
theorem tm_599 : (.methodLink RX3 167 yX0_setNumber : Cond) ∈ tb := tb_m3 (List.mem_of_getElem? (i := 67) rfl) rfl
theorem tm_600 : (.instanceMethod yX0_setNumber : Cond) ∈ tb := tb_m3 (List.mem_of_getElem? (i := 68) rfl) rfl
theorem tm_601 : (.selects RX0 yX0_setNumber yX0_setNumber : Cond) ∈ tb := tb_m3 (List.mem_of_getElem? (i := 69) rfl) rfl
theorem tm_602 : (.code yX0_setNumber cX0_setNumber 3 none : Cond) ∈ tb := tb_m3 (List.mem_of_getElem? (i := 70) rfl) rfl
theorem tm_604 : (.methodLink RX3 157 yX3_readRuler : Cond) ∈ tb := tb_m3 (List.mem_of_getElem? (i := 72) rfl) rfl
theorem tm_606 : (.instanceMethod yX3_readRuler : Cond) ∈ tb := tb_m3 (List.mem_of_getElem? (i := 74) rfl) rfl
theorem tm_607 : (.code yX3_readRuler cX3_readRuler 2 (some .boolean) : Cond) ∈ tb := tb_m3 (List.mem_of_getElem? (i := 75) rfl) rfl
theorem tm_608 : (.methodLink RX3 171 yX6_nameBetween : Cond) ∈ tb := tb_m3 (List.mem_of_getElem? (i := 76) rfl) rfl
theorem tm_609 : (.methodLink RX3 175 yX4_find : Cond) ∈ tb := tb_m3 (List.mem_of_getElem? (i := 77) rfl) rfl
theorem tm_610 : (.methodLink RX3 58 yX3_readCalendar : Cond) ∈ tb := tb_m3 (List.mem_of_getElem? (i := 78) rfl) rfl
theorem tm_612 : (.instanceMethod yX3_readCalendar : Cond) ∈ tb := tb_m3 (List.mem_of_getElem? (i := 80) rfl) rfl
theorem tm_613 : (.code yX3_readCalendar cX3_readCalendar 1 (some .boolean) : Cond) ∈ tb := tb_m3 (List.mem_of_getElem? (i := 81) rfl) rfl
theorem tm_617 : (.methodLink RX3 191 yX0_setCalendar : Cond) ∈ tb := tb_m3 (List.mem_of_getElem? (i := 85) rfl) rfl
theorem tm_618 : (.instanceMethod yX0_setCalendar : Cond) ∈ tb := tb_m3 (List.mem_of_getElem? (i := 86) rfl) rfl
theorem tm_619 : (.selects RX0 yX0_setCalendar yX0_setCalendar : Cond) ∈ tb := tb_m3 (List.mem_of_getElem? (i := 87) rfl) rfl
theorem tm_620 : (.code yX0_setCalendar cX0_setCalendar 2 none : Cond) ∈ tb := tb_m3 (List.mem_of_getElem? (i := 88) rfl) rfl
theorem tm_621 : (.methodLink RX3 61 yX3_readClose : Cond) ∈ tb := tb_m3 (List.mem_of_getElem? (i := 89) rfl) rfl
theorem tm_623 : (.instanceMethod yX3_readClose : Cond) ∈ tb := tb_m3 (List.mem_of_getElem? (i := 91) rfl) rfl
theorem tm_624 : (.code yX3_readClose cX3_readClose 1 (some .boolean) : Cond) ∈ tb := tb_m3 (List.mem_of_getElem? (i := 92) rfl) rfl
theorem tm_625 : (.methodLink RX3 64 yX3_joinRuler : Cond) ∈ tb := tb_m3 (List.mem_of_getElem? (i := 93) rfl) rfl
theorem tm_627 : (.instanceMethod yX3_joinRuler : Cond) ∈ tb := tb_m3 (List.mem_of_getElem? (i := 95) rfl) rfl
theorem tm_628 : (.code yX3_joinRuler cX3_joinRuler 1 (some .boolean) : Cond) ∈ tb := tb_m3 (List.mem_of_getElem? (i := 96) rfl) rfl
theorem tm_629 : (.methodLink RX3 194 yX4_calendarOf : Cond) ∈ tb := tb_m3 (List.mem_of_getElem? (i := 97) rfl) rfl
theorem tm_630 : (.instanceMethod yX4_calendarOf : Cond) ∈ tb := tb_m3 (List.mem_of_getElem? (i := 98) rfl) rfl
theorem tm_631 : (.selects RX4 yX4_calendarOf yX4_calendarOf : Cond) ∈ tb := tb_m3 (List.mem_of_getElem? (i := 99) rfl) rfl
theorem tm_632 : (.code yX4_calendarOf cX4_calendarOf 2 (some .int) : Cond) ∈ tb := tb_m3 (List.mem_of_getElem? (i := 100) rfl) rfl
theorem tm_633 : (.methodLink RX4 35 yX4_isThere : Cond) ∈ tb := tb_m3 (List.mem_of_getElem? (i := 101) rfl) rfl
theorem tm_635 : (.instanceMethod yX4_isThere : Cond) ∈ tb := tb_m3 (List.mem_of_getElem? (i := 103) rfl) rfl
theorem tm_636 : (.code yX4_isThere cX4_isThere 2 (some .boolean) : Cond) ∈ tb := tb_m3 (List.mem_of_getElem? (i := 104) rfl) rfl
theorem tm_637 : (.methodLink RX3 197 yX4_firstYearOf : Cond) ∈ tb := tb_m3 (List.mem_of_getElem? (i := 105) rfl) rfl
theorem tm_638 : (.instanceMethod yX4_firstYearOf : Cond) ∈ tb := tb_m3 (List.mem_of_getElem? (i := 106) rfl) rfl
theorem tm_639 : (.selects RX4 yX4_firstYearOf yX4_firstYearOf : Cond) ∈ tb := tb_m3 (List.mem_of_getElem? (i := 107) rfl) rfl
theorem tm_640 : (.code yX4_firstYearOf cX4_firstYearOf 2 (some .int) : Cond) ∈ tb := tb_m3 (List.mem_of_getElem? (i := 108) rfl) rfl
theorem tm_641 : (.methodLink RX3 200 yX0_setYearZero : Cond) ∈ tb := tb_m3 (List.mem_of_getElem? (i := 109) rfl) rfl
theorem tm_642 : (.instanceMethod yX0_setYearZero : Cond) ∈ tb := tb_m3 (List.mem_of_getElem? (i := 110) rfl) rfl
theorem tm_643 : (.selects RX0 yX0_setYearZero yX0_setYearZero : Cond) ∈ tb := tb_m3 (List.mem_of_getElem? (i := 111) rfl) rfl
theorem tm_644 : (.code yX0_setYearZero cX0_setYearZero 2 none : Cond) ∈ tb := tb_m3 (List.mem_of_getElem? (i := 112) rfl) rfl
theorem tm_645 : (.methodLink RX7 149 yX1_keepSpare : Cond) ∈ tb := tb_m3 (List.mem_of_getElem? (i := 113) rfl) rfl
theorem tm_646 : (.instanceMethod yX1_keepSpare : Cond) ∈ tb := tb_m3 (List.mem_of_getElem? (i := 114) rfl) rfl
theorem tm_647 : (.selects RX1 yX1_keepSpare yX1_keepSpare : Cond) ∈ tb := tb_m3 (List.mem_of_getElem? (i := 115) rfl) rfl
theorem tm_648 : (.code yX1_keepSpare cX1_keepSpare 1 (some .int) : Cond) ∈ tb := tb_m3 (List.mem_of_getElem? (i := 116) rfl) rfl
theorem tm_649 : (.arrayClass .byte : Cond) ∈ tb := tb_m3 (List.mem_of_getElem? (i := 117) rfl) rfl
theorem tm_650 : (.methodLink RL 68 yX7_fault : Cond) ∈ tb := tb_m3 (List.mem_of_getElem? (i := 118) rfl) rfl
theorem tm_651 : (.instanceMethod yX7_fault : Cond) ∈ tb := tb_m3 (List.mem_of_getElem? (i := 119) rfl) rfl
theorem tm_652 : (.selects RX7 yX7_fault yX7_fault : Cond) ∈ tb := tb_m3 (List.mem_of_getElem? (i := 120) rfl) rfl
theorem tm_653 : (.code yX7_fault cX7_fault 2 (some .int) : Cond) ∈ tb := tb_m3 (List.mem_of_getElem? (i := 121) rfl) rfl
theorem tm_654 : (.methodLink RX7 152 yX3_faultKind : Cond) ∈ tb := tb_m3 (List.mem_of_getElem? (i := 122) rfl) rfl
theorem tm_655 : (.instanceMethod yX3_faultKind : Cond) ∈ tb := tb_m3 (List.mem_of_getElem? (i := 123) rfl) rfl
theorem tm_656 : (.selects RX3 yX3_faultKind yX3_faultKind : Cond) ∈ tb := tb_m3 (List.mem_of_getElem? (i := 124) rfl) rfl
theorem tm_657 : (.code yX3_faultKind cX3_faultKind 1 (some .int) : Cond) ∈ tb := tb_m3 (List.mem_of_getElem? (i := 125) rfl) rfl
theorem tm_658 : (.methodLink RX7 155 yX3_faultPlace : Cond) ∈ tb := tb_m3 (List.mem_of_getElem? (i := 126) rfl) rfl
theorem tm_659 : (.instanceMethod yX3_faultPlace : Cond) ∈ tb := tb_m3 (List.mem_of_getElem? (i := 127) rfl) rfl
theorem tm_660 : (.selects RX3 yX3_faultPlace yX3_faultPlace : Cond) ∈ tb := tb_m3 (List.mem_of_getElem? (i := 128) rfl) rfl
theorem tm_661 : (.code yX3_faultPlace cX3_faultPlace 1 (some .int) : Cond) ∈ tb := tb_m3 (List.mem_of_getElem? (i := 129) rfl) rfl
theorem tm_662 : (.methodLink RL 72 yX7_means : Cond) ∈ tb := tb_m3 (List.mem_of_getElem? (i := 130) rfl) rfl
theorem tm_663 : (.instanceMethod yX7_means : Cond) ∈ tb := tb_m3 (List.mem_of_getElem? (i := 131) rfl) rfl
theorem tm_664 : (.selects RX7 yX7_means yX7_means : Cond) ∈ tb := tb_m3 (List.mem_of_getElem? (i := 132) rfl) rfl
theorem tm_665 : (.code yX7_means cX7_means 4 (some .int) : Cond) ∈ tb := tb_m3 (List.mem_of_getElem? (i := 133) rfl) rfl
theorem tm_666 : (.methodLink RX7 158 yX1_find : Cond) ∈ tb := tb_m3 (List.mem_of_getElem? (i := 134) rfl) rfl
theorem tm_667 : (.instanceMethod yX1_find : Cond) ∈ tb := tb_m3 (List.mem_of_getElem? (i := 135) rfl) rfl
theorem tm_668 : (.selects RX1 yX1_find yX1_find : Cond) ∈ tb := tb_m3 (List.mem_of_getElem? (i := 136) rfl) rfl
theorem tm_669 : (.code yX1_find cX1_find 2 (some (.object "EclipseHouse$Account")) : Cond) ∈ tb := tb_m3 (List.mem_of_getElem? (i := 137) rfl) rfl
theorem tm_670 : (.methodLink RX7 162 yX0_countMeant : Cond) ∈ tb := tb_m3 (List.mem_of_getElem? (i := 138) rfl) rfl
theorem tm_671 : (.instanceMethod yX0_countMeant : Cond) ∈ tb := tb_m3 (List.mem_of_getElem? (i := 139) rfl) rfl
theorem tm_672 : (.selects RX0 yX0_countMeant yX0_countMeant : Cond) ∈ tb := tb_m3 (List.mem_of_getElem? (i := 140) rfl) rfl
theorem tm_673 : (.code yX0_countMeant cX0_countMeant 6 (some .int) : Cond) ∈ tb := tb_m3 (List.mem_of_getElem? (i := 141) rfl) rfl
theorem tm_674 : (.methodLink RX0 31 yX5_listEclipses : Cond) ∈ tb := tb_m3 (List.mem_of_getElem? (i := 142) rfl) rfl
theorem tm_675 : (.methodLink RX0 37 yX0_isMeant : Cond) ∈ tb := tb_m3 (List.mem_of_getElem? (i := 143) rfl) rfl
theorem tm_677 : (.instanceMethod yX0_isMeant : Cond) ∈ tb := tb_m3 (List.mem_of_getElem? (i := 145) rfl) rfl
theorem tm_678 : (.code yX0_isMeant cX0_isMeant 5 (some .boolean) : Cond) ∈ tb := tb_m3 (List.mem_of_getElem? (i := 146) rfl) rfl
theorem tm_679 : (.methodLink RX0 45 yX0_hoursSeen : Cond) ∈ tb := tb_m3 (List.mem_of_getElem? (i := 147) rfl) rfl
theorem tm_681 : (.instanceMethod yX0_hoursSeen : Cond) ∈ tb := tb_m3 (List.mem_of_getElem? (i := 149) rfl) rfl
theorem tm_682 : (.code yX0_hoursSeen cX0_hoursSeen 5 (some .int) : Cond) ∈ tb := tb_m3 (List.mem_of_getElem? (i := 150) rfl) rfl
theorem tm_683 : (.methodLink RX0 67 yX0_isOfKind : Cond) ∈ tb := tb_m3 (List.mem_of_getElem? (i := 151) rfl) rfl
theorem tm_685 : (.instanceMethod yX0_isOfKind : Cond) ∈ tb := tb_m3 (List.mem_of_getElem? (i := 153) rfl) rfl
theorem tm_686 : (.code yX0_isOfKind cX0_isOfKind 3 (some .boolean) : Cond) ∈ tb := tb_m3 (List.mem_of_getElem? (i := 154) rfl) rfl
theorem tm_687 : (.methodLink RX0 100 yX5_kindAt : Cond) ∈ tb := tb_m3 (List.mem_of_getElem? (i := 155) rfl) rfl
theorem tm_688 : (.instanceMethod yX5_kindAt : Cond) ∈ tb := tb_m3 (List.mem_of_getElem? (i := 156) rfl) rfl
theorem tm_689 : (.selects RX5 yX5_kindAt yX5_kindAt : Cond) ∈ tb := tb_m3 (List.mem_of_getElem? (i := 157) rfl) rfl
theorem tm_690 : (.code yX5_kindAt cX5_kindAt 2 (some .int) : Cond) ∈ tb := tb_m3 (List.mem_of_getElem? (i := 158) rfl) rfl
theorem tm_691 : (.methodLink RX5 97 yX5_isListed : Cond) ∈ tb := tb_m3 (List.mem_of_getElem? (i := 159) rfl) rfl
theorem tm_693 : (.instanceMethod yX5_isListed : Cond) ∈ tb := tb_m3 (List.mem_of_getElem? (i := 161) rfl) rfl
theorem tm_694 : (.code yX5_isListed cX5_isListed 2 (some .boolean) : Cond) ∈ tb := tb_m3 (List.mem_of_getElem? (i := 162) rfl) rfl
theorem tm_695 : (.methodLink RX0 75 yX5_timeAt : Cond) ∈ tb := tb_m3 (List.mem_of_getElem? (i := 163) rfl) rfl
theorem tm_696 : (.instanceMethod yX5_timeAt : Cond) ∈ tb := tb_m3 (List.mem_of_getElem? (i := 164) rfl) rfl
theorem tm_697 : (.selects RX5 yX5_timeAt yX5_timeAt : Cond) ∈ tb := tb_m3 (List.mem_of_getElem? (i := 165) rfl) rfl
theorem tm_698 : (.code yX5_timeAt cX5_timeAt 2 (some .int) : Cond) ∈ tb := tb_m3 (List.mem_of_getElem? (i := 166) rfl) rfl
theorem tm_699 : (.methodLink RX0 82 yX0_hoursAt : Cond) ∈ tb := tb_m3 (List.mem_of_getElem? (i := 167) rfl) rfl
theorem tm_701 : (.instanceMethod yX0_hoursAt : Cond) ∈ tb := tb_m3 (List.mem_of_getElem? (i := 169) rfl) rfl
theorem tm_702 : (.code yX0_hoursAt cX0_hoursAt 3 (some .int) : Cond) ∈ tb := tb_m3 (List.mem_of_getElem? (i := 170) rfl) rfl
theorem tm_703 : (.methodLink RX0 93 yX5_minuteSeen : Cond) ∈ tb := tb_m3 (List.mem_of_getElem? (i := 171) rfl) rfl
theorem tm_704 : (.methodLink RX0 97 yJ9_floorDiv_7cf53 : Cond) ∈ tb := tb_m3 (List.mem_of_getElem? (i := 172) rfl) rfl
theorem tm_705 : (.methodLink RX0 78 yX5_isOfSunAt : Cond) ∈ tb := tb_m3 (List.mem_of_getElem? (i := 173) rfl) rfl
theorem tm_706 : (.instanceMethod yX5_isOfSunAt : Cond) ∈ tb := tb_m3 (List.mem_of_getElem? (i := 174) rfl) rfl
theorem tm_707 : (.selects RX5 yX5_isOfSunAt yX5_isOfSunAt : Cond) ∈ tb := tb_m3 (List.mem_of_getElem? (i := 175) rfl) rfl
theorem tm_708 : (.code yX5_isOfSunAt cX5_isOfSunAt 2 (some .boolean) : Cond) ∈ tb := tb_m3 (List.mem_of_getElem? (i := 176) rfl) rfl
theorem tm_709 : (.methodLink RX5 100 yX5_moonAt : Cond) ∈ tb := tb_m3 (List.mem_of_getElem? (i := 177) rfl) rfl
theorem tm_710 : (.instanceMethod yX5_moonAt : Cond) ∈ tb := tb_m3 (List.mem_of_getElem? (i := 178) rfl) rfl
theorem tm_711 : (.selects RX5 yX5_moonAt yX5_moonAt : Cond) ∈ tb := tb_m3 (List.mem_of_getElem? (i := 179) rfl) rfl
theorem tm_712 : (.code yX5_moonAt cX5_moonAt 2 (some .int) : Cond) ∈ tb := tb_m3 (List.mem_of_getElem? (i := 180) rfl) rfl
theorem tm_713 : (.methodLink RX0 85 yX0_isSeenAt : Cond) ∈ tb := tb_m3 (List.mem_of_getElem? (i := 181) rfl) rfl
theorem tm_714 : (.static yX0_isSeenAt : Cond) ∈ tb := tb_m3 (List.mem_of_getElem? (i := 182) rfl) rfl
theorem tm_715 : (.code yX0_isSeenAt cX0_isSeenAt 4 (some .boolean) : Cond) ∈ tb := tb_m3 (List.mem_of_getElem? (i := 183) rfl) rfl
theorem tm_716 : (.methodLink RX0 49 yX0_slipsAt : Cond) ∈ tb := tb_m3 (List.mem_of_getElem? (i := 184) rfl) rfl
theorem tm_718 : (.instanceMethod yX0_slipsAt : Cond) ∈ tb := tb_m3 (List.mem_of_getElem? (i := 186) rfl) rfl
theorem tm_719 : (.code yX0_slipsAt cX0_slipsAt 7 (some .int) : Cond) ∈ tb := tb_m3 (List.mem_of_getElem? (i := 187) rfl) rfl
theorem tm_720 : (.methodLink RX0 103 yX0_slipOf : Cond) ∈ tb := tb_m3 (List.mem_of_getElem? (i := 188) rfl) rfl
theorem tm_722 : (.instanceMethod yX0_slipOf : Cond) ∈ tb := tb_m3 (List.mem_of_getElem? (i := 190) rfl) rfl
theorem tm_723 : (.code yX0_slipOf cX0_slipOf 3 (some .int) : Cond) ∈ tb := tb_m3 (List.mem_of_getElem? (i := 191) rfl) rfl
theorem tm_724 : (.methodLink RX0 106 yX0_has : Cond) ∈ tb := tb_m3 (List.mem_of_getElem? (i := 192) rfl) rfl
theorem tm_725 : (.methodLink RX0 109 yX2_yearOf : Cond) ∈ tb := tb_m3 (List.mem_of_getElem? (i := 193) rfl) rfl
theorem tm_726 : (.methodLink RX0 114 yX0_canTell : Cond) ∈ tb := tb_m3 (List.mem_of_getElem? (i := 194) rfl) rfl
theorem tm_727 : (.static yX0_canTell : Cond) ∈ tb := tb_m3 (List.mem_of_getElem? (i := 195) rfl) rfl
theorem tm_728 : (.code yX0_canTell cX0_canTell 1 (some .boolean) : Cond) ∈ tb := tb_m3 (List.mem_of_getElem? (i := 196) rfl) rfl
theorem tm_729 : (.methodLink RX0 117 yX2_monthDayOf : Cond) ∈ tb := tb_m3 (List.mem_of_getElem? (i := 197) rfl) rfl
theorem tm_730 : (.methodLink RX0 120 yX2_monthIn : Cond) ∈ tb := tb_m3 (List.mem_of_getElem? (i := 198) rfl) rfl
theorem tm_731 : (.methodLink RX0 123 yX2_dayIn : Cond) ∈ tb := tb_m3 (List.mem_of_getElem? (i := 199) rfl) rfl
theorem tm_732 : (.methodLink RL 76 yX7_meant : Cond) ∈ tb := tb_m3 (List.mem_of_getElem? (i := 200) rfl) rfl
theorem tm_733 : (.instanceMethod yX7_meant : Cond) ∈ tb := tb_m3 (List.mem_of_getElem? (i := 201) rfl) rfl
theorem tm_734 : (.selects RX7 yX7_meant yX7_meant : Cond) ∈ tb := tb_m3 (List.mem_of_getElem? (i := 202) rfl) rfl
theorem tm_735 : (.code yX7_meant cX7_meant 5 (some .int) : Cond) ∈ tb := tb_m3 (List.mem_of_getElem? (i := 203) rfl) rfl
theorem tm_736 : (.methodLink RX7 168 yX0_findMeant : Cond) ∈ tb := tb_m3 (List.mem_of_getElem? (i := 204) rfl) rfl
theorem tm_737 : (.instanceMethod yX0_findMeant : Cond) ∈ tb := tb_m3 (List.mem_of_getElem? (i := 205) rfl) rfl
theorem tm_738 : (.selects RX0 yX0_findMeant yX0_findMeant : Cond) ∈ tb := tb_m3 (List.mem_of_getElem? (i := 206) rfl) rfl
theorem tm_739 : (.code yX0_findMeant cX0_findMeant 7 (some .int) : Cond) ∈ tb := tb_m3 (List.mem_of_getElem? (i := 207) rfl) rfl
theorem tm_740 : (.methodLink RX0 41 yX5_moonAt : Cond) ∈ tb := tb_m3 (List.mem_of_getElem? (i := 208) rfl) rfl
theorem tm_741 : (.methodLink RL 80 yX7_slips : Cond) ∈ tb := tb_m3 (List.mem_of_getElem? (i := 209) rfl) rfl
theorem tm_742 : (.instanceMethod yX7_slips : Cond) ∈ tb := tb_m3 (List.mem_of_getElem? (i := 210) rfl) rfl
theorem tm_743 : (.selects RX7 yX7_slips yX7_slips : Cond) ∈ tb := tb_m3 (List.mem_of_getElem? (i := 211) rfl) rfl
theorem tm_744 : (.code yX7_slips cX7_slips 4 (some .int) : Cond) ∈ tb := tb_m3 (List.mem_of_getElem? (i := 212) rfl) rfl
theorem tm_745 : (.methodLink RX7 172 yX0_leastSlips : Cond) ∈ tb := tb_m3 (List.mem_of_getElem? (i := 213) rfl) rfl
theorem tm_746 : (.instanceMethod yX0_leastSlips : Cond) ∈ tb := tb_m3 (List.mem_of_getElem? (i := 214) rfl) rfl
theorem tm_747 : (.selects RX0 yX0_leastSlips yX0_leastSlips : Cond) ∈ tb := tb_m3 (List.mem_of_getElem? (i := 215) rfl) rfl
theorem tm_748 : (.code yX0_leastSlips cX0_leastSlips 7 (some .int) : Cond) ∈ tb := tb_m3 (List.mem_of_getElem? (i := 216) rfl) rfl
theorem tm_749 : (.methodLink RX0 53 yJ9_min_7cf53 : Cond) ∈ tb := tb_m3 (List.mem_of_getElem? (i := 217) rfl) rfl
theorem tm_750 : (.methodLink RL 84 yX7_lets : Cond) ∈ tb := tb_m3 (List.mem_of_getElem? (i := 218) rfl) rfl
theorem tm_751 : (.instanceMethod yX7_lets : Cond) ∈ tb := tb_m3 (List.mem_of_getElem? (i := 219) rfl) rfl
theorem tm_752 : (.selects RX7 yX7_lets yX7_lets : Cond) ∈ tb := tb_m3 (List.mem_of_getElem? (i := 220) rfl) rfl
theorem tm_753 : (.code yX7_lets cX7_lets 3 (some .int) : Cond) ∈ tb := tb_m3 (List.mem_of_getElem? (i := 221) rfl) rfl
theorem tm_754 : (.methodLink RX7 175 yX0_slowsLet : Cond) ∈ tb := tb_m3 (List.mem_of_getElem? (i := 222) rfl) rfl
theorem tm_755 : (.instanceMethod yX0_slowsLet : Cond) ∈ tb := tb_m3 (List.mem_of_getElem? (i := 223) rfl) rfl
theorem tm_756 : (.selects RX0 yX0_slowsLet yX0_slowsLet : Cond) ∈ tb := tb_m3 (List.mem_of_getElem? (i := 224) rfl) rfl
theorem tm_757 : (.code yX0_slowsLet cX0_slowsLet 4 (some .long) : Cond) ∈ tb := tb_m3 (List.mem_of_getElem? (i := 225) rfl) rfl
theorem tm_758 : (.methodLink RX0 58 yX5_tablesVersion : Cond) ∈ tb := tb_m3 (List.mem_of_getElem? (i := 226) rfl) rfl
theorem tm_759 : (.instanceMethod yX5_tablesVersion : Cond) ∈ tb := tb_m3 (List.mem_of_getElem? (i := 227) rfl) rfl
theorem tm_760 : (.selects RX5 yX5_tablesVersion yX5_tablesVersion : Cond) ∈ tb := tb_m3 (List.mem_of_getElem? (i := 228) rfl) rfl
theorem tm_761 : (.code yX5_tablesVersion cX5_tablesVersion 1 (some .int) : Cond) ∈ tb := tb_m3 (List.mem_of_getElem? (i := 229) rfl) rfl
theorem tm_762 : (.constantLong RX0 65 (2305843009213693951) : Cond) ∈ tb := tb_m3 (List.mem_of_getElem? (i := 230) rfl) rfl
theorem tm_763 : (.methodLink RX0 71 yX0_slowsMeaning : Cond) ∈ tb := tb_m3 (List.mem_of_getElem? (i := 231) rfl) rfl
theorem tm_765 : (.instanceMethod yX0_slowsMeaning : Cond) ∈ tb := tb_m3 (List.mem_of_getElem? (i := 233) rfl) rfl
theorem tm_766 : (.code yX0_slowsMeaning cX0_slowsMeaning 9 (some .long) : Cond) ∈ tb := tb_m3 (List.mem_of_getElem? (i := 234) rfl) rfl
theorem tm_767 : (.methodLink RX0 89 yX0_slowsWithin : Cond) ∈ tb := tb_m3 (List.mem_of_getElem? (i := 235) rfl) rfl
theorem tm_769 : (.instanceMethod yX0_slowsWithin : Cond) ∈ tb := tb_m3 (List.mem_of_getElem? (i := 237) rfl) rfl
theorem tm_770 : (.code yX0_slowsWithin cX0_slowsWithin 6 (some .long) : Cond) ∈ tb := tb_m3 (List.mem_of_getElem? (i := 238) rfl) rfl
theorem tm_771 : (.methodLink RX7 179 yJ13_bitCount_95d88 : Cond) ∈ tb := tb_m3 (List.mem_of_getElem? (i := 239) rfl) rfl
theorem tm_772 : (.static yJ13_bitCount_95d88 : Cond) ∈ tb := tb_m4 (List.mem_of_getElem? (i := 0) rfl) rfl
theorem tm_773 : (.code yJ13_bitCount_95d88 cJ13_bitCount_95d88 2 (some .int) : Cond) ∈ tb := tb_m4 (List.mem_of_getElem? (i := 1) rfl) rfl
theorem tm_774 : (.constantLong RJ13 314 (6148914691236517205) : Cond) ∈ tb := tb_m4 (List.mem_of_getElem? (i := 2) rfl) rfl
theorem tm_775 : (.constantLong RJ13 316 (3689348814741910323) : Cond) ∈ tb := tb_m4 (List.mem_of_getElem? (i := 3) rfl) rfl
theorem tm_776 : (.constantLong RJ13 318 (1085102592571150095) : Cond) ∈ tb := tb_m4 (List.mem_of_getElem? (i := 4) rfl) rfl
theorem tm_777 : (.methodLink RL 88 yX7_slow : Cond) ∈ tb := tb_m4 (List.mem_of_getElem? (i := 5) rfl) rfl
theorem tm_778 : (.instanceMethod yX7_slow : Cond) ∈ tb := tb_m4 (List.mem_of_getElem? (i := 6) rfl) rfl
theorem tm_779 : (.selects RX7 yX7_slow yX7_slow : Cond) ∈ tb := tb_m4 (List.mem_of_getElem? (i := 7) rfl) rfl
theorem tm_780 : (.code yX7_slow cX7_slow 4 (some .int) : Cond) ∈ tb := tb_m4 (List.mem_of_getElem? (i := 8) rfl) rfl
theorem tm_781 : (.methodLink RX7 185 yX1_slowsOfAll : Cond) ∈ tb := tb_m4 (List.mem_of_getElem? (i := 9) rfl) rfl
theorem tm_782 : (.instanceMethod yX1_slowsOfAll : Cond) ∈ tb := tb_m4 (List.mem_of_getElem? (i := 10) rfl) rfl
theorem tm_783 : (.selects RX1 yX1_slowsOfAll yX1_slowsOfAll : Cond) ∈ tb := tb_m4 (List.mem_of_getElem? (i := 11) rfl) rfl
theorem tm_784 : (.code yX1_slowsOfAll cX1_slowsOfAll 6 (some .long) : Cond) ∈ tb := tb_m4 (List.mem_of_getElem? (i := 12) rfl) rfl
theorem tm_785 : (.constantLong RX1 30 (2305843009213693951) : Cond) ∈ tb := tb_m4 (List.mem_of_getElem? (i := 13) rfl) rfl
theorem tm_786 : (.methodLink RX1 26 yX1_find : Cond) ∈ tb := tb_m4 (List.mem_of_getElem? (i := 14) rfl) rfl
theorem tm_787 : (.methodLink RX1 32 yX0_slowsLet : Cond) ∈ tb := tb_m4 (List.mem_of_getElem? (i := 15) rfl) rfl
theorem tm_788 : (.methodLink RX7 188 yJ13_numberOfTrailingZeros_95d88 : Cond) ∈ tb := tb_m4 (List.mem_of_getElem? (i := 16) rfl) rfl
theorem tm_789 : (.static yJ13_numberOfTrailingZeros_95d88 : Cond) ∈ tb := tb_m4 (List.mem_of_getElem? (i := 17) rfl) rfl
theorem tm_790 : (.code yJ13_numberOfTrailingZeros_95d88 cJ13_numberOfTrailingZeros_95d88 3 (some .int) : Cond) ∈ tb := tb_m4 (List.mem_of_getElem? (i := 18) rfl) rfl
theorem tm_791 : (.methodLink RJ13 311 yJ6_numberOfTrailingZeros_0f7a4 : Cond) ∈ tb := tb_m4 (List.mem_of_getElem? (i := 19) rfl) rfl
theorem tm_792 : (.static yJ6_numberOfTrailingZeros_0f7a4 : Cond) ∈ tb := tb_m4 (List.mem_of_getElem? (i := 20) rfl) rfl
theorem tm_793 : (.code yJ6_numberOfTrailingZeros_0f7a4 cJ6_numberOfTrailingZeros_0f7a4 2 (some .int) : Cond) ∈ tb := tb_m4 (List.mem_of_getElem? (i := 21) rfl) rfl
theorem tm_794 : (.constant RJ6 264 (65536) : Cond) ∈ tb := tb_m4 (List.mem_of_getElem? (i := 22) rfl) rfl
theorem tm_795 : (.methodLink RX7 191 yJ13_numberOfLeadingZeros_95d88 : Cond) ∈ tb := tb_m4 (List.mem_of_getElem? (i := 23) rfl) rfl
theorem tm_796 : (.static yJ13_numberOfLeadingZeros_95d88 : Cond) ∈ tb := tb_m4 (List.mem_of_getElem? (i := 24) rfl) rfl
theorem tm_797 : (.code yJ13_numberOfLeadingZeros_95d88 cJ13_numberOfLeadingZeros_95d88 3 (some .int) : Cond) ∈ tb := tb_m4 (List.mem_of_getElem? (i := 25) rfl) rfl
theorem tm_798 : (.methodLink RJ13 308 yJ6_numberOfLeadingZeros_0f7a4 : Cond) ∈ tb := tb_m4 (List.mem_of_getElem? (i := 26) rfl) rfl
theorem tm_799 : (.static yJ6_numberOfLeadingZeros_0f7a4 : Cond) ∈ tb := tb_m4 (List.mem_of_getElem? (i := 27) rfl) rfl
theorem tm_800 : (.code yJ6_numberOfLeadingZeros_0f7a4 cJ6_numberOfLeadingZeros_0f7a4 2 (some .int) : Cond) ∈ tb := tb_m4 (List.mem_of_getElem? (i := 28) rfl) rfl
theorem tm_801 : (.methodLink RL 92 yX7_drop : Cond) ∈ tb := tb_m4 (List.mem_of_getElem? (i := 29) rfl) rfl
theorem tm_802 : (.instanceMethod yX7_drop : Cond) ∈ tb := tb_m4 (List.mem_of_getElem? (i := 30) rfl) rfl
theorem tm_803 : (.selects RX7 yX7_drop yX7_drop : Cond) ∈ tb := tb_m4 (List.mem_of_getElem? (i := 31) rfl) rfl
theorem tm_804 : (.code yX7_drop cX7_drop 2 (some .int) : Cond) ∈ tb := tb_m4 (List.mem_of_getElem? (i := 32) rfl) rfl
theorem tm_805 : (.methodLink RX7 194 yX1_remove : Cond) ∈ tb := tb_m4 (List.mem_of_getElem? (i := 33) rfl) rfl
theorem tm_806 : (.instanceMethod yX1_remove : Cond) ∈ tb := tb_m4 (List.mem_of_getElem? (i := 34) rfl) rfl
theorem tm_807 : (.selects RX1 yX1_remove yX1_remove : Cond) ∈ tb := tb_m4 (List.mem_of_getElem? (i := 35) rfl) rfl
theorem tm_808 : (.code yX1_remove cX1_remove 4 (some .int) : Cond) ∈ tb := tb_m4 (List.mem_of_getElem? (i := 36) rfl) rfl
theorem tm_809 : (.classLink RL 10 RX8 : Cond) ∈ tb := tb_m4 (List.mem_of_getElem? (i := 37) rfl) rfl
theorem tm_810 : (.instantiable RX8 50 : Cond) ∈ tb := tb_m4 (List.mem_of_getElem? (i := 38) rfl) rfl
theorem tm_811 : (.methodLink RL 12 yX8_init : Cond) ∈ tb := tb_m4 (List.mem_of_getElem? (i := 39) rfl) rfl
theorem tm_812 : (.instanceMethod yX8_init : Cond) ∈ tb := tb_m4 (List.mem_of_getElem? (i := 40) rfl) rfl
theorem tm_813 : (.code yX8_init cX8_init 1 none : Cond) ∈ tb := tb_m4 (List.mem_of_getElem? (i := 41) rfl) rfl
theorem tm_814 : (.methodLink RX8 1 objectInit : Cond) ∈ tb := tb_m4 (List.mem_of_getElem? (i := 42) rfl) rfl
theorem tm_815 : (.fieldLink RX8 7 "EclipseHouseModel" "a" "I" : Cond) ∈ tb := tb_m4 (List.mem_of_getElem? (i := 43) rfl) rfl
theorem tm_816 : (.fieldLink RX8 117 "EclipseHouseModel" "b" "I" : Cond) ∈ tb := tb_m4 (List.mem_of_getElem? (i := 44) rfl) rfl
theorem tm_817 : (.fieldLink RX8 13 "EclipseHouseModel" "f" "I" : Cond) ∈ tb := tb_m4 (List.mem_of_getElem? (i := 45) rfl) rfl
theorem tm_818 : (.fieldLink RX8 120 "EclipseHouseModel" "isNoted" "Z" : Cond) ∈ tb := tb_m4 (List.mem_of_getElem? (i := 46) rfl) rfl
theorem tm_819 : (.fieldLink RX8 174 "EclipseHouseModel" "eclipses" "I" : Cond) ∈ tb := tb_m4 (List.mem_of_getElem? (i := 47) rfl) rfl
theorem tm_820 : (.fieldLink RX8 16 "EclipseHouseModel" "eclipse" "[I" : Cond) ∈ tb := tb_m4 (List.mem_of_getElem? (i := 48) rfl) rfl
theorem tm_821 : (.fieldLink RX8 20 "EclipseHouseModel" "sort" "[I" : Cond) ∈ tb := tb_m4 (List.mem_of_getElem? (i := 49) rfl) rfl
theorem tm_822 : (.fieldLink RX8 23 "EclipseHouseModel" "minute" "[I" : Cond) ∈ tb := tb_m4 (List.mem_of_getElem? (i := 50) rfl) rfl
theorem tm_823 : (.fieldLink RX8 26 "EclipseHouseModel" "waveRow" "[I" : Cond) ∈ tb := tb_m4 (List.mem_of_getElem? (i := 51) rfl) rfl
theorem tm_824 : (.fieldLink RX8 29 "EclipseHouseModel" "leapMonths" "[I" : Cond) ∈ tb := tb_m4 (List.mem_of_getElem? (i := 52) rfl) rfl
theorem tm_825 : (.fieldLink RX8 184 "EclipseHouseModel" "dateYear" "I" : Cond) ∈ tb := tb_m4 (List.mem_of_getElem? (i := 53) rfl) rfl
theorem tm_826 : (.fieldLink RX8 191 "EclipseHouseModel" "dateMonth" "I" : Cond) ∈ tb := tb_m4 (List.mem_of_getElem? (i := 54) rfl) rfl
theorem tm_827 : (.fieldLink RX8 198 "EclipseHouseModel" "dateDay" "I" : Cond) ∈ tb := tb_m4 (List.mem_of_getElem? (i := 55) rfl) rfl
theorem tm_828 : (.fieldLink RX8 32 "EclipseHouseModel" "tape" "[I" : Cond) ∈ tb := tb_m4 (List.mem_of_getElem? (i := 56) rfl) rfl
theorem tm_829 : (.fieldLink RX8 211 "EclipseHouseModel" "taped" "I" : Cond) ∈ tb := tb_m4 (List.mem_of_getElem? (i := 57) rfl) rfl
theorem tm_830 : (.fieldLink RX8 220 "EclipseHouseModel" "at" "I" : Cond) ∈ tb := tb_m4 (List.mem_of_getElem? (i := 58) rfl) rfl
theorem tm_831 : (.fieldLink RX8 223 "EclipseHouseModel" "size" "I" : Cond) ∈ tb := tb_m4 (List.mem_of_getElem? (i := 59) rfl) rfl
theorem tm_832 : (.fieldLink RX8 233 "EclipseHouseModel" "ended" "I" : Cond) ∈ tb := tb_m4 (List.mem_of_getElem? (i := 60) rfl) rfl
theorem tm_833 : (.fieldLink RX8 214 "EclipseHouseModel" "bad" "I" : Cond) ∈ tb := tb_m4 (List.mem_of_getElem? (i := 61) rfl) rfl
theorem tm_834 : (.fieldLink RX8 217 "EclipseHouseModel" "badPlace" "I" : Cond) ∈ tb := tb_m4 (List.mem_of_getElem? (i := 62) rfl) rfl
theorem tm_835 : (.fieldLink RX8 289 "EclipseHouseModel" "fault" "I" : Cond) ∈ tb := tb_m4 (List.mem_of_getElem? (i := 63) rfl) rfl
theorem tm_836 : (.fieldLink RX8 35 "EclipseHouseModel" "faultPlace" "I" : Cond) ∈ tb := tb_m4 (List.mem_of_getElem? (i := 64) rfl) rfl
theorem tm_837 : (.fieldLink RX8 249 "EclipseHouseModel" "reigns" "I" : Cond) ∈ tb := tb_m4 (List.mem_of_getElem? (i := 65) rfl) rfl
theorem tm_838 : (.fieldLink RX8 38 "EclipseHouseModel" "reignName" "[J" : Cond) ∈ tb := tb_m4 (List.mem_of_getElem? (i := 66) rfl) rfl
theorem tm_839 : (.fieldLink RX8 42 "EclipseHouseModel" "reignCalendar" "[I" : Cond) ∈ tb := tb_m4 (List.mem_of_getElem? (i := 67) rfl) rfl
theorem tm_840 : (.fieldLink RX8 45 "EclipseHouseModel" "reignYear" "[I" : Cond) ∈ tb := tb_m4 (List.mem_of_getElem? (i := 68) rfl) rfl
theorem tm_841 : (.fieldLink RX8 282 "EclipseHouseModel" "records" "I" : Cond) ∈ tb := tb_m4 (List.mem_of_getElem? (i := 69) rfl) rfl
theorem tm_842 : (.fieldLink RX8 48 "EclipseHouseModel" "sorts" "[I" : Cond) ∈ tb := tb_m4 (List.mem_of_getElem? (i := 70) rfl) rfl
theorem tm_843 : (.fieldLink RX8 51 "EclipseHouseModel" "numbers" "[I" : Cond) ∈ tb := tb_m4 (List.mem_of_getElem? (i := 71) rfl) rfl
theorem tm_844 : (.fieldLink RX8 54 "EclipseHouseModel" "began" "[I" : Cond) ∈ tb := tb_m4 (List.mem_of_getElem? (i := 72) rfl) rfl
theorem tm_845 : (.fieldLink RX8 57 "EclipseHouseModel" "calendarOf" "[I" : Cond) ∈ tb := tb_m4 (List.mem_of_getElem? (i := 73) rfl) rfl
theorem tm_846 : (.fieldLink RX8 60 "EclipseHouseModel" "eastOf" "[I" : Cond) ∈ tb := tb_m4 (List.mem_of_getElem? (i := 74) rfl) rfl
theorem tm_847 : (.fieldLink RX8 264 "EclipseHouseModel" "namePlace" "I" : Cond) ∈ tb := tb_m4 (List.mem_of_getElem? (i := 75) rfl) rfl
theorem tm_848 : (.fieldLink RX8 267 "EclipseHouseModel" "nameReign" "I" : Cond) ∈ tb := tb_m4 (List.mem_of_getElem? (i := 76) rfl) rfl
theorem tm_849 : (.fieldLink RX8 63 "EclipseHouseModel" "sunWord" "[C" : Cond) ∈ tb := tb_m4 (List.mem_of_getElem? (i := 77) rfl) rfl
theorem tm_850 : (.fieldLink RX8 67 "EclipseHouseModel" "moonWord" "[C" : Cond) ∈ tb := tb_m4 (List.mem_of_getElem? (i := 78) rfl) rfl
theorem tm_851 : (.fieldLink RX8 70 "EclipseHouseModel" "totalWord" "[C" : Cond) ∈ tb := tb_m4 (List.mem_of_getElem? (i := 79) rfl) rfl
theorem tm_852 : (.fieldLink RX8 73 "EclipseHouseModel" "ringWord" "[C" : Cond) ∈ tb := tb_m4 (List.mem_of_getElem? (i := 80) rfl) rfl
theorem tm_853 : (.fieldLink RX8 76 "EclipseHouseModel" "partWord" "[C" : Cond) ∈ tb := tb_m4 (List.mem_of_getElem? (i := 81) rfl) rfl
theorem tm_854 : (.fieldLink RX8 79 "EclipseHouseModel" "wholeWord" "[C" : Cond) ∈ tb := tb_m4 (List.mem_of_getElem? (i := 82) rfl) rfl
theorem tm_855 : (.fieldLink RX8 82 "EclipseHouseModel" "halfWord" "[C" : Cond) ∈ tb := tb_m4 (List.mem_of_getElem? (i := 83) rfl) rfl
theorem tm_856 : (.fieldLink RX8 85 "EclipseHouseModel" "yearWord" "[C" : Cond) ∈ tb := tb_m4 (List.mem_of_getElem? (i := 84) rfl) rfl
theorem tm_857 : (.fieldLink RX8 88 "EclipseHouseModel" "monthWord" "[C" : Cond) ∈ tb := tb_m4 (List.mem_of_getElem? (i := 85) rfl) rfl
theorem tm_858 : (.fieldLink RX8 91 "EclipseHouseModel" "dayWord" "[C" : Cond) ∈ tb := tb_m4 (List.mem_of_getElem? (i := 86) rfl) rfl
theorem tm_859 : (.fieldLink RX8 94 "EclipseHouseModel" "hourWord" "[C" : Cond) ∈ tb := tb_m4 (List.mem_of_getElem? (i := 87) rfl) rfl
theorem tm_860 : (.fieldLink RX8 97 "EclipseHouseModel" "ofWord" "[C" : Cond) ∈ tb := tb_m4 (List.mem_of_getElem? (i := 88) rfl) rfl
theorem tm_861 : (.fieldLink RX8 100 "EclipseHouseModel" "inWord" "[C" : Cond) ∈ tb := tb_m4 (List.mem_of_getElem? (i := 89) rfl) rfl
theorem tm_862 : (.fieldLink RX8 103 "EclipseHouseModel" "evenWord" "[C" : Cond) ∈ tb := tb_m4 (List.mem_of_getElem? (i := 90) rfl) rfl
theorem tm_863 : (.fieldLink RX8 106 "EclipseHouseModel" "leapWord" "[C" : Cond) ∈ tb := tb_m4 (List.mem_of_getElem? (i := 91) rfl) rfl
theorem tm_864 : (.fieldLink RX8 109 "EclipseHouseModel" "moonsWord" "[C" : Cond) ∈ tb := tb_m4 (List.mem_of_getElem? (i := 92) rfl) rfl
theorem tm_865 : (.lays "EclipseHouseModel" "EclipseHouseModel" "a" "I" : Cond) ∈ tb := tb_m4 (List.mem_of_getElem? (i := 93) rfl) rfl
theorem tm_867 : (.lays "EclipseHouseModel" "EclipseHouseModel" "b" "I" : Cond) ∈ tb := tb_m4 (List.mem_of_getElem? (i := 95) rfl) rfl
theorem tm_869 : (.lays "EclipseHouseModel" "EclipseHouseModel" "f" "I" : Cond) ∈ tb := tb_m4 (List.mem_of_getElem? (i := 97) rfl) rfl
theorem tm_871 : (.lays "EclipseHouseModel" "EclipseHouseModel" "isNoted" "Z" : Cond) ∈ tb := tb_m4 (List.mem_of_getElem? (i := 99) rfl) rfl
theorem tm_873 : (.lays "EclipseHouseModel" "EclipseHouseModel" "eclipses" "I" : Cond) ∈ tb := tb_m4 (List.mem_of_getElem? (i := 101) rfl) rfl
theorem tm_875 : (.laysFinal "EclipseHouseModel" "EclipseHouseModel" "eclipse" "[I" : Cond) ∈ tb := tb_m4 (List.mem_of_getElem? (i := 103) rfl) rfl
theorem tm_877 : (.laysFinal "EclipseHouseModel" "EclipseHouseModel" "sort" "[I" : Cond) ∈ tb := tb_m4 (List.mem_of_getElem? (i := 105) rfl) rfl
theorem tm_879 : (.laysFinal "EclipseHouseModel" "EclipseHouseModel" "minute" "[I" : Cond) ∈ tb := tb_m4 (List.mem_of_getElem? (i := 107) rfl) rfl
theorem tm_881 : (.laysFinal "EclipseHouseModel" "EclipseHouseModel" "waveRow" "[I" : Cond) ∈ tb := tb_m4 (List.mem_of_getElem? (i := 109) rfl) rfl
theorem tm_883 : (.laysFinal "EclipseHouseModel" "EclipseHouseModel" "leapMonths" "[I" : Cond) ∈ tb := tb_m4 (List.mem_of_getElem? (i := 111) rfl) rfl
theorem tm_885 : (.lays "EclipseHouseModel" "EclipseHouseModel" "dateYear" "I" : Cond) ∈ tb := tb_m4 (List.mem_of_getElem? (i := 113) rfl) rfl
theorem tm_887 : (.lays "EclipseHouseModel" "EclipseHouseModel" "dateMonth" "I" : Cond) ∈ tb := tb_m4 (List.mem_of_getElem? (i := 115) rfl) rfl
theorem tm_889 : (.lays "EclipseHouseModel" "EclipseHouseModel" "dateDay" "I" : Cond) ∈ tb := tb_m4 (List.mem_of_getElem? (i := 117) rfl) rfl
theorem tm_891 : (.laysFinal "EclipseHouseModel" "EclipseHouseModel" "tape" "[I" : Cond) ∈ tb := tb_m4 (List.mem_of_getElem? (i := 119) rfl) rfl
theorem tm_893 : (.lays "EclipseHouseModel" "EclipseHouseModel" "taped" "I" : Cond) ∈ tb := tb_m4 (List.mem_of_getElem? (i := 121) rfl) rfl
theorem tm_895 : (.lays "EclipseHouseModel" "EclipseHouseModel" "at" "I" : Cond) ∈ tb := tb_m4 (List.mem_of_getElem? (i := 123) rfl) rfl
theorem tm_897 : (.lays "EclipseHouseModel" "EclipseHouseModel" "size" "I" : Cond) ∈ tb := tb_m4 (List.mem_of_getElem? (i := 125) rfl) rfl
theorem tm_899 : (.lays "EclipseHouseModel" "EclipseHouseModel" "ended" "I" : Cond) ∈ tb := tb_m4 (List.mem_of_getElem? (i := 127) rfl) rfl
theorem tm_901 : (.lays "EclipseHouseModel" "EclipseHouseModel" "bad" "I" : Cond) ∈ tb := tb_m4 (List.mem_of_getElem? (i := 129) rfl) rfl
theorem tm_903 : (.lays "EclipseHouseModel" "EclipseHouseModel" "badPlace" "I" : Cond) ∈ tb := tb_m4 (List.mem_of_getElem? (i := 131) rfl) rfl
theorem tm_905 : (.lays "EclipseHouseModel" "EclipseHouseModel" "fault" "I" : Cond) ∈ tb := tb_m4 (List.mem_of_getElem? (i := 133) rfl) rfl
theorem tm_907 : (.lays "EclipseHouseModel" "EclipseHouseModel" "faultPlace" "I" : Cond) ∈ tb := tb_m4 (List.mem_of_getElem? (i := 135) rfl) rfl
theorem tm_909 : (.lays "EclipseHouseModel" "EclipseHouseModel" "reigns" "I" : Cond) ∈ tb := tb_m4 (List.mem_of_getElem? (i := 137) rfl) rfl
theorem tm_911 : (.laysFinal "EclipseHouseModel" "EclipseHouseModel" "reignName" "[J" : Cond) ∈ tb := tb_m4 (List.mem_of_getElem? (i := 139) rfl) rfl
theorem tm_913 : (.laysFinal "EclipseHouseModel" "EclipseHouseModel" "reignCalendar" "[I" : Cond) ∈ tb := tb_m4 (List.mem_of_getElem? (i := 141) rfl) rfl
theorem tm_915 : (.laysFinal "EclipseHouseModel" "EclipseHouseModel" "reignYear" "[I" : Cond) ∈ tb := tb_m4 (List.mem_of_getElem? (i := 143) rfl) rfl
theorem tm_917 : (.lays "EclipseHouseModel" "EclipseHouseModel" "records" "I" : Cond) ∈ tb := tb_m4 (List.mem_of_getElem? (i := 145) rfl) rfl
theorem tm_919 : (.laysFinal "EclipseHouseModel" "EclipseHouseModel" "sorts" "[I" : Cond) ∈ tb := tb_m4 (List.mem_of_getElem? (i := 147) rfl) rfl
theorem tm_921 : (.laysFinal "EclipseHouseModel" "EclipseHouseModel" "numbers" "[I" : Cond) ∈ tb := tb_m4 (List.mem_of_getElem? (i := 149) rfl) rfl
theorem tm_923 : (.laysFinal "EclipseHouseModel" "EclipseHouseModel" "began" "[I" : Cond) ∈ tb := tb_m4 (List.mem_of_getElem? (i := 151) rfl) rfl
theorem tm_925 : (.laysFinal "EclipseHouseModel" "EclipseHouseModel" "calendarOf" "[I" : Cond) ∈ tb := tb_m4 (List.mem_of_getElem? (i := 153) rfl) rfl
theorem tm_927 : (.laysFinal "EclipseHouseModel" "EclipseHouseModel" "eastOf" "[I" : Cond) ∈ tb := tb_m4 (List.mem_of_getElem? (i := 155) rfl) rfl
theorem tm_929 : (.lays "EclipseHouseModel" "EclipseHouseModel" "namePlace" "I" : Cond) ∈ tb := tb_m4 (List.mem_of_getElem? (i := 157) rfl) rfl
theorem tm_931 : (.lays "EclipseHouseModel" "EclipseHouseModel" "nameReign" "I" : Cond) ∈ tb := tb_m4 (List.mem_of_getElem? (i := 159) rfl) rfl
theorem tm_933 : (.laysFinal "EclipseHouseModel" "EclipseHouseModel" "sunWord" "[C" : Cond) ∈ tb := tb_m4 (List.mem_of_getElem? (i := 161) rfl) rfl
theorem tm_935 : (.laysFinal "EclipseHouseModel" "EclipseHouseModel" "moonWord" "[C" : Cond) ∈ tb := tb_m4 (List.mem_of_getElem? (i := 163) rfl) rfl
theorem tm_937 : (.laysFinal "EclipseHouseModel" "EclipseHouseModel" "totalWord" "[C" : Cond) ∈ tb := tb_m4 (List.mem_of_getElem? (i := 165) rfl) rfl
theorem tm_939 : (.laysFinal "EclipseHouseModel" "EclipseHouseModel" "ringWord" "[C" : Cond) ∈ tb := tb_m4 (List.mem_of_getElem? (i := 167) rfl) rfl
theorem tm_941 : (.laysFinal "EclipseHouseModel" "EclipseHouseModel" "partWord" "[C" : Cond) ∈ tb := tb_m4 (List.mem_of_getElem? (i := 169) rfl) rfl
theorem tm_943 : (.laysFinal "EclipseHouseModel" "EclipseHouseModel" "wholeWord" "[C" : Cond) ∈ tb := tb_m4 (List.mem_of_getElem? (i := 171) rfl) rfl
theorem tm_945 : (.laysFinal "EclipseHouseModel" "EclipseHouseModel" "halfWord" "[C" : Cond) ∈ tb := tb_m4 (List.mem_of_getElem? (i := 173) rfl) rfl
theorem tm_947 : (.laysFinal "EclipseHouseModel" "EclipseHouseModel" "yearWord" "[C" : Cond) ∈ tb := tb_m4 (List.mem_of_getElem? (i := 175) rfl) rfl
theorem tm_949 : (.laysFinal "EclipseHouseModel" "EclipseHouseModel" "monthWord" "[C" : Cond) ∈ tb := tb_m4 (List.mem_of_getElem? (i := 177) rfl) rfl
theorem tm_951 : (.laysFinal "EclipseHouseModel" "EclipseHouseModel" "dayWord" "[C" : Cond) ∈ tb := tb_m4 (List.mem_of_getElem? (i := 179) rfl) rfl
theorem tm_953 : (.laysFinal "EclipseHouseModel" "EclipseHouseModel" "hourWord" "[C" : Cond) ∈ tb := tb_m4 (List.mem_of_getElem? (i := 181) rfl) rfl
theorem tm_955 : (.laysFinal "EclipseHouseModel" "EclipseHouseModel" "ofWord" "[C" : Cond) ∈ tb := tb_m4 (List.mem_of_getElem? (i := 183) rfl) rfl
theorem tm_957 : (.laysFinal "EclipseHouseModel" "EclipseHouseModel" "inWord" "[C" : Cond) ∈ tb := tb_m4 (List.mem_of_getElem? (i := 185) rfl) rfl
theorem tm_959 : (.laysFinal "EclipseHouseModel" "EclipseHouseModel" "evenWord" "[C" : Cond) ∈ tb := tb_m4 (List.mem_of_getElem? (i := 187) rfl) rfl
theorem tm_961 : (.laysFinal "EclipseHouseModel" "EclipseHouseModel" "leapWord" "[C" : Cond) ∈ tb := tb_m4 (List.mem_of_getElem? (i := 189) rfl) rfl
theorem tm_963 : (.laysFinal "EclipseHouseModel" "EclipseHouseModel" "moonsWord" "[C" : Cond) ∈ tb := tb_m4 (List.mem_of_getElem? (i := 191) rfl) rfl
theorem tm_966 : (.arrayClass .long : Cond) ∈ tb := tb_m4 (List.mem_of_getElem? (i := 194) rfl) rfl
theorem tm_967 : (.arrayClass .char : Cond) ∈ tb := tb_m4 (List.mem_of_getElem? (i := 195) rfl) rfl
theorem tm_968 : (.methodLink RL 17 yX8_tables : Cond) ∈ tb := tb_m4 (List.mem_of_getElem? (i := 196) rfl) rfl
theorem tm_969 : (.instanceMethod yX8_tables : Cond) ∈ tb := tb_m4 (List.mem_of_getElem? (i := 197) rfl) rfl
theorem tm_970 : (.selects RX8 yX8_tables yX8_tables : Cond) ∈ tb := tb_m4 (List.mem_of_getElem? (i := 198) rfl) rfl
theorem tm_971 : (.code yX8_tables cX8_tables 4 (some .boolean) : Cond) ∈ tb := tb_m4 (List.mem_of_getElem? (i := 199) rfl) rfl
theorem tm_972 : (.constant RX8 112 (35999) : Cond) ∈ tb := tb_m4 (List.mem_of_getElem? (i := 200) rfl) rfl
theorem tm_973 : (.methodLink RX8 113 yX8_isIn : Cond) ∈ tb := tb_m4 (List.mem_of_getElem? (i := 201) rfl) rfl
theorem tm_974 : (.static yX8_isIn : Cond) ∈ tb := tb_m4 (List.mem_of_getElem? (i := 202) rfl) rfl
theorem tm_975 : (.code yX8_isIn cX8_isIn 3 (some .boolean) : Cond) ∈ tb := tb_m4 (List.mem_of_getElem? (i := 203) rfl) rfl
theorem tm_976 : (.methodLink RL 22 yX8_moon : Cond) ∈ tb := tb_m4 (List.mem_of_getElem? (i := 204) rfl) rfl
theorem tm_977 : (.instanceMethod yX8_moon : Cond) ∈ tb := tb_m4 (List.mem_of_getElem? (i := 205) rfl) rfl
theorem tm_978 : (.selects RX8 yX8_moon yX8_moon : Cond) ∈ tb := tb_m4 (List.mem_of_getElem? (i := 206) rfl) rfl
theorem tm_979 : (.code yX8_moon cX8_moon 3 (some .int) : Cond) ∈ tb := tb_m4 (List.mem_of_getElem? (i := 207) rfl) rfl
theorem tm_980 : (.methodLink RX8 164 yX8_isMoon : Cond) ∈ tb := tb_m4 (List.mem_of_getElem? (i := 208) rfl) rfl
theorem tm_981 : (.static yX8_isMoon : Cond) ∈ tb := tb_m4 (List.mem_of_getElem? (i := 209) rfl) rfl
theorem tm_982 : (.code yX8_isMoon cX8_isMoon 1 (some .boolean) : Cond) ∈ tb := tb_m4 (List.mem_of_getElem? (i := 210) rfl) rfl
theorem tm_983 : (.methodLink RX8 144 yX8_moonAt : Cond) ∈ tb := tb_m4 (List.mem_of_getElem? (i := 211) rfl) rfl
theorem tm_985 : (.instanceMethod yX8_moonAt : Cond) ∈ tb := tb_m4 (List.mem_of_getElem? (i := 213) rfl) rfl
theorem tm_986 : (.code yX8_moonAt cX8_moonAt 2 (some .int) : Cond) ∈ tb := tb_m4 (List.mem_of_getElem? (i := 214) rfl) rfl
theorem tm_987 : (.constantLong RX8 124 (19291) : Cond) ∈ tb := tb_m4 (List.mem_of_getElem? (i := 215) rfl) rfl
theorem tm_988 : (.constantLong RX8 126 (36000) : Cond) ∈ tb := tb_m4 (List.mem_of_getElem? (i := 216) rfl) rfl
theorem tm_989 : (.methodLink RX8 158 yX8_sunAt : Cond) ∈ tb := tb_m4 (List.mem_of_getElem? (i := 217) rfl) rfl
theorem tm_991 : (.instanceMethod yX8_sunAt : Cond) ∈ tb := tb_m4 (List.mem_of_getElem? (i := 219) rfl) rfl
theorem tm_992 : (.code yX8_sunAt cX8_sunAt 2 (some .int) : Cond) ∈ tb := tb_m4 (List.mem_of_getElem? (i := 220) rfl) rfl
theorem tm_993 : (.constantLong RX8 128 (1455) : Cond) ∈ tb := tb_m4 (List.mem_of_getElem? (i := 221) rfl) rfl
theorem tm_994 : (.methodLink RX8 161 yX8_nodeAt : Cond) ∈ tb := tb_m4 (List.mem_of_getElem? (i := 222) rfl) rfl
theorem tm_996 : (.instanceMethod yX8_nodeAt : Cond) ∈ tb := tb_m4 (List.mem_of_getElem? (i := 224) rfl) rfl
theorem tm_997 : (.code yX8_nodeAt cX8_nodeAt 2 (some .int) : Cond) ∈ tb := tb_m4 (List.mem_of_getElem? (i := 225) rfl) rfl
theorem tm_998 : (.constantLong RX8 130 (1953353) : Cond) ∈ tb := tb_m4 (List.mem_of_getElem? (i := 226) rfl) rfl
theorem tm_999 : (.constantLong RX8 132 (100) : Cond) ∈ tb := tb_m4 (List.mem_of_getElem? (i := 227) rfl) rfl
theorem tm_1000 : (.methodLink RX8 168 yX8_timeOf : Cond) ∈ tb := tb_m4 (List.mem_of_getElem? (i := 228) rfl) rfl
theorem tm_1002 : (.instanceMethod yX8_timeOf : Cond) ∈ tb := tb_m4 (List.mem_of_getElem? (i := 230) rfl) rfl
theorem tm_1003 : (.code yX8_timeOf cX8_timeOf 2 (some .int) : Cond) ∈ tb := tb_m4 (List.mem_of_getElem? (i := 231) rfl) rfl
theorem tm_1004 : (.constantLong RX8 138 (212620236) : Cond) ∈ tb := tb_m4 (List.mem_of_getElem? (i := 232) rfl) rfl
theorem tm_1005 : (.constantLong RX8 140 (10000) : Cond) ∈ tb := tb_m4 (List.mem_of_getElem? (i := 233) rfl) rfl
theorem tm_1006 : (.constantLong RX8 142 (586) : Cond) ∈ tb := tb_m4 (List.mem_of_getElem? (i := 234) rfl) rfl
theorem tm_1007 : (.methodLink RX8 147 yX8_wave : Cond) ∈ tb := tb_m4 (List.mem_of_getElem? (i := 235) rfl) rfl
theorem tm_1009 : (.instanceMethod yX8_wave : Cond) ∈ tb := tb_m4 (List.mem_of_getElem? (i := 237) rfl) rfl
theorem tm_1010 : (.code yX8_wave cX8_wave 4 (some .int) : Cond) ∈ tb := tb_m4 (List.mem_of_getElem? (i := 238) rfl) rfl
theorem tm_1011 : (.methodLink RX8 134 yX8_quarter : Cond) ∈ tb := tb_m4 (List.mem_of_getElem? (i := 239) rfl) rfl
theorem tm_1013 : (.instanceMethod yX8_quarter : Cond) ∈ tb := tb_m5 (List.mem_of_getElem? (i := 1) rfl) rfl
theorem tm_1014 : (.code yX8_quarter cX8_quarter 3 (some .int) : Cond) ∈ tb := tb_m5 (List.mem_of_getElem? (i := 2) rfl) rfl
theorem tm_1015 : (.constantLong RX8 150 (1000) : Cond) ∈ tb := tb_m5 (List.mem_of_getElem? (i := 3) rfl) rfl
theorem tm_1016 : (.methodLink RX8 152 yX8_floor : Cond) ∈ tb := tb_m5 (List.mem_of_getElem? (i := 4) rfl) rfl
theorem tm_1017 : (.static yX8_floor : Cond) ∈ tb := tb_m5 (List.mem_of_getElem? (i := 5) rfl) rfl
theorem tm_1018 : (.code yX8_floor cX8_floor 6 (some .long) : Cond) ∈ tb := tb_m5 (List.mem_of_getElem? (i := 6) rfl) rfl
theorem tm_1019 : (.constantLong RX8 156 (248) : Cond) ∈ tb := tb_m5 (List.mem_of_getElem? (i := 7) rfl) rfl
theorem tm_1020 : (.methodLink RX8 171 yX8_sortOf : Cond) ∈ tb := tb_m5 (List.mem_of_getElem? (i := 8) rfl) rfl
theorem tm_1022 : (.instanceMethod yX8_sortOf : Cond) ∈ tb := tb_m5 (List.mem_of_getElem? (i := 10) rfl) rfl
theorem tm_1023 : (.code yX8_sortOf cX8_sortOf 5 (some .int) : Cond) ∈ tb := tb_m5 (List.mem_of_getElem? (i := 11) rfl) rfl
theorem tm_1024 : (.methodLink RL 27 yX8_next : Cond) ∈ tb := tb_m5 (List.mem_of_getElem? (i := 12) rfl) rfl
theorem tm_1025 : (.instanceMethod yX8_next : Cond) ∈ tb := tb_m5 (List.mem_of_getElem? (i := 13) rfl) rfl
theorem tm_1026 : (.selects RX8 yX8_next yX8_next : Cond) ∈ tb := tb_m5 (List.mem_of_getElem? (i := 14) rfl) rfl
theorem tm_1027 : (.code yX8_next cX8_next 6 (some .int) : Cond) ∈ tb := tb_m5 (List.mem_of_getElem? (i := 15) rfl) rfl
theorem tm_1028 : (.methodLink RX8 177 yX8_notes : Cond) ∈ tb := tb_m5 (List.mem_of_getElem? (i := 16) rfl) rfl
theorem tm_1030 : (.instanceMethod yX8_notes : Cond) ∈ tb := tb_m5 (List.mem_of_getElem? (i := 18) rfl) rfl
theorem tm_1031 : (.code yX8_notes cX8_notes 3 none : Cond) ∈ tb := tb_m5 (List.mem_of_getElem? (i := 19) rfl) rfl
theorem tm_1032 : (.methodLink RL 35 yX8_many : Cond) ∈ tb := tb_m5 (List.mem_of_getElem? (i := 20) rfl) rfl
theorem tm_1033 : (.instanceMethod yX8_many : Cond) ∈ tb := tb_m5 (List.mem_of_getElem? (i := 21) rfl) rfl
theorem tm_1034 : (.selects RX8 yX8_many yX8_many : Cond) ∈ tb := tb_m5 (List.mem_of_getElem? (i := 22) rfl) rfl
theorem tm_1035 : (.code yX8_many cX8_many 6 (some .int) : Cond) ∈ tb := tb_m5 (List.mem_of_getElem? (i := 23) rfl) rfl
theorem tm_1036 : (.methodLink RL 31 yX8_round : Cond) ∈ tb := tb_m5 (List.mem_of_getElem? (i := 24) rfl) rfl
theorem tm_1037 : (.instanceMethod yX8_round : Cond) ∈ tb := tb_m5 (List.mem_of_getElem? (i := 25) rfl) rfl
theorem tm_1038 : (.selects RX8 yX8_round yX8_round : Cond) ∈ tb := tb_m5 (List.mem_of_getElem? (i := 26) rfl) rfl
theorem tm_1039 : (.code yX8_round cX8_round 5 (some .int) : Cond) ∈ tb := tb_m5 (List.mem_of_getElem? (i := 27) rfl) rfl
theorem tm_1040 : (.methodLink RL 39 yX8_date : Cond) ∈ tb := tb_m5 (List.mem_of_getElem? (i := 28) rfl) rfl
theorem tm_1041 : (.instanceMethod yX8_date : Cond) ∈ tb := tb_m5 (List.mem_of_getElem? (i := 29) rfl) rfl
theorem tm_1042 : (.selects RX8 yX8_date yX8_date : Cond) ∈ tb := tb_m5 (List.mem_of_getElem? (i := 30) rfl) rfl
theorem tm_1043 : (.code yX8_date cX8_date 4 (some .int) : Cond) ∈ tb := tb_m5 (List.mem_of_getElem? (i := 31) rfl) rfl
theorem tm_1044 : (.constant RX8 201 (400000) : Cond) ∈ tb := tb_m5 (List.mem_of_getElem? (i := 32) rfl) rfl
theorem tm_1045 : (.methodLink RX8 202 yX8_dates : Cond) ∈ tb := tb_m5 (List.mem_of_getElem? (i := 33) rfl) rfl
theorem tm_1047 : (.instanceMethod yX8_dates : Cond) ∈ tb := tb_m5 (List.mem_of_getElem? (i := 35) rfl) rfl
theorem tm_1048 : (.code yX8_dates cX8_dates 6 none : Cond) ∈ tb := tb_m5 (List.mem_of_getElem? (i := 36) rfl) rfl
theorem tm_1049 : (.methodLink RX8 187 yX8_yearDays : Cond) ∈ tb := tb_m5 (List.mem_of_getElem? (i := 37) rfl) rfl
theorem tm_1050 : (.static yX8_yearDays : Cond) ∈ tb := tb_m5 (List.mem_of_getElem? (i := 38) rfl) rfl
theorem tm_1051 : (.code yX8_yearDays cX8_yearDays 2 (some .int) : Cond) ∈ tb := tb_m5 (List.mem_of_getElem? (i := 39) rfl) rfl
theorem tm_1052 : (.methodLink RX8 180 yX8_isLong : Cond) ∈ tb := tb_m5 (List.mem_of_getElem? (i := 40) rfl) rfl
theorem tm_1053 : (.static yX8_isLong : Cond) ∈ tb := tb_m5 (List.mem_of_getElem? (i := 41) rfl) rfl
theorem tm_1054 : (.code yX8_isLong cX8_isLong 2 (some .boolean) : Cond) ∈ tb := tb_m5 (List.mem_of_getElem? (i := 42) rfl) rfl
theorem tm_1055 : (.methodLink RX8 194 yX8_monthDays : Cond) ∈ tb := tb_m5 (List.mem_of_getElem? (i := 43) rfl) rfl
theorem tm_1057 : (.instanceMethod yX8_monthDays : Cond) ∈ tb := tb_m5 (List.mem_of_getElem? (i := 45) rfl) rfl
theorem tm_1058 : (.code yX8_monthDays cX8_monthDays 4 (some .int) : Cond) ∈ tb := tb_m5 (List.mem_of_getElem? (i := 46) rfl) rfl
theorem tm_1059 : (.methodLink RL 44 yX8_day : Cond) ∈ tb := tb_m5 (List.mem_of_getElem? (i := 47) rfl) rfl
theorem tm_1060 : (.instanceMethod yX8_day : Cond) ∈ tb := tb_m5 (List.mem_of_getElem? (i := 48) rfl) rfl
theorem tm_1061 : (.selects RX8 yX8_day yX8_day : Cond) ∈ tb := tb_m5 (List.mem_of_getElem? (i := 49) rfl) rfl
theorem tm_1062 : (.code yX8_day cX8_day 7 (some .int) : Cond) ∈ tb := tb_m5 (List.mem_of_getElem? (i := 50) rfl) rfl
theorem tm_1063 : (.methodLink RL 48 yX8_seen : Cond) ∈ tb := tb_m5 (List.mem_of_getElem? (i := 51) rfl) rfl
theorem tm_1064 : (.instanceMethod yX8_seen : Cond) ∈ tb := tb_m5 (List.mem_of_getElem? (i := 52) rfl) rfl
theorem tm_1065 : (.selects RX8 yX8_seen yX8_seen : Cond) ∈ tb := tb_m5 (List.mem_of_getElem? (i := 53) rfl) rfl
theorem tm_1066 : (.code yX8_seen cX8_seen 4 (some .int) : Cond) ∈ tb := tb_m5 (List.mem_of_getElem? (i := 54) rfl) rfl
theorem tm_1067 : (.methodLink RX8 207 yX8_seenAt : Cond) ∈ tb := tb_m5 (List.mem_of_getElem? (i := 55) rfl) rfl
theorem tm_1068 : (.static yX8_seenAt : Cond) ∈ tb := tb_m5 (List.mem_of_getElem? (i := 56) rfl) rfl
theorem tm_1069 : (.code yX8_seenAt cX8_seenAt 4 (some .int) : Cond) ∈ tb := tb_m5 (List.mem_of_getElem? (i := 57) rfl) rfl
theorem tm_1070 : (.constant RX8 206 (525600) : Cond) ∈ tb := tb_m5 (List.mem_of_getElem? (i := 58) rfl) rfl
theorem tm_1071 : (.constant RX8 210 (-1000000) : Cond) ∈ tb := tb_m5 (List.mem_of_getElem? (i := 59) rfl) rfl
theorem tm_1072 : (.methodLink RL 53 yX8_feed : Cond) ∈ tb := tb_m5 (List.mem_of_getElem? (i := 60) rfl) rfl
theorem tm_1073 : (.instanceMethod yX8_feed : Cond) ∈ tb := tb_m5 (List.mem_of_getElem? (i := 61) rfl) rfl
theorem tm_1074 : (.selects RX8 yX8_feed yX8_feed : Cond) ∈ tb := tb_m5 (List.mem_of_getElem? (i := 62) rfl) rfl
theorem tm_1075 : (.code yX8_feed cX8_feed 8 (some .int) : Cond) ∈ tb := tb_m5 (List.mem_of_getElem? (i := 63) rfl) rfl
theorem tm_1076 : (.methodLink RL 58 yX8_end : Cond) ∈ tb := tb_m5 (List.mem_of_getElem? (i := 64) rfl) rfl
theorem tm_1077 : (.instanceMethod yX8_end : Cond) ∈ tb := tb_m5 (List.mem_of_getElem? (i := 65) rfl) rfl
theorem tm_1078 : (.selects RX8 yX8_end yX8_end : Cond) ∈ tb := tb_m5 (List.mem_of_getElem? (i := 66) rfl) rfl
theorem tm_1079 : (.code yX8_end cX8_end 2 (some .boolean) : Cond) ∈ tb := tb_m5 (List.mem_of_getElem? (i := 67) rfl) rfl
theorem tm_1080 : (.methodLink RL 62 yX8_reign : Cond) ∈ tb := tb_m5 (List.mem_of_getElem? (i := 68) rfl) rfl
theorem tm_1081 : (.instanceMethod yX8_reign : Cond) ∈ tb := tb_m5 (List.mem_of_getElem? (i := 69) rfl) rfl
theorem tm_1082 : (.selects RX8 yX8_reign yX8_reign : Cond) ∈ tb := tb_m5 (List.mem_of_getElem? (i := 70) rfl) rfl
theorem tm_1083 : (.code yX8_reign cX8_reign 6 (some .int) : Cond) ∈ tb := tb_m5 (List.mem_of_getElem? (i := 71) rfl) rfl
theorem tm_1084 : (.methodLink RX8 226 yX8_isLetter : Cond) ∈ tb := tb_m5 (List.mem_of_getElem? (i := 72) rfl) rfl
theorem tm_1085 : (.static yX8_isLetter : Cond) ∈ tb := tb_m5 (List.mem_of_getElem? (i := 73) rfl) rfl
theorem tm_1086 : (.code yX8_isLetter cX8_isLetter 1 (some .boolean) : Cond) ∈ tb := tb_m5 (List.mem_of_getElem? (i := 74) rfl) rfl
theorem tm_1087 : (.methodLink RX8 252 yX8_packed : Cond) ∈ tb := tb_m5 (List.mem_of_getElem? (i := 75) rfl) rfl
theorem tm_1089 : (.instanceMethod yX8_packed : Cond) ∈ tb := tb_m5 (List.mem_of_getElem? (i := 77) rfl) rfl
theorem tm_1090 : (.code yX8_packed cX8_packed 6 (some .long) : Cond) ∈ tb := tb_m5 (List.mem_of_getElem? (i := 78) rfl) rfl
theorem tm_1091 : (.constantLong RX8 245 (27) : Cond) ∈ tb := tb_m5 (List.mem_of_getElem? (i := 79) rfl) rfl
theorem tm_1092 : (.constantLong RX8 247 (97) : Cond) ∈ tb := tb_m5 (List.mem_of_getElem? (i := 80) rfl) rfl
theorem tm_1093 : (.methodLink RX8 256 yX8_reignOf : Cond) ∈ tb := tb_m5 (List.mem_of_getElem? (i := 81) rfl) rfl
theorem tm_1095 : (.instanceMethod yX8_reignOf : Cond) ∈ tb := tb_m5 (List.mem_of_getElem? (i := 83) rfl) rfl
theorem tm_1096 : (.code yX8_reignOf cX8_reignOf 4 (some .int) : Cond) ∈ tb := tb_m5 (List.mem_of_getElem? (i := 84) rfl) rfl
theorem tm_1097 : (.methodLink RL 67 yX8_record : Cond) ∈ tb := tb_m5 (List.mem_of_getElem? (i := 85) rfl) rfl
theorem tm_1098 : (.instanceMethod yX8_record : Cond) ∈ tb := tb_m5 (List.mem_of_getElem? (i := 86) rfl) rfl
theorem tm_1099 : (.selects RX8 yX8_record yX8_record : Cond) ∈ tb := tb_m5 (List.mem_of_getElem? (i := 87) rfl) rfl
theorem tm_1100 : (.code yX8_record cX8_record 2 (some .int) : Cond) ∈ tb := tb_m5 (List.mem_of_getElem? (i := 88) rfl) rfl
theorem tm_1101 : (.methodLink RX8 285 yX8_reads : Cond) ∈ tb := tb_m5 (List.mem_of_getElem? (i := 89) rfl) rfl
theorem tm_1103 : (.instanceMethod yX8_reads : Cond) ∈ tb := tb_m5 (List.mem_of_getElem? (i := 91) rfl) rfl
theorem tm_1104 : (.code yX8_reads cX8_reads 5 none : Cond) ∈ tb := tb_m5 (List.mem_of_getElem? (i := 92) rfl) rfl
theorem tm_1105 : (.methodLink RX8 270 yX8_whats : Cond) ∈ tb := tb_m5 (List.mem_of_getElem? (i := 93) rfl) rfl
theorem tm_1107 : (.instanceMethod yX8_whats : Cond) ∈ tb := tb_m5 (List.mem_of_getElem? (i := 95) rfl) rfl
theorem tm_1108 : (.code yX8_whats cX8_whats 1 (some .int) : Cond) ∈ tb := tb_m5 (List.mem_of_getElem? (i := 96) rfl) rfl
theorem tm_1109 : (.methodLink RX8 260 yX8_takes : Cond) ∈ tb := tb_m5 (List.mem_of_getElem? (i := 97) rfl) rfl
theorem tm_1111 : (.instanceMethod yX8_takes : Cond) ∈ tb := tb_m5 (List.mem_of_getElem? (i := 99) rfl) rfl
theorem tm_1112 : (.code yX8_takes cX8_takes 3 (some .boolean) : Cond) ∈ tb := tb_m5 (List.mem_of_getElem? (i := 100) rfl) rfl
theorem tm_1113 : (.methodLink RX8 229 yX8_next_ : Cond) ∈ tb := tb_m5 (List.mem_of_getElem? (i := 101) rfl) rfl
theorem tm_1115 : (.instanceMethod yX8_next_ : Cond) ∈ tb := tb_m5 (List.mem_of_getElem? (i := 103) rfl) rfl
theorem tm_1116 : (.code yX8_next_ cX8_next_ 1 (some .int) : Cond) ∈ tb := tb_m5 (List.mem_of_getElem? (i := 104) rfl) rfl
theorem tm_1117 : (.methodLink RX8 236 yX8_wordEnd : Cond) ∈ tb := tb_m5 (List.mem_of_getElem? (i := 105) rfl) rfl
theorem tm_1119 : (.instanceMethod yX8_wordEnd : Cond) ∈ tb := tb_m5 (List.mem_of_getElem? (i := 107) rfl) rfl
theorem tm_1120 : (.code yX8_wordEnd cX8_wordEnd 2 (some .int) : Cond) ∈ tb := tb_m5 (List.mem_of_getElem? (i := 108) rfl) rfl
theorem tm_1121 : (.methodLink RX8 242 yX8_fail : Cond) ∈ tb := tb_m5 (List.mem_of_getElem? (i := 109) rfl) rfl
theorem tm_1123 : (.instanceMethod yX8_fail : Cond) ∈ tb := tb_m5 (List.mem_of_getElem? (i := 111) rfl) rfl
theorem tm_1124 : (.code yX8_fail cX8_fail 3 none : Cond) ∈ tb := tb_m5 (List.mem_of_getElem? (i := 112) rfl) rfl
theorem tm_1125 : (.methodLink RX8 273 yX8_partOf : Cond) ∈ tb := tb_m5 (List.mem_of_getElem? (i := 113) rfl) rfl
theorem tm_1127 : (.instanceMethod yX8_partOf : Cond) ∈ tb := tb_m5 (List.mem_of_getElem? (i := 115) rfl) rfl
theorem tm_1128 : (.code yX8_partOf cX8_partOf 1 (some .int) : Cond) ∈ tb := tb_m5 (List.mem_of_getElem? (i := 116) rfl) rfl
theorem tm_1129 : (.methodLink RX8 276 yX8_number : Cond) ∈ tb := tb_m5 (List.mem_of_getElem? (i := 117) rfl) rfl
theorem tm_1131 : (.instanceMethod yX8_number : Cond) ∈ tb := tb_m5 (List.mem_of_getElem? (i := 119) rfl) rfl
theorem tm_1132 : (.code yX8_number cX8_number 5 (some .int) : Cond) ∈ tb := tb_m5 (List.mem_of_getElem? (i := 120) rfl) rfl
theorem tm_1133 : (.methodLink RX8 239 yX8_isDigit : Cond) ∈ tb := tb_m5 (List.mem_of_getElem? (i := 121) rfl) rfl
theorem tm_1134 : (.static yX8_isDigit : Cond) ∈ tb := tb_m5 (List.mem_of_getElem? (i := 122) rfl) rfl
theorem tm_1135 : (.code yX8_isDigit cX8_isDigit 1 (some .boolean) : Cond) ∈ tb := tb_m5 (List.mem_of_getElem? (i := 123) rfl) rfl
theorem tm_1136 : (.methodLink RX8 279 yX8_name : Cond) ∈ tb := tb_m5 (List.mem_of_getElem? (i := 124) rfl) rfl
theorem tm_1138 : (.instanceMethod yX8_name : Cond) ∈ tb := tb_m5 (List.mem_of_getElem? (i := 126) rfl) rfl
theorem tm_1139 : (.code yX8_name cX8_name 3 none : Cond) ∈ tb := tb_m5 (List.mem_of_getElem? (i := 127) rfl) rfl
theorem tm_1140 : (.methodLink RL 71 yX8_fault : Cond) ∈ tb := tb_m5 (List.mem_of_getElem? (i := 128) rfl) rfl
theorem tm_1141 : (.instanceMethod yX8_fault : Cond) ∈ tb := tb_m5 (List.mem_of_getElem? (i := 129) rfl) rfl
theorem tm_1142 : (.selects RX8 yX8_fault yX8_fault : Cond) ∈ tb := tb_m5 (List.mem_of_getElem? (i := 130) rfl) rfl
theorem tm_1143 : (.code yX8_fault cX8_fault 2 (some .int) : Cond) ∈ tb := tb_m5 (List.mem_of_getElem? (i := 131) rfl) rfl
theorem tm_1144 : (.methodLink RL 75 yX8_means : Cond) ∈ tb := tb_m5 (List.mem_of_getElem? (i := 132) rfl) rfl
theorem tm_1145 : (.instanceMethod yX8_means : Cond) ∈ tb := tb_m5 (List.mem_of_getElem? (i := 133) rfl) rfl
theorem tm_1146 : (.selects RX8 yX8_means yX8_means : Cond) ∈ tb := tb_m5 (List.mem_of_getElem? (i := 134) rfl) rfl
theorem tm_1147 : (.code yX8_means cX8_means 5 (some .int) : Cond) ∈ tb := tb_m5 (List.mem_of_getElem? (i := 135) rfl) rfl
theorem tm_1148 : (.methodLink RX8 295 yX8_isAsked : Cond) ∈ tb := tb_m5 (List.mem_of_getElem? (i := 136) rfl) rfl
theorem tm_1150 : (.instanceMethod yX8_isAsked : Cond) ∈ tb := tb_m5 (List.mem_of_getElem? (i := 138) rfl) rfl
theorem tm_1151 : (.code yX8_isAsked cX8_isAsked 3 (some .boolean) : Cond) ∈ tb := tb_m5 (List.mem_of_getElem? (i := 139) rfl) rfl
theorem tm_1152 : (.methodLink RX8 292 yX8_isRecord : Cond) ∈ tb := tb_m5 (List.mem_of_getElem? (i := 140) rfl) rfl
theorem tm_1154 : (.instanceMethod yX8_isRecord : Cond) ∈ tb := tb_m5 (List.mem_of_getElem? (i := 142) rfl) rfl
theorem tm_1155 : (.code yX8_isRecord cX8_isRecord 2 (some .boolean) : Cond) ∈ tb := tb_m5 (List.mem_of_getElem? (i := 143) rfl) rfl
theorem tm_1156 : (.methodLink RX8 298 yX8_differs : Cond) ∈ tb := tb_m5 (List.mem_of_getElem? (i := 144) rfl) rfl
theorem tm_1158 : (.instanceMethod yX8_differs : Cond) ∈ tb := tb_m5 (List.mem_of_getElem? (i := 146) rfl) rfl
theorem tm_1159 : (.code yX8_differs cX8_differs 11 (some .int) : Cond) ∈ tb := tb_m5 (List.mem_of_getElem? (i := 147) rfl) rfl
theorem tm_1160 : (.methodLink RL 79 yX8_meant : Cond) ∈ tb := tb_m5 (List.mem_of_getElem? (i := 148) rfl) rfl
theorem tm_1161 : (.instanceMethod yX8_meant : Cond) ∈ tb := tb_m5 (List.mem_of_getElem? (i := 149) rfl) rfl
theorem tm_1162 : (.selects RX8 yX8_meant yX8_meant : Cond) ∈ tb := tb_m5 (List.mem_of_getElem? (i := 150) rfl) rfl
theorem tm_1163 : (.code yX8_meant cX8_meant 6 (some .int) : Cond) ∈ tb := tb_m5 (List.mem_of_getElem? (i := 151) rfl) rfl
theorem tm_1164 : (.methodLink RL 83 yX8_slips : Cond) ∈ tb := tb_m5 (List.mem_of_getElem? (i := 152) rfl) rfl
theorem tm_1165 : (.instanceMethod yX8_slips : Cond) ∈ tb := tb_m5 (List.mem_of_getElem? (i := 153) rfl) rfl
theorem tm_1166 : (.selects RX8 yX8_slips yX8_slips : Cond) ∈ tb := tb_m5 (List.mem_of_getElem? (i := 154) rfl) rfl
theorem tm_1167 : (.code yX8_slips cX8_slips 6 (some .int) : Cond) ∈ tb := tb_m5 (List.mem_of_getElem? (i := 155) rfl) rfl
theorem tm_1168 : (.methodLink RL 87 yX8_lets : Cond) ∈ tb := tb_m5 (List.mem_of_getElem? (i := 156) rfl) rfl
theorem tm_1169 : (.instanceMethod yX8_lets : Cond) ∈ tb := tb_m5 (List.mem_of_getElem? (i := 157) rfl) rfl
theorem tm_1170 : (.selects RX8 yX8_lets yX8_lets : Cond) ∈ tb := tb_m5 (List.mem_of_getElem? (i := 158) rfl) rfl
theorem tm_1171 : (.code yX8_lets cX8_lets 4 (some .int) : Cond) ∈ tb := tb_m5 (List.mem_of_getElem? (i := 159) rfl) rfl
theorem tm_1172 : (.methodLink RX8 301 yX8_isLet : Cond) ∈ tb := tb_m5 (List.mem_of_getElem? (i := 160) rfl) rfl
theorem tm_1174 : (.instanceMethod yX8_isLet : Cond) ∈ tb := tb_m5 (List.mem_of_getElem? (i := 162) rfl) rfl
theorem tm_1175 : (.code yX8_isLet cX8_isLet 4 (some .boolean) : Cond) ∈ tb := tb_m5 (List.mem_of_getElem? (i := 163) rfl) rfl
theorem tm_1176 : (.methodLink RL 91 yX8_slow : Cond) ∈ tb := tb_m5 (List.mem_of_getElem? (i := 164) rfl) rfl
theorem tm_1177 : (.instanceMethod yX8_slow : Cond) ∈ tb := tb_m5 (List.mem_of_getElem? (i := 165) rfl) rfl
theorem tm_1178 : (.selects RX8 yX8_slow yX8_slow : Cond) ∈ tb := tb_m5 (List.mem_of_getElem? (i := 166) rfl) rfl
theorem tm_1179 : (.code yX8_slow cX8_slow 8 (some .int) : Cond) ∈ tb := tb_m5 (List.mem_of_getElem? (i := 167) rfl) rfl
theorem tm_1180 : (.methodLink RL 95 yX8_drop : Cond) ∈ tb := tb_m5 (List.mem_of_getElem? (i := 168) rfl) rfl
theorem tm_1181 : (.instanceMethod yX8_drop : Cond) ∈ tb := tb_m5 (List.mem_of_getElem? (i := 169) rfl) rfl
theorem tm_1182 : (.selects RX8 yX8_drop yX8_drop : Cond) ∈ tb := tb_m5 (List.mem_of_getElem? (i := 170) rfl) rfl
theorem tm_1183 : (.code yX8_drop cX8_drop 4 (some .int) : Cond) ∈ tb := tb_m5 (List.mem_of_getElem? (i := 171) rfl) rfl
theorem tm_1184 : (.fieldLink RJ0 9 "java/lang/String" "value" "[B" : Cond) ∈ tb := tb_m5 (List.mem_of_getElem? (i := 172) rfl) rfl
theorem tm_1185 : (.fieldLink RJ0 15 "java/lang/String" "coder" "B" : Cond) ∈ tb := tb_m5 (List.mem_of_getElem? (i := 173) rfl) rfl
theorem ix_0 : ∀ w ∈ u_ws RX0 TX0 7, w ∈ tb := by decide +kernel
theorem ix_1 : ∀ w ∈ u_ws RX1 TX1 2, w ∈ tb := by decide +kernel
theorem ix_3 : ∀ w ∈ u_ws RX3 TX3 11, w ∈ tb := by decide +kernel
theorem ix_4 : ∀ w ∈ u_ws RX4 TX4 4, w ∈ tb := by decide +kernel
theorem ix_5 : ∀ w ∈ u_ws RX5 TX5 9, w ∈ tb := by decide +kernel
theorem ix_6 : ∀ w ∈ u_ws RX6 TX6 2, w ∈ tb := by decide +kernel
theorem ix_7 : ∀ w ∈ u_ws RX7 TX7 5, w ∈ tb := by decide +kernel
theorem ix_8 : ∀ w ∈ u_ws RX8 TX8 50, w ∈ tb := by decide +kernel
end
section
/-! THE JUDGEMENT J: the machine at pc with the locals lv and the stack st, in every heap that HP allows, comes to Q. -/
/-- what is fixed in a method -/
def Fx (p : Program) (s : State) (m : MethodId) (args : Array Value) (meth : Method) (c : Code) (cc : ByteArray) (own : String) (nL : Nat) (ret : Option FieldType) : Prop :=
  p.tables.exec = Jvm.exec ∧ c.code = cc ∧ meth.sig.returnType = ret ∧ c.maxLocals = nL ∧ s.vm.findClass own = some m.cls ∧ (∀ w ∈ tb, w.before args s = true) ∧ meth.locks = false
def J (p : Program) (l : Launch) (e : Env) (R : Room) (s : State) (m : MethodId) (args : Array Value) (below : List Frame) (meth : Method) (c : Code) (nL : Nat) (HP : Heap → List Loc → Prop) (ce sl : Nat) (Q : State → Prop) (pc : Nat) (lv : List (Nat × Value)) (st : List Value) : Prop :=
  ∀ (H : Heap) (locs : List Loc) (ls : Array Slot), HP H locs → lv_has ls nL lv → W p l e R s m args below meth c H locs ce sl Q (F0 m pc ls st)
/-- a reader's heaps: the one of its start -/
def hR (s : State) : Heap → List Loc → Prop := fun H locs => H = s.heap ∧ locs = []
/-- a writer's heaps: those that hold its world, and differ from its start's in the world's cells alone -/
def hW (D : va_G) (A : Nat → Prop) (s : State) (w : va_W) : Heap → List Loc → Prop := fun H locs => va_P D vwCl w H ∧ va_D A w ∧ va_S A s.heap H locs
abbrev tys (cy : Nat → ClassId) : List (ClassId × FieldType) := [(cy 0, .int), (cy 1, .char), (cy 2, .long), (cy 3, .object RX0)]
/-- a state of ints: row 0 the int fields, row j the j-th int array -/
abbrev St2 : Type := Nat → Nat → Int32
def up2 (f : St2) (j i : Nat) (v : Int32) : St2 := fun b => if b = j then upd (f b) i v else f b
def bI (b : Bool) : Int32 := if b then 1 else 0
theorem bI_nar (b : Bool) : narrow .boolean (.int (bI b)) = .int (bI b) := by cases b <;> rfl
theorem of_pos {α : Type} {c : Prop} [Decidable c] {a b o : α} (hc : c) (h : (if c then a else b) = o) : a = o := by rw [if_pos hc] at h; exact h
theorem of_neg {α : Type} {c : Prop} [Decidable c] {a b o : α} (hc : ¬ c) (h : (if c then a else b) = o) : b = o := by rw [if_neg hc] at h; exact h
theorem of_bnd {α β : Type} {x : Option α} {f : α → Option β} {o : β} (h : x.bind f = some o) : ∃ a, x = some a ∧ f a = some o := Option.bind_eq_some_iff.mp h
section JUDGE
variable {p : Program} {l : Launch} {e : Env} {R : Room} {s : State} {m : MethodId} {args : Array Value} {below : List Frame} {meth : Method} {c : Code}
variable {cc : ByteArray} {own : String} {nL : Nat} {ret : Option FieldType} {HP : Heap → List Loc → Prop} {Q : State → Prop} {ce sl : Nat}
variable {pc : Nat} {lv lv' : List (Nat × Value)} {st : List Value}
theorem j_iconst (F : Fx p s m args meth c cc own nL ret) {n : Int} {v : Int32} (d : decode cc pc = .ok (.iconst n, 1)) (hv : Int32.ofInt n = v) (k : J p l e R s m args below meth c nL HP ce sl Q (pc + 1) lv (.int v :: st)) : J p l e R s m args below meth c nL HP ce sl Q pc lv st := fun H locs ls hH hl => lv_iconst F.1 F.2.1 d hv (k H locs ls hH hl)
theorem j_bipush (F : Fx p s m args meth c cc own nL ret) {n : Int} {v : Int32} (d : decode cc pc = .ok (.bipush n, 2)) (hv : (Int8.ofInt n).toInt32 = v) (k : J p l e R s m args below meth c nL HP ce sl Q (pc + 2) lv (.int v :: st)) : J p l e R s m args below meth c nL HP ce sl Q pc lv st := fun H locs ls hH hl => lv_bipush F.1 F.2.1 d hv (k H locs ls hH hl)
theorem j_sipush (F : Fx p s m args meth c cc own nL ret) {n : Int} {v : Int32} (d : decode cc pc = .ok (.sipush n, 3)) (hv : (Int16.ofInt n).toInt32 = v) (k : J p l e R s m args below meth c nL HP ce sl Q (pc + 3) lv (.int v :: st)) : J p l e R s m args below meth c nL HP ce sl Q pc lv st := fun H locs ls hH hl => lv_sipush F.1 F.2.1 d hv (k H locs ls hH hl)
theorem j_lconst (F : Fx p s m args meth c cc own nL ret) {n : Fin 2} {v : Int64} (d : decode cc pc = .ok (.lconst n, 1)) (hv : Int64.ofNat n = v) (k : J p l e R s m args below meth c nL HP ce sl Q (pc + 1) lv (.long v :: st)) : J p l e R s m args below meth c nL HP ce sl Q pc lv st := fun H locs ls hH hl => lv_lconst F.1 F.2.1 d hv (k H locs ls hH hl)
theorem j_iload_n (F : Fx p s m args meth c cc own nL ret) (q : Nat) {k : Fin 4} {i : Nat} {x : Int32} (d : decode cc pc = .ok (.iload_n k, 1)) (hi : (k : Nat) = i) (hq : lv[q]? = some (i, .int x)) (k : J p l e R s m args below meth c nL HP ce sl Q (pc + 1) lv (.int x :: st)) : J p l e R s m args below meth c nL HP ce sl Q pc lv st := fun H locs ls hH hl => lv_iload_n F.1 F.2.1 d hi (lv_at hl q hq) (k H locs ls hH hl)
theorem j_iload (F : Fx p s m args meth c cc own nL ret) (q : Nat) {i : Nat} {x : Int32} (d : decode cc pc = .ok (.iload i, 2)) (hq : lv[q]? = some (i, .int x)) (k : J p l e R s m args below meth c nL HP ce sl Q (pc + 2) lv (.int x :: st)) : J p l e R s m args below meth c nL HP ce sl Q pc lv st := fun H locs ls hH hl => lv_iload F.1 F.2.1 d (lv_at hl q hq) (k H locs ls hH hl)
theorem j_istore_n (F : Fx p s m args meth c cc own nL ret) {k : Fin 4} {i : Nat} {x : Int32} (d : decode cc pc = .ok (.istore_n k, 1)) (hi : (k : Nat) = i) (hn : i < nL) (hl : (i, Value.int x) :: lv.filter (fun q => !(q.1 == i) && !(q.1 + 1 == i && q.2.category == 2)) = lv') (k : J p l e R s m args below meth c nL HP ce sl Q (pc + 1) lv' st) : J p l e R s m args below meth c nL HP ce sl Q pc lv (.int x :: st) := fun H locs ls hH h => lv_istore_n F.1 F.2.1 d hi h hn hl (fun ls h => k H locs ls hH h)
theorem j_istore (F : Fx p s m args meth c cc own nL ret) {i : Nat} {x : Int32} (d : decode cc pc = .ok (.istore i, 2)) (hn : i < nL) (hl : (i, Value.int x) :: lv.filter (fun q => !(q.1 == i) && !(q.1 + 1 == i && q.2.category == 2)) = lv') (k : J p l e R s m args below meth c nL HP ce sl Q (pc + 2) lv' st) : J p l e R s m args below meth c nL HP ce sl Q pc lv (.int x :: st) := fun H locs ls hH h => lv_istore F.1 F.2.1 d h hn hl (fun ls h => k H locs ls hH h)
theorem j_lload_n (F : Fx p s m args meth c cc own nL ret) (q : Nat) {k : Fin 4} {i : Nat} {x : Int64} (d : decode cc pc = .ok (.lload_n k, 1)) (hi : (k : Nat) = i) (hq : lv[q]? = some (i, .long x)) (k : J p l e R s m args below meth c nL HP ce sl Q (pc + 1) lv (.long x :: st)) : J p l e R s m args below meth c nL HP ce sl Q pc lv st := fun H locs ls hH hl => lv_lload_n F.1 F.2.1 d hi (lv_at hl q hq) (k H locs ls hH hl)
theorem j_lload (F : Fx p s m args meth c cc own nL ret) (q : Nat) {i : Nat} {x : Int64} (d : decode cc pc = .ok (.lload i, 2)) (hq : lv[q]? = some (i, .long x)) (k : J p l e R s m args below meth c nL HP ce sl Q (pc + 2) lv (.long x :: st)) : J p l e R s m args below meth c nL HP ce sl Q pc lv st := fun H locs ls hH hl => lv_lload F.1 F.2.1 d (lv_at hl q hq) (k H locs ls hH hl)
theorem j_lstore_n (F : Fx p s m args meth c cc own nL ret) {k : Fin 4} {i : Nat} {x : Int64} (d : decode cc pc = .ok (.lstore_n k, 1)) (hi : (k : Nat) = i) (hn : i + 1 < nL) (hl : (i, Value.long x) :: lv.filter (fun q => !(q.1 == i) && (!(q.1 == i + 1) && !(q.1 + 1 == i && q.2.category == 2))) = lv') (k : J p l e R s m args below meth c nL HP ce sl Q (pc + 1) lv' st) : J p l e R s m args below meth c nL HP ce sl Q pc lv (.long x :: st) := fun H locs ls hH h => lv_lstore_n F.1 F.2.1 d hi h hn hl (fun ls h => k H locs ls hH h)
theorem j_lstore (F : Fx p s m args meth c cc own nL ret) {i : Nat} {x : Int64} (d : decode cc pc = .ok (.lstore i, 2)) (hn : i + 1 < nL) (hl : (i, Value.long x) :: lv.filter (fun q => !(q.1 == i) && (!(q.1 == i + 1) && !(q.1 + 1 == i && q.2.category == 2))) = lv') (k : J p l e R s m args below meth c nL HP ce sl Q (pc + 2) lv' st) : J p l e R s m args below meth c nL HP ce sl Q pc lv (.long x :: st) := fun H locs ls hH h => lv_lstore F.1 F.2.1 d h hn hl (fun ls h => k H locs ls hH h)
theorem j_aload_n (F : Fx p s m args meth c cc own nL ret) (q : Nat) {k : Fin 4} {i : Nat} {x : Nat} (d : decode cc pc = .ok (.aload_n k, 1)) (hi : (k : Nat) = i) (hq : lv[q]? = some (i, .ref x)) (k : J p l e R s m args below meth c nL HP ce sl Q (pc + 1) lv (.ref x :: st)) : J p l e R s m args below meth c nL HP ce sl Q pc lv st := fun H locs ls hH hl => lv_aload_n F.1 F.2.1 d hi (lv_at hl q hq) (k H locs ls hH hl)
theorem j_aload (F : Fx p s m args meth c cc own nL ret) (q : Nat) {i : Nat} {x : Nat} (d : decode cc pc = .ok (.aload i, 2)) (hq : lv[q]? = some (i, .ref x)) (k : J p l e R s m args below meth c nL HP ce sl Q (pc + 2) lv (.ref x :: st)) : J p l e R s m args below meth c nL HP ce sl Q pc lv st := fun H locs ls hH hl => lv_aload F.1 F.2.1 d (lv_at hl q hq) (k H locs ls hH hl)
theorem j_astore_n (F : Fx p s m args meth c cc own nL ret) {k : Fin 4} {i : Nat} {x : Nat} (d : decode cc pc = .ok (.astore_n k, 1)) (hi : (k : Nat) = i) (hn : i < nL) (hl : (i, Value.ref x) :: lv.filter (fun q => !(q.1 == i) && !(q.1 + 1 == i && q.2.category == 2)) = lv') (k : J p l e R s m args below meth c nL HP ce sl Q (pc + 1) lv' st) : J p l e R s m args below meth c nL HP ce sl Q pc lv (.ref x :: st) := fun H locs ls hH h => lv_astore_n F.1 F.2.1 d hi h hn hl (fun ls h => k H locs ls hH h)
theorem j_astore (F : Fx p s m args meth c cc own nL ret) {i : Nat} {x : Nat} (d : decode cc pc = .ok (.astore i, 2)) (hn : i < nL) (hl : (i, Value.ref x) :: lv.filter (fun q => !(q.1 == i) && !(q.1 + 1 == i && q.2.category == 2)) = lv') (k : J p l e R s m args below meth c nL HP ce sl Q (pc + 2) lv' st) : J p l e R s m args below meth c nL HP ce sl Q pc lv (.ref x :: st) := fun H locs ls hH h => lv_astore F.1 F.2.1 d h hn hl (fun ls h => k H locs ls hH h)
theorem j_iinc (F : Fx p s m args meth c cc own nL ret) (q : Nat) {i : Nat} {n : Int} {x v : Int32} (d : decode cc pc = .ok (.iinc i n, 3)) (hq : lv[q]? = some (i, .int x)) (hv : x + Int32.ofInt n = v) (hn : i < nL) (hl : (i, Value.int v) :: lv.filter (fun q => !(q.1 == i) && !(q.1 + 1 == i && q.2.category == 2)) = lv') (k : J p l e R s m args below meth c nL HP ce sl Q (pc + 3) lv' st) : J p l e R s m args below meth c nL HP ce sl Q pc lv st := fun H locs ls hH h => lv_iinc F.1 F.2.1 d h hq hv hn hl (fun ls h => k H locs ls hH h)
theorem j_sub (ks : List Nat) (hl : lv_pick lv ks = lv') (k : J p l e R s m args below meth c nL HP ce sl Q pc lv' st) : J p l e R s m args below meth c nL HP ce sl Q pc lv st := fun H locs ls hH h => k H locs ls hH (lv_sub h ks hl)
theorem j_iadd (F : Fx p s m args meth c cc own nL ret) {x y : Int32} (d : decode cc pc = .ok (.iadd, 1)) (k : J p l e R s m args below meth c nL HP ce sl Q (pc + 1) lv (.int (x + y) :: st)) : J p l e R s m args below meth c nL HP ce sl Q pc lv (.int y :: .int x :: st) := fun H locs ls hH hl => lv_iadd F.1 F.2.1 d (k H locs ls hH hl)
theorem j_isub (F : Fx p s m args meth c cc own nL ret) {x y : Int32} (d : decode cc pc = .ok (.isub, 1)) (k : J p l e R s m args below meth c nL HP ce sl Q (pc + 1) lv (.int (x - y) :: st)) : J p l e R s m args below meth c nL HP ce sl Q pc lv (.int y :: .int x :: st) := fun H locs ls hH hl => lv_isub F.1 F.2.1 d (k H locs ls hH hl)
theorem j_imul (F : Fx p s m args meth c cc own nL ret) {x y : Int32} (d : decode cc pc = .ok (.imul, 1)) (k : J p l e R s m args below meth c nL HP ce sl Q (pc + 1) lv (.int (x * y) :: st)) : J p l e R s m args below meth c nL HP ce sl Q pc lv (.int y :: .int x :: st) := fun H locs ls hH hl => lv_imul F.1 F.2.1 d (k H locs ls hH hl)
theorem j_iand (F : Fx p s m args meth c cc own nL ret) {x y : Int32} (d : decode cc pc = .ok (.iand, 1)) (k : J p l e R s m args below meth c nL HP ce sl Q (pc + 1) lv (.int (x &&& y) :: st)) : J p l e R s m args below meth c nL HP ce sl Q pc lv (.int y :: .int x :: st) := fun H locs ls hH hl => lv_iand F.1 F.2.1 d (k H locs ls hH hl)
theorem j_ior (F : Fx p s m args meth c cc own nL ret) {x y : Int32} (d : decode cc pc = .ok (.ior, 1)) (k : J p l e R s m args below meth c nL HP ce sl Q (pc + 1) lv (.int (x ||| y) :: st)) : J p l e R s m args below meth c nL HP ce sl Q pc lv (.int y :: .int x :: st) := fun H locs ls hH hl => lv_ior F.1 F.2.1 d (k H locs ls hH hl)
theorem j_ixor (F : Fx p s m args meth c cc own nL ret) {x y : Int32} (d : decode cc pc = .ok (.ixor, 1)) (k : J p l e R s m args below meth c nL HP ce sl Q (pc + 1) lv (.int (x ^^^ y) :: st)) : J p l e R s m args below meth c nL HP ce sl Q pc lv (.int y :: .int x :: st) := fun H locs ls hH hl => lv_ixor F.1 F.2.1 d (k H locs ls hH hl)
theorem j_ishl (F : Fx p s m args meth c cc own nL ret) {x y : Int32} (d : decode cc pc = .ok (.ishl, 1)) (k : J p l e R s m args below meth c nL HP ce sl Q (pc + 1) lv (.int (x <<< (y &&& 31)) :: st)) : J p l e R s m args below meth c nL HP ce sl Q pc lv (.int y :: .int x :: st) := fun H locs ls hH hl => lv_ishl F.1 F.2.1 d (k H locs ls hH hl)
theorem j_ishr (F : Fx p s m args meth c cc own nL ret) {x y : Int32} (d : decode cc pc = .ok (.ishr, 1)) (k : J p l e R s m args below meth c nL HP ce sl Q (pc + 1) lv (.int (x >>> (y &&& 31)) :: st)) : J p l e R s m args below meth c nL HP ce sl Q pc lv (.int y :: .int x :: st) := fun H locs ls hH hl => lv_ishr F.1 F.2.1 d (k H locs ls hH hl)
theorem j_idiv (F : Fx p s m args meth c cc own nL ret) {x y : Int32} (d : decode cc pc = .ok (.idiv, 1)) (hne : ¬ y = 0) (k : J p l e R s m args below meth c nL HP ce sl Q (pc + 1) lv (.int (x / y) :: st)) : J p l e R s m args below meth c nL HP ce sl Q pc lv (.int y :: .int x :: st) := fun H locs ls hH hl => lv_idiv F.1 F.2.1 d hne (k H locs ls hH hl)
theorem j_irem (F : Fx p s m args meth c cc own nL ret) {x y : Int32} (d : decode cc pc = .ok (.irem, 1)) (hne : ¬ y = 0) (k : J p l e R s m args below meth c nL HP ce sl Q (pc + 1) lv (.int (x - x / y * y) :: st)) : J p l e R s m args below meth c nL HP ce sl Q pc lv (.int y :: .int x :: st) := fun H locs ls hH hl => lv_irem F.1 F.2.1 d hne (k H locs ls hH hl)
theorem j_ineg (F : Fx p s m args meth c cc own nL ret) {x : Int32} (d : decode cc pc = .ok (.ineg, 1)) (k : J p l e R s m args below meth c nL HP ce sl Q (pc + 1) lv (.int (-x) :: st)) : J p l e R s m args below meth c nL HP ce sl Q pc lv (.int x :: st) := fun H locs ls hH hl => lv_ineg F.1 F.2.1 d (k H locs ls hH hl)
theorem j_ladd (F : Fx p s m args meth c cc own nL ret) {x y : Int64} (d : decode cc pc = .ok (.ladd, 1)) (k : J p l e R s m args below meth c nL HP ce sl Q (pc + 1) lv (.long (x + y) :: st)) : J p l e R s m args below meth c nL HP ce sl Q pc lv (.long y :: .long x :: st) := fun H locs ls hH hl => lv_ladd F.1 F.2.1 d (k H locs ls hH hl)
theorem j_lsub (F : Fx p s m args meth c cc own nL ret) {x y : Int64} (d : decode cc pc = .ok (.lsub, 1)) (k : J p l e R s m args below meth c nL HP ce sl Q (pc + 1) lv (.long (x - y) :: st)) : J p l e R s m args below meth c nL HP ce sl Q pc lv (.long y :: .long x :: st) := fun H locs ls hH hl => lv_lsub F.1 F.2.1 d (k H locs ls hH hl)
theorem j_lmul (F : Fx p s m args meth c cc own nL ret) {x y : Int64} (d : decode cc pc = .ok (.lmul, 1)) (k : J p l e R s m args below meth c nL HP ce sl Q (pc + 1) lv (.long (x * y) :: st)) : J p l e R s m args below meth c nL HP ce sl Q pc lv (.long y :: .long x :: st) := fun H locs ls hH hl => lv_lmul F.1 F.2.1 d (k H locs ls hH hl)
theorem j_land (F : Fx p s m args meth c cc own nL ret) {x y : Int64} (d : decode cc pc = .ok (.land, 1)) (k : J p l e R s m args below meth c nL HP ce sl Q (pc + 1) lv (.long (x &&& y) :: st)) : J p l e R s m args below meth c nL HP ce sl Q pc lv (.long y :: .long x :: st) := fun H locs ls hH hl => lv_land F.1 F.2.1 d (k H locs ls hH hl)
theorem j_lor (F : Fx p s m args meth c cc own nL ret) {x y : Int64} (d : decode cc pc = .ok (.lor, 1)) (k : J p l e R s m args below meth c nL HP ce sl Q (pc + 1) lv (.long (x ||| y) :: st)) : J p l e R s m args below meth c nL HP ce sl Q pc lv (.long y :: .long x :: st) := fun H locs ls hH hl => lv_lor F.1 F.2.1 d (k H locs ls hH hl)
theorem j_lxor (F : Fx p s m args meth c cc own nL ret) {x y : Int64} (d : decode cc pc = .ok (.lxor, 1)) (k : J p l e R s m args below meth c nL HP ce sl Q (pc + 1) lv (.long (x ^^^ y) :: st)) : J p l e R s m args below meth c nL HP ce sl Q pc lv (.long y :: .long x :: st) := fun H locs ls hH hl => lv_lxor F.1 F.2.1 d (k H locs ls hH hl)
theorem j_ldiv (F : Fx p s m args meth c cc own nL ret) {x y : Int64} (d : decode cc pc = .ok (.ldiv, 1)) (hne : ¬ y = 0) (k : J p l e R s m args below meth c nL HP ce sl Q (pc + 1) lv (.long (x / y) :: st)) : J p l e R s m args below meth c nL HP ce sl Q pc lv (.long y :: .long x :: st) := fun H locs ls hH hl => lv_ldiv F.1 F.2.1 d hne (k H locs ls hH hl)
theorem j_lrem (F : Fx p s m args meth c cc own nL ret) {x y : Int64} (d : decode cc pc = .ok (.lrem, 1)) (hne : ¬ y = 0) (k : J p l e R s m args below meth c nL HP ce sl Q (pc + 1) lv (.long (x - x / y * y) :: st)) : J p l e R s m args below meth c nL HP ce sl Q pc lv (.long y :: .long x :: st) := fun H locs ls hH hl => lv_lrem F.1 F.2.1 d hne (k H locs ls hH hl)
theorem j_i2l (F : Fx p s m args meth c cc own nL ret) {x : Int32} (d : decode cc pc = .ok (.i2l, 1)) (k : J p l e R s m args below meth c nL HP ce sl Q (pc + 1) lv (.long x.toInt64 :: st)) : J p l e R s m args below meth c nL HP ce sl Q pc lv (.int x :: st) := fun H locs ls hH hl => lv_i2l F.1 F.2.1 d rfl (k H locs ls hH hl)
theorem j_l2i (F : Fx p s m args meth c cc own nL ret) {x : Int64} (d : decode cc pc = .ok (.l2i, 1)) (k : J p l e R s m args below meth c nL HP ce sl Q (pc + 1) lv (.int x.toInt32 :: st)) : J p l e R s m args below meth c nL HP ce sl Q pc lv (.long x :: st) := fun H locs ls hH hl => lv_l2i F.1 F.2.1 d rfl (k H locs ls hH hl)
theorem j_i2c (F : Fx p s m args meth c cc own nL ret) {x : Int32} (d : decode cc pc = .ok (.i2c, 1)) (k : J p l e R s m args below meth c nL HP ce sl Q (pc + 1) lv (.int (x.toUInt32 % 65536).toInt32 :: st)) : J p l e R s m args below meth c nL HP ce sl Q pc lv (.int x :: st) := fun H locs ls hH hl => lv_i2c F.1 F.2.1 d rfl (k H locs ls hH hl)
theorem j_iushr (F : Fx p s m args meth c cc own nL ret) {x y : Int32} (d : decode cc pc = .ok (.iushr, 1)) (k : J p l e R s m args below meth c nL HP ce sl Q (pc + 1) lv (.int (x.toUInt32 >>> (y.toUInt32 &&& Int32.toUInt32 31)).toInt32 :: st)) : J p l e R s m args below meth c nL HP ce sl Q pc lv (.int y :: .int x :: st) := fun H locs ls hH hl => lv_iushr F.1 F.2.1 d rfl (k H locs ls hH hl)
theorem j_lushr (F : Fx p s m args meth c cc own nL ret) {x : Int64} {y : Int32} (d : decode cc pc = .ok (.lushr, 1)) (k : J p l e R s m args below meth c nL HP ce sl Q (pc + 1) lv (.long (x.toUInt64 >>> (y.toInt64.toUInt64 &&& Int64.toUInt64 63)).toInt64 :: st)) : J p l e R s m args below meth c nL HP ce sl Q pc lv (.int y :: .long x :: st) := fun H locs ls hH hl => lv_lushr F.1 F.2.1 d rfl (k H locs ls hH hl)
theorem j_lshl (F : Fx p s m args meth c cc own nL ret) {x : Int64} {y : Int32} (d : decode cc pc = .ok (.lshl, 1)) (k : J p l e R s m args below meth c nL HP ce sl Q (pc + 1) lv (.long (x <<< (y.toInt64 &&& 63)) :: st)) : J p l e R s m args below meth c nL HP ce sl Q pc lv (.int y :: .long x :: st) := fun H locs ls hH hl => lv_lshl F.1 F.2.1 d rfl (k H locs ls hH hl)
theorem j_dup (F : Fx p s m args meth c cc own nL ret) {va : Value} (d : decode cc pc = .ok (.dup, 1)) (h : va.category = 1) (k : J p l e R s m args below meth c nL HP ce sl Q (pc + 1) lv (va :: va :: st)) : J p l e R s m args below meth c nL HP ce sl Q pc lv (va :: st) := fun H locs ls hH hl => lv_dup F.1 F.2.1 d h (k H locs ls hH hl)
theorem j_pop (F : Fx p s m args meth c cc own nL ret) {va : Value} (d : decode cc pc = .ok (.pop, 1)) (h : va.category = 1) (k : J p l e R s m args below meth c nL HP ce sl Q (pc + 1) lv st) : J p l e R s m args below meth c nL HP ce sl Q pc lv (va :: st) := fun H locs ls hH hl => lv_pop F.1 F.2.1 d h (k H locs ls hH hl)
theorem j_if_eq (F : Fx p s m args meth c cc own nL ret) {x : Int32} {off : Int} {tgt : Nat} (d : decode cc pc = .ok (.ifCond .eq off, 3)) (ht : (pc : Int) + off = (tgt : Int)) (kt : x = 0 → J p l e R s m args below meth c nL HP ce sl Q tgt lv st) (kf : ¬ x = 0 → J p l e R s m args below meth c nL HP ce sl Q (pc + 3) lv st) : J p l e R s m args below meth c nL HP ce sl Q pc lv (.int x :: st) := fun H locs ls hH hl => lv_if_eq F.1 F.2.1 d ht (fun h => kt h H locs ls hH hl) (fun h => kf h H locs ls hH hl)
theorem j_icmp_eq (F : Fx p s m args meth c cc own nL ret) {x y : Int32} {off : Int} {tgt : Nat} (d : decode cc pc = .ok (.if_icmp .eq off, 3)) (ht : (pc : Int) + off = (tgt : Int)) (kt : x = y → J p l e R s m args below meth c nL HP ce sl Q tgt lv st) (kf : ¬ x = y → J p l e R s m args below meth c nL HP ce sl Q (pc + 3) lv st) : J p l e R s m args below meth c nL HP ce sl Q pc lv (.int y :: .int x :: st) := fun H locs ls hH hl => lv_icmp_eq F.1 F.2.1 d ht (fun h => kt h H locs ls hH hl) (fun h => kf h H locs ls hH hl)
theorem j_if_ne (F : Fx p s m args meth c cc own nL ret) {x : Int32} {off : Int} {tgt : Nat} (d : decode cc pc = .ok (.ifCond .ne off, 3)) (ht : (pc : Int) + off = (tgt : Int)) (kt : ¬ x = 0 → J p l e R s m args below meth c nL HP ce sl Q tgt lv st) (kf : x = 0 → J p l e R s m args below meth c nL HP ce sl Q (pc + 3) lv st) : J p l e R s m args below meth c nL HP ce sl Q pc lv (.int x :: st) := fun H locs ls hH hl => lv_if_ne F.1 F.2.1 d ht (fun h => kt h H locs ls hH hl) (fun h => kf h H locs ls hH hl)
theorem j_icmp_ne (F : Fx p s m args meth c cc own nL ret) {x y : Int32} {off : Int} {tgt : Nat} (d : decode cc pc = .ok (.if_icmp .ne off, 3)) (ht : (pc : Int) + off = (tgt : Int)) (kt : ¬ x = y → J p l e R s m args below meth c nL HP ce sl Q tgt lv st) (kf : x = y → J p l e R s m args below meth c nL HP ce sl Q (pc + 3) lv st) : J p l e R s m args below meth c nL HP ce sl Q pc lv (.int y :: .int x :: st) := fun H locs ls hH hl => lv_icmp_ne F.1 F.2.1 d ht (fun h => kt h H locs ls hH hl) (fun h => kf h H locs ls hH hl)
theorem j_if_lt (F : Fx p s m args meth c cc own nL ret) {x : Int32} {off : Int} {tgt : Nat} (d : decode cc pc = .ok (.ifCond .lt off, 3)) (ht : (pc : Int) + off = (tgt : Int)) (kt : x < 0 → J p l e R s m args below meth c nL HP ce sl Q tgt lv st) (kf : ¬ x < 0 → J p l e R s m args below meth c nL HP ce sl Q (pc + 3) lv st) : J p l e R s m args below meth c nL HP ce sl Q pc lv (.int x :: st) := fun H locs ls hH hl => lv_if_lt F.1 F.2.1 d ht (fun h => kt h H locs ls hH hl) (fun h => kf h H locs ls hH hl)
theorem j_icmp_lt (F : Fx p s m args meth c cc own nL ret) {x y : Int32} {off : Int} {tgt : Nat} (d : decode cc pc = .ok (.if_icmp .lt off, 3)) (ht : (pc : Int) + off = (tgt : Int)) (kt : x < y → J p l e R s m args below meth c nL HP ce sl Q tgt lv st) (kf : ¬ x < y → J p l e R s m args below meth c nL HP ce sl Q (pc + 3) lv st) : J p l e R s m args below meth c nL HP ce sl Q pc lv (.int y :: .int x :: st) := fun H locs ls hH hl => lv_icmp_lt F.1 F.2.1 d ht (fun h => kt h H locs ls hH hl) (fun h => kf h H locs ls hH hl)
theorem j_if_ge (F : Fx p s m args meth c cc own nL ret) {x : Int32} {off : Int} {tgt : Nat} (d : decode cc pc = .ok (.ifCond .ge off, 3)) (ht : (pc : Int) + off = (tgt : Int)) (kt : 0 ≤ x → J p l e R s m args below meth c nL HP ce sl Q tgt lv st) (kf : ¬ 0 ≤ x → J p l e R s m args below meth c nL HP ce sl Q (pc + 3) lv st) : J p l e R s m args below meth c nL HP ce sl Q pc lv (.int x :: st) := fun H locs ls hH hl => lv_if_ge F.1 F.2.1 d ht (fun h => kt h H locs ls hH hl) (fun h => kf h H locs ls hH hl)
theorem j_icmp_ge (F : Fx p s m args meth c cc own nL ret) {x y : Int32} {off : Int} {tgt : Nat} (d : decode cc pc = .ok (.if_icmp .ge off, 3)) (ht : (pc : Int) + off = (tgt : Int)) (kt : y ≤ x → J p l e R s m args below meth c nL HP ce sl Q tgt lv st) (kf : ¬ y ≤ x → J p l e R s m args below meth c nL HP ce sl Q (pc + 3) lv st) : J p l e R s m args below meth c nL HP ce sl Q pc lv (.int y :: .int x :: st) := fun H locs ls hH hl => lv_icmp_ge F.1 F.2.1 d ht (fun h => kt h H locs ls hH hl) (fun h => kf h H locs ls hH hl)
theorem j_if_gt (F : Fx p s m args meth c cc own nL ret) {x : Int32} {off : Int} {tgt : Nat} (d : decode cc pc = .ok (.ifCond .gt off, 3)) (ht : (pc : Int) + off = (tgt : Int)) (kt : 0 < x → J p l e R s m args below meth c nL HP ce sl Q tgt lv st) (kf : ¬ 0 < x → J p l e R s m args below meth c nL HP ce sl Q (pc + 3) lv st) : J p l e R s m args below meth c nL HP ce sl Q pc lv (.int x :: st) := fun H locs ls hH hl => lv_if_gt F.1 F.2.1 d ht (fun h => kt h H locs ls hH hl) (fun h => kf h H locs ls hH hl)
theorem j_icmp_gt (F : Fx p s m args meth c cc own nL ret) {x y : Int32} {off : Int} {tgt : Nat} (d : decode cc pc = .ok (.if_icmp .gt off, 3)) (ht : (pc : Int) + off = (tgt : Int)) (kt : y < x → J p l e R s m args below meth c nL HP ce sl Q tgt lv st) (kf : ¬ y < x → J p l e R s m args below meth c nL HP ce sl Q (pc + 3) lv st) : J p l e R s m args below meth c nL HP ce sl Q pc lv (.int y :: .int x :: st) := fun H locs ls hH hl => lv_icmp_gt F.1 F.2.1 d ht (fun h => kt h H locs ls hH hl) (fun h => kf h H locs ls hH hl)
theorem j_if_le (F : Fx p s m args meth c cc own nL ret) {x : Int32} {off : Int} {tgt : Nat} (d : decode cc pc = .ok (.ifCond .le off, 3)) (ht : (pc : Int) + off = (tgt : Int)) (kt : x ≤ 0 → J p l e R s m args below meth c nL HP ce sl Q tgt lv st) (kf : ¬ x ≤ 0 → J p l e R s m args below meth c nL HP ce sl Q (pc + 3) lv st) : J p l e R s m args below meth c nL HP ce sl Q pc lv (.int x :: st) := fun H locs ls hH hl => lv_if_le F.1 F.2.1 d ht (fun h => kt h H locs ls hH hl) (fun h => kf h H locs ls hH hl)
theorem j_icmp_le (F : Fx p s m args meth c cc own nL ret) {x y : Int32} {off : Int} {tgt : Nat} (d : decode cc pc = .ok (.if_icmp .le off, 3)) (ht : (pc : Int) + off = (tgt : Int)) (kt : x ≤ y → J p l e R s m args below meth c nL HP ce sl Q tgt lv st) (kf : ¬ x ≤ y → J p l e R s m args below meth c nL HP ce sl Q (pc + 3) lv st) : J p l e R s m args below meth c nL HP ce sl Q pc lv (.int y :: .int x :: st) := fun H locs ls hH hl => lv_icmp_le F.1 F.2.1 d ht (fun h => kt h H locs ls hH hl) (fun h => kf h H locs ls hH hl)
theorem j_goto (F : Fx p s m args meth c cc own nL ret) {off : Int} {tgt : Nat} (d : decode cc pc = .ok (.goto off, 3)) (ht : (pc : Int) + off = (tgt : Int)) (k : J p l e R s m args below meth c nL HP ce sl Q tgt lv st) : J p l e R s m args below meth c nL HP ce sl Q pc lv st := fun H locs ls hH hl => lv_goto F.1 F.2.1 d ht (k H locs ls hH hl)
theorem j_ldc (F : Fx p s m args meth c cc own nL ret) {index : Nat} {v : Int32} (w : Cond.constant own index v ∈ tb) (d : decode cc pc = .ok (.ldc index, 2)) (k : J p l e R s m args below meth c nL HP ce sl Q (pc + 2) lv (.int v :: st)) : J p l e R s m args below meth c nL HP ce sl Q pc lv st := fun H locs ls hH hl => lv_ldc F.1 F.2.1 F.2.2.2.2.1 (F.2.2.2.2.2.1 _ w) d (k H locs ls hH hl)
theorem j_ldcw (F : Fx p s m args meth c cc own nL ret) {index : Nat} {v : Int32} (w : Cond.constant own index v ∈ tb) (d : decode cc pc = .ok (.ldc_w index, 3)) (k : J p l e R s m args below meth c nL HP ce sl Q (pc + 3) lv (.int v :: st)) : J p l e R s m args below meth c nL HP ce sl Q pc lv st := fun H locs ls hH hl => lv_ldcw F.1 F.2.1 F.2.2.2.2.1 (F.2.2.2.2.2.1 _ w) d (k H locs ls hH hl)
theorem j_ldc2 (F : Fx p s m args meth c cc own nL ret) {index : Nat} {v : Int64} (w : Cond.constantLong own index v ∈ tb) (d : decode cc pc = .ok (.ldc2_w index, 3)) (k : J p l e R s m args below meth c nL HP ce sl Q (pc + 3) lv (.long v :: st)) : J p l e R s m args below meth c nL HP ce sl Q pc lv st := fun H locs ls hH hl => lv_ldc2 F.1 F.2.1 F.2.2.2.2.1 (F.2.2.2.2.2.1 _ w) d (k H locs ls hH hl)
end JUDGE
end
section
def txS : Nat → String | 0 => "sun" | 1 => "moon" | 2 => "total" | 3 => "ring" | 4 => "part" | 5 => "whole" | 6 => "half" | 7 => "in" | 8 => "year" | 9 => "month" | 10 => "day" | 11 => "hour" | 12 => "of" | 13 => "even" | 14 => "leap" | _ => "moons"
def ixS : Nat → Nat | 0 => 102 | 1 => 108 | 2 => 123 | 3 => 125 | 4 => 127 | 5 => 129 | 6 => 131 | 7 => 133 | 8 => 138 | 9 => 140 | 10 => 142 | 11 => 144 | 12 => 155 | 13 => 183 | 14 => 187 | _ => 189
def lenS : List Nat := [3, 4, 5, 4, 4, 5, 4, 2, 4, 5, 3, 4, 2, 4, 4, 5]
def bytS : List (List Int32) := [[115, 117, 110], [109, 111, 111, 110], [116, 111, 116, 97, 108], [114, 105, 110, 103], [112, 97, 114, 116], [119, 104, 111, 108, 101], [104, 97, 108, 102], [105, 110], [121, 101, 97, 114], [109, 111, 110, 116, 104], [100, 97, 121], [104, 111, 117, 114], [111, 102], [101, 118, 101, 110], [108, 101, 97, 112], [109, 111, 111, 110, 115]]
/-! STATICS: four static rows, sixteen literals, one flag; worlds, contracts, calls -/
def sC : Nat → String | 0 => "EclipseHouse$Sky" | 1 => "EclipseHouse$Calendars" | _ => "EclipseHouse$Reader"
def sN : Nat → String | 0 => "WAVES" | 1 => "LEAP_MONTHS" | 2 => "LEAST" | _ => "GREATEST"
def sL : Nat → Nat | 0 => 10 | 1 => 12 | _ => 4
def sV : Nat → List Int32 | 0 => [0, 174, 342, 500, 643, 766, 866, 940, 985, 1000] | 1 => [31, 28, 31, 30, 31, 30, 31, 31, 30, 31, 30, 31] | 2 => [0, 1, 1, 0] | _ => [999, 13, 31, 23]
def sF (k j : Nat) : Int32 := (sV k).getD j 0
abbrev Gs : Type := (Nat → Nat) × (Nat → Nat) × (Nat → Nat)
def St (g : Gs) (A : Nat → Prop) (U : State) (H : Heap) : Prop :=
  (∀ k, k < 4 → va_Z (sC k) (sN k) "[I" (.ref (g.1 k)) A U H ∧ va_T .int (g.1 k) (sL k) (fun j => .int (sF k j)) A U H) ∧ vk_S 16 lenS bytS g.2.1 g.2.2 A U H ∧ (∀ i, i < 16 → vk_R RX3 (ixS i) (txS i) (g.2.1 i) U) ∧ va_Z "java/lang/String" "COMPACT_STRINGS" "Z" (.int 1) A U H
theorem St.warm {g : Gs} {A : Nat → Prop} {s U : State} {H : Heap} (hW : s.WarmedH U.vm) (h : St g A s H) : St g A U H :=
  ⟨fun k hk => ⟨va_Z.moved hW.alike (h.1 k hk).1, va_T.moved hW.alike (h.1 k hk).2⟩, vk_S.moved hW.alike h.2.1, fun i hi => vk_R.warm hW (h.2.2.1 i hi), va_Z.moved hW.alike h.2.2.2⟩
theorem St.same {g : Gs} {A : Nat → Prop} {s U : State} {H : Heap} (hv : U.vm = s.vm) (h : St g A s H) : St g A U H := by
  have ha : s.vm.Alike U.vm := by rw [hv]; exact Vm.Alike.refl _
  exact ⟨fun k hk => ⟨va_Z.moved ha (h.1 k hk).1, va_T.moved ha (h.1 k hk).2⟩, vk_S.moved ha h.2.1, fun i hi => vk_R.same hv (h.2.2.1 i hi), va_Z.moved ha h.2.2.2⟩
theorem St.kept {g : Gs} {A : Nat → Prop} {U : State} {H H1 : Heap} (h : St g A U H) (hq : ∀ a : Nat, a < H.size → ¬ A a → H1[a]? = H[a]?) : St g A U H1 :=
  ⟨fun k hk => ⟨(h.1 k hk).1.kept hq, (h.1 k hk).2.kept hq⟩, h.2.1.kept hq, h.2.2.1, h.2.2.2.kept hq⟩
theorem St.narrow {g : Gs} {A B : Nat → Prop} {U : State} {H : Heap} (h : St g A U H) (hAB : ∀ q, B q → A q) : St g B U H :=
  ⟨fun k hk => ⟨(h.1 k hk).1.narrow hAB, (h.1 k hk).2.narrow hAB⟩, h.2.1.narrow hAB, h.2.2.1, h.2.2.2.narrow hAB⟩
abbrev nA : Nat → Prop := fun _ => False
/-- what every method may rest on -/
def pre (D : va_G) (cy : Nat → ClassId) (g : Gs) (A : Nat → Prop) (w : va_W) (U : State) : Prop := va_P D vwCl w U.heap ∧ va_K D vwCl (tys cy) U ∧ St g A U U.heap
theorem pre.blind {D : va_G} {cy : Nat → ClassId} {g : Gs} {A : Nat → Prop} {w : va_W} {U : State} (h : pre D cy g A w U) (f : JFrame) (mk : MethodId) (a : Array Value) : pre D cy g A w (U.calling f mk a) :=
  ⟨h.1, va_K.moved (u := U) (U := U.calling f mk a) (Vm.Alike.refl U.vm) h.2.1, St.same (s := U) (U := U.calling f mk a) rfl h.2.2⟩
abbrev wsm (y : MethodName) (cc : ByteArray) (mL : Nat) (ret : Option FieldType) : List Cond := Cond.code y cc mL ret :: tb
/-- a reader's contract: it answers v, and changes nothing -/
def QR (v : Option Value) : Array Value → State → Outcome → State → Prop := fun _ st oc t => oc = .returned v ∧ t.heap = st.heap
def CR (l : Launch) (D : va_G) (cy : Nat → ClassId) (g : Gs) (y : MethodName) (cc : ByteArray) (mL : Nat) (ret : Option FieldType) (fr lo : Nat) (w : va_W) (avs : List Value) (v : Option Value) : Prop :=
  Met l y (wsm y cc mL ret) { frames := fr, cells := 0, slots := 0, locals := lo } (va_Pc avs (pre D cy g nA w)) (QR v) 0 0 nA
/-- a writer's contract: it answers v, its world is w' behind it -/
def QW (D : va_G) (A : Nat → Prop) (v : Option Value) (w' : va_W) : Array Value → State → Outcome → State → Prop := fun _ st oc t => oc = .returned v ∧ va_P D vwCl w' t.heap ∧ va_D A w' ∧ va_F A st t
def CW (l : Launch) (D : va_G) (cy : Nat → ClassId) (g : Gs) (y : MethodName) (cc : ByteArray) (mL : Nat) (ret : Option FieldType) (fr lo : Nat) (w : va_W) (avs : List Value) (v : Option Value) (w' : va_W) : Prop :=
  ∀ sz : Nat, Met l y (wsm y cc mL ret) { frames := fr, cells := 0, slots := 0, locals := lo } (va_Pc avs (fun U => U.heap.size = sz ∧ va_D (fun _ => True) w ∧ pre D cy g (va_A w sz) w U)) (QW D (va_A w sz) v w') 0 0 (va_A w sz)
def cfV (y : MethodName) (cc : ByteArray) (mL : Nat) (ret : Option FieldType) (n : Nat) : Prop :=
  Cond.instanceMethod y ∈ tb ∧ Cond.selects y.cls y y ∈ tb ∧ Cond.initialized y.cls ∈ tb ∧ Cond.code y cc mL ret ∈ tb ∧ y.cls ≠ "java/lang/invoke/MethodHandle" ∧ y.cls ≠ "java/lang/invoke/VarHandle" ∧ (parseMethodDescriptor y.desc).map (fun d => d.parameters.length) = some n
def cfS (y : MethodName) (cc : ByteArray) (mL : Nat) (ret : Option FieldType) (n : Nat) : Prop :=
  Cond.static y ∈ tb ∧ Cond.initialized y.cls ∈ tb ∧ Cond.code y cc mL ret ∈ tb ∧ y.cls ≠ "java/lang/invoke/MethodHandle" ∧ y.cls ≠ "java/lang/invoke/VarHandle" ∧ (parseMethodDescriptor y.desc).map (fun d => d.parameters.length) = some n
theorem goodV {own : String} {idx n : Nat} {y : MethodName} {cc : ByteArray} {mL : Nat} {ret : Option FieldType} (h1 : Cond.methodLink own idx y ∈ tb) (hf : cfV y cc mL ret n) : GoodIn tb (wsV own idx y.cls y (wsm y cc mL ret)) := by
  intro w hw
  have h : w ∈ tb := by
    simp only [wsV, wsm, List.mem_append, List.mem_cons, List.not_mem_nil, or_false] at hw
    rcases hw with (rfl | rfl | rfl | rfl) | rfl | h
    · exact h1
    · exact hf.1
    · exact hf.2.1
    · exact hf.2.2.1
    · exact hf.2.2.2.1
    · exact h
  exact ⟨h, good_of_word (tb_good h)⟩
theorem goodS {own : String} {idx n : Nat} {y : MethodName} {cc : ByteArray} {mL : Nat} {ret : Option FieldType} (h1 : Cond.methodLink own idx y ∈ tb) (hf : cfS y cc mL ret n) : GoodIn tb (va_wsS own idx y (wsm y cc mL ret)) := by
  intro w hw
  have h : w ∈ tb := by
    simp only [va_wsS, wsm, List.mem_append, List.mem_cons, List.not_mem_nil, or_false] at hw
    rcases hw with (rfl | rfl | rfl) | rfl | h
    · exact h1
    · exact hf.1
    · exact hf.2.1
    · exact hf.2.2.1
    · exact h
  exact ⟨h, good_of_word (tb_good h)⟩
theorem va_P_nil {D : va_G} {H : Heap} : va_P D vwCl [] H := fun k q h => by simp at h
section WORLD
variable {p : Program} {l : Launch} {e : Env} {R : Room} {s : State} {m : MethodId} {args : Array Value} {below : List Frame} {meth : Method} {c : Code}
variable {cc : ByteArray} {own : String} {nL : Nat} {ret : Option FieldType} {HP : Heap → List Loc → Prop} {Q : State → Prop} {ce sl : Nat}
variable {pc : Nat} {lv lv' : List (Nat × Value)} {st st0 : List Value} {D : va_G} {cy : Nat → ClassId} {g : Gs} {A : Nat → Prop} {w w' wc wr : va_W}
/-- from the walk to the contract -/
theorem met_R {y : MethodName} {fr lo : Nat} {avs : List Value} {v : Option Value} (hy : plainName y.cls = true) (hn : (lg_sl avs).length ≤ nL) (hlv : lv_args 0 avs = lv)
    (body : ∀ p e s m args below meth c, Fx p s m args meth c cc y.cls nL ret → va_P D vwCl w s.heap → va_K D vwCl (tys cy) s → St g nA s s.heap → J p l e { frames := fr, cells := 0, slots := 0, locals := lo } s m args below meth c nL (hR s) 0 0 (MQ below (QR v) args s 0 0 nA) 0 lv []) : CR l D cy g y cc nL ret fr lo w avs v := by
  refine Met.ofW (cc := cc) (maxL := nL) (ret := ret) hy rfl ?_
  intro p e s m args below meth c s₁ B hml hv
  obtain ⟨rfl, hP, hK, hS⟩ := hv
  have hts := atoms_spec (ws := wsm y cc nL ret) B.pre
  have hown : s.vm.findClass y.cls = some m.cls := findClass_of_methodNamed B.named
  have k := body p e s m avs.toArray below meth c ⟨B.exec, B.bytes, B.returns, hml, hown, fun w h => hts w (List.mem_cons_of_mem _ h), B.notSynchronized⟩ hP hK hS
  have hl := lv_entry avs (n := nL) hn
  rw [hlv] at hl
  rw [lg_entry_eq]
  exact k s.heap [] _ ⟨rfl, rfl⟩ hl
theorem met_W {y : MethodName} {fr lo : Nat} {avs : List Value} {v : Option Value} (hy : plainName y.cls = true) (hn : (lg_sl avs).length ≤ nL) (hlv : lv_args 0 avs = lv)
    (body : ∀ p e s m args below meth c A, Fx p s m args meth c cc y.cls nL ret → va_K D vwCl (tys cy) s → St g A s s.heap → (∀ q, s.heap.size ≤ q → A q) → J p l e { frames := fr, cells := 0, slots := 0, locals := lo } s m args below meth c nL (hW D A s w) 0 0 (MQ below (QW D A v w') args s 0 0 A) 0 lv []) : CW l D cy g y cc nL ret fr lo w avs v w' := by
  intro sz
  refine Met.ofW (cc := cc) (maxL := nL) (ret := ret) hy rfl ?_
  intro p e s m args below meth c s₁ B hml hv
  obtain ⟨rfl, hsz, hD, hP, hK, hS⟩ := hv
  have hts := atoms_spec (ws := wsm y cc nL ret) B.pre
  have hown : s.vm.findClass y.cls = some m.cls := findClass_of_methodNamed B.named
  have k := body p e s m avs.toArray below meth c (va_A w sz) ⟨B.exec, B.bytes, B.returns, hml, hown, fun w h => hts w (List.mem_cons_of_mem _ h), B.notSynchronized⟩ hK hS (fun q h => Or.inr (by rw [← hsz]; exact h))
  have hl := lv_entry avs (n := nL) hn
  rw [hlv] at hl
  rw [lg_entry_eq]
  exact k s.heap [] _ ⟨hP, hD.self, va_S.rf⟩ hl
/-- answers -/
theorem j_iretR {x r : Int32} (F : Fx p s m args meth c cc own nL (some .int)) (d : decode cc pc = .ok (.ireturn, 1)) (h : x = r) : J p l e R s m args below meth c nL (hR s) 0 0 (MQ below (QR (some (.int r))) args s 0 0 nA) pc lv [.int x] := by
  subst h
  intro H locs ls hH hl
  exact W.iret F.1 F.2.1 F.2.2.1 (fun t ht _ => ⟨rfl, by rw [ht]; exact hH.1⟩) (by rw [hH.2]; intro q h; cases h) d F.2.2.2.2.2.2
theorem j_zretR {x : Int32} {b : Bool} (F : Fx p s m args meth c cc own nL (some .boolean)) (d : decode cc pc = .ok (.ireturn, 1)) (h : x = bI b) : J p l e R s m args below meth c nL (hR s) 0 0 (MQ below (QR (some (.int (bI b)))) args s 0 0 nA) pc lv [.int x] := by
  subst h
  intro H locs ls hH hl
  exact W.zret F.1 F.2.1 F.2.2.1 (bI_nar b) (fun t ht _ => ⟨rfl, by rw [ht]; exact hH.1⟩) (by rw [hH.2]; intro q h; cases h) d F.2.2.2.2.2.2
theorem j_lretR {x r : Int64} (F : Fx p s m args meth c cc own nL (some .long)) (d : decode cc pc = .ok (.lreturn, 1)) (h : x = r) : J p l e R s m args below meth c nL (hR s) 0 0 (MQ below (QR (some (.long r))) args s 0 0 nA) pc lv [.long x] := by
  subst h
  intro H locs ls hH hl
  exact W.lret F.1 F.2.1 F.2.2.1 (fun t ht _ => ⟨rfl, by rw [ht]; exact hH.1⟩) (by rw [hH.2]; intro q h; cases h) d F.2.2.2.2.2.2
theorem j_iretW {x r : Int32} (F : Fx p s m args meth c cc own nL (some .int)) (d : decode cc pc = .ok (.ireturn, 1)) (h : x = r) (hw : w = w') : J p l e R s m args below meth c nL (hW D A s w) 0 0 (MQ below (QW D A (some (.int r)) w') args s 0 0 A) pc lv [.int x] := by
  subst h; subst hw
  intro H locs ls hH hl
  exact W.iret F.1 F.2.1 F.2.2.1 (fun t ht _ => ⟨rfl, by rw [ht]; exact hH.1, hH.2.1, hH.2.2.F ht⟩) hH.2.2.2.2 d F.2.2.2.2.2.2
theorem j_zretW {x : Int32} {b : Bool} (F : Fx p s m args meth c cc own nL (some .boolean)) (d : decode cc pc = .ok (.ireturn, 1)) (h : x = bI b) (hw : w = w') : J p l e R s m args below meth c nL (hW D A s w) 0 0 (MQ below (QW D A (some (.int (bI b))) w') args s 0 0 A) pc lv [.int x] := by
  subst h; subst hw
  intro H locs ls hH hl
  exact W.zret F.1 F.2.1 F.2.2.1 (bI_nar b) (fun t ht _ => ⟨rfl, by rw [ht]; exact hH.1, hH.2.1, hH.2.2.F ht⟩) hH.2.2.2.2 d F.2.2.2.2.2.2
theorem j_lretW {x r : Int64} (F : Fx p s m args meth c cc own nL (some .long)) (d : decode cc pc = .ok (.lreturn, 1)) (h : x = r) (hw : w = w') : J p l e R s m args below meth c nL (hW D A s w) 0 0 (MQ below (QW D A (some (.long r)) w') args s 0 0 A) pc lv [.long x] := by
  subst h; subst hw
  intro H locs ls hH hl
  exact W.lret F.1 F.2.1 F.2.2.1 (fun t ht _ => ⟨rfl, by rw [ht]; exact hH.1, hH.2.1, hH.2.2.F ht⟩) hH.2.2.2.2 d F.2.2.2.2.2.2
theorem j_vretW (F : Fx p s m args meth c cc own nL none) (d : decode cc pc = .ok (.return_, 1)) (hw : w = w') : J p l e R s m args below meth c nL (hW D A s w) 0 0 (MQ below (QW D A none w') args s 0 0 A) pc lv [] := by
  subst hw
  intro H locs ls hH hl
  exact W.vret F.1 F.2.1 F.2.2.1 (fun t ht _ => ⟨rfl, by rw [ht]; exact hH.1, hH.2.1, hH.2.2.F ht⟩) hH.2.2.2.2 d F.2.2.2.2.2.2
/-- fields -/
theorem jr_get (F : Fx p s m args meth c cc own nL ret) (hK : va_K D vwCl (tys cy) s) (hP : va_P D vwCl w s.heap) {C : String} {T : u_T} {N ci index a : Nat} {ref : String} {fs : List Value} {v : Value} (hin : ∀ w ∈ u_ws C T N, w ∈ tb) (q0 : Nat) (he : w[q0]? = some (a, .inr (ci, fs))) (hc : vwCl[ci]? = some (C, T, N)) (k : Nat) (hk : k < N) (hlink : Cond.fieldLink own index ref (T k).2.1 (T k).2.2.1 ∈ tb) (hsame : (T k).1 = ref) (hv : fs[k]? = some v) (d : decode cc pc = .ok (.getfield index, 3)) (kk : J p l e R s m args below meth c nL (hR s) ce sl Q (pc + 3) lv (v :: st)) : J p l e R s m args below meth c nL (hR s) ce sl Q pc lv (.ref a :: st) := by
  intro H locs ls hH hl
  have hP' : va_P D vwCl w H := by rw [hH.1]; exact hP
  exact va_get F.1 F.2.1 F.2.2.2.2.2.1 hin F.2.2.2.2.1 hK hP' q0 he hc k hk (F.2.2.2.2.2.1 _ hlink) (fun x h => by rw [← hsame]; exact h) hv d (kk H locs ls hH hl)
theorem jw_get (F : Fx p s m args meth c cc own nL ret) (hK : va_K D vwCl (tys cy) s) {C : String} {T : u_T} {N ci index a : Nat} {ref : String} {fs : List Value} {v : Value} (hin : ∀ w ∈ u_ws C T N, w ∈ tb) (q0 : Nat) (he : w[q0]? = some (a, .inr (ci, fs))) (hc : vwCl[ci]? = some (C, T, N)) (k : Nat) (hk : k < N) (hlink : Cond.fieldLink own index ref (T k).2.1 (T k).2.2.1 ∈ tb) (hsame : (T k).1 = ref) (hv : fs[k]? = some v) (d : decode cc pc = .ok (.getfield index, 3)) (kk : J p l e R s m args below meth c nL (hW D A s w) ce sl Q (pc + 3) lv (v :: st)) : J p l e R s m args below meth c nL (hW D A s w) ce sl Q pc lv (.ref a :: st) := by
  intro H locs ls hH hl
  exact va_get F.1 F.2.1 F.2.2.2.2.2.1 hin F.2.2.2.2.1 hK hH.1 q0 he hc k hk (F.2.2.2.2.2.1 _ hlink) (fun x h => by rw [← hsame]; exact h) hv d (kk H locs ls hH hl)
theorem jw_put (F : Fx p s m args meth c cc own nL ret) (hK : va_K D vwCl (tys cy) s) {C : String} {T : u_T} {N ci index a : Nat} {ref : String} {fs : List Value} {v : Value} {ty : FieldType} (hin : ∀ w ∈ u_ws C T N, w ∈ tb) (ty0 : Nat → FieldType) (hty : ∀ k, k < N → parseFieldDescriptor (T k).2.2.1 = some (ty0 k)) (hnm : ∀ a, a < N → ∀ b, b < N → a ≠ b → (T a).2.1 ≠ (T b).2.1) (q0 : Nat) (he : w[q0]? = some (a, .inr (ci, fs))) (hc : vwCl[ci]? = some (C, T, N)) (k : Nat) (hk : k < N) (hlink : Cond.fieldLink own index ref (T k).2.1 (T k).2.2.1 ∈ tb) (hsame : (T k).1 = ref) (hfin : (T k).2.2.2 = false) (hd : ty0 k = ty) (hn : narrow ty v = v) (hfit : fits ty v = true) (hlen : k < fs.length) (hw : w.set q0 (a, .inr (ci, fs.set k v)) = w') (d : decode cc pc = .ok (.putfield index, 3)) (kk : J p l e R s m args below meth c nL (hW D A s w') ce sl Q (pc + 3) lv st) : J p l e R s m args below meth c nL (hW D A s w) ce sl Q pc lv (v :: .ref a :: st) := by
  subst hw
  intro H locs ls hH hl
  exact va_put F.1 F.2.1 F.2.2.2.2.2.1 hin ty0 hty hnm F.2.2.2.2.1 hK hH.1 hH.2.1 hH.2.2 q0 he hc k hk (F.2.2.2.2.2.1 _ hlink) (fun x h => by rw [← hsame]; exact h) hfin (by rw [hty k hk, hd]) hn hfit hlen d (fun H1 locs1 h1 h2 h3 => kk H1 locs1 ls ⟨h1, h2, h3⟩ hl)
/-- rows -/
theorem jr_iald (F : Fx p s m args meth c cc own nL ret) (hK : va_K D vwCl (tys cy) s) (hP : va_P D vwCl w s.heap) {a n : Nat} {f : Nat → Int32} {i : Int32} (q0 : Nat) (he : w[q0]? = some (a, .inl (cy 0, n, .inl f))) (hin : ¬ (i < 0 ∨ n ≤ i.toNatClampNeg)) (d : decode cc pc = .ok (.iaload, 1)) (kk : J p l e R s m args below meth c nL (hR s) ce sl Q (pc + 1) lv (.int (f i.toNatClampNeg) :: st)) : J p l e R s m args below meth c nL (hR s) ce sl Q pc lv (.int i :: .ref a :: st) := by
  intro H locs ls hH hl
  have hP' : va_P D vwCl w H := by rw [hH.1]; exact hP
  exact va_iald F.1 F.2.1 hK hP' q0 0 he rfl hin d (kk H locs ls hH hl)
theorem jw_iald (F : Fx p s m args meth c cc own nL ret) (hK : va_K D vwCl (tys cy) s) {a n : Nat} {f : Nat → Int32} {i : Int32} (q0 : Nat) (he : w[q0]? = some (a, .inl (cy 0, n, .inl f))) (hin : ¬ (i < 0 ∨ n ≤ i.toNatClampNeg)) (d : decode cc pc = .ok (.iaload, 1)) (kk : J p l e R s m args below meth c nL (hW D A s w) ce sl Q (pc + 1) lv (.int (f i.toNatClampNeg) :: st)) : J p l e R s m args below meth c nL (hW D A s w) ce sl Q pc lv (.int i :: .ref a :: st) := by
  intro H locs ls hH hl
  exact va_iald F.1 F.2.1 hK hH.1 q0 0 he rfl hin d (kk H locs ls hH hl)
theorem jw_cald (F : Fx p s m args meth c cc own nL ret) (hK : va_K D vwCl (tys cy) s) {a n : Nat} {f : Nat → Int32} {i : Int32} (q0 : Nat) (he : w[q0]? = some (a, .inl (cy 1, n, .inl f))) (hin : ¬ (i < 0 ∨ n ≤ i.toNatClampNeg)) (d : decode cc pc = .ok (.caload, 1)) (kk : J p l e R s m args below meth c nL (hW D A s w) ce sl Q (pc + 1) lv (.int (f i.toNatClampNeg) :: st)) : J p l e R s m args below meth c nL (hW D A s w) ce sl Q pc lv (.int i :: .ref a :: st) := by
  intro H locs ls hH hl
  exact va_cald F.1 F.2.1 hK hH.1 q0 1 he rfl hin d (kk H locs ls hH hl)
theorem jr_lald (F : Fx p s m args meth c cc own nL ret) (hK : va_K D vwCl (tys cy) s) (hP : va_P D vwCl w s.heap) {a n : Nat} {f : Nat → Int64} {i : Int32} (q0 : Nat) (he : w[q0]? = some (a, .inl (cy 2, n, .inr (.inl f)))) (hin : ¬ (i < 0 ∨ n ≤ i.toNatClampNeg)) (d : decode cc pc = .ok (.laload, 1)) (kk : J p l e R s m args below meth c nL (hR s) ce sl Q (pc + 1) lv (.long (f i.toNatClampNeg) :: st)) : J p l e R s m args below meth c nL (hR s) ce sl Q pc lv (.int i :: .ref a :: st) := by
  intro H locs ls hH hl
  have hP' : va_P D vwCl w H := by rw [hH.1]; exact hP
  exact va_lald F.1 F.2.1 hK hP' q0 2 he rfl hin d (kk H locs ls hH hl)
theorem jw_iast (F : Fx p s m args meth c cc own nL ret) (hK : va_K D vwCl (tys cy) s) {a n : Nat} {f : Nat → Int32} {i x : Int32} (q0 : Nat) (he : w[q0]? = some (a, .inl (cy 0, n, .inl f))) (hin : ¬ (i < 0 ∨ n ≤ i.toNatClampNeg)) (hw : w.set q0 (a, .inl (cy 0, n, .inl (upd f i.toNatClampNeg x))) = w') (d : decode cc pc = .ok (.iastore, 1)) (kk : J p l e R s m args below meth c nL (hW D A s w') ce sl Q (pc + 1) lv st) : J p l e R s m args below meth c nL (hW D A s w) ce sl Q pc lv (.int x :: .int i :: .ref a :: st) := by
  subst hw
  intro H locs ls hH hl
  exact va_iast F.1 F.2.1 hK hH.1 hH.2.1 hH.2.2 q0 0 he rfl hin d (fun H1 locs1 h1 h2 h3 => kk H1 locs1 ls ⟨h1, h2, h3⟩ hl)
theorem jw_last (F : Fx p s m args meth c cc own nL ret) (hK : va_K D vwCl (tys cy) s) {a n : Nat} {f : Nat → Int64} {i : Int32} {x : Int64} (q0 : Nat) (he : w[q0]? = some (a, .inl (cy 2, n, .inr (.inl f)))) (hin : ¬ (i < 0 ∨ n ≤ i.toNatClampNeg)) (hw : w.set q0 (a, .inl (cy 2, n, .inr (.inl (vp_updL f i.toNatClampNeg x)))) = w') (d : decode cc pc = .ok (.lastore, 1)) (kk : J p l e R s m args below meth c nL (hW D A s w') ce sl Q (pc + 1) lv st) : J p l e R s m args below meth c nL (hW D A s w) ce sl Q pc lv (.long x :: .int i :: .ref a :: st) := by
  subst hw
  intro H locs ls hH hl
  exact va_last F.1 F.2.1 hK hH.1 hH.2.1 hH.2.2 q0 2 he rfl hin d (fun H1 locs1 h1 h2 h3 => kk H1 locs1 ls ⟨h1, h2, h3⟩ hl)
theorem jw_alenc (F : Fx p s m args meth c cc own nL ret) (hK : va_K D vwCl (tys cy) s) {a n : Nat} {f : Nat → Int32} {v : Int32} (q0 : Nat) (he : w[q0]? = some (a, .inl (cy 1, n, .inl f))) (hv : Int32.ofNat n = v) (d : decode cc pc = .ok (.arraylength, 1)) (kk : J p l e R s m args below meth c nL (hW D A s w) ce sl Q (pc + 1) lv (.int v :: st)) : J p l e R s m args below meth c nL (hW D A s w) ce sl Q pc lv (.ref a :: st) := by
  intro H locs ls hH hl
  exact va_alen F.1 F.2.1 hK hH.1 q0 1 he rfl hv d (kk H locs ls hH hl)
/-- the static rows -/
theorem jr_gets (F : Fx p s m args meth c cc own nL ret) (hS : St g nA s s.heap) (k : Nat) (hk : k < 4) {index : Nat} (hlink : Cond.fieldLink own index (sC k) (sN k) "[I" ∈ tb) (d : decode cc pc = .ok (.getstatic index, 3)) (kk : J p l e R s m args below meth c nL (hR s) ce sl Q (pc + 3) lv (.ref (g.1 k) :: st)) : J p l e R s m args below meth c nL (hR s) ce sl Q pc lv st := by
  intro H locs ls hH hl
  have hS' : va_S nA s.heap H locs := by rw [hH.1, hH.2]; exact va_S.rf
  exact va_gets F.1 F.2.1 (hS.1 k hk).1 hS' F.2.2.2.2.1 (F.2.2.2.2.2.1 _ hlink) (fun _ h => h) d (kk H locs ls hH hl)
theorem jw_gets (F : Fx p s m args meth c cc own nL ret) (hS : St g A s s.heap) (k : Nat) (hk : k < 4) {index : Nat} (hlink : Cond.fieldLink own index (sC k) (sN k) "[I" ∈ tb) (d : decode cc pc = .ok (.getstatic index, 3)) (kk : J p l e R s m args below meth c nL (hW D A s w) ce sl Q (pc + 3) lv (.ref (g.1 k) :: st)) : J p l e R s m args below meth c nL (hW D A s w) ce sl Q pc lv st := by
  intro H locs ls hH hl
  exact va_gets F.1 F.2.1 (hS.1 k hk).1 hH.2.2 F.2.2.2.2.1 (F.2.2.2.2.2.1 _ hlink) (fun _ h => h) d (kk H locs ls hH hl)
theorem jr_sald (F : Fx p s m args meth c cc own nL ret) (hS : St g nA s s.heap) (k : Nat) (hk : k < 4) {i : Int32} (hin : ¬ (i < 0 ∨ sL k ≤ i.toNatClampNeg)) (d : decode cc pc = .ok (.iaload, 1)) (kk : J p l e R s m args below meth c nL (hR s) ce sl Q (pc + 1) lv (.int (sF k i.toNatClampNeg) :: st)) : J p l e R s m args below meth c nL (hR s) ce sl Q pc lv (.int i :: .ref (g.1 k) :: st) := by
  intro H locs ls hH hl
  have hS' : va_S nA s.heap H locs := by rw [hH.1, hH.2]; exact va_S.rf
  exact va_ti F.1 F.2.1 (hS.1 k hk).2 hS' hin rfl d (kk H locs ls hH hl)
theorem jw_sald (F : Fx p s m args meth c cc own nL ret) (hS : St g A s s.heap) (k : Nat) (hk : k < 4) {i : Int32} (hin : ¬ (i < 0 ∨ sL k ≤ i.toNatClampNeg)) (d : decode cc pc = .ok (.iaload, 1)) (kk : J p l e R s m args below meth c nL (hW D A s w) ce sl Q (pc + 1) lv (.int (sF k i.toNatClampNeg) :: st)) : J p l e R s m args below meth c nL (hW D A s w) ce sl Q pc lv (.int i :: .ref (g.1 k) :: st) := by
  intro H locs ls hH hl
  exact va_ti F.1 F.2.1 (hS.1 k hk).2 hH.2.2 hin rfl d (kk H locs ls hH hl)
theorem jr_slen (F : Fx p s m args meth c cc own nL ret) (hS : St g nA s s.heap) (k : Nat) (hk : k < 4) {v : Int32} (hv : Int32.ofNat (sL k) = v) (d : decode cc pc = .ok (.arraylength, 1)) (kk : J p l e R s m args below meth c nL (hR s) ce sl Q (pc + 1) lv (.int v :: st)) : J p l e R s m args below meth c nL (hR s) ce sl Q pc lv (.ref (g.1 k) :: st) := by
  intro H locs ls hH hl
  have hS' : va_S nA s.heap H locs := by rw [hH.1, hH.2]; exact va_S.rf
  exact va_tlen F.1 F.2.1 (hS.1 k hk).2 hS' hv d (kk H locs ls hH hl)
/-- a literal -/
theorem jr_ldcS (F : Fx p s m args meth c cc RX3 nL ret) (hS : St g nA s s.heap) (i : Nat) (hi : i < 16) {index : Nat} (hx : ixS i = index) (d : decode cc pc = .ok (.ldc index, 2)) (kk : J p l e R s m args below meth c nL (hR s) ce sl Q (pc + 2) lv (.ref (g.2.1 i) :: st)) : J p l e R s m args below meth c nL (hR s) ce sl Q pc lv st := by
  subst hx
  intro H locs ls hH hl
  exact va_ldcS F.1 F.2.1 F.2.2.2.2.1 (hS.2.2.1 i hi) d (kk H locs ls hH hl)
theorem jw_ldcS (F : Fx p s m args meth c cc RX3 nL ret) (hS : St g A s s.heap) (i : Nat) (hi : i < 16) {index : Nat} (hx : ixS i = index) (d : decode cc pc = .ok (.ldc index, 2)) (kk : J p l e R s m args below meth c nL (hW D A s w) ce sl Q (pc + 2) lv (.ref (g.2.1 i) :: st)) : J p l e R s m args below meth c nL (hW D A s w) ce sl Q pc lv st := by
  subst hx
  intro H locs ls hH hl
  exact va_ldcS F.1 F.2.1 F.2.2.2.2.1 (hS.2.2.1 i hi) d (kk H locs ls hH hl)
/-- calls of readers -/
theorem w_callR {H : Heap} {locs : List Loc} {ls : Array Slot} {v : Option Value} {a : Array Value} {st0 : List Value} (hr : CallRun p l e R s m args below meth c H locs ce sl 0 0 (F0 m pc ls st0) st (QR v a) nA) (kk : W p l e R s m args below meth c H locs ce sl Q (F0 m (pc + 3) ls (v.toList ++ st))) : W p l e R s m args below meth c H locs ce sl Q (F0 m pc ls st0) := by
  intro T hT X
  obtain ⟨v', st₀, t, T', L, h0, X', hL, e1, ⟨hv, hh⟩, sp⟩ := hr T hT X
  cases hv
  obtain ⟨t2, a1, b1⟩ := kk T' (by rw [e1, hh, h0]) (Stand.forget X' (fun q h => (hL q h).elim))
  exact ⟨t2, sp t2 a1, b1⟩
theorem j_callRV (F : Fx p s m args meth c cc own nL ret) (hK : va_K D vwCl (tys cy) s) (hpre : ∀ H locs, HP H locs → va_P D vwCl wc H ∧ St g nA s H) {y : MethodName} {cc' : ByteArray} {mL' fr lo n idx b ci : Nat} {ret' : Option FieldType} {As : List Value} {v : Option Value} {fs : List Value} {q : vw_C}
    (hM : CR l D cy g y cc' mL' ret' fr lo wc (.ref b :: As) v) (h1 : Cond.methodLink own idx y ∈ tb) (hf : cfV y cc' mL' ret' n) (hfr : fr + 1 ≤ R.frames) (hlo : 8 + (mL' + 11) + lo ≤ R.locals) (hce : ce ≤ R.cells ∧ sl ≤ R.slots) (q0 : Nat) (he : wc[q0]? = some (b, .inr (ci, fs))) (hc : vwCl[ci]? = some q) (hq : q.1 = y.cls) (hn : As.length = n) (hst : st0 = As.reverse ++ .ref b :: st) (hcat : (st.map fun v => v.category).sum ≤ 8) (d : decode cc pc = .ok (.invokevirtual idx, 3))
    (kk : J p l e R s m args below meth c nL HP ce sl Q (pc + 3) lv (v.toList ++ st)) : J p l e R s m args below meth c nL HP ce sl Q pc lv st0 := by
  subst hst
  intro H locs ls hH hl
  obtain ⟨hPc, hSc⟩ := hpre H locs hH
  have hrc := va_recv hK hPc hc he
  rw [hq] at hrc
  exact w_callR (W.runV ⟨F.1, F.2.1, F.2.2.2.1, F.2.2.2.2.1, F.2.2.2.2.2.1⟩ hM (cwV n F.2.2.2.2.2.1 (goodV h1 hf) rfl rfl rfl ⟨rfl, hf.2.2.2.2.1, hf.2.2.2.2.2.1, hf.2.2.2.2.2.2⟩ ⟨hfr, hlo⟩) ⟨fun a U f mk h => ⟨h.1, h.2.blind f mk a⟩, hrc, fun U hU hW => ⟨rfl, by rw [hU]; exact hPc, va_K.moved hW.alike hK, by rw [hU]; exact hSc.warm hW⟩⟩ rfl hn hl.1 rfl (lv_room hcat) d hce) (kk H locs ls hH hl)
theorem j_callRS (F : Fx p s m args meth c cc own nL ret) (hK : va_K D vwCl (tys cy) s) (hpre : ∀ H locs, HP H locs → va_P D vwCl wc H ∧ St g nA s H) {y : MethodName} {cc' : ByteArray} {mL' fr lo n idx : Nat} {ret' : Option FieldType} {As : List Value} {v : Option Value}
    (hM : CR l D cy g y cc' mL' ret' fr lo wc As v) (h1 : Cond.methodLink own idx y ∈ tb) (hf : cfS y cc' mL' ret' n) (hfr : fr + 1 ≤ R.frames) (hlo : 8 + (mL' + 11) + lo ≤ R.locals) (hce : ce ≤ R.cells ∧ sl ≤ R.slots) (hn : As.length = n) (hst : st0 = As.reverse ++ st) (hcat : (st.map fun v => v.category).sum ≤ 8) (d : decode cc pc = .ok (.invokestatic idx, 3))
    (kk : J p l e R s m args below meth c nL HP ce sl Q (pc + 3) lv (v.toList ++ st)) : J p l e R s m args below meth c nL HP ce sl Q pc lv st0 := by
  subst hst
  intro H locs ls hH hl
  obtain ⟨hPc, hSc⟩ := hpre H locs hH
  exact w_callR (W.runS ⟨F.1, F.2.1, F.2.2.2.1, F.2.2.2.2.1, F.2.2.2.2.2.1⟩ hM (va_cwS n F.2.2.2.2.2.1 (goodS h1 hf) rfl rfl rfl ⟨hf.2.2.2.1, hf.2.2.2.2.1, hf.2.2.2.2.2⟩ ⟨hfr, hlo⟩) ⟨fun a U f mk h => ⟨h.1, h.2.blind f mk a⟩, fun U hU hW => ⟨rfl, by rw [hU]; exact hPc, va_K.moved hW.alike hK, by rw [hU]; exact hSc.warm hW⟩⟩ rfl hn hl.1 rfl (lv_room hcat) d hce) (kk H locs ls hH hl)
theorem hpR (hP : va_P D vwCl w s.heap) (hS : St g nA s s.heap) (hs : ∀ H, va_P D vwCl w H → va_P D vwCl wc H) : ∀ H locs, hR s H locs → va_P D vwCl wc H ∧ St g nA s H := fun H locs h => by rw [h.1]; exact ⟨hs _ hP, hS⟩
theorem hpW (hS : St g A s s.heap) (hs : ∀ H, va_P D vwCl w H → va_P D vwCl wc H) : ∀ H locs, hW D A s w H locs → va_P D vwCl wc H ∧ St g nA s H := fun H locs h => ⟨hs _ h.1, (hS.kept (fun a h1 h2 => h.2.2.2.1 a h1 h2)).narrow (fun _ h => h.elim)⟩
theorem hp_id : ∀ H, va_P D vwCl w H → va_P D vwCl w H := fun _ h => h
theorem hp_nil : ∀ H, va_P D vwCl w H → va_P D vwCl [] H := fun _ _ => va_P_nil
theorem hp_sub (is : List Nat) (hs : is.filterMap (fun i => w[i]?) = wc) : ∀ H, va_P D vwCl w H → va_P D vwCl wc H := fun _ h => h.sub is hs
/-- calls of writers -/
theorem w_callW {H : Heap} {locs : List Loc} {ls : Array Slot} {v : Option Value} {a : Array Value} {st0 : List Value} {A1 : Nat → Prop} (hr : va_Run p l e R s m args below meth c H locs ce sl 0 0 (F0 m pc ls st0) st (QW D A1 v w' a) A1) (hS : va_S A s.heap H locs) (hA : ∀ q, A1 q → A q)
    (kk : ∀ (H1 : Heap) (locs1 : List Loc), va_P D vwCl w' H1 → va_D A1 w' → (∀ q : Nat, q < H.size → ¬ A1 q → H1[q]? = H[q]?) → va_S A s.heap H1 locs1 → W p l e R s m args below meth c H1 locs1 ce sl Q (F0 m (pc + 3) ls (v.toList ++ st))) : W p l e R s m args below meth c H locs ce sl Q (F0 m pc ls st0) := by
  intro T hT X
  obtain ⟨v', st₀, t, T', L, h0, X', hL, e1, e2, ⟨hv, hp, hd, hz, hk⟩, sp⟩ := hr T hT X
  cases hv
  rw [h0] at hz hk
  obtain ⟨t2, a1, b1⟩ := kk T'.heap (locs ++ L) (by rw [e1]; exact hp) hd (fun q h1 h2 => by rw [e1]; exact hk q h1 h2)
    ⟨Nat.le_trans hS.1 (by rw [e1]; exact hz), fun q h1 h2 => by rw [e1, hk q (Nat.lt_of_lt_of_le h1 hS.1) (fun z => h2 (hA q z))]; exact hS.2.1 q h1 h2, fun q hq => by
      rcases List.mem_append.mp hq with h | h
      · exact hS.2.2 q h
      · exact hA _ (hL q h)⟩ T' rfl X'
  exact ⟨t2, sp t2 a1, b1⟩
theorem j_callWV (F : Fx p s m args meth c cc own nL ret) (hK : va_K D vwCl (tys cy) s) (hS : St g A s s.heap) (hA : ∀ q, s.heap.size ≤ q → A q) {y : MethodName} {cc' : ByteArray} {mL' fr lo n idx b ci : Nat} {ret' : Option FieldType} {As : List Value} {v : Option Value} {fs : List Value} {q : vw_C} {w1 : va_W}
    (hM : CW l D cy g y cc' mL' ret' fr lo wc (.ref b :: As) v w1) (h1 : Cond.methodLink own idx y ∈ tb) (hf : cfV y cc' mL' ret' n) (hfr : fr + 1 ≤ R.frames) (hlo : 8 + (mL' + 11) + lo ≤ R.locals) (hce : ce ≤ R.cells ∧ sl ≤ R.slots) (q0 : Nat) (he : wc[q0]? = some (b, .inr (ci, fs))) (hc : vwCl[ci]? = some q) (hq : q.1 = y.cls) (hn : As.length = n) (hst : st0 = As.reverse ++ .ref b :: st) (hcat : (st.map fun v => v.category).sum ≤ 8)
    (isC isR is : List Nat) (hC : isC.map (fun i => w[i]?) = wc.map some) (hRr : isR.map (fun i => w[i]?) = wr.map some) (hnC : va_nd isC = true) (hnR : va_nd isR = true) (hdis : ∀ i ∈ isR, i ∉ isC) (hnI : va_nd is = true) (hw : is.map (fun i => (wr ++ w1)[i]?) = w'.map some) (d : decode cc pc = .ok (.invokevirtual idx, 3))
    (kk : J p l e R s m args below meth c nL (hW D A s w') ce sl Q (pc + 3) lv (v.toList ++ st)) : J p l e R s m args below meth c nL (hW D A s w) ce sl Q pc lv st0 := by
  subst hst
  intro H locs ls hH hl
  obtain ⟨hP, hD, hSS⟩ := hH
  have fm : ∀ {a b : va_W} {k : List Nat}, k.map (fun i => a[i]?) = b.map some → k.filterMap (fun i => a[i]?) = b := by
    intro a b k hk
    have e1 := congrArg (List.filterMap id) hk
    rw [List.filterMap_map, List.filterMap_map] at e1
    simpa using e1
  have hPc : va_P D vwCl wc H := hP.sub isC (fm hC)
  have hDc : va_D A wc := hD.sub isC hnC hC
  have hFc := va_free (wc := wc) hD hSS hA isC hC
  have hSc : St g (va_A wc H.size) s H := (hS.kept (fun a h1 h2 => hSS.2.1 a h1 h2)).narrow hFc
  have hrc := va_recv hK hPc hc he
  rw [hq] at hrc
  refine w_callW (A := A) (va_runV ⟨F.1, F.2.1, F.2.2.2.1, F.2.2.2.2.1, F.2.2.2.2.2.1⟩ (hM H.size) (cwV n F.2.2.2.2.2.1 (goodV h1 hf) rfl rfl rfl ⟨rfl, hf.2.2.2.2.1, hf.2.2.2.2.2.1, hf.2.2.2.2.2.2⟩ ⟨hfr, hlo⟩) ⟨fun a U f mk h => ⟨h.1, h.2.1, h.2.2.1, h.2.2.2.blind f mk a⟩, hrc, fun U hU hW => ⟨rfl, by rw [hU], hDc.weaken (fun _ _ _ _ => trivial), by rw [hU]; exact hPc, va_K.moved hW.alike hK, by rw [hU]; exact hSc.warm hW⟩⟩ rfl hn hl.1 rfl (lv_room hcat) d hce) hSS hFc (fun H1 locs1 hP1 hD1 hk1 hS1 => ?_)
  obtain ⟨hP2, hD2⟩ := va_join (wr := wr) (w1 := w1) hP hD isC isR hC hRr hnR hdis hk1 hFc hP1 hD1
  exact kk H1 locs1 ls ⟨hP2.sub is (fm hw), hD2.sub is hnI hw, hS1⟩ hl
/-- the callee's world is the caller's -/
theorem j_callWs (F : Fx p s m args meth c cc own nL ret) (hK : va_K D vwCl (tys cy) s) (hS : St g A s s.heap) (hA : ∀ q, s.heap.size ≤ q → A q) {y : MethodName} {cc' : ByteArray} {mL' fr lo n idx b ci : Nat} {ret' : Option FieldType} {As : List Value} {v : Option Value} {fs : List Value} {q : vw_C}
    (hM : CW l D cy g y cc' mL' ret' fr lo w (.ref b :: As) v w') (h1 : Cond.methodLink own idx y ∈ tb) (hf : cfV y cc' mL' ret' n) (hfr : fr + 1 ≤ R.frames) (hlo : 8 + (mL' + 11) + lo ≤ R.locals) (hce : ce ≤ R.cells ∧ sl ≤ R.slots) (q0 : Nat) (he : w[q0]? = some (b, .inr (ci, fs))) (hc : vwCl[ci]? = some q) (hq : q.1 = y.cls) (hn : As.length = n) (hst : st0 = As.reverse ++ .ref b :: st) (hcat : (st.map fun v => v.category).sum ≤ 8) (d : decode cc pc = .ok (.invokevirtual idx, 3))
    (kk : J p l e R s m args below meth c nL (hW D A s w') ce sl Q (pc + 3) lv (v.toList ++ st)) : J p l e R s m args below meth c nL (hW D A s w) ce sl Q pc lv st0 := by
  subst hst
  intro H locs ls hH hl
  obtain ⟨hP, hD, hSS⟩ := hH
  have hFc : ∀ q, va_A w H.size q → A q := by
    intro q hq
    rcases hq with ⟨k, e, hk⟩ | h
    · exact hD.2 k _ hk
    · exact hA q (Nat.le_trans hSS.1 h)
  have hSc : St g (va_A w H.size) s H := (hS.kept (fun a h1 h2 => hSS.2.1 a h1 h2)).narrow hFc
  have hrc := va_recv hK hP hc he
  rw [hq] at hrc
  exact w_callW (A := A) (va_runV ⟨F.1, F.2.1, F.2.2.2.1, F.2.2.2.2.1, F.2.2.2.2.2.1⟩ (hM H.size) (cwV n F.2.2.2.2.2.1 (goodV h1 hf) rfl rfl rfl ⟨rfl, hf.2.2.2.2.1, hf.2.2.2.2.2.1, hf.2.2.2.2.2.2⟩ ⟨hfr, hlo⟩) ⟨fun a U f mk h => ⟨h.1, h.2.1, h.2.2.1, h.2.2.2.blind f mk a⟩, hrc, fun U hU hW => ⟨rfl, by rw [hU], hD.weaken (fun _ _ _ _ => trivial), by rw [hU]; exact hP, va_K.moved hW.alike hK, by rw [hU]; exact hSc.warm hW⟩⟩ rfl hn hl.1 rfl (lv_room hcat) d hce) hSS hFc (fun H1 locs1 hP1 hD1 hk1 hS1 => kk H1 locs1 ls ⟨hP1, hD1.weaken (fun k q _ h => hFc _ h), hS1⟩ hl)
/-- switches -/
theorem j_tabIn (F : Fx p s m args meth c cc own nL ret) {dflt lo hi : Int} {offs : Array Int} {len tgt : Nat} {x : Int32} (v : Int32) {off : Int} (d : decode cc pc = .ok (.tableswitch dflt lo hi offs, len)) (hx : x = v) (h1 : ¬ v.toInt < lo) (h2 : ¬ hi < v.toInt) (ho : offs[(v.toInt - lo).toNat]? = some off) (ht : (pc : Int) + off = (tgt : Int)) (kk : J p l e R s m args below meth c nL HP ce sl Q tgt lv st) : J p l e R s m args below meth c nL HP ce sl Q pc lv (.int x :: st) := by
  subst hx
  intro H locs ls hH hl
  exact lv_tableIn F.1 F.2.1 d h1 h2 ho ht (kk H locs ls hH hl)
theorem j_tabOut (F : Fx p s m args meth c cc own nL ret) {dflt : Int} {n : Nat} {offs : Array Int} {len tgt : Nat} {x : Int32} (d : decode cc pc = .ok (.tableswitch dflt 0 (n : Int) offs, len)) (hn : n < 2 ^ 31) (hx : ∀ j, j < n + 1 → ¬ x = nI j) (ht : (pc : Int) + dflt = (tgt : Int)) (kk : J p l e R s m args below meth c nL HP ce sl Q tgt lv st) : J p l e R s m args below meth c nL HP ce sl Q pc lv (.int x :: st) := by
  intro H locs ls hH hl
  refine lv_tableOut F.1 F.2.1 d ?_ ht (kk H locs ls hH hl)
  by_cases h0 : x < 0
  · exact Or.inl (by rw [Int32.lt_iff_toInt_lt] at h0; simpa using h0)
  · obtain ⟨j, hj, e⟩ := nI_of h0
    right
    rw [e, nI_toInt hj]
    by_cases h : j < n + 1
    · exact absurd e (hx j h)
    · omega
theorem j_lcmp (F : Fx p s m args meth c cc own nL ret) {x y : Int64} (d : decode cc pc = .ok (.lcmp, 1)) (kk : J p l e R s m args below meth c nL HP ce sl Q (pc + 1) lv (.int (lg_cmp x y) :: st)) : J p l e R s m args below meth c nL HP ce sl Q pc lv (.long y :: .long x :: st) := fun H locs ls hH hl => W.lcmp F.1 F.2.1 d (kk H locs ls hH hl)
end WORLD
theorem zz_t : (1 : Nat) = 2 := rfl
end
