section
-- ===== PART A: goes FIRST, ahead of the names: the tables' words, and 'selects' of the private methods out of them =====
/-- a private method of a class that the tables say can be made, by its rows of tables_1 -/
def lw_okq (q : MethodName × Nat) : Prop := (q.1.cls ≠ "java/lang/invoke/MethodHandle" ∧ q.1.cls ≠ "java/lang/invoke/VarHandle") ∧ Cond.instantiable q.1.cls q.2 ∈ tables_1 ∧ Cond.privateMethod q.1 ∈ tables_1 ∧ Cond.instanceMethod q.1 ∈ tables_1
theorem lw_p0 : lw_okq (⟨"EclipseHouse$Sky", "sunKind", "(II)I"⟩, 9) := ⟨⟨by decide +kernel, by decide +kernel⟩, List.mem_of_getElem? (i := 26) (by decide +kernel), List.mem_of_getElem? (i := 252) (by decide +kernel), List.mem_of_getElem? (i := 253) (by decide +kernel)⟩
theorem lw_p1 : lw_okq (⟨"EclipseHouse$Sky", "isAsked", "(II)Z"⟩, 9) := ⟨⟨by decide +kernel, by decide +kernel⟩, List.mem_of_getElem? (i := 26) (by decide +kernel), List.mem_of_getElem? (i := 273) (by decide +kernel), List.mem_of_getElem? (i := 274) (by decide +kernel)⟩
theorem lw_p2 : lw_okq (⟨"EclipseHouse$Reader", "advance", "()V"⟩, 11) := ⟨⟨by decide +kernel, by decide +kernel⟩, List.mem_of_getElem? (i := 135) (by decide +kernel), List.mem_of_getElem? (i := 423) (by decide +kernel), List.mem_of_getElem? (i := 424) (by decide +kernel)⟩
theorem lw_p3 : lw_okq (⟨"EclipseHouse$Reader", "takeSign", "()V"⟩, 11) := ⟨⟨by decide +kernel, by decide +kernel⟩, List.mem_of_getElem? (i := 135) (by decide +kernel), List.mem_of_getElem? (i := 432) (by decide +kernel), List.mem_of_getElem? (i := 433) (by decide +kernel)⟩
theorem lw_p4 : lw_okq (⟨"EclipseHouse$Reader", "readWhat", "()Z"⟩, 11) := ⟨⟨by decide +kernel, by decide +kernel⟩, List.mem_of_getElem? (i := 135) (by decide +kernel), List.mem_of_getElem? (i := 440) (by decide +kernel), List.mem_of_getElem? (i := 441) (by decide +kernel)⟩
theorem lw_p5 : lw_okq (⟨"EclipseHouse$Reader", "isWord", "(Ljava/lang/String;)Z"⟩, 11) := ⟨⟨by decide +kernel, by decide +kernel⟩, List.mem_of_getElem? (i := 135) (by decide +kernel), List.mem_of_getElem? (i := 445) (by decide +kernel), List.mem_of_getElem? (i := 446) (by decide +kernel)⟩
theorem lw_p6 : lw_okq (⟨"EclipseHouse$Reader", "refuse", "(II)Z"⟩, 11) := ⟨⟨by decide +kernel, by decide +kernel⟩, List.mem_of_getElem? (i := 135) (by decide +kernel), List.mem_of_getElem? (i := 498) (by decide +kernel), List.mem_of_getElem? (i := 499) (by decide +kernel)⟩
theorem lw_p7 : lw_okq (⟨"EclipseHouse$Reader", "sunKind", "()I"⟩, 11) := ⟨⟨by decide +kernel, by decide +kernel⟩, List.mem_of_getElem? (i := 135) (by decide +kernel), List.mem_of_getElem? (i := 502) (by decide +kernel), List.mem_of_getElem? (i := 503) (by decide +kernel)⟩
theorem lw_p8 : lw_okq (⟨"EclipseHouse$Reader", "moonKind", "()I"⟩, 11) := ⟨⟨by decide +kernel, by decide +kernel⟩, List.mem_of_getElem? (i := 135) (by decide +kernel), List.mem_of_getElem? (i := 509) (by decide +kernel), List.mem_of_getElem? (i := 510) (by decide +kernel)⟩
theorem lw_p9 : lw_okq (⟨"EclipseHouse$Reader", "readParts", "()Z"⟩, 11) := ⟨⟨by decide +kernel, by decide +kernel⟩, List.mem_of_getElem? (i := 135) (by decide +kernel), List.mem_of_getElem? (i := 519) (by decide +kernel), List.mem_of_getElem? (i := 520) (by decide +kernel)⟩
theorem lw_p10 : lw_okq (⟨"EclipseHouse$Reader", "readPart", "()Z"⟩, 11) := ⟨⟨by decide +kernel, by decide +kernel⟩, List.mem_of_getElem? (i := 135) (by decide +kernel), List.mem_of_getElem? (i := 524) (by decide +kernel), List.mem_of_getElem? (i := 525) (by decide +kernel)⟩
theorem lw_p11 : lw_okq (⟨"EclipseHouse$Reader", "partHere", "()I"⟩, 11) := ⟨⟨by decide +kernel, by decide +kernel⟩, List.mem_of_getElem? (i := 135) (by decide +kernel), List.mem_of_getElem? (i := 528) (by decide +kernel), List.mem_of_getElem? (i := 529) (by decide +kernel)⟩
theorem lw_p12 : lw_okq (⟨"EclipseHouse$Reader", "readNumber", "(I)Z"⟩, 11) := ⟨⟨by decide +kernel, by decide +kernel⟩, List.mem_of_getElem? (i := 135) (by decide +kernel), List.mem_of_getElem? (i := 540) (by decide +kernel), List.mem_of_getElem? (i := 541) (by decide +kernel)⟩
theorem lw_p13 : lw_okq (⟨"EclipseHouse$Reader", "readRuler", "()Z"⟩, 11) := ⟨⟨by decide +kernel, by decide +kernel⟩, List.mem_of_getElem? (i := 135) (by decide +kernel), List.mem_of_getElem? (i := 553) (by decide +kernel), List.mem_of_getElem? (i := 554) (by decide +kernel)⟩
theorem lw_p14 : lw_okq (⟨"EclipseHouse$Reader", "readCalendar", "()Z"⟩, 11) := ⟨⟨by decide +kernel, by decide +kernel⟩, List.mem_of_getElem? (i := 135) (by decide +kernel), List.mem_of_getElem? (i := 559) (by decide +kernel), List.mem_of_getElem? (i := 560) (by decide +kernel)⟩
theorem lw_p15 : lw_okq (⟨"EclipseHouse$Reader", "readClose", "()Z"⟩, 11) := ⟨⟨by decide +kernel, by decide +kernel⟩, List.mem_of_getElem? (i := 135) (by decide +kernel), List.mem_of_getElem? (i := 570) (by decide +kernel), List.mem_of_getElem? (i := 571) (by decide +kernel)⟩
def lw_privs_1 : List (MethodName × Nat) := [(⟨"EclipseHouse$Sky", "sunKind", "(II)I"⟩, 9), (⟨"EclipseHouse$Sky", "isAsked", "(II)Z"⟩, 9), (⟨"EclipseHouse$Reader", "advance", "()V"⟩, 11), (⟨"EclipseHouse$Reader", "takeSign", "()V"⟩, 11), (⟨"EclipseHouse$Reader", "readWhat", "()Z"⟩, 11), (⟨"EclipseHouse$Reader", "isWord", "(Ljava/lang/String;)Z"⟩, 11), (⟨"EclipseHouse$Reader", "refuse", "(II)Z"⟩, 11), (⟨"EclipseHouse$Reader", "sunKind", "()I"⟩, 11), (⟨"EclipseHouse$Reader", "moonKind", "()I"⟩, 11), (⟨"EclipseHouse$Reader", "readParts", "()Z"⟩, 11), (⟨"EclipseHouse$Reader", "readPart", "()Z"⟩, 11), (⟨"EclipseHouse$Reader", "partHere", "()I"⟩, 11), (⟨"EclipseHouse$Reader", "readNumber", "(I)Z"⟩, 11), (⟨"EclipseHouse$Reader", "readRuler", "()Z"⟩, 11), (⟨"EclipseHouse$Reader", "readCalendar", "()Z"⟩, 11), (⟨"EclipseHouse$Reader", "readClose", "()Z"⟩, 11)]
theorem lw_r1 : ∀ q ∈ lw_privs_1, lw_okq q := List.forall_mem_cons.mpr ⟨lw_p0, List.forall_mem_cons.mpr ⟨lw_p1, List.forall_mem_cons.mpr ⟨lw_p2, List.forall_mem_cons.mpr ⟨lw_p3, List.forall_mem_cons.mpr ⟨lw_p4, List.forall_mem_cons.mpr ⟨lw_p5, List.forall_mem_cons.mpr ⟨lw_p6, List.forall_mem_cons.mpr ⟨lw_p7, List.forall_mem_cons.mpr ⟨lw_p8, List.forall_mem_cons.mpr ⟨lw_p9, List.forall_mem_cons.mpr ⟨lw_p10, List.forall_mem_cons.mpr ⟨lw_p11, List.forall_mem_cons.mpr ⟨lw_p12, List.forall_mem_cons.mpr ⟨lw_p13, List.forall_mem_cons.mpr ⟨lw_p14, List.forall_mem_cons.mpr ⟨lw_p15, fun _ h => absurd h List.not_mem_nil⟩⟩⟩⟩⟩⟩⟩⟩⟩⟩⟩⟩⟩⟩⟩⟩
theorem lw_p16 : lw_okq (⟨"EclipseHouse$Reader", "joinRuler", "()Z"⟩, 11) := ⟨⟨by decide +kernel, by decide +kernel⟩, List.mem_of_getElem? (i := 135) (by decide +kernel), List.mem_of_getElem? (i := 574) (by decide +kernel), List.mem_of_getElem? (i := 575) (by decide +kernel)⟩
theorem lw_p17 : lw_okq (⟨"EclipseHouse$Reigns", "isThere", "(I)Z"⟩, 4) := ⟨⟨by decide +kernel, by decide +kernel⟩, List.mem_of_getElem? (i := 74) (by decide +kernel), List.mem_of_getElem? (i := 582) (by decide +kernel), List.mem_of_getElem? (i := 583) (by decide +kernel)⟩
theorem lw_p18 : lw_okq (⟨"EclipseHouse$Account", "isMeant", "(LEclipseHouse$Sky;II)Z"⟩, 7) := ⟨⟨by decide +kernel, by decide +kernel⟩, List.mem_of_getElem? (i := 100) (by decide +kernel), List.mem_of_getElem? (i := 624) (by decide +kernel), List.mem_of_getElem? (i := 625) (by decide +kernel)⟩
theorem lw_p19 : lw_okq (⟨"EclipseHouse$Account", "hoursSeen", "(LEclipseHouse$Sky;II)I"⟩, 7) := ⟨⟨by decide +kernel, by decide +kernel⟩, List.mem_of_getElem? (i := 100) (by decide +kernel), List.mem_of_getElem? (i := 628) (by decide +kernel), List.mem_of_getElem? (i := 629) (by decide +kernel)⟩
theorem lw_p20 : lw_okq (⟨"EclipseHouse$Account", "isOfKind", "(LEclipseHouse$Sky;I)Z"⟩, 7) := ⟨⟨by decide +kernel, by decide +kernel⟩, List.mem_of_getElem? (i := 100) (by decide +kernel), List.mem_of_getElem? (i := 632) (by decide +kernel), List.mem_of_getElem? (i := 633) (by decide +kernel)⟩
theorem lw_p21 : lw_okq (⟨"EclipseHouse$Sky", "isListed", "(I)Z"⟩, 9) := ⟨⟨by decide +kernel, by decide +kernel⟩, List.mem_of_getElem? (i := 26) (by decide +kernel), List.mem_of_getElem? (i := 640) (by decide +kernel), List.mem_of_getElem? (i := 641) (by decide +kernel)⟩
theorem lw_p22 : lw_okq (⟨"EclipseHouse$Account", "hoursAt", "(II)I"⟩, 7) := ⟨⟨by decide +kernel, by decide +kernel⟩, List.mem_of_getElem? (i := 100) (by decide +kernel), List.mem_of_getElem? (i := 648) (by decide +kernel), List.mem_of_getElem? (i := 649) (by decide +kernel)⟩
theorem lw_p23 : lw_okq (⟨"EclipseHouse$Account", "slipsAt", "(II)I"⟩, 7) := ⟨⟨by decide +kernel, by decide +kernel⟩, List.mem_of_getElem? (i := 100) (by decide +kernel), List.mem_of_getElem? (i := 665) (by decide +kernel), List.mem_of_getElem? (i := 666) (by decide +kernel)⟩
theorem lw_p24 : lw_okq (⟨"EclipseHouse$Account", "slipOf", "(II)I"⟩, 7) := ⟨⟨by decide +kernel, by decide +kernel⟩, List.mem_of_getElem? (i := 100) (by decide +kernel), List.mem_of_getElem? (i := 669) (by decide +kernel), List.mem_of_getElem? (i := 670) (by decide +kernel)⟩
theorem lw_p25 : lw_okq (⟨"EclipseHouse$Account", "slowsMeaning", "(LEclipseHouse$Sky;I)J"⟩, 7) := ⟨⟨by decide +kernel, by decide +kernel⟩, List.mem_of_getElem? (i := 100) (by decide +kernel), List.mem_of_getElem? (i := 712) (by decide +kernel), List.mem_of_getElem? (i := 713) (by decide +kernel)⟩
theorem lw_p26 : lw_okq (⟨"EclipseHouse$Account", "slowsWithin", "(II)J"⟩, 7) := ⟨⟨by decide +kernel, by decide +kernel⟩, List.mem_of_getElem? (i := 100) (by decide +kernel), List.mem_of_getElem? (i := 716) (by decide +kernel), List.mem_of_getElem? (i := 717) (by decide +kernel)⟩
theorem lw_p27 : lw_okq (⟨"EclipseHouseModel", "moonAt", "(I)I"⟩, 50) := ⟨⟨by decide +kernel, by decide +kernel⟩, List.mem_of_getElem? (i := 758) (by decide +kernel), List.mem_of_getElem? (i := 932) (by decide +kernel), List.mem_of_getElem? (i := 933) (by decide +kernel)⟩
theorem lw_p28 : lw_okq (⟨"EclipseHouseModel", "sunAt", "(I)I"⟩, 50) := ⟨⟨by decide +kernel, by decide +kernel⟩, List.mem_of_getElem? (i := 758) (by decide +kernel), List.mem_of_getElem? (i := 938) (by decide +kernel), List.mem_of_getElem? (i := 939) (by decide +kernel)⟩
theorem lw_p29 : lw_okq (⟨"EclipseHouseModel", "nodeAt", "(I)I"⟩, 50) := ⟨⟨by decide +kernel, by decide +kernel⟩, List.mem_of_getElem? (i := 758) (by decide +kernel), List.mem_of_getElem? (i := 943) (by decide +kernel), List.mem_of_getElem? (i := 944) (by decide +kernel)⟩
theorem lw_p30 : lw_okq (⟨"EclipseHouseModel", "timeOf", "(I)I"⟩, 50) := ⟨⟨by decide +kernel, by decide +kernel⟩, List.mem_of_getElem? (i := 758) (by decide +kernel), List.mem_of_getElem? (i := 949) (by decide +kernel), List.mem_of_getElem? (i := 950) (by decide +kernel)⟩
theorem lw_p31 : lw_okq (⟨"EclipseHouseModel", "wave", "(I)I"⟩, 50) := ⟨⟨by decide +kernel, by decide +kernel⟩, List.mem_of_getElem? (i := 758) (by decide +kernel), List.mem_of_getElem? (i := 956) (by decide +kernel), List.mem_of_getElem? (i := 957) (by decide +kernel)⟩
def lw_privs_2 : List (MethodName × Nat) := [(⟨"EclipseHouse$Reader", "joinRuler", "()Z"⟩, 11), (⟨"EclipseHouse$Reigns", "isThere", "(I)Z"⟩, 4), (⟨"EclipseHouse$Account", "isMeant", "(LEclipseHouse$Sky;II)Z"⟩, 7), (⟨"EclipseHouse$Account", "hoursSeen", "(LEclipseHouse$Sky;II)I"⟩, 7), (⟨"EclipseHouse$Account", "isOfKind", "(LEclipseHouse$Sky;I)Z"⟩, 7), (⟨"EclipseHouse$Sky", "isListed", "(I)Z"⟩, 9), (⟨"EclipseHouse$Account", "hoursAt", "(II)I"⟩, 7), (⟨"EclipseHouse$Account", "slipsAt", "(II)I"⟩, 7), (⟨"EclipseHouse$Account", "slipOf", "(II)I"⟩, 7), (⟨"EclipseHouse$Account", "slowsMeaning", "(LEclipseHouse$Sky;I)J"⟩, 7), (⟨"EclipseHouse$Account", "slowsWithin", "(II)J"⟩, 7), (⟨"EclipseHouseModel", "moonAt", "(I)I"⟩, 50), (⟨"EclipseHouseModel", "sunAt", "(I)I"⟩, 50), (⟨"EclipseHouseModel", "nodeAt", "(I)I"⟩, 50), (⟨"EclipseHouseModel", "timeOf", "(I)I"⟩, 50), (⟨"EclipseHouseModel", "wave", "(I)I"⟩, 50)]
theorem lw_r2 : ∀ q ∈ lw_privs_2, lw_okq q := List.forall_mem_cons.mpr ⟨lw_p16, List.forall_mem_cons.mpr ⟨lw_p17, List.forall_mem_cons.mpr ⟨lw_p18, List.forall_mem_cons.mpr ⟨lw_p19, List.forall_mem_cons.mpr ⟨lw_p20, List.forall_mem_cons.mpr ⟨lw_p21, List.forall_mem_cons.mpr ⟨lw_p22, List.forall_mem_cons.mpr ⟨lw_p23, List.forall_mem_cons.mpr ⟨lw_p24, List.forall_mem_cons.mpr ⟨lw_p25, List.forall_mem_cons.mpr ⟨lw_p26, List.forall_mem_cons.mpr ⟨lw_p27, List.forall_mem_cons.mpr ⟨lw_p28, List.forall_mem_cons.mpr ⟨lw_p29, List.forall_mem_cons.mpr ⟨lw_p30, List.forall_mem_cons.mpr ⟨lw_p31, fun _ h => absurd h List.not_mem_nil⟩⟩⟩⟩⟩⟩⟩⟩⟩⟩⟩⟩⟩⟩⟩⟩
theorem lw_p32 : lw_okq (⟨"EclipseHouseModel", "quarter", "(I)I"⟩, 50) := ⟨⟨by decide +kernel, by decide +kernel⟩, List.mem_of_getElem? (i := 758) (by decide +kernel), List.mem_of_getElem? (i := 960) (by decide +kernel), List.mem_of_getElem? (i := 961) (by decide +kernel)⟩
theorem lw_p33 : lw_okq (⟨"EclipseHouseModel", "sortOf", "(I)I"⟩, 50) := ⟨⟨by decide +kernel, by decide +kernel⟩, List.mem_of_getElem? (i := 758) (by decide +kernel), List.mem_of_getElem? (i := 969) (by decide +kernel), List.mem_of_getElem? (i := 970) (by decide +kernel)⟩
theorem lw_p34 : lw_okq (⟨"EclipseHouseModel", "notes", "()V"⟩, 50) := ⟨⟨by decide +kernel, by decide +kernel⟩, List.mem_of_getElem? (i := 758) (by decide +kernel), List.mem_of_getElem? (i := 977) (by decide +kernel), List.mem_of_getElem? (i := 978) (by decide +kernel)⟩
theorem lw_p35 : lw_okq (⟨"EclipseHouseModel", "dates", "(II)V"⟩, 50) := ⟨⟨by decide +kernel, by decide +kernel⟩, List.mem_of_getElem? (i := 758) (by decide +kernel), List.mem_of_getElem? (i := 994) (by decide +kernel), List.mem_of_getElem? (i := 995) (by decide +kernel)⟩
theorem lw_p36 : lw_okq (⟨"EclipseHouseModel", "monthDays", "(III)I"⟩, 50) := ⟨⟨by decide +kernel, by decide +kernel⟩, List.mem_of_getElem? (i := 758) (by decide +kernel), List.mem_of_getElem? (i := 1004) (by decide +kernel), List.mem_of_getElem? (i := 1005) (by decide +kernel)⟩
theorem lw_p37 : lw_okq (⟨"EclipseHouseModel", "packed", "(II)J"⟩, 50) := ⟨⟨by decide +kernel, by decide +kernel⟩, List.mem_of_getElem? (i := 758) (by decide +kernel), List.mem_of_getElem? (i := 1036) (by decide +kernel), List.mem_of_getElem? (i := 1037) (by decide +kernel)⟩
theorem lw_p38 : lw_okq (⟨"EclipseHouseModel", "reignOf", "(J)I"⟩, 50) := ⟨⟨by decide +kernel, by decide +kernel⟩, List.mem_of_getElem? (i := 758) (by decide +kernel), List.mem_of_getElem? (i := 1042) (by decide +kernel), List.mem_of_getElem? (i := 1043) (by decide +kernel)⟩
theorem lw_p39 : lw_okq (⟨"EclipseHouseModel", "reads", "(I)V"⟩, 50) := ⟨⟨by decide +kernel, by decide +kernel⟩, List.mem_of_getElem? (i := 758) (by decide +kernel), List.mem_of_getElem? (i := 1050) (by decide +kernel), List.mem_of_getElem? (i := 1051) (by decide +kernel)⟩
theorem lw_p40 : lw_okq (⟨"EclipseHouseModel", "whats", "()I"⟩, 50) := ⟨⟨by decide +kernel, by decide +kernel⟩, List.mem_of_getElem? (i := 758) (by decide +kernel), List.mem_of_getElem? (i := 1054) (by decide +kernel), List.mem_of_getElem? (i := 1055) (by decide +kernel)⟩
theorem lw_p41 : lw_okq (⟨"EclipseHouseModel", "takes", "([C)Z"⟩, 50) := ⟨⟨by decide +kernel, by decide +kernel⟩, List.mem_of_getElem? (i := 758) (by decide +kernel), List.mem_of_getElem? (i := 1058) (by decide +kernel), List.mem_of_getElem? (i := 1059) (by decide +kernel)⟩
theorem lw_p42 : lw_okq (⟨"EclipseHouseModel", "next", "()I"⟩, 50) := ⟨⟨by decide +kernel, by decide +kernel⟩, List.mem_of_getElem? (i := 758) (by decide +kernel), List.mem_of_getElem? (i := 1062) (by decide +kernel), List.mem_of_getElem? (i := 1063) (by decide +kernel)⟩
theorem lw_p43 : lw_okq (⟨"EclipseHouseModel", "wordEnd", "()I"⟩, 50) := ⟨⟨by decide +kernel, by decide +kernel⟩, List.mem_of_getElem? (i := 758) (by decide +kernel), List.mem_of_getElem? (i := 1066) (by decide +kernel), List.mem_of_getElem? (i := 1067) (by decide +kernel)⟩
theorem lw_p44 : lw_okq (⟨"EclipseHouseModel", "fail", "(II)V"⟩, 50) := ⟨⟨by decide +kernel, by decide +kernel⟩, List.mem_of_getElem? (i := 758) (by decide +kernel), List.mem_of_getElem? (i := 1070) (by decide +kernel), List.mem_of_getElem? (i := 1071) (by decide +kernel)⟩
theorem lw_p45 : lw_okq (⟨"EclipseHouseModel", "partOf", "()I"⟩, 50) := ⟨⟨by decide +kernel, by decide +kernel⟩, List.mem_of_getElem? (i := 758) (by decide +kernel), List.mem_of_getElem? (i := 1074) (by decide +kernel), List.mem_of_getElem? (i := 1075) (by decide +kernel)⟩
theorem lw_p46 : lw_okq (⟨"EclipseHouseModel", "number", "(II)I"⟩, 50) := ⟨⟨by decide +kernel, by decide +kernel⟩, List.mem_of_getElem? (i := 758) (by decide +kernel), List.mem_of_getElem? (i := 1078) (by decide +kernel), List.mem_of_getElem? (i := 1079) (by decide +kernel)⟩
theorem lw_p47 : lw_okq (⟨"EclipseHouseModel", "name", "()V"⟩, 50) := ⟨⟨by decide +kernel, by decide +kernel⟩, List.mem_of_getElem? (i := 758) (by decide +kernel), List.mem_of_getElem? (i := 1085) (by decide +kernel), List.mem_of_getElem? (i := 1086) (by decide +kernel)⟩
def lw_privs_3 : List (MethodName × Nat) := [(⟨"EclipseHouseModel", "quarter", "(I)I"⟩, 50), (⟨"EclipseHouseModel", "sortOf", "(I)I"⟩, 50), (⟨"EclipseHouseModel", "notes", "()V"⟩, 50), (⟨"EclipseHouseModel", "dates", "(II)V"⟩, 50), (⟨"EclipseHouseModel", "monthDays", "(III)I"⟩, 50), (⟨"EclipseHouseModel", "packed", "(II)J"⟩, 50), (⟨"EclipseHouseModel", "reignOf", "(J)I"⟩, 50), (⟨"EclipseHouseModel", "reads", "(I)V"⟩, 50), (⟨"EclipseHouseModel", "whats", "()I"⟩, 50), (⟨"EclipseHouseModel", "takes", "([C)Z"⟩, 50), (⟨"EclipseHouseModel", "next", "()I"⟩, 50), (⟨"EclipseHouseModel", "wordEnd", "()I"⟩, 50), (⟨"EclipseHouseModel", "fail", "(II)V"⟩, 50), (⟨"EclipseHouseModel", "partOf", "()I"⟩, 50), (⟨"EclipseHouseModel", "number", "(II)I"⟩, 50), (⟨"EclipseHouseModel", "name", "()V"⟩, 50)]
theorem lw_r3 : ∀ q ∈ lw_privs_3, lw_okq q := List.forall_mem_cons.mpr ⟨lw_p32, List.forall_mem_cons.mpr ⟨lw_p33, List.forall_mem_cons.mpr ⟨lw_p34, List.forall_mem_cons.mpr ⟨lw_p35, List.forall_mem_cons.mpr ⟨lw_p36, List.forall_mem_cons.mpr ⟨lw_p37, List.forall_mem_cons.mpr ⟨lw_p38, List.forall_mem_cons.mpr ⟨lw_p39, List.forall_mem_cons.mpr ⟨lw_p40, List.forall_mem_cons.mpr ⟨lw_p41, List.forall_mem_cons.mpr ⟨lw_p42, List.forall_mem_cons.mpr ⟨lw_p43, List.forall_mem_cons.mpr ⟨lw_p44, List.forall_mem_cons.mpr ⟨lw_p45, List.forall_mem_cons.mpr ⟨lw_p46, List.forall_mem_cons.mpr ⟨lw_p47, fun _ h => absurd h List.not_mem_nil⟩⟩⟩⟩⟩⟩⟩⟩⟩⟩⟩⟩⟩⟩⟩⟩
theorem lw_p48 : lw_okq (⟨"EclipseHouseModel", "isAsked", "(II)Z"⟩, 50) := ⟨⟨by decide +kernel, by decide +kernel⟩, List.mem_of_getElem? (i := 758) (by decide +kernel), List.mem_of_getElem? (i := 1097) (by decide +kernel), List.mem_of_getElem? (i := 1098) (by decide +kernel)⟩
theorem lw_p49 : lw_okq (⟨"EclipseHouseModel", "isRecord", "(I)Z"⟩, 50) := ⟨⟨by decide +kernel, by decide +kernel⟩, List.mem_of_getElem? (i := 758) (by decide +kernel), List.mem_of_getElem? (i := 1101) (by decide +kernel), List.mem_of_getElem? (i := 1102) (by decide +kernel)⟩
theorem lw_p50 : lw_okq (⟨"EclipseHouseModel", "differs", "(III)I"⟩, 50) := ⟨⟨by decide +kernel, by decide +kernel⟩, List.mem_of_getElem? (i := 758) (by decide +kernel), List.mem_of_getElem? (i := 1105) (by decide +kernel), List.mem_of_getElem? (i := 1106) (by decide +kernel)⟩
theorem lw_p51 : lw_okq (⟨"EclipseHouseModel", "isLet", "(II)Z"⟩, 50) := ⟨⟨by decide +kernel, by decide +kernel⟩, List.mem_of_getElem? (i := 758) (by decide +kernel), List.mem_of_getElem? (i := 1121) (by decide +kernel), List.mem_of_getElem? (i := 1122) (by decide +kernel)⟩
def lw_privs_4 : List (MethodName × Nat) := [(⟨"EclipseHouseModel", "isAsked", "(II)Z"⟩, 50), (⟨"EclipseHouseModel", "isRecord", "(I)Z"⟩, 50), (⟨"EclipseHouseModel", "differs", "(III)I"⟩, 50), (⟨"EclipseHouseModel", "isLet", "(II)Z"⟩, 50)]
theorem lw_r4 : ∀ q ∈ lw_privs_4, lw_okq q := List.forall_mem_cons.mpr ⟨lw_p48, List.forall_mem_cons.mpr ⟨lw_p49, List.forall_mem_cons.mpr ⟨lw_p50, List.forall_mem_cons.mpr ⟨lw_p51, fun _ h => absurd h List.not_mem_nil⟩⟩⟩⟩
def lw_privs : List (MethodName × Nat) := lw_privs_1 ++ (lw_privs_2 ++ (lw_privs_3 ++ (lw_privs_4)))
def lw_tbl : List Cond := k2_sels lw_privs ++ tables_1
theorem lw_privs_ok : ∀ q ∈ lw_privs, lw_okq q := by
  show ∀ q ∈ lw_privs_1 ++ (lw_privs_2 ++ (lw_privs_3 ++ (lw_privs_4))), lw_okq q
  exact List.forall_mem_append.mpr ⟨lw_r1, List.forall_mem_append.mpr ⟨lw_r2, List.forall_mem_append.mpr ⟨lw_r3, lw_r4⟩⟩⟩

/-- the words that may be handed to a callee -/
def tb : List Cond := lw_tbl.filter goodWord
theorem tb_mem {w : Cond} (i : Nat) (h : lw_tbl[i]? = some w) (g : goodWord w = true) : w ∈ tb := List.mem_filter.mpr ⟨List.mem_of_getElem? h, g⟩
theorem tb_good {w : Cond} (h : w ∈ tb) : goodWord w = true := (List.mem_filter.mp h).2
theorem tb_tbl {w : Cond} (h : w ∈ tb) : w ∈ lw_tbl := (List.mem_filter.mp h).1
theorem tb_m0 {w : Cond} (h : w ∈ k2_sels lw_privs) (g : goodWord w = true) : w ∈ tb := List.mem_filter.mpr ⟨List.mem_append_left _ h, g⟩
theorem tb_m1 {w : Cond} (h : w ∈ tables_1_1) (g : goodWord w = true) : w ∈ tb := List.mem_filter.mpr ⟨List.mem_append_right _ (List.mem_append_left _ h), g⟩
theorem tb_m2 {w : Cond} (h : w ∈ tables_1_2) (g : goodWord w = true) : w ∈ tb := List.mem_filter.mpr ⟨List.mem_append_right _ (List.mem_append_right _ (List.mem_append_left _ h)), g⟩
theorem tb_m3 {w : Cond} (h : w ∈ tables_1_3) (g : goodWord w = true) : w ∈ tb := List.mem_filter.mpr ⟨List.mem_append_right _ (List.mem_append_right _ (List.mem_append_right _ (List.mem_append_left _ h))), g⟩
theorem tb_m4 {w : Cond} (h : w ∈ tables_1_4) (g : goodWord w = true) : w ∈ tb := List.mem_filter.mpr ⟨List.mem_append_right _ (List.mem_append_right _ (List.mem_append_right _ (List.mem_append_right _ (List.mem_append_left _ h)))), g⟩
theorem tb_m5 {w : Cond} (h : w ∈ tables_1_5) (g : goodWord w = true) : w ∈ tb := List.mem_filter.mpr ⟨List.mem_append_right _ (List.mem_append_right _ (List.mem_append_right _ (List.mem_append_right _ (List.mem_append_right _ h)))), g⟩
theorem tb_sub : GoodIn tb tb := fun w h => ⟨h, good_of_word (tb_good h)⟩
end
section
def RX0 : String := "EclipseHouse$Account"
def TX0 : u_T := fun k => match k with
  | 0 => ("EclipseHouse$Account", "kinds", "I", false)
  | 1 => ("EclipseHouse$Account", "calendar", "I", false)
  | 2 => ("EclipseHouse$Account", "east", "I", false)
  | 3 => ("EclipseHouse$Account", "yearZero", "I", false)
  | 4 => ("EclipseHouse$Account", "numbers", "[I", true)
  | 5 => ("EclipseHouse$Account", "slows", "J", false)
  | _ => ("EclipseHouse$Account", "slowsVersion", "I", false)
def tyX0 : Nat → FieldType := fun k => match k with
  | 0 => .int
  | 1 => .int
  | 2 => .int
  | 3 => .int
  | 4 => .array .int
  | 5 => .long
  | _ => .int
abbrev wsX00 : List Cond := u_ws RX0 TX0 7
theorem nmX0 : ∀ a, a < 7 → ∀ b, b < 7 → a ≠ b → (TX0 a).2.1 ≠ (TX0 b).2.1 := by decide +kernel
theorem tyX0_ok : ∀ k, k < 7 → parseFieldDescriptor (TX0 k).2.2.1 = some (tyX0 k) := by decide +kernel
abbrev cX0_init : ByteArray := prog_2_method_1_code
def yX0_init : MethodName := ⟨RX0, "<init>", "()V"⟩
abbrev cX0_clear : ByteArray := prog_2_method_2_code
def yX0_clear : MethodName := ⟨RX0, "clear", "(I)V"⟩
abbrev cX0_setKinds : ByteArray := prog_2_method_3_code
def yX0_setKinds : MethodName := ⟨RX0, "setKinds", "(I)V"⟩
abbrev cX0_setCalendar : ByteArray := prog_2_method_4_code
def yX0_setCalendar : MethodName := ⟨RX0, "setCalendar", "(I)V"⟩
abbrev cX0_setYearZero : ByteArray := prog_2_method_5_code
def yX0_setYearZero : MethodName := ⟨RX0, "setYearZero", "(I)V"⟩
abbrev cX0_setNumber : ByteArray := prog_2_method_6_code
def yX0_setNumber : MethodName := ⟨RX0, "setNumber", "(II)V"⟩
abbrev cX0_has : ByteArray := prog_2_method_7_code
def yX0_has : MethodName := ⟨RX0, "has", "(I)Z"⟩
abbrev cX0_countMeant : ByteArray := prog_2_method_8_code
def yX0_countMeant : MethodName := ⟨RX0, "countMeant", "(LEclipseHouse$Sky;I)I"⟩
abbrev cX0_findMeant : ByteArray := prog_2_method_9_code
def yX0_findMeant : MethodName := ⟨RX0, "findMeant", "(LEclipseHouse$Sky;II)I"⟩
abbrev cX0_leastSlips : ByteArray := prog_2_method_10_code
def yX0_leastSlips : MethodName := ⟨RX0, "leastSlips", "(LEclipseHouse$Sky;I)I"⟩
abbrev cX0_slowsLet : ByteArray := prog_2_method_11_code
def yX0_slowsLet : MethodName := ⟨RX0, "slowsLet", "(LEclipseHouse$Sky;)J"⟩
abbrev cX0_slowsMeaning : ByteArray := prog_2_method_12_code
def yX0_slowsMeaning : MethodName := ⟨RX0, "slowsMeaning", "(LEclipseHouse$Sky;I)J"⟩
abbrev cX0_slowsWithin : ByteArray := prog_2_method_13_code
def yX0_slowsWithin : MethodName := ⟨RX0, "slowsWithin", "(II)J"⟩
abbrev cX0_hoursAt : ByteArray := prog_2_method_14_code
def yX0_hoursAt : MethodName := ⟨RX0, "hoursAt", "(II)I"⟩
abbrev cX0_isOfKind : ByteArray := prog_2_method_15_code
def yX0_isOfKind : MethodName := ⟨RX0, "isOfKind", "(LEclipseHouse$Sky;I)Z"⟩
abbrev cX0_isMeant : ByteArray := prog_2_method_16_code
def yX0_isMeant : MethodName := ⟨RX0, "isMeant", "(LEclipseHouse$Sky;II)Z"⟩
abbrev cX0_hoursSeen : ByteArray := prog_2_method_17_code
def yX0_hoursSeen : MethodName := ⟨RX0, "hoursSeen", "(LEclipseHouse$Sky;II)I"⟩
abbrev cX0_isSeenAt : ByteArray := prog_2_method_18_code
def yX0_isSeenAt : MethodName := ⟨RX0, "isSeenAt", "(IZ)Z"⟩
abbrev cX0_slipsAt : ByteArray := prog_2_method_19_code
def yX0_slipsAt : MethodName := ⟨RX0, "slipsAt", "(II)I"⟩
abbrev cX0_canTell : ByteArray := prog_2_method_20_code
def yX0_canTell : MethodName := ⟨RX0, "canTell", "(I)Z"⟩
abbrev cX0_slipOf : ByteArray := prog_2_method_21_code
def yX0_slipOf : MethodName := ⟨RX0, "slipOf", "(II)I"⟩
def RX1 : String := "EclipseHouse$Archive"
def TX1 : u_T := fun k => match k with
  | 0 => ("EclipseHouse$Archive", "accounts", "[LEclipseHouse$Account;", true)
  | _ => ("EclipseHouse$Archive", "count", "I", false)
def tyX1 : Nat → FieldType := fun k => match k with
  | 0 => .array (.object "EclipseHouse$Account")
  | _ => .int
abbrev wsX10 : List Cond := u_ws RX1 TX1 2
theorem nmX1 : ∀ a, a < 2 → ∀ b, b < 2 → a ≠ b → (TX1 a).2.1 ≠ (TX1 b).2.1 := by decide +kernel
theorem tyX1_ok : ∀ k, k < 2 → parseFieldDescriptor (TX1 k).2.2.1 = some (tyX1 k) := by decide +kernel
abbrev cX1_init : ByteArray := prog_3_method_1_code
def yX1_init : MethodName := ⟨RX1, "<init>", "()V"⟩
abbrev cX1_hasRoom : ByteArray := prog_3_method_2_code
def yX1_hasRoom : MethodName := ⟨RX1, "hasRoom", "()Z"⟩
abbrev cX1_spare : ByteArray := prog_3_method_3_code
def yX1_spare : MethodName := ⟨RX1, "spare", "()LEclipseHouse$Account;"⟩
abbrev cX1_keepSpare : ByteArray := prog_3_method_4_code
def yX1_keepSpare : MethodName := ⟨RX1, "keepSpare", "()I"⟩
abbrev cX1_find : ByteArray := prog_3_method_5_code
def yX1_find : MethodName := ⟨RX1, "find", "(I)LEclipseHouse$Account;"⟩
abbrev cX1_remove : ByteArray := prog_3_method_6_code
def yX1_remove : MethodName := ⟨RX1, "remove", "(I)I"⟩
abbrev cX1_slowsOfAll : ByteArray := prog_3_method_7_code
def yX1_slowsOfAll : MethodName := ⟨RX1, "slowsOfAll", "(LEclipseHouse$Sky;)J"⟩
def RX2 : String := "EclipseHouse$Calendars"
def TX2 : u_T := fun k => match k with
  | _ => ("", "", "", false)
def tyX2 : Nat → FieldType := fun k => match k with
  | _ => .int
abbrev wsX20 : List Cond := u_ws RX2 TX2 0
theorem nmX2 : ∀ a, a < 0 → ∀ b, b < 0 → a ≠ b → (TX2 a).2.1 ≠ (TX2 b).2.1 := by decide +kernel
theorem tyX2_ok : ∀ k, k < 0 → parseFieldDescriptor (TX2 k).2.2.1 = some (tyX2 k) := by decide +kernel
abbrev cX2_isCalendar : ByteArray := prog_4_method_2_code
def yX2_isCalendar : MethodName := ⟨RX2, "isCalendar", "(I)Z"⟩
abbrev cX2_firstDay : ByteArray := prog_4_method_3_code
def yX2_firstDay : MethodName := ⟨RX2, "firstDay", "(II)I"⟩
abbrev cX2_monthLength : ByteArray := prog_4_method_4_code
def yX2_monthLength : MethodName := ⟨RX2, "monthLength", "(III)I"⟩
abbrev cX2_yearOf : ByteArray := prog_4_method_5_code
def yX2_yearOf : MethodName := ⟨RX2, "yearOf", "(II)I"⟩
abbrev cX2_guessYear : ByteArray := prog_4_method_6_code
def yX2_guessYear : MethodName := ⟨RX2, "guessYear", "(II)I"⟩
abbrev cX2_monthDayOf : ByteArray := prog_4_method_7_code
def yX2_monthDayOf : MethodName := ⟨RX2, "monthDayOf", "(III)I"⟩
abbrev cX2_monthIn : ByteArray := prog_4_method_8_code
def yX2_monthIn : MethodName := ⟨RX2, "monthIn", "(I)I"⟩
abbrev cX2_dayIn : ByteArray := prog_4_method_9_code
def yX2_dayIn : MethodName := ⟨RX2, "dayIn", "(I)I"⟩
abbrev cX2_dayOf : ByteArray := prog_4_method_10_code
def yX2_dayOf : MethodName := ⟨RX2, "dayOf", "(IIII)I"⟩
def RX3 : String := "EclipseHouse$Reader"
def TX3 : u_T := fun k => match k with
  | 0 => ("EclipseHouse$Reader", "tape", "LEclipseHouse$Tape;", true)
  | 1 => ("EclipseHouse$Reader", "reigns", "LEclipseHouse$Reigns;", true)
  | 2 => ("EclipseHouse$Reader", "account", "LEclipseHouse$Account;", false)
  | 3 => ("EclipseHouse$Reader", "sort", "I", false)
  | 4 => ("EclipseHouse$Reader", "start", "I", false)
  | 5 => ("EclipseHouse$Reader", "stop", "I", false)
  | 6 => ("EclipseHouse$Reader", "calendar", "I", false)
  | 7 => ("EclipseHouse$Reader", "ruler", "I", false)
  | 8 => ("EclipseHouse$Reader", "rulerPlace", "I", false)
  | 9 => ("EclipseHouse$Reader", "fault", "I", false)
  | _ => ("EclipseHouse$Reader", "place", "I", false)
def tyX3 : Nat → FieldType := fun k => match k with
  | 0 => .object "EclipseHouse$Tape"
  | 1 => .object "EclipseHouse$Reigns"
  | 2 => .object "EclipseHouse$Account"
  | 3 => .int
  | 4 => .int
  | 5 => .int
  | 6 => .int
  | 7 => .int
  | 8 => .int
  | 9 => .int
  | _ => .int
abbrev wsX30 : List Cond := u_ws RX3 TX3 11
theorem nmX3 : ∀ a, a < 11 → ∀ b, b < 11 → a ≠ b → (TX3 a).2.1 ≠ (TX3 b).2.1 := by decide +kernel
theorem tyX3_ok : ∀ k, k < 11 → parseFieldDescriptor (TX3 k).2.2.1 = some (tyX3 k) := by decide +kernel
abbrev cX3_init : ByteArray := prog_5_method_1_code
def yX3_init : MethodName := ⟨RX3, "<init>", "(LEclipseHouse$Tape;LEclipseHouse$Reigns;)V"⟩
abbrev cX3_faultKind : ByteArray := prog_5_method_2_code
def yX3_faultKind : MethodName := ⟨RX3, "faultKind", "()I"⟩
abbrev cX3_faultPlace : ByteArray := prog_5_method_3_code
def yX3_faultPlace : MethodName := ⟨RX3, "faultPlace", "()I"⟩
abbrev cX3_read : ByteArray := prog_5_method_4_code
def yX3_read : MethodName := ⟨RX3, "read", "(LEclipseHouse$Account;I)Z"⟩
abbrev cX3_refuse : ByteArray := prog_5_method_5_code
def yX3_refuse : MethodName := ⟨RX3, "refuse", "(II)Z"⟩
abbrev cX3_advance : ByteArray := prog_5_method_6_code
def yX3_advance : MethodName := ⟨RX3, "advance", "()V"⟩
abbrev cX3_takeSign : ByteArray := prog_5_method_7_code
def yX3_takeSign : MethodName := ⟨RX3, "takeSign", "()V"⟩
abbrev cX3_isWord : ByteArray := prog_5_method_8_code
def yX3_isWord : MethodName := ⟨RX3, "isWord", "(Ljava/lang/String;)Z"⟩
abbrev cX3_readWhat : ByteArray := prog_5_method_9_code
def yX3_readWhat : MethodName := ⟨RX3, "readWhat", "()Z"⟩
abbrev cX3_sunKind : ByteArray := prog_5_method_10_code
def yX3_sunKind : MethodName := ⟨RX3, "sunKind", "()I"⟩
abbrev cX3_moonKind : ByteArray := prog_5_method_11_code
def yX3_moonKind : MethodName := ⟨RX3, "moonKind", "()I"⟩
abbrev cX3_readParts : ByteArray := prog_5_method_12_code
def yX3_readParts : MethodName := ⟨RX3, "readParts", "()Z"⟩
abbrev cX3_partHere : ByteArray := prog_5_method_13_code
def yX3_partHere : MethodName := ⟨RX3, "partHere", "()I"⟩
abbrev cX3_readPart : ByteArray := prog_5_method_14_code
def yX3_readPart : MethodName := ⟨RX3, "readPart", "()Z"⟩
abbrev cX3_readNumber : ByteArray := prog_5_method_15_code
def yX3_readNumber : MethodName := ⟨RX3, "readNumber", "(I)Z"⟩
abbrev cX3_readRuler : ByteArray := prog_5_method_16_code
def yX3_readRuler : MethodName := ⟨RX3, "readRuler", "()Z"⟩
abbrev cX3_readCalendar : ByteArray := prog_5_method_17_code
def yX3_readCalendar : MethodName := ⟨RX3, "readCalendar", "()Z"⟩
abbrev cX3_readClose : ByteArray := prog_5_method_18_code
def yX3_readClose : MethodName := ⟨RX3, "readClose", "()Z"⟩
abbrev cX3_joinRuler : ByteArray := prog_5_method_19_code
def yX3_joinRuler : MethodName := ⟨RX3, "joinRuler", "()Z"⟩
def RX4 : String := "EclipseHouse$Reigns"
def TX4 : u_T := fun k => match k with
  | 0 => ("EclipseHouse$Reigns", "names", "[I", true)
  | 1 => ("EclipseHouse$Reigns", "calendars", "[I", true)
  | 2 => ("EclipseHouse$Reigns", "years", "[I", true)
  | _ => ("EclipseHouse$Reigns", "count", "I", false)
def tyX4 : Nat → FieldType := fun k => match k with
  | 0 => .array .int
  | 1 => .array .int
  | 2 => .array .int
  | _ => .int
abbrev wsX40 : List Cond := u_ws RX4 TX4 4
theorem nmX4 : ∀ a, a < 4 → ∀ b, b < 4 → a ≠ b → (TX4 a).2.1 ≠ (TX4 b).2.1 := by decide +kernel
theorem tyX4_ok : ∀ k, k < 4 → parseFieldDescriptor (TX4 k).2.2.1 = some (tyX4 k) := by decide +kernel
abbrev cX4_init : ByteArray := prog_6_method_1_code
def yX4_init : MethodName := ⟨RX4, "<init>", "()V"⟩
abbrev cX4_begin : ByteArray := prog_6_method_2_code
def yX4_begin : MethodName := ⟨RX4, "begin", "(III)I"⟩
abbrev cX4_find : ByteArray := prog_6_method_3_code
def yX4_find : MethodName := ⟨RX4, "find", "(I)I"⟩
abbrev cX4_isThere : ByteArray := prog_6_method_4_code
def yX4_isThere : MethodName := ⟨RX4, "isThere", "(I)Z"⟩
abbrev cX4_calendarOf : ByteArray := prog_6_method_5_code
def yX4_calendarOf : MethodName := ⟨RX4, "calendarOf", "(I)I"⟩
abbrev cX4_firstYearOf : ByteArray := prog_6_method_6_code
def yX4_firstYearOf : MethodName := ⟨RX4, "firstYearOf", "(I)I"⟩
def RX5 : String := "EclipseHouse$Sky"
def TX5 : u_T := fun k => match k with
  | 0 => ("EclipseHouse$Sky", "moonStart", "I", false)
  | 1 => ("EclipseHouse$Sky", "sunStart", "I", false)
  | 2 => ("EclipseHouse$Sky", "nodeStart", "I", false)
  | 3 => ("EclipseHouse$Sky", "version", "I", false)
  | 4 => ("EclipseHouse$Sky", "listed", "Z", false)
  | 5 => ("EclipseHouse$Sky", "listSize", "I", false)
  | 6 => ("EclipseHouse$Sky", "listMoon", "[I", true)
  | 7 => ("EclipseHouse$Sky", "listKind", "[I", true)
  | _ => ("EclipseHouse$Sky", "listTime", "[I", true)
def tyX5 : Nat → FieldType := fun k => match k with
  | 0 => .int
  | 1 => .int
  | 2 => .int
  | 3 => .int
  | 4 => .boolean
  | 5 => .int
  | 6 => .array .int
  | 7 => .array .int
  | _ => .array .int
abbrev wsX50 : List Cond := u_ws RX5 TX5 9
theorem nmX5 : ∀ a, a < 9 → ∀ b, b < 9 → a ≠ b → (TX5 a).2.1 ≠ (TX5 b).2.1 := by decide +kernel
theorem tyX5_ok : ∀ k, k < 9 → parseFieldDescriptor (TX5 k).2.2.1 = some (tyX5 k) := by decide +kernel
abbrev cX5_init : ByteArray := prog_7_method_1_code
def yX5_init : MethodName := ⟨RX5, "<init>", "()V"⟩
abbrev cX5_isMoon : ByteArray := prog_7_method_2_code
def yX5_isMoon : MethodName := ⟨RX5, "isMoon", "(I)Z"⟩
abbrev cX5_isPlace : ByteArray := prog_7_method_3_code
def yX5_isPlace : MethodName := ⟨RX5, "isPlace", "(I)Z"⟩
abbrev cX5_setTables : ByteArray := prog_7_method_4_code
def yX5_setTables : MethodName := ⟨RX5, "setTables", "(III)Z"⟩
abbrev cX5_tablesVersion : ByteArray := prog_7_method_5_code
def yX5_tablesVersion : MethodName := ⟨RX5, "tablesVersion", "()I"⟩
abbrev cX5_moonPlace : ByteArray := prog_7_method_6_code
def yX5_moonPlace : MethodName := ⟨RX5, "moonPlace", "(I)I"⟩
abbrev cX5_sunPlace : ByteArray := prog_7_method_7_code
def yX5_sunPlace : MethodName := ⟨RX5, "sunPlace", "(I)I"⟩
abbrev cX5_nodePlace : ByteArray := prog_7_method_8_code
def yX5_nodePlace : MethodName := ⟨RX5, "nodePlace", "(I)I"⟩
abbrev cX5_timeOf : ByteArray := prog_7_method_9_code
def yX5_timeOf : MethodName := ⟨RX5, "timeOf", "(I)I"⟩
abbrev cX5_waveOf : ByteArray := prog_7_method_10_code
def yX5_waveOf : MethodName := ⟨RX5, "waveOf", "(I)I"⟩
abbrev cX5_halfWave : ByteArray := prog_7_method_11_code
def yX5_halfWave : MethodName := ⟨RX5, "halfWave", "(I)I"⟩
abbrev cX5_kindOf : ByteArray := prog_7_method_12_code
def yX5_kindOf : MethodName := ⟨RX5, "kindOf", "(I)I"⟩
abbrev cX5_sunKind : ByteArray := prog_7_method_13_code
def yX5_sunKind : MethodName := ⟨RX5, "sunKind", "(II)I"⟩
abbrev cX5_moonKind : ByteArray := prog_7_method_14_code
def yX5_moonKind : MethodName := ⟨RX5, "moonKind", "(I)I"⟩
abbrev cX5_firstOfRound : ByteArray := prog_7_method_15_code
def yX5_firstOfRound : MethodName := ⟨RX5, "firstOfRound", "(I)I"⟩
abbrev cX5_lastOfRound : ByteArray := prog_7_method_16_code
def yX5_lastOfRound : MethodName := ⟨RX5, "lastOfRound", "(I)I"⟩
abbrev cX5_minuteSeen : ByteArray := prog_7_method_17_code
def yX5_minuteSeen : MethodName := ⟨RX5, "minuteSeen", "(III)I"⟩
abbrev cX5_listEclipses : ByteArray := prog_7_method_18_code
def yX5_listEclipses : MethodName := ⟨RX5, "listEclipses", "()I"⟩
abbrev cX5_isListed : ByteArray := prog_7_method_19_code
def yX5_isListed : MethodName := ⟨RX5, "isListed", "(I)Z"⟩
abbrev cX5_moonAt : ByteArray := prog_7_method_20_code
def yX5_moonAt : MethodName := ⟨RX5, "moonAt", "(I)I"⟩
abbrev cX5_kindAt : ByteArray := prog_7_method_21_code
def yX5_kindAt : MethodName := ⟨RX5, "kindAt", "(I)I"⟩
abbrev cX5_isOfSunAt : ByteArray := prog_7_method_22_code
def yX5_isOfSunAt : MethodName := ⟨RX5, "isOfSunAt", "(I)Z"⟩
abbrev cX5_timeAt : ByteArray := prog_7_method_23_code
def yX5_timeAt : MethodName := ⟨RX5, "timeAt", "(I)I"⟩
abbrev cX5_isAsked : ByteArray := prog_7_method_24_code
def yX5_isAsked : MethodName := ⟨RX5, "isAsked", "(II)Z"⟩
abbrev cX5_findEclipse : ByteArray := prog_7_method_25_code
def yX5_findEclipse : MethodName := ⟨RX5, "findEclipse", "(III)I"⟩
abbrev cX5_countEclipses : ByteArray := prog_7_method_26_code
def yX5_countEclipses : MethodName := ⟨RX5, "countEclipses", "(III)I"⟩
def RX6 : String := "EclipseHouse$Tape"
def TX6 : u_T := fun k => match k with
  | 0 => ("EclipseHouse$Tape", "bytes", "[I", true)
  | _ => ("EclipseHouse$Tape", "length", "I", false)
def tyX6 : Nat → FieldType := fun k => match k with
  | 0 => .array .int
  | _ => .int
abbrev wsX60 : List Cond := u_ws RX6 TX6 2
theorem nmX6 : ∀ a, a < 2 → ∀ b, b < 2 → a ≠ b → (TX6 a).2.1 ≠ (TX6 b).2.1 := by decide +kernel
theorem tyX6_ok : ∀ k, k < 2 → parseFieldDescriptor (TX6 k).2.2.1 = some (tyX6 k) := by decide +kernel
abbrev cX6_init : ByteArray := prog_8_method_1_code
def yX6_init : MethodName := ⟨RX6, "<init>", "()V"⟩
abbrev cX6_size : ByteArray := prog_8_method_2_code
def yX6_size : MethodName := ⟨RX6, "size", "()I"⟩
abbrev cX6_hasRoom : ByteArray := prog_8_method_3_code
def yX6_hasRoom : MethodName := ⟨RX6, "hasRoom", "()Z"⟩
abbrev cX6_addNumber : ByteArray := prog_8_method_4_code
def yX6_addNumber : MethodName := ⟨RX6, "addNumber", "(I)V"⟩
abbrev cX6_cutTo : ByteArray := prog_8_method_5_code
def yX6_cutTo : MethodName := ⟨RX6, "cutTo", "(I)Z"⟩
abbrev cX6_clear : ByteArray := prog_8_method_6_code
def yX6_clear : MethodName := ⟨RX6, "clear", "()V"⟩
abbrev cX6_byteAt : ByteArray := prog_8_method_7_code
def yX6_byteAt : MethodName := ⟨RX6, "byteAt", "(I)I"⟩
abbrev cX6_isLetter : ByteArray := prog_8_method_8_code
def yX6_isLetter : MethodName := ⟨RX6, "isLetter", "(I)Z"⟩
abbrev cX6_isDigit : ByteArray := prog_8_method_9_code
def yX6_isDigit : MethodName := ⟨RX6, "isDigit", "(I)Z"⟩
abbrev cX6_isBlank : ByteArray := prog_8_method_10_code
def yX6_isBlank : MethodName := ⟨RX6, "isBlank", "(I)Z"⟩
abbrev cX6_nameBetween : ByteArray := prog_8_method_11_code
def yX6_nameBetween : MethodName := ⟨RX6, "nameBetween", "(II)I"⟩
def RX7 : String := "EclipseHouse"
def TX7 : u_T := fun k => match k with
  | 0 => ("EclipseHouse", "sky", "LEclipseHouse$Sky;", true)
  | 1 => ("EclipseHouse", "tape", "LEclipseHouse$Tape;", true)
  | 2 => ("EclipseHouse", "reigns", "LEclipseHouse$Reigns;", true)
  | 3 => ("EclipseHouse", "archive", "LEclipseHouse$Archive;", true)
  | _ => ("EclipseHouse", "reader", "LEclipseHouse$Reader;", true)
def tyX7 : Nat → FieldType := fun k => match k with
  | 0 => .object "EclipseHouse$Sky"
  | 1 => .object "EclipseHouse$Tape"
  | 2 => .object "EclipseHouse$Reigns"
  | 3 => .object "EclipseHouse$Archive"
  | _ => .object "EclipseHouse$Reader"
abbrev wsX70 : List Cond := u_ws RX7 TX7 5
theorem nmX7 : ∀ a, a < 5 → ∀ b, b < 5 → a ≠ b → (TX7 a).2.1 ≠ (TX7 b).2.1 := by decide +kernel
theorem tyX7_ok : ∀ k, k < 5 → parseFieldDescriptor (TX7 k).2.2.1 = some (tyX7 k) := by decide +kernel
abbrev cX7_init : ByteArray := prog_1_method_1_code
def yX7_init : MethodName := ⟨RX7, "<init>", "()V"⟩
abbrev cX7_tables : ByteArray := prog_1_method_2_code
def yX7_tables : MethodName := ⟨RX7, "tables", "(III)Z"⟩
abbrev cX7_moon : ByteArray := prog_1_method_3_code
def yX7_moon : MethodName := ⟨RX7, "moon", "(II)I"⟩
abbrev cX7_next : ByteArray := prog_1_method_4_code
def yX7_next : MethodName := ⟨RX7, "next", "(III)I"⟩
abbrev cX7_round : ByteArray := prog_1_method_5_code
def yX7_round : MethodName := ⟨RX7, "round", "(II)I"⟩
abbrev cX7_many : ByteArray := prog_1_method_6_code
def yX7_many : MethodName := ⟨RX7, "many", "(III)I"⟩
abbrev cX7_date : ByteArray := prog_1_method_7_code
def yX7_date : MethodName := ⟨RX7, "date", "(III)I"⟩
abbrev cX7_day : ByteArray := prog_1_method_8_code
def yX7_day : MethodName := ⟨RX7, "day", "(IIII)I"⟩
abbrev cX7_seen : ByteArray := prog_1_method_9_code
def yX7_seen : MethodName := ⟨RX7, "seen", "(III)I"⟩
abbrev cX7_feed : ByteArray := prog_1_method_10_code
def yX7_feed : MethodName := ⟨RX7, "feed", "(IIIII)I"⟩
abbrev cX7_end : ByteArray := prog_1_method_11_code
def yX7_end : MethodName := ⟨RX7, "end", "(I)Z"⟩
abbrev cX7_reign : ByteArray := prog_1_method_12_code
def yX7_reign : MethodName := ⟨RX7, "reign", "(II)I"⟩
abbrev cX7_record : ByteArray := prog_1_method_13_code
def yX7_record : MethodName := ⟨RX7, "record", "(I)I"⟩
abbrev cX7_fault : ByteArray := prog_1_method_14_code
def yX7_fault : MethodName := ⟨RX7, "fault", "(I)I"⟩
abbrev cX7_means : ByteArray := prog_1_method_15_code
def yX7_means : MethodName := ⟨RX7, "means", "(II)I"⟩
abbrev cX7_meant : ByteArray := prog_1_method_16_code
def yX7_meant : MethodName := ⟨RX7, "meant", "(III)I"⟩
abbrev cX7_slips : ByteArray := prog_1_method_17_code
def yX7_slips : MethodName := ⟨RX7, "slips", "(II)I"⟩
abbrev cX7_lets : ByteArray := prog_1_method_18_code
def yX7_lets : MethodName := ⟨RX7, "lets", "(I)I"⟩
abbrev cX7_slow : ByteArray := prog_1_method_19_code
def yX7_slow : MethodName := ⟨RX7, "slow", "(I)I"⟩
abbrev cX7_drop : ByteArray := prog_1_method_20_code
def yX7_drop : MethodName := ⟨RX7, "drop", "(I)I"⟩
abbrev cX7_isEast : ByteArray := prog_1_method_21_code
def yX7_isEast : MethodName := ⟨RX7, "isEast", "(I)Z"⟩
abbrev cX7_isSlow : ByteArray := prog_1_method_22_code
def yX7_isSlow : MethodName := ⟨RX7, "isSlow", "(I)Z"⟩
def RX8 : String := "EclipseHouseModel"
def TX8 : u_T := fun k => match k with
  | 0 => ("EclipseHouseModel", "a", "I", false)
  | 1 => ("EclipseHouseModel", "b", "I", false)
  | 2 => ("EclipseHouseModel", "f", "I", false)
  | 3 => ("EclipseHouseModel", "isNoted", "Z", false)
  | 4 => ("EclipseHouseModel", "eclipses", "I", false)
  | 5 => ("EclipseHouseModel", "eclipse", "[I", true)
  | 6 => ("EclipseHouseModel", "sort", "[I", true)
  | 7 => ("EclipseHouseModel", "minute", "[I", true)
  | 8 => ("EclipseHouseModel", "waveRow", "[I", true)
  | 9 => ("EclipseHouseModel", "leapMonths", "[I", true)
  | 10 => ("EclipseHouseModel", "dateYear", "I", false)
  | 11 => ("EclipseHouseModel", "dateMonth", "I", false)
  | 12 => ("EclipseHouseModel", "dateDay", "I", false)
  | 13 => ("EclipseHouseModel", "tape", "[I", true)
  | 14 => ("EclipseHouseModel", "taped", "I", false)
  | 15 => ("EclipseHouseModel", "at", "I", false)
  | 16 => ("EclipseHouseModel", "size", "I", false)
  | 17 => ("EclipseHouseModel", "ended", "I", false)
  | 18 => ("EclipseHouseModel", "bad", "I", false)
  | 19 => ("EclipseHouseModel", "badPlace", "I", false)
  | 20 => ("EclipseHouseModel", "fault", "I", false)
  | 21 => ("EclipseHouseModel", "faultPlace", "I", false)
  | 22 => ("EclipseHouseModel", "reigns", "I", false)
  | 23 => ("EclipseHouseModel", "reignName", "[J", true)
  | 24 => ("EclipseHouseModel", "reignCalendar", "[I", true)
  | 25 => ("EclipseHouseModel", "reignYear", "[I", true)
  | 26 => ("EclipseHouseModel", "records", "I", false)
  | 27 => ("EclipseHouseModel", "sorts", "[I", true)
  | 28 => ("EclipseHouseModel", "numbers", "[I", true)
  | 29 => ("EclipseHouseModel", "began", "[I", true)
  | 30 => ("EclipseHouseModel", "calendarOf", "[I", true)
  | 31 => ("EclipseHouseModel", "eastOf", "[I", true)
  | 32 => ("EclipseHouseModel", "namePlace", "I", false)
  | 33 => ("EclipseHouseModel", "nameReign", "I", false)
  | 34 => ("EclipseHouseModel", "sunWord", "[C", true)
  | 35 => ("EclipseHouseModel", "moonWord", "[C", true)
  | 36 => ("EclipseHouseModel", "totalWord", "[C", true)
  | 37 => ("EclipseHouseModel", "ringWord", "[C", true)
  | 38 => ("EclipseHouseModel", "partWord", "[C", true)
  | 39 => ("EclipseHouseModel", "wholeWord", "[C", true)
  | 40 => ("EclipseHouseModel", "halfWord", "[C", true)
  | 41 => ("EclipseHouseModel", "yearWord", "[C", true)
  | 42 => ("EclipseHouseModel", "monthWord", "[C", true)
  | 43 => ("EclipseHouseModel", "dayWord", "[C", true)
  | 44 => ("EclipseHouseModel", "hourWord", "[C", true)
  | 45 => ("EclipseHouseModel", "ofWord", "[C", true)
  | 46 => ("EclipseHouseModel", "inWord", "[C", true)
  | 47 => ("EclipseHouseModel", "evenWord", "[C", true)
  | 48 => ("EclipseHouseModel", "leapWord", "[C", true)
  | _ => ("EclipseHouseModel", "moonsWord", "[C", true)
def tyX8 : Nat → FieldType := fun k => match k with
  | 0 => .int
  | 1 => .int
  | 2 => .int
  | 3 => .boolean
  | 4 => .int
  | 5 => .array .int
  | 6 => .array .int
  | 7 => .array .int
  | 8 => .array .int
  | 9 => .array .int
  | 10 => .int
  | 11 => .int
  | 12 => .int
  | 13 => .array .int
  | 14 => .int
  | 15 => .int
  | 16 => .int
  | 17 => .int
  | 18 => .int
  | 19 => .int
  | 20 => .int
  | 21 => .int
  | 22 => .int
  | 23 => .array .long
  | 24 => .array .int
  | 25 => .array .int
  | 26 => .int
  | 27 => .array .int
  | 28 => .array .int
  | 29 => .array .int
  | 30 => .array .int
  | 31 => .array .int
  | 32 => .int
  | 33 => .int
  | 34 => .array .char
  | 35 => .array .char
  | 36 => .array .char
  | 37 => .array .char
  | 38 => .array .char
  | 39 => .array .char
  | 40 => .array .char
  | 41 => .array .char
  | 42 => .array .char
  | 43 => .array .char
  | 44 => .array .char
  | 45 => .array .char
  | 46 => .array .char
  | 47 => .array .char
  | 48 => .array .char
  | _ => .array .char
abbrev wsX80 : List Cond := u_ws RX8 TX8 50
theorem nmX8 : ∀ a, a < 50 → ∀ b, b < 50 → a ≠ b → (TX8 a).2.1 ≠ (TX8 b).2.1 := by decide +kernel
theorem tyX8_ok : ∀ k, k < 50 → parseFieldDescriptor (TX8 k).2.2.1 = some (tyX8 k) := by decide +kernel
abbrev cX8_init : ByteArray := prog_10_method_1_code
def yX8_init : MethodName := ⟨RX8, "<init>", "()V"⟩
abbrev cX8_isIn : ByteArray := prog_10_method_2_code
def yX8_isIn : MethodName := ⟨RX8, "isIn", "(III)Z"⟩
abbrev cX8_floor : ByteArray := prog_10_method_3_code
def yX8_floor : MethodName := ⟨RX8, "floor", "(JJ)J"⟩
abbrev cX8_tables : ByteArray := prog_10_method_4_code
def yX8_tables : MethodName := ⟨RX8, "tables", "(III)Z"⟩
abbrev cX8_moonAt : ByteArray := prog_10_method_5_code
def yX8_moonAt : MethodName := ⟨RX8, "moonAt", "(I)I"⟩
abbrev cX8_sunAt : ByteArray := prog_10_method_6_code
def yX8_sunAt : MethodName := ⟨RX8, "sunAt", "(I)I"⟩
abbrev cX8_nodeAt : ByteArray := prog_10_method_7_code
def yX8_nodeAt : MethodName := ⟨RX8, "nodeAt", "(I)I"⟩
abbrev cX8_quarter : ByteArray := prog_10_method_8_code
def yX8_quarter : MethodName := ⟨RX8, "quarter", "(I)I"⟩
abbrev cX8_wave : ByteArray := prog_10_method_9_code
def yX8_wave : MethodName := ⟨RX8, "wave", "(I)I"⟩
abbrev cX8_timeOf : ByteArray := prog_10_method_10_code
def yX8_timeOf : MethodName := ⟨RX8, "timeOf", "(I)I"⟩
abbrev cX8_sortOf : ByteArray := prog_10_method_11_code
def yX8_sortOf : MethodName := ⟨RX8, "sortOf", "(I)I"⟩
abbrev cX8_isMoon : ByteArray := prog_10_method_12_code
def yX8_isMoon : MethodName := ⟨RX8, "isMoon", "(I)Z"⟩
abbrev cX8_moon : ByteArray := prog_10_method_13_code
def yX8_moon : MethodName := ⟨RX8, "moon", "(II)I"⟩
abbrev cX8_notes : ByteArray := prog_10_method_14_code
def yX8_notes : MethodName := ⟨RX8, "notes", "()V"⟩
abbrev cX8_next : ByteArray := prog_10_method_15_code
def yX8_next : MethodName := ⟨RX8, "next", "(III)I"⟩
abbrev cX8_many : ByteArray := prog_10_method_16_code
def yX8_many : MethodName := ⟨RX8, "many", "(III)I"⟩
abbrev cX8_round : ByteArray := prog_10_method_17_code
def yX8_round : MethodName := ⟨RX8, "round", "(II)I"⟩
abbrev cX8_isLong : ByteArray := prog_10_method_18_code
def yX8_isLong : MethodName := ⟨RX8, "isLong", "(II)Z"⟩
abbrev cX8_yearDays : ByteArray := prog_10_method_19_code
def yX8_yearDays : MethodName := ⟨RX8, "yearDays", "(II)I"⟩
abbrev cX8_monthDays : ByteArray := prog_10_method_20_code
def yX8_monthDays : MethodName := ⟨RX8, "monthDays", "(III)I"⟩
abbrev cX8_dates : ByteArray := prog_10_method_21_code
def yX8_dates : MethodName := ⟨RX8, "dates", "(II)V"⟩
abbrev cX8_date : ByteArray := prog_10_method_22_code
def yX8_date : MethodName := ⟨RX8, "date", "(III)I"⟩
abbrev cX8_day : ByteArray := prog_10_method_23_code
def yX8_day : MethodName := ⟨RX8, "day", "(IIII)I"⟩
abbrev cX8_seenAt : ByteArray := prog_10_method_24_code
def yX8_seenAt : MethodName := ⟨RX8, "seenAt", "(III)I"⟩
abbrev cX8_seen : ByteArray := prog_10_method_25_code
def yX8_seen : MethodName := ⟨RX8, "seen", "(III)I"⟩
abbrev cX8_feed : ByteArray := prog_10_method_26_code
def yX8_feed : MethodName := ⟨RX8, "feed", "(IIIII)I"⟩
abbrev cX8_end : ByteArray := prog_10_method_27_code
def yX8_end : MethodName := ⟨RX8, "end", "(I)Z"⟩
abbrev cX8_fail : ByteArray := prog_10_method_28_code
def yX8_fail : MethodName := ⟨RX8, "fail", "(II)V"⟩
abbrev cX8_isLetter : ByteArray := prog_10_method_29_code
def yX8_isLetter : MethodName := ⟨RX8, "isLetter", "(I)Z"⟩
abbrev cX8_isDigit : ByteArray := prog_10_method_30_code
def yX8_isDigit : MethodName := ⟨RX8, "isDigit", "(I)Z"⟩
abbrev cX8_next_ : ByteArray := prog_10_method_31_code
def yX8_next_ : MethodName := ⟨RX8, "next", "()I"⟩
abbrev cX8_wordEnd : ByteArray := prog_10_method_32_code
def yX8_wordEnd : MethodName := ⟨RX8, "wordEnd", "()I"⟩
abbrev cX8_takes : ByteArray := prog_10_method_33_code
def yX8_takes : MethodName := ⟨RX8, "takes", "([C)Z"⟩
abbrev cX8_number : ByteArray := prog_10_method_34_code
def yX8_number : MethodName := ⟨RX8, "number", "(II)I"⟩
abbrev cX8_packed : ByteArray := prog_10_method_35_code
def yX8_packed : MethodName := ⟨RX8, "packed", "(II)J"⟩
abbrev cX8_reignOf : ByteArray := prog_10_method_36_code
def yX8_reignOf : MethodName := ⟨RX8, "reignOf", "(J)I"⟩
abbrev cX8_reign : ByteArray := prog_10_method_37_code
def yX8_reign : MethodName := ⟨RX8, "reign", "(II)I"⟩
abbrev cX8_whats : ByteArray := prog_10_method_38_code
def yX8_whats : MethodName := ⟨RX8, "whats", "()I"⟩
abbrev cX8_partOf : ByteArray := prog_10_method_39_code
def yX8_partOf : MethodName := ⟨RX8, "partOf", "()I"⟩
abbrev cX8_name : ByteArray := prog_10_method_40_code
def yX8_name : MethodName := ⟨RX8, "name", "()V"⟩
abbrev cX8_reads : ByteArray := prog_10_method_41_code
def yX8_reads : MethodName := ⟨RX8, "reads", "(I)V"⟩
abbrev cX8_record : ByteArray := prog_10_method_42_code
def yX8_record : MethodName := ⟨RX8, "record", "(I)I"⟩
abbrev cX8_fault : ByteArray := prog_10_method_43_code
def yX8_fault : MethodName := ⟨RX8, "fault", "(I)I"⟩
abbrev cX8_isRecord : ByteArray := prog_10_method_44_code
def yX8_isRecord : MethodName := ⟨RX8, "isRecord", "(I)Z"⟩
abbrev cX8_differs : ByteArray := prog_10_method_45_code
def yX8_differs : MethodName := ⟨RX8, "differs", "(III)I"⟩
abbrev cX8_isAsked : ByteArray := prog_10_method_46_code
def yX8_isAsked : MethodName := ⟨RX8, "isAsked", "(II)Z"⟩
abbrev cX8_means : ByteArray := prog_10_method_47_code
def yX8_means : MethodName := ⟨RX8, "means", "(II)I"⟩
abbrev cX8_meant : ByteArray := prog_10_method_48_code
def yX8_meant : MethodName := ⟨RX8, "meant", "(III)I"⟩
abbrev cX8_slips : ByteArray := prog_10_method_49_code
def yX8_slips : MethodName := ⟨RX8, "slips", "(II)I"⟩
abbrev cX8_isLet : ByteArray := prog_10_method_50_code
def yX8_isLet : MethodName := ⟨RX8, "isLet", "(II)Z"⟩
abbrev cX8_lets : ByteArray := prog_10_method_51_code
def yX8_lets : MethodName := ⟨RX8, "lets", "(I)I"⟩
abbrev cX8_slow : ByteArray := prog_10_method_52_code
def yX8_slow : MethodName := ⟨RX8, "slow", "(I)I"⟩
abbrev cX8_drop : ByteArray := prog_10_method_53_code
def yX8_drop : MethodName := ⟨RX8, "drop", "(I)I"⟩
def RJ6 : String := "java/lang/Integer"
def TJ6 : u_T := fun k => match k with
  | _ => ("", "", "", false)
def tyJ6 : Nat → FieldType := fun k => match k with
  | _ => .int
abbrev cJ6_numberOfLeadingZeros_0f7a4 : ByteArray := prog_11_method_47_code
def yJ6_numberOfLeadingZeros_0f7a4 : MethodName := ⟨RJ6, "numberOfLeadingZeros", "(I)I"⟩
abbrev cJ6_numberOfTrailingZeros_0f7a4 : ByteArray := prog_11_method_48_code
def yJ6_numberOfTrailingZeros_0f7a4 : MethodName := ⟨RJ6, "numberOfTrailingZeros", "(I)I"⟩
def RJ13 : String := "java/lang/Long"
def TJ13 : u_T := fun k => match k with
  | _ => ("", "", "", false)
def tyJ13 : Nat → FieldType := fun k => match k with
  | _ => .int
abbrev cJ13_numberOfLeadingZeros_95d88 : ByteArray := prog_12_method_48_code
def yJ13_numberOfLeadingZeros_95d88 : MethodName := ⟨RJ13, "numberOfLeadingZeros", "(J)I"⟩
abbrev cJ13_numberOfTrailingZeros_95d88 : ByteArray := prog_12_method_49_code
def yJ13_numberOfTrailingZeros_95d88 : MethodName := ⟨RJ13, "numberOfTrailingZeros", "(J)I"⟩
abbrev cJ13_bitCount_95d88 : ByteArray := prog_12_method_50_code
def yJ13_bitCount_95d88 : MethodName := ⟨RJ13, "bitCount", "(J)I"⟩
def RJ9 : String := "java/lang/Math"
def TJ9 : u_T := fun k => match k with
  | _ => ("", "", "", false)
def tyJ9 : Nat → FieldType := fun k => match k with
  | _ => .int
abbrev cJ9_floorDiv_7cf53 : ByteArray := prog_13_method_47_code
def yJ9_floorDiv_7cf53 : MethodName := ⟨RJ9, "floorDiv", "(II)I"⟩
abbrev cJ9_min_7cf53 : ByteArray := prog_13_method_69_code
def yJ9_min_7cf53 : MethodName := ⟨RJ9, "min", "(II)I"⟩
def RJ0 : String := "java/lang/String"
def TJ0 : u_T := fun k => match k with
  | _ => ("", "", "", false)
def tyJ0 : Nat → FieldType := fun k => match k with
  | _ => .int
abbrev cJ0_length_8abf5 : ByteArray := prog_14_method_54_code
def yJ0_length_8abf5 : MethodName := ⟨RJ0, "length", "()I"⟩
abbrev cJ0_charAt_5068e : ByteArray := prog_14_method_56_code
def yJ0_charAt_5068e : MethodName := ⟨RJ0, "charAt", "(I)C"⟩
abbrev cJ0_coder_7d493 : ByteArray := prog_14_method_152_code
def yJ0_coder_7d493 : MethodName := ⟨RJ0, "coder", "()B"⟩
abbrev cJ0_isLatin1_aae02 : ByteArray := prog_14_method_154_code
def yJ0_isLatin1_aae02 : MethodName := ⟨RJ0, "isLatin1", "()Z"⟩
abbrev cJ0_checkIndex_df160 : ByteArray := prog_14_method_155_code
def yJ0_checkIndex_df160 : MethodName := ⟨RJ0, "checkIndex", "(II)V"⟩
def RJ1 : String := "java/lang/StringLatin1"
def TJ1 : u_T := fun k => match k with
  | _ => ("", "", "", false)
def tyJ1 : Nat → FieldType := fun k => match k with
  | _ => .int
abbrev cJ1_charAt_3b067 : ByteArray := prog_15_method_2_code
def yJ1_charAt_3b067 : MethodName := ⟨RJ1, "charAt", "([BI)C"⟩
def RJ2 : String := "java/lang/StringUTF16"
def TJ2 : u_T := fun k => match k with
  | _ => ("", "", "", false)
def tyJ2 : Nat → FieldType := fun k => match k with
  | _ => .int
abbrev cJ2_getChar_3b067 : ByteArray := prog_16_method_5_code
def yJ2_getChar_3b067 : MethodName := ⟨RJ2, "getChar", "([BI)C"⟩
abbrev cJ2_length_9d52b : ByteArray := prog_16_method_6_code
def yJ2_length_9d52b : MethodName := ⟨RJ2, "length", "([B)I"⟩
abbrev cJ2_charAt_3b067 : ByteArray := prog_16_method_83_code
def yJ2_charAt_3b067 : MethodName := ⟨RJ2, "charAt", "([BI)C"⟩
abbrev cJ2_checkIndex_2214a : ByteArray := prog_16_method_91_code
def yJ2_checkIndex_2214a : MethodName := ⟨RJ2, "checkIndex", "(I[B)V"⟩
def RJ3 : String := "jdk/internal/util/Preconditions"
def TJ3 : u_T := fun k => match k with
  | _ => ("", "", "", false)
def tyJ3 : Nat → FieldType := fun k => match k with
  | _ => .int
abbrev cJ3_checkIndex_8e157 : ByteArray := prog_17_method_11_code
def yJ3_checkIndex_8e157 : MethodName := ⟨RJ3, "checkIndex", "(IILjava/util/function/BiFunction;)I"⟩
def RL : String := "EclipseHouseLaw"
abbrev cL_law : ByteArray := code
def yL_law : MethodName := ⟨RL, "law", "([I)Z"⟩
abbrev vwCl : List vw_C := [(RX0, TX0, 7), (RX1, TX1, 2), (RX3, TX3, 11), (RX4, TX4, 4), (RX5, TX5, 9), (RX6, TX6, 2), (RX7, TX7, 5), (RX8, TX8, 50)]
end
section
theorem tm_0 : (.selects RX5 yX5_sunKind yX5_sunKind : Cond) ∈ tb := tb_m0 (List.mem_of_getElem? (i := 0) rfl) rfl
theorem tm_1 : (.selects RX5 yX5_isAsked yX5_isAsked : Cond) ∈ tb := tb_m0 (List.mem_of_getElem? (i := 1) rfl) rfl
theorem tm_2 : (.selects RX3 yX3_advance yX3_advance : Cond) ∈ tb := tb_m0 (List.mem_of_getElem? (i := 2) rfl) rfl
theorem tm_3 : (.selects RX3 yX3_takeSign yX3_takeSign : Cond) ∈ tb := tb_m0 (List.mem_of_getElem? (i := 3) rfl) rfl
theorem tm_4 : (.selects RX3 yX3_readWhat yX3_readWhat : Cond) ∈ tb := tb_m0 (List.mem_of_getElem? (i := 4) rfl) rfl
theorem tm_5 : (.selects RX3 yX3_isWord yX3_isWord : Cond) ∈ tb := tb_m0 (List.mem_of_getElem? (i := 5) rfl) rfl
theorem tm_6 : (.selects RX3 yX3_refuse yX3_refuse : Cond) ∈ tb := tb_m0 (List.mem_of_getElem? (i := 6) rfl) rfl
theorem tm_7 : (.selects RX3 yX3_sunKind yX3_sunKind : Cond) ∈ tb := tb_m0 (List.mem_of_getElem? (i := 7) rfl) rfl
theorem tm_8 : (.selects RX3 yX3_moonKind yX3_moonKind : Cond) ∈ tb := tb_m0 (List.mem_of_getElem? (i := 8) rfl) rfl
theorem tm_9 : (.selects RX3 yX3_readParts yX3_readParts : Cond) ∈ tb := tb_m0 (List.mem_of_getElem? (i := 9) rfl) rfl
theorem tm_10 : (.selects RX3 yX3_readPart yX3_readPart : Cond) ∈ tb := tb_m0 (List.mem_of_getElem? (i := 10) rfl) rfl
theorem tm_11 : (.selects RX3 yX3_partHere yX3_partHere : Cond) ∈ tb := tb_m0 (List.mem_of_getElem? (i := 11) rfl) rfl
theorem tm_12 : (.selects RX3 yX3_readNumber yX3_readNumber : Cond) ∈ tb := tb_m0 (List.mem_of_getElem? (i := 12) rfl) rfl
theorem tm_13 : (.selects RX3 yX3_readRuler yX3_readRuler : Cond) ∈ tb := tb_m0 (List.mem_of_getElem? (i := 13) rfl) rfl
theorem tm_14 : (.selects RX3 yX3_readCalendar yX3_readCalendar : Cond) ∈ tb := tb_m0 (List.mem_of_getElem? (i := 14) rfl) rfl
theorem tm_15 : (.selects RX3 yX3_readClose yX3_readClose : Cond) ∈ tb := tb_m0 (List.mem_of_getElem? (i := 15) rfl) rfl
theorem tm_16 : (.selects RX3 yX3_joinRuler yX3_joinRuler : Cond) ∈ tb := tb_m0 (List.mem_of_getElem? (i := 16) rfl) rfl
theorem tm_17 : (.selects RX4 yX4_isThere yX4_isThere : Cond) ∈ tb := tb_m0 (List.mem_of_getElem? (i := 17) rfl) rfl
theorem tm_18 : (.selects RX0 yX0_isMeant yX0_isMeant : Cond) ∈ tb := tb_m0 (List.mem_of_getElem? (i := 18) rfl) rfl
theorem tm_19 : (.selects RX0 yX0_hoursSeen yX0_hoursSeen : Cond) ∈ tb := tb_m0 (List.mem_of_getElem? (i := 19) rfl) rfl
theorem tm_20 : (.selects RX0 yX0_isOfKind yX0_isOfKind : Cond) ∈ tb := tb_m0 (List.mem_of_getElem? (i := 20) rfl) rfl
theorem tm_21 : (.selects RX5 yX5_isListed yX5_isListed : Cond) ∈ tb := tb_m0 (List.mem_of_getElem? (i := 21) rfl) rfl
theorem tm_22 : (.selects RX0 yX0_hoursAt yX0_hoursAt : Cond) ∈ tb := tb_m0 (List.mem_of_getElem? (i := 22) rfl) rfl
theorem tm_23 : (.selects RX0 yX0_slipsAt yX0_slipsAt : Cond) ∈ tb := tb_m0 (List.mem_of_getElem? (i := 23) rfl) rfl
theorem tm_24 : (.selects RX0 yX0_slipOf yX0_slipOf : Cond) ∈ tb := tb_m0 (List.mem_of_getElem? (i := 24) rfl) rfl
theorem tm_25 : (.selects RX0 yX0_slowsMeaning yX0_slowsMeaning : Cond) ∈ tb := tb_m0 (List.mem_of_getElem? (i := 25) rfl) rfl
theorem tm_26 : (.selects RX0 yX0_slowsWithin yX0_slowsWithin : Cond) ∈ tb := tb_m0 (List.mem_of_getElem? (i := 26) rfl) rfl
theorem tm_27 : (.selects RX8 yX8_moonAt yX8_moonAt : Cond) ∈ tb := tb_m0 (List.mem_of_getElem? (i := 27) rfl) rfl
theorem tm_28 : (.selects RX8 yX8_sunAt yX8_sunAt : Cond) ∈ tb := tb_m0 (List.mem_of_getElem? (i := 28) rfl) rfl
theorem tm_29 : (.selects RX8 yX8_nodeAt yX8_nodeAt : Cond) ∈ tb := tb_m0 (List.mem_of_getElem? (i := 29) rfl) rfl
theorem tm_30 : (.selects RX8 yX8_timeOf yX8_timeOf : Cond) ∈ tb := tb_m0 (List.mem_of_getElem? (i := 30) rfl) rfl
theorem tm_31 : (.selects RX8 yX8_wave yX8_wave : Cond) ∈ tb := tb_m0 (List.mem_of_getElem? (i := 31) rfl) rfl
theorem tm_32 : (.selects RX8 yX8_quarter yX8_quarter : Cond) ∈ tb := tb_m0 (List.mem_of_getElem? (i := 32) rfl) rfl
theorem tm_33 : (.selects RX8 yX8_sortOf yX8_sortOf : Cond) ∈ tb := tb_m0 (List.mem_of_getElem? (i := 33) rfl) rfl
theorem tm_34 : (.selects RX8 yX8_notes yX8_notes : Cond) ∈ tb := tb_m0 (List.mem_of_getElem? (i := 34) rfl) rfl
theorem tm_35 : (.selects RX8 yX8_dates yX8_dates : Cond) ∈ tb := tb_m0 (List.mem_of_getElem? (i := 35) rfl) rfl
theorem tm_36 : (.selects RX8 yX8_monthDays yX8_monthDays : Cond) ∈ tb := tb_m0 (List.mem_of_getElem? (i := 36) rfl) rfl
theorem tm_37 : (.selects RX8 yX8_packed yX8_packed : Cond) ∈ tb := tb_m0 (List.mem_of_getElem? (i := 37) rfl) rfl
theorem tm_38 : (.selects RX8 yX8_reignOf yX8_reignOf : Cond) ∈ tb := tb_m0 (List.mem_of_getElem? (i := 38) rfl) rfl
theorem tm_39 : (.selects RX8 yX8_reads yX8_reads : Cond) ∈ tb := tb_m0 (List.mem_of_getElem? (i := 39) rfl) rfl
theorem tm_40 : (.selects RX8 yX8_whats yX8_whats : Cond) ∈ tb := tb_m0 (List.mem_of_getElem? (i := 40) rfl) rfl
theorem tm_41 : (.selects RX8 yX8_takes yX8_takes : Cond) ∈ tb := tb_m0 (List.mem_of_getElem? (i := 41) rfl) rfl
theorem tm_42 : (.selects RX8 yX8_next_ yX8_next_ : Cond) ∈ tb := tb_m0 (List.mem_of_getElem? (i := 42) rfl) rfl
theorem tm_43 : (.selects RX8 yX8_wordEnd yX8_wordEnd : Cond) ∈ tb := tb_m0 (List.mem_of_getElem? (i := 43) rfl) rfl
theorem tm_44 : (.selects RX8 yX8_fail yX8_fail : Cond) ∈ tb := tb_m0 (List.mem_of_getElem? (i := 44) rfl) rfl
theorem tm_45 : (.selects RX8 yX8_partOf yX8_partOf : Cond) ∈ tb := tb_m0 (List.mem_of_getElem? (i := 45) rfl) rfl
theorem tm_46 : (.selects RX8 yX8_number yX8_number : Cond) ∈ tb := tb_m0 (List.mem_of_getElem? (i := 46) rfl) rfl
theorem tm_47 : (.selects RX8 yX8_name yX8_name : Cond) ∈ tb := tb_m0 (List.mem_of_getElem? (i := 47) rfl) rfl
theorem tm_48 : (.selects RX8 yX8_isAsked yX8_isAsked : Cond) ∈ tb := tb_m0 (List.mem_of_getElem? (i := 48) rfl) rfl
theorem tm_49 : (.selects RX8 yX8_isRecord yX8_isRecord : Cond) ∈ tb := tb_m0 (List.mem_of_getElem? (i := 49) rfl) rfl
theorem tm_50 : (.selects RX8 yX8_differs yX8_differs : Cond) ∈ tb := tb_m0 (List.mem_of_getElem? (i := 50) rfl) rfl
theorem tm_51 : (.selects RX8 yX8_isLet yX8_isLet : Cond) ∈ tb := tb_m0 (List.mem_of_getElem? (i := 51) rfl) rfl
theorem tm_52 : (.initialized RL : Cond) ∈ tb := tb_m1 (List.mem_of_getElem? (i := 0) rfl) rfl
theorem tm_53 : (.initialized RX7 : Cond) ∈ tb := tb_m1 (List.mem_of_getElem? (i := 1) rfl) rfl
theorem tm_54 : (.initialized RX5 : Cond) ∈ tb := tb_m1 (List.mem_of_getElem? (i := 2) rfl) rfl
theorem tm_55 : (.initialized RX6 : Cond) ∈ tb := tb_m1 (List.mem_of_getElem? (i := 3) rfl) rfl
theorem tm_56 : (.initialized RX4 : Cond) ∈ tb := tb_m1 (List.mem_of_getElem? (i := 4) rfl) rfl
theorem tm_57 : (.initialized RX1 : Cond) ∈ tb := tb_m1 (List.mem_of_getElem? (i := 5) rfl) rfl
theorem tm_58 : (.initialized RX0 : Cond) ∈ tb := tb_m1 (List.mem_of_getElem? (i := 6) rfl) rfl
theorem tm_59 : (.initialized RX3 : Cond) ∈ tb := tb_m1 (List.mem_of_getElem? (i := 7) rfl) rfl
theorem tm_60 : (.initialized RX8 : Cond) ∈ tb := tb_m1 (List.mem_of_getElem? (i := 8) rfl) rfl
theorem tm_61 : (.initialized RJ9 : Cond) ∈ tb := tb_m1 (List.mem_of_getElem? (i := 9) rfl) rfl
theorem tm_62 : (.initialized RX2 : Cond) ∈ tb := tb_m1 (List.mem_of_getElem? (i := 10) rfl) rfl
theorem tm_63 : (.initialized RJ0 : Cond) ∈ tb := tb_m1 (List.mem_of_getElem? (i := 11) rfl) rfl
theorem tm_64 : (.initialized RJ1 : Cond) ∈ tb := tb_m1 (List.mem_of_getElem? (i := 12) rfl) rfl
theorem tm_65 : (.initialized RJ3 : Cond) ∈ tb := tb_m1 (List.mem_of_getElem? (i := 13) rfl) rfl
theorem tm_66 : (.initialized RJ2 : Cond) ∈ tb := tb_m1 (List.mem_of_getElem? (i := 14) rfl) rfl
theorem tm_67 : (.initialized RJ13 : Cond) ∈ tb := tb_m1 (List.mem_of_getElem? (i := 15) rfl) rfl
theorem tm_68 : (.initialized RJ6 : Cond) ∈ tb := tb_m1 (List.mem_of_getElem? (i := 16) rfl) rfl
theorem tm_69 : (.classLink RL 7 RX7 : Cond) ∈ tb := tb_m1 (List.mem_of_getElem? (i := 17) rfl) rfl
theorem tm_70 : (.instantiable RX7 5 : Cond) ∈ tb := tb_m1 (List.mem_of_getElem? (i := 18) rfl) rfl
theorem tm_71 : (.methodLink RL 9 yX7_init : Cond) ∈ tb := tb_m1 (List.mem_of_getElem? (i := 19) rfl) rfl
theorem tm_72 : (.instanceMethod yX7_init : Cond) ∈ tb := tb_m1 (List.mem_of_getElem? (i := 20) rfl) rfl
theorem tm_73 : (.code yX7_init cX7_init 1 none : Cond) ∈ tb := tb_m1 (List.mem_of_getElem? (i := 21) rfl) rfl
theorem tm_74 : (.methodLink RX7 3 objectInit : Cond) ∈ tb := tb_m1 (List.mem_of_getElem? (i := 22) rfl) rfl
theorem tm_75 : (.instanceMethod objectInit : Cond) ∈ tb := tb_m1 (List.mem_of_getElem? (i := 23) rfl) rfl
theorem tm_76 : (.code objectInit object_method_1_code 1 none : Cond) ∈ tb := tb_m1 (List.mem_of_getElem? (i := 24) rfl) rfl
theorem tm_77 : (.classLink RX7 9 RX5 : Cond) ∈ tb := tb_m1 (List.mem_of_getElem? (i := 25) rfl) rfl
theorem tm_78 : (.instantiable RX5 9 : Cond) ∈ tb := tb_m1 (List.mem_of_getElem? (i := 26) rfl) rfl
theorem tm_79 : (.methodLink RX7 11 yX5_init : Cond) ∈ tb := tb_m1 (List.mem_of_getElem? (i := 27) rfl) rfl
theorem tm_80 : (.instanceMethod yX5_init : Cond) ∈ tb := tb_m1 (List.mem_of_getElem? (i := 28) rfl) rfl
theorem tm_81 : (.code yX5_init cX5_init 1 none : Cond) ∈ tb := tb_m1 (List.mem_of_getElem? (i := 29) rfl) rfl
theorem tm_82 : (.methodLink RX5 3 objectInit : Cond) ∈ tb := tb_m1 (List.mem_of_getElem? (i := 30) rfl) rfl
theorem tm_83 : (.fieldLink RX5 9 "EclipseHouse$Sky" "moonStart" "I" : Cond) ∈ tb := tb_m1 (List.mem_of_getElem? (i := 31) rfl) rfl
theorem tm_84 : (.fieldLink RX5 15 "EclipseHouse$Sky" "sunStart" "I" : Cond) ∈ tb := tb_m1 (List.mem_of_getElem? (i := 32) rfl) rfl
theorem tm_85 : (.fieldLink RX5 18 "EclipseHouse$Sky" "nodeStart" "I" : Cond) ∈ tb := tb_m1 (List.mem_of_getElem? (i := 33) rfl) rfl
theorem tm_86 : (.fieldLink RX5 21 "EclipseHouse$Sky" "version" "I" : Cond) ∈ tb := tb_m1 (List.mem_of_getElem? (i := 34) rfl) rfl
theorem tm_87 : (.fieldLink RX5 39 "EclipseHouse$Sky" "listed" "Z" : Cond) ∈ tb := tb_m1 (List.mem_of_getElem? (i := 35) rfl) rfl
theorem tm_88 : (.fieldLink RX5 91 "EclipseHouse$Sky" "listSize" "I" : Cond) ∈ tb := tb_m1 (List.mem_of_getElem? (i := 36) rfl) rfl
theorem tm_89 : (.fieldLink RX5 24 "EclipseHouse$Sky" "listMoon" "[I" : Cond) ∈ tb := tb_m1 (List.mem_of_getElem? (i := 37) rfl) rfl
theorem tm_90 : (.fieldLink RX5 28 "EclipseHouse$Sky" "listKind" "[I" : Cond) ∈ tb := tb_m1 (List.mem_of_getElem? (i := 38) rfl) rfl
theorem tm_91 : (.fieldLink RX5 31 "EclipseHouse$Sky" "listTime" "[I" : Cond) ∈ tb := tb_m1 (List.mem_of_getElem? (i := 39) rfl) rfl
theorem tm_92 : (.lays "EclipseHouse$Sky" "EclipseHouse$Sky" "moonStart" "I" : Cond) ∈ tb := tb_m1 (List.mem_of_getElem? (i := 40) rfl) rfl
theorem tm_94 : (.lays "EclipseHouse$Sky" "EclipseHouse$Sky" "sunStart" "I" : Cond) ∈ tb := tb_m1 (List.mem_of_getElem? (i := 42) rfl) rfl
theorem tm_96 : (.lays "EclipseHouse$Sky" "EclipseHouse$Sky" "nodeStart" "I" : Cond) ∈ tb := tb_m1 (List.mem_of_getElem? (i := 44) rfl) rfl
theorem tm_98 : (.lays "EclipseHouse$Sky" "EclipseHouse$Sky" "version" "I" : Cond) ∈ tb := tb_m1 (List.mem_of_getElem? (i := 46) rfl) rfl
theorem tm_100 : (.lays "EclipseHouse$Sky" "EclipseHouse$Sky" "listed" "Z" : Cond) ∈ tb := tb_m1 (List.mem_of_getElem? (i := 48) rfl) rfl
theorem tm_102 : (.lays "EclipseHouse$Sky" "EclipseHouse$Sky" "listSize" "I" : Cond) ∈ tb := tb_m1 (List.mem_of_getElem? (i := 50) rfl) rfl
theorem tm_104 : (.laysFinal "EclipseHouse$Sky" "EclipseHouse$Sky" "listMoon" "[I" : Cond) ∈ tb := tb_m1 (List.mem_of_getElem? (i := 52) rfl) rfl
theorem tm_106 : (.laysFinal "EclipseHouse$Sky" "EclipseHouse$Sky" "listKind" "[I" : Cond) ∈ tb := tb_m1 (List.mem_of_getElem? (i := 54) rfl) rfl
theorem tm_108 : (.laysFinal "EclipseHouse$Sky" "EclipseHouse$Sky" "listTime" "[I" : Cond) ∈ tb := tb_m1 (List.mem_of_getElem? (i := 56) rfl) rfl
theorem tm_111 : (.arrayClass .int : Cond) ∈ tb := tb_m1 (List.mem_of_getElem? (i := 59) rfl) rfl
theorem tm_112 : (.classLink RX7 16 RX6 : Cond) ∈ tb := tb_m1 (List.mem_of_getElem? (i := 60) rfl) rfl
theorem tm_113 : (.instantiable RX6 2 : Cond) ∈ tb := tb_m1 (List.mem_of_getElem? (i := 61) rfl) rfl
theorem tm_114 : (.methodLink RX7 18 yX6_init : Cond) ∈ tb := tb_m1 (List.mem_of_getElem? (i := 62) rfl) rfl
theorem tm_115 : (.instanceMethod yX6_init : Cond) ∈ tb := tb_m1 (List.mem_of_getElem? (i := 63) rfl) rfl
theorem tm_116 : (.code yX6_init cX6_init 1 none : Cond) ∈ tb := tb_m1 (List.mem_of_getElem? (i := 64) rfl) rfl
theorem tm_117 : (.methodLink RX6 3 objectInit : Cond) ∈ tb := tb_m1 (List.mem_of_getElem? (i := 65) rfl) rfl
theorem tm_118 : (.fieldLink RX6 11 "EclipseHouse$Tape" "bytes" "[I" : Cond) ∈ tb := tb_m1 (List.mem_of_getElem? (i := 66) rfl) rfl
theorem tm_119 : (.fieldLink RX6 15 "EclipseHouse$Tape" "length" "I" : Cond) ∈ tb := tb_m1 (List.mem_of_getElem? (i := 67) rfl) rfl
theorem tm_120 : (.laysFinal "EclipseHouse$Tape" "EclipseHouse$Tape" "bytes" "[I" : Cond) ∈ tb := tb_m1 (List.mem_of_getElem? (i := 68) rfl) rfl
theorem tm_122 : (.lays "EclipseHouse$Tape" "EclipseHouse$Tape" "length" "I" : Cond) ∈ tb := tb_m1 (List.mem_of_getElem? (i := 70) rfl) rfl
theorem tm_125 : (.classLink RX7 23 RX4 : Cond) ∈ tb := tb_m1 (List.mem_of_getElem? (i := 73) rfl) rfl
theorem tm_126 : (.instantiable RX4 4 : Cond) ∈ tb := tb_m1 (List.mem_of_getElem? (i := 74) rfl) rfl
theorem tm_127 : (.methodLink RX7 25 yX4_init : Cond) ∈ tb := tb_m1 (List.mem_of_getElem? (i := 75) rfl) rfl
theorem tm_128 : (.instanceMethod yX4_init : Cond) ∈ tb := tb_m1 (List.mem_of_getElem? (i := 76) rfl) rfl
theorem tm_129 : (.code yX4_init cX4_init 1 none : Cond) ∈ tb := tb_m1 (List.mem_of_getElem? (i := 77) rfl) rfl
theorem tm_130 : (.methodLink RX4 3 objectInit : Cond) ∈ tb := tb_m1 (List.mem_of_getElem? (i := 78) rfl) rfl
theorem tm_131 : (.fieldLink RX4 11 "EclipseHouse$Reigns" "names" "[I" : Cond) ∈ tb := tb_m1 (List.mem_of_getElem? (i := 79) rfl) rfl
theorem tm_132 : (.fieldLink RX4 15 "EclipseHouse$Reigns" "calendars" "[I" : Cond) ∈ tb := tb_m1 (List.mem_of_getElem? (i := 80) rfl) rfl
theorem tm_133 : (.fieldLink RX4 18 "EclipseHouse$Reigns" "years" "[I" : Cond) ∈ tb := tb_m1 (List.mem_of_getElem? (i := 81) rfl) rfl
theorem tm_134 : (.fieldLink RX4 27 "EclipseHouse$Reigns" "count" "I" : Cond) ∈ tb := tb_m1 (List.mem_of_getElem? (i := 82) rfl) rfl
theorem tm_135 : (.laysFinal "EclipseHouse$Reigns" "EclipseHouse$Reigns" "names" "[I" : Cond) ∈ tb := tb_m1 (List.mem_of_getElem? (i := 83) rfl) rfl
theorem tm_137 : (.laysFinal "EclipseHouse$Reigns" "EclipseHouse$Reigns" "calendars" "[I" : Cond) ∈ tb := tb_m1 (List.mem_of_getElem? (i := 85) rfl) rfl
theorem tm_139 : (.laysFinal "EclipseHouse$Reigns" "EclipseHouse$Reigns" "years" "[I" : Cond) ∈ tb := tb_m1 (List.mem_of_getElem? (i := 87) rfl) rfl
theorem tm_141 : (.lays "EclipseHouse$Reigns" "EclipseHouse$Reigns" "count" "I" : Cond) ∈ tb := tb_m1 (List.mem_of_getElem? (i := 89) rfl) rfl
theorem tm_144 : (.classLink RX7 30 RX1 : Cond) ∈ tb := tb_m1 (List.mem_of_getElem? (i := 92) rfl) rfl
theorem tm_145 : (.instantiable RX1 2 : Cond) ∈ tb := tb_m1 (List.mem_of_getElem? (i := 93) rfl) rfl
theorem tm_146 : (.methodLink RX7 32 yX1_init : Cond) ∈ tb := tb_m1 (List.mem_of_getElem? (i := 94) rfl) rfl
theorem tm_147 : (.instanceMethod yX1_init : Cond) ∈ tb := tb_m1 (List.mem_of_getElem? (i := 95) rfl) rfl
theorem tm_148 : (.code yX1_init cX1_init 2 none : Cond) ∈ tb := tb_m1 (List.mem_of_getElem? (i := 96) rfl) rfl
theorem tm_149 : (.methodLink RX1 3 objectInit : Cond) ∈ tb := tb_m1 (List.mem_of_getElem? (i := 97) rfl) rfl
theorem tm_150 : (.classLink RX1 11 RX0 : Cond) ∈ tb := tb_m1 (List.mem_of_getElem? (i := 98) rfl) rfl
theorem tm_152 : (.instantiable RX0 7 : Cond) ∈ tb := tb_m1 (List.mem_of_getElem? (i := 100) rfl) rfl
theorem tm_153 : (.methodLink RX1 17 yX0_init : Cond) ∈ tb := tb_m1 (List.mem_of_getElem? (i := 101) rfl) rfl
theorem tm_154 : (.instanceMethod yX0_init : Cond) ∈ tb := tb_m1 (List.mem_of_getElem? (i := 102) rfl) rfl
theorem tm_155 : (.code yX0_init cX0_init 1 none : Cond) ∈ tb := tb_m1 (List.mem_of_getElem? (i := 103) rfl) rfl
theorem tm_156 : (.methodLink RX0 3 objectInit : Cond) ∈ tb := tb_m1 (List.mem_of_getElem? (i := 104) rfl) rfl
theorem tm_157 : (.fieldLink RX0 15 "EclipseHouse$Account" "kinds" "I" : Cond) ∈ tb := tb_m1 (List.mem_of_getElem? (i := 105) rfl) rfl
theorem tm_158 : (.fieldLink RX0 19 "EclipseHouse$Account" "calendar" "I" : Cond) ∈ tb := tb_m1 (List.mem_of_getElem? (i := 106) rfl) rfl
theorem tm_159 : (.fieldLink RX0 22 "EclipseHouse$Account" "east" "I" : Cond) ∈ tb := tb_m1 (List.mem_of_getElem? (i := 107) rfl) rfl
theorem tm_160 : (.fieldLink RX0 25 "EclipseHouse$Account" "yearZero" "I" : Cond) ∈ tb := tb_m1 (List.mem_of_getElem? (i := 108) rfl) rfl
theorem tm_161 : (.fieldLink RX0 9 "EclipseHouse$Account" "numbers" "[I" : Cond) ∈ tb := tb_m1 (List.mem_of_getElem? (i := 109) rfl) rfl
theorem tm_162 : (.fieldLink RX0 61 "EclipseHouse$Account" "slows" "J" : Cond) ∈ tb := tb_m1 (List.mem_of_getElem? (i := 110) rfl) rfl
theorem tm_163 : (.fieldLink RX0 28 "EclipseHouse$Account" "slowsVersion" "I" : Cond) ∈ tb := tb_m1 (List.mem_of_getElem? (i := 111) rfl) rfl
theorem tm_164 : (.lays "EclipseHouse$Account" "EclipseHouse$Account" "kinds" "I" : Cond) ∈ tb := tb_m1 (List.mem_of_getElem? (i := 112) rfl) rfl
theorem tm_166 : (.lays "EclipseHouse$Account" "EclipseHouse$Account" "calendar" "I" : Cond) ∈ tb := tb_m1 (List.mem_of_getElem? (i := 114) rfl) rfl
theorem tm_168 : (.lays "EclipseHouse$Account" "EclipseHouse$Account" "east" "I" : Cond) ∈ tb := tb_m1 (List.mem_of_getElem? (i := 116) rfl) rfl
theorem tm_170 : (.lays "EclipseHouse$Account" "EclipseHouse$Account" "yearZero" "I" : Cond) ∈ tb := tb_m1 (List.mem_of_getElem? (i := 118) rfl) rfl
theorem tm_172 : (.laysFinal "EclipseHouse$Account" "EclipseHouse$Account" "numbers" "[I" : Cond) ∈ tb := tb_m1 (List.mem_of_getElem? (i := 120) rfl) rfl
theorem tm_174 : (.lays "EclipseHouse$Account" "EclipseHouse$Account" "slows" "J" : Cond) ∈ tb := tb_m1 (List.mem_of_getElem? (i := 122) rfl) rfl
theorem tm_176 : (.lays "EclipseHouse$Account" "EclipseHouse$Account" "slowsVersion" "I" : Cond) ∈ tb := tb_m1 (List.mem_of_getElem? (i := 124) rfl) rfl
theorem tm_179 : (.fieldLink RX1 13 "EclipseHouse$Archive" "accounts" "[LEclipseHouse$Account;" : Cond) ∈ tb := tb_m1 (List.mem_of_getElem? (i := 127) rfl) rfl
theorem tm_180 : (.fieldLink RX1 18 "EclipseHouse$Archive" "count" "I" : Cond) ∈ tb := tb_m1 (List.mem_of_getElem? (i := 128) rfl) rfl
theorem tm_181 : (.laysFinal "EclipseHouse$Archive" "EclipseHouse$Archive" "accounts" "[LEclipseHouse$Account;" : Cond) ∈ tb := tb_m1 (List.mem_of_getElem? (i := 129) rfl) rfl
theorem tm_183 : (.lays "EclipseHouse$Archive" "EclipseHouse$Archive" "count" "I" : Cond) ∈ tb := tb_m1 (List.mem_of_getElem? (i := 131) rfl) rfl
theorem tm_186 : (.classLink RX7 37 RX3 : Cond) ∈ tb := tb_m1 (List.mem_of_getElem? (i := 134) rfl) rfl
theorem tm_187 : (.instantiable RX3 11 : Cond) ∈ tb := tb_m1 (List.mem_of_getElem? (i := 135) rfl) rfl
theorem tm_188 : (.methodLink RX7 39 yX3_init : Cond) ∈ tb := tb_m1 (List.mem_of_getElem? (i := 136) rfl) rfl
theorem tm_189 : (.instanceMethod yX3_init : Cond) ∈ tb := tb_m1 (List.mem_of_getElem? (i := 137) rfl) rfl
theorem tm_190 : (.code yX3_init cX3_init 3 none : Cond) ∈ tb := tb_m1 (List.mem_of_getElem? (i := 138) rfl) rfl
theorem tm_191 : (.methodLink RX3 3 objectInit : Cond) ∈ tb := tb_m1 (List.mem_of_getElem? (i := 139) rfl) rfl
theorem tm_192 : (.fieldLink RX3 9 "EclipseHouse$Reader" "tape" "LEclipseHouse$Tape;" : Cond) ∈ tb := tb_m1 (List.mem_of_getElem? (i := 140) rfl) rfl
theorem tm_193 : (.fieldLink RX3 15 "EclipseHouse$Reader" "reigns" "LEclipseHouse$Reigns;" : Cond) ∈ tb := tb_m1 (List.mem_of_getElem? (i := 141) rfl) rfl
theorem tm_194 : (.fieldLink RX3 26 "EclipseHouse$Reader" "account" "LEclipseHouse$Account;" : Cond) ∈ tb := tb_m1 (List.mem_of_getElem? (i := 142) rfl) rfl
theorem tm_195 : (.fieldLink RX3 36 "EclipseHouse$Reader" "sort" "I" : Cond) ∈ tb := tb_m1 (List.mem_of_getElem? (i := 143) rfl) rfl
theorem tm_196 : (.fieldLink RX3 67 "EclipseHouse$Reader" "start" "I" : Cond) ∈ tb := tb_m1 (List.mem_of_getElem? (i := 144) rfl) rfl
theorem tm_197 : (.fieldLink RX3 39 "EclipseHouse$Reader" "stop" "I" : Cond) ∈ tb := tb_m1 (List.mem_of_getElem? (i := 145) rfl) rfl
theorem tm_198 : (.fieldLink RX3 42 "EclipseHouse$Reader" "calendar" "I" : Cond) ∈ tb := tb_m1 (List.mem_of_getElem? (i := 146) rfl) rfl
theorem tm_199 : (.fieldLink RX3 45 "EclipseHouse$Reader" "ruler" "I" : Cond) ∈ tb := tb_m1 (List.mem_of_getElem? (i := 147) rfl) rfl
theorem tm_200 : (.fieldLink RX3 180 "EclipseHouse$Reader" "rulerPlace" "I" : Cond) ∈ tb := tb_m1 (List.mem_of_getElem? (i := 148) rfl) rfl
theorem tm_201 : (.fieldLink RX3 23 "EclipseHouse$Reader" "fault" "I" : Cond) ∈ tb := tb_m1 (List.mem_of_getElem? (i := 149) rfl) rfl
theorem tm_202 : (.fieldLink RX3 19 "EclipseHouse$Reader" "place" "I" : Cond) ∈ tb := tb_m1 (List.mem_of_getElem? (i := 150) rfl) rfl
theorem tm_203 : (.laysFinal "EclipseHouse$Reader" "EclipseHouse$Reader" "tape" "LEclipseHouse$Tape;" : Cond) ∈ tb := tb_m1 (List.mem_of_getElem? (i := 151) rfl) rfl
theorem tm_205 : (.laysFinal "EclipseHouse$Reader" "EclipseHouse$Reader" "reigns" "LEclipseHouse$Reigns;" : Cond) ∈ tb := tb_m1 (List.mem_of_getElem? (i := 153) rfl) rfl
theorem tm_207 : (.lays "EclipseHouse$Reader" "EclipseHouse$Reader" "account" "LEclipseHouse$Account;" : Cond) ∈ tb := tb_m1 (List.mem_of_getElem? (i := 155) rfl) rfl
theorem tm_209 : (.lays "EclipseHouse$Reader" "EclipseHouse$Reader" "sort" "I" : Cond) ∈ tb := tb_m1 (List.mem_of_getElem? (i := 157) rfl) rfl
theorem tm_211 : (.lays "EclipseHouse$Reader" "EclipseHouse$Reader" "start" "I" : Cond) ∈ tb := tb_m1 (List.mem_of_getElem? (i := 159) rfl) rfl
theorem tm_213 : (.lays "EclipseHouse$Reader" "EclipseHouse$Reader" "stop" "I" : Cond) ∈ tb := tb_m1 (List.mem_of_getElem? (i := 161) rfl) rfl
theorem tm_215 : (.lays "EclipseHouse$Reader" "EclipseHouse$Reader" "calendar" "I" : Cond) ∈ tb := tb_m1 (List.mem_of_getElem? (i := 163) rfl) rfl
theorem tm_217 : (.lays "EclipseHouse$Reader" "EclipseHouse$Reader" "ruler" "I" : Cond) ∈ tb := tb_m1 (List.mem_of_getElem? (i := 165) rfl) rfl
theorem tm_219 : (.lays "EclipseHouse$Reader" "EclipseHouse$Reader" "rulerPlace" "I" : Cond) ∈ tb := tb_m1 (List.mem_of_getElem? (i := 167) rfl) rfl
theorem tm_221 : (.lays "EclipseHouse$Reader" "EclipseHouse$Reader" "fault" "I" : Cond) ∈ tb := tb_m1 (List.mem_of_getElem? (i := 169) rfl) rfl
theorem tm_223 : (.lays "EclipseHouse$Reader" "EclipseHouse$Reader" "place" "I" : Cond) ∈ tb := tb_m1 (List.mem_of_getElem? (i := 171) rfl) rfl
theorem tm_226 : (.fieldLink RX7 12 "EclipseHouse" "sky" "LEclipseHouse$Sky;" : Cond) ∈ tb := tb_m1 (List.mem_of_getElem? (i := 174) rfl) rfl
theorem tm_227 : (.fieldLink RX7 19 "EclipseHouse" "tape" "LEclipseHouse$Tape;" : Cond) ∈ tb := tb_m1 (List.mem_of_getElem? (i := 175) rfl) rfl
theorem tm_228 : (.fieldLink RX7 26 "EclipseHouse" "reigns" "LEclipseHouse$Reigns;" : Cond) ∈ tb := tb_m1 (List.mem_of_getElem? (i := 176) rfl) rfl
theorem tm_229 : (.fieldLink RX7 33 "EclipseHouse" "archive" "LEclipseHouse$Archive;" : Cond) ∈ tb := tb_m1 (List.mem_of_getElem? (i := 177) rfl) rfl
theorem tm_230 : (.fieldLink RX7 42 "EclipseHouse" "reader" "LEclipseHouse$Reader;" : Cond) ∈ tb := tb_m1 (List.mem_of_getElem? (i := 178) rfl) rfl
theorem tm_231 : (.laysFinal "EclipseHouse" "EclipseHouse" "sky" "LEclipseHouse$Sky;" : Cond) ∈ tb := tb_m1 (List.mem_of_getElem? (i := 179) rfl) rfl
theorem tm_233 : (.laysFinal "EclipseHouse" "EclipseHouse" "tape" "LEclipseHouse$Tape;" : Cond) ∈ tb := tb_m1 (List.mem_of_getElem? (i := 181) rfl) rfl
theorem tm_235 : (.laysFinal "EclipseHouse" "EclipseHouse" "reigns" "LEclipseHouse$Reigns;" : Cond) ∈ tb := tb_m1 (List.mem_of_getElem? (i := 183) rfl) rfl
theorem tm_237 : (.laysFinal "EclipseHouse" "EclipseHouse" "archive" "LEclipseHouse$Archive;" : Cond) ∈ tb := tb_m1 (List.mem_of_getElem? (i := 185) rfl) rfl
theorem tm_239 : (.laysFinal "EclipseHouse" "EclipseHouse" "reader" "LEclipseHouse$Reader;" : Cond) ∈ tb := tb_m1 (List.mem_of_getElem? (i := 187) rfl) rfl
theorem tm_242 : (.methodLink RL 13 yX7_tables : Cond) ∈ tb := tb_m1 (List.mem_of_getElem? (i := 190) rfl) rfl
theorem tm_243 : (.instanceMethod yX7_tables : Cond) ∈ tb := tb_m1 (List.mem_of_getElem? (i := 191) rfl) rfl
theorem tm_244 : (.selects RX7 yX7_tables yX7_tables : Cond) ∈ tb := tb_m1 (List.mem_of_getElem? (i := 192) rfl) rfl
theorem tm_245 : (.code yX7_tables cX7_tables 4 (some .boolean) : Cond) ∈ tb := tb_m1 (List.mem_of_getElem? (i := 193) rfl) rfl
theorem tm_246 : (.methodLink RX7 46 yX5_setTables : Cond) ∈ tb := tb_m1 (List.mem_of_getElem? (i := 194) rfl) rfl
theorem tm_247 : (.instanceMethod yX5_setTables : Cond) ∈ tb := tb_m1 (List.mem_of_getElem? (i := 195) rfl) rfl
theorem tm_248 : (.selects RX5 yX5_setTables yX5_setTables : Cond) ∈ tb := tb_m1 (List.mem_of_getElem? (i := 196) rfl) rfl
theorem tm_249 : (.code yX5_setTables cX5_setTables 4 (some .boolean) : Cond) ∈ tb := tb_m1 (List.mem_of_getElem? (i := 197) rfl) rfl
theorem tm_250 : (.methodLink RX5 35 yX5_isPlace : Cond) ∈ tb := tb_m1 (List.mem_of_getElem? (i := 198) rfl) rfl
theorem tm_251 : (.static yX5_isPlace : Cond) ∈ tb := tb_m1 (List.mem_of_getElem? (i := 199) rfl) rfl
theorem tm_252 : (.code yX5_isPlace cX5_isPlace 1 (some .boolean) : Cond) ∈ tb := tb_m1 (List.mem_of_getElem? (i := 200) rfl) rfl
theorem tm_253 : (.constant RX5 34 (36000) : Cond) ∈ tb := tb_m1 (List.mem_of_getElem? (i := 201) rfl) rfl
theorem tm_254 : (.methodLink RL 18 yX7_moon : Cond) ∈ tb := tb_m1 (List.mem_of_getElem? (i := 202) rfl) rfl
theorem tm_255 : (.instanceMethod yX7_moon : Cond) ∈ tb := tb_m1 (List.mem_of_getElem? (i := 203) rfl) rfl
theorem tm_256 : (.selects RX7 yX7_moon yX7_moon : Cond) ∈ tb := tb_m1 (List.mem_of_getElem? (i := 204) rfl) rfl
theorem tm_257 : (.code yX7_moon cX7_moon 3 (some .int) : Cond) ∈ tb := tb_m1 (List.mem_of_getElem? (i := 205) rfl) rfl
theorem tm_258 : (.methodLink RX7 50 yX5_isMoon : Cond) ∈ tb := tb_m1 (List.mem_of_getElem? (i := 206) rfl) rfl
theorem tm_259 : (.static yX5_isMoon : Cond) ∈ tb := tb_m1 (List.mem_of_getElem? (i := 207) rfl) rfl
theorem tm_260 : (.code yX5_isMoon cX5_isMoon 1 (some .boolean) : Cond) ∈ tb := tb_m1 (List.mem_of_getElem? (i := 208) rfl) rfl
theorem tm_261 : (.methodLink RX7 54 yX5_moonPlace : Cond) ∈ tb := tb_m1 (List.mem_of_getElem? (i := 209) rfl) rfl
theorem tm_262 : (.instanceMethod yX5_moonPlace : Cond) ∈ tb := tb_m1 (List.mem_of_getElem? (i := 210) rfl) rfl
theorem tm_263 : (.selects RX5 yX5_moonPlace yX5_moonPlace : Cond) ∈ tb := tb_m1 (List.mem_of_getElem? (i := 211) rfl) rfl
theorem tm_264 : (.code yX5_moonPlace cX5_moonPlace 2 (some .int) : Cond) ∈ tb := tb_m1 (List.mem_of_getElem? (i := 212) rfl) rfl
theorem tm_265 : (.methodLink RX7 58 yX5_sunPlace : Cond) ∈ tb := tb_m1 (List.mem_of_getElem? (i := 213) rfl) rfl
theorem tm_266 : (.instanceMethod yX5_sunPlace : Cond) ∈ tb := tb_m1 (List.mem_of_getElem? (i := 214) rfl) rfl
theorem tm_267 : (.selects RX5 yX5_sunPlace yX5_sunPlace : Cond) ∈ tb := tb_m1 (List.mem_of_getElem? (i := 215) rfl) rfl
theorem tm_268 : (.code yX5_sunPlace cX5_sunPlace 2 (some .int) : Cond) ∈ tb := tb_m1 (List.mem_of_getElem? (i := 216) rfl) rfl
theorem tm_269 : (.methodLink RX7 61 yX5_nodePlace : Cond) ∈ tb := tb_m1 (List.mem_of_getElem? (i := 217) rfl) rfl
theorem tm_270 : (.instanceMethod yX5_nodePlace : Cond) ∈ tb := tb_m1 (List.mem_of_getElem? (i := 218) rfl) rfl
theorem tm_271 : (.selects RX5 yX5_nodePlace yX5_nodePlace : Cond) ∈ tb := tb_m1 (List.mem_of_getElem? (i := 219) rfl) rfl
theorem tm_272 : (.code yX5_nodePlace cX5_nodePlace 2 (some .int) : Cond) ∈ tb := tb_m1 (List.mem_of_getElem? (i := 220) rfl) rfl
theorem tm_273 : (.constantLong RX5 43 (1953353) : Cond) ∈ tb := tb_m1 (List.mem_of_getElem? (i := 221) rfl) rfl
theorem tm_274 : (.constantLong RX5 45 (100) : Cond) ∈ tb := tb_m1 (List.mem_of_getElem? (i := 222) rfl) rfl
theorem tm_275 : (.constantLong RX5 47 (36000) : Cond) ∈ tb := tb_m1 (List.mem_of_getElem? (i := 223) rfl) rfl
theorem tm_276 : (.methodLink RX7 64 yX5_timeOf : Cond) ∈ tb := tb_m1 (List.mem_of_getElem? (i := 224) rfl) rfl
theorem tm_277 : (.instanceMethod yX5_timeOf : Cond) ∈ tb := tb_m1 (List.mem_of_getElem? (i := 225) rfl) rfl
theorem tm_278 : (.selects RX5 yX5_timeOf yX5_timeOf : Cond) ∈ tb := tb_m1 (List.mem_of_getElem? (i := 226) rfl) rfl
theorem tm_279 : (.code yX5_timeOf cX5_timeOf 5 (some .int) : Cond) ∈ tb := tb_m1 (List.mem_of_getElem? (i := 227) rfl) rfl
theorem tm_280 : (.constantLong RX5 49 (212620236) : Cond) ∈ tb := tb_m1 (List.mem_of_getElem? (i := 228) rfl) rfl
theorem tm_281 : (.constantLong RX5 51 (10000) : Cond) ∈ tb := tb_m1 (List.mem_of_getElem? (i := 229) rfl) rfl
theorem tm_282 : (.methodLink RX5 53 yX5_moonPlace : Cond) ∈ tb := tb_m1 (List.mem_of_getElem? (i := 230) rfl) rfl
theorem tm_283 : (.methodLink RX5 57 yX5_waveOf : Cond) ∈ tb := tb_m1 (List.mem_of_getElem? (i := 231) rfl) rfl
theorem tm_284 : (.static yX5_waveOf : Cond) ∈ tb := tb_m1 (List.mem_of_getElem? (i := 232) rfl) rfl
theorem tm_285 : (.code yX5_waveOf cX5_waveOf 1 (some .int) : Cond) ∈ tb := tb_m1 (List.mem_of_getElem? (i := 233) rfl) rfl
theorem tm_286 : (.methodLink RX5 69 yX5_halfWave : Cond) ∈ tb := tb_m1 (List.mem_of_getElem? (i := 234) rfl) rfl
theorem tm_287 : (.static yX5_halfWave : Cond) ∈ tb := tb_m1 (List.mem_of_getElem? (i := 235) rfl) rfl
theorem tm_288 : (.code yX5_halfWave cX5_halfWave 3 (some .int) : Cond) ∈ tb := tb_m1 (List.mem_of_getElem? (i := 236) rfl) rfl
theorem tm_289 : (.fieldLink RX5 72 "EclipseHouse$Sky" "WAVES" "[I" : Cond) ∈ tb := tb_m1 (List.mem_of_getElem? (i := 237) rfl) rfl
theorem tm_291 : (.methodLink RX5 60 yJ9_floorDiv_7cf53 : Cond) ∈ tb := tb_m1 (List.mem_of_getElem? (i := 239) rfl) rfl
theorem tm_292 : (.static yJ9_floorDiv_7cf53 : Cond) ∈ tb := tb_m2 (List.mem_of_getElem? (i := 0) rfl) rfl
theorem tm_293 : (.code yJ9_floorDiv_7cf53 cJ9_floorDiv_7cf53 3 (some .int) : Cond) ∈ tb := tb_m2 (List.mem_of_getElem? (i := 1) rfl) rfl
theorem tm_294 : (.methodLink RX5 66 yX5_sunPlace : Cond) ∈ tb := tb_m2 (List.mem_of_getElem? (i := 2) rfl) rfl
theorem tm_295 : (.methodLink RX7 67 yX5_kindOf : Cond) ∈ tb := tb_m2 (List.mem_of_getElem? (i := 3) rfl) rfl
theorem tm_296 : (.instanceMethod yX5_kindOf : Cond) ∈ tb := tb_m2 (List.mem_of_getElem? (i := 4) rfl) rfl
theorem tm_297 : (.selects RX5 yX5_kindOf yX5_kindOf : Cond) ∈ tb := tb_m2 (List.mem_of_getElem? (i := 5) rfl) rfl
theorem tm_298 : (.code yX5_kindOf cX5_kindOf 4 (some .int) : Cond) ∈ tb := tb_m2 (List.mem_of_getElem? (i := 6) rfl) rfl
theorem tm_299 : (.methodLink RX5 75 yX5_nodePlace : Cond) ∈ tb := tb_m2 (List.mem_of_getElem? (i := 7) rfl) rfl
theorem tm_300 : (.methodLink RX5 78 yJ9_min_7cf53 : Cond) ∈ tb := tb_m2 (List.mem_of_getElem? (i := 8) rfl) rfl
theorem tm_301 : (.static yJ9_min_7cf53 : Cond) ∈ tb := tb_m2 (List.mem_of_getElem? (i := 9) rfl) rfl
theorem tm_302 : (.code yJ9_min_7cf53 cJ9_min_7cf53 2 (some .int) : Cond) ∈ tb := tb_m2 (List.mem_of_getElem? (i := 10) rfl) rfl
theorem tm_303 : (.methodLink RX5 81 yX5_sunKind : Cond) ∈ tb := tb_m2 (List.mem_of_getElem? (i := 11) rfl) rfl
theorem tm_305 : (.instanceMethod yX5_sunKind : Cond) ∈ tb := tb_m2 (List.mem_of_getElem? (i := 13) rfl) rfl
theorem tm_306 : (.code yX5_sunKind cX5_sunKind 4 (some .int) : Cond) ∈ tb := tb_m2 (List.mem_of_getElem? (i := 14) rfl) rfl
theorem tm_307 : (.methodLink RX5 84 yX5_moonKind : Cond) ∈ tb := tb_m2 (List.mem_of_getElem? (i := 15) rfl) rfl
theorem tm_308 : (.static yX5_moonKind : Cond) ∈ tb := tb_m2 (List.mem_of_getElem? (i := 16) rfl) rfl
theorem tm_309 : (.code yX5_moonKind cX5_moonKind 1 (some .int) : Cond) ∈ tb := tb_m2 (List.mem_of_getElem? (i := 17) rfl) rfl
theorem tm_310 : (.methodLink RL 23 yX7_next : Cond) ∈ tb := tb_m2 (List.mem_of_getElem? (i := 18) rfl) rfl
theorem tm_311 : (.instanceMethod yX7_next : Cond) ∈ tb := tb_m2 (List.mem_of_getElem? (i := 19) rfl) rfl
theorem tm_312 : (.selects RX7 yX7_next yX7_next : Cond) ∈ tb := tb_m2 (List.mem_of_getElem? (i := 20) rfl) rfl
theorem tm_313 : (.code yX7_next cX7_next 4 (some .int) : Cond) ∈ tb := tb_m2 (List.mem_of_getElem? (i := 21) rfl) rfl
theorem tm_314 : (.methodLink RX7 70 yX5_findEclipse : Cond) ∈ tb := tb_m2 (List.mem_of_getElem? (i := 22) rfl) rfl
theorem tm_315 : (.instanceMethod yX5_findEclipse : Cond) ∈ tb := tb_m2 (List.mem_of_getElem? (i := 23) rfl) rfl
theorem tm_316 : (.selects RX5 yX5_findEclipse yX5_findEclipse : Cond) ∈ tb := tb_m2 (List.mem_of_getElem? (i := 24) rfl) rfl
theorem tm_317 : (.code yX5_findEclipse cX5_findEclipse 7 (some .int) : Cond) ∈ tb := tb_m2 (List.mem_of_getElem? (i := 25) rfl) rfl
theorem tm_318 : (.methodLink RX5 103 yX5_listEclipses : Cond) ∈ tb := tb_m2 (List.mem_of_getElem? (i := 26) rfl) rfl
theorem tm_319 : (.instanceMethod yX5_listEclipses : Cond) ∈ tb := tb_m2 (List.mem_of_getElem? (i := 27) rfl) rfl
theorem tm_320 : (.selects RX5 yX5_listEclipses yX5_listEclipses : Cond) ∈ tb := tb_m2 (List.mem_of_getElem? (i := 28) rfl) rfl
theorem tm_321 : (.code yX5_listEclipses cX5_listEclipses 3 (some .int) : Cond) ∈ tb := tb_m2 (List.mem_of_getElem? (i := 29) rfl) rfl
theorem tm_322 : (.methodLink RX5 87 yX5_kindOf : Cond) ∈ tb := tb_m2 (List.mem_of_getElem? (i := 30) rfl) rfl
theorem tm_323 : (.methodLink RX5 94 yX5_timeOf : Cond) ∈ tb := tb_m2 (List.mem_of_getElem? (i := 31) rfl) rfl
theorem tm_324 : (.methodLink RX5 107 yX5_isAsked : Cond) ∈ tb := tb_m2 (List.mem_of_getElem? (i := 32) rfl) rfl
theorem tm_326 : (.instanceMethod yX5_isAsked : Cond) ∈ tb := tb_m2 (List.mem_of_getElem? (i := 34) rfl) rfl
theorem tm_327 : (.code yX5_isAsked cX5_isAsked 3 (some .boolean) : Cond) ∈ tb := tb_m2 (List.mem_of_getElem? (i := 35) rfl) rfl
theorem tm_328 : (.methodLink RL 28 yX7_round : Cond) ∈ tb := tb_m2 (List.mem_of_getElem? (i := 36) rfl) rfl
theorem tm_329 : (.instanceMethod yX7_round : Cond) ∈ tb := tb_m2 (List.mem_of_getElem? (i := 37) rfl) rfl
theorem tm_330 : (.selects RX7 yX7_round yX7_round : Cond) ∈ tb := tb_m2 (List.mem_of_getElem? (i := 38) rfl) rfl
theorem tm_331 : (.code yX7_round cX7_round 5 (some .int) : Cond) ∈ tb := tb_m2 (List.mem_of_getElem? (i := 39) rfl) rfl
theorem tm_332 : (.methodLink RX7 74 yX5_firstOfRound : Cond) ∈ tb := tb_m2 (List.mem_of_getElem? (i := 40) rfl) rfl
theorem tm_333 : (.instanceMethod yX5_firstOfRound : Cond) ∈ tb := tb_m2 (List.mem_of_getElem? (i := 41) rfl) rfl
theorem tm_334 : (.selects RX5 yX5_firstOfRound yX5_firstOfRound : Cond) ∈ tb := tb_m2 (List.mem_of_getElem? (i := 42) rfl) rfl
theorem tm_335 : (.code yX5_firstOfRound cX5_firstOfRound 3 (some .int) : Cond) ∈ tb := tb_m2 (List.mem_of_getElem? (i := 43) rfl) rfl
theorem tm_336 : (.methodLink RX7 77 yX5_lastOfRound : Cond) ∈ tb := tb_m2 (List.mem_of_getElem? (i := 44) rfl) rfl
theorem tm_337 : (.instanceMethod yX5_lastOfRound : Cond) ∈ tb := tb_m2 (List.mem_of_getElem? (i := 45) rfl) rfl
theorem tm_338 : (.selects RX5 yX5_lastOfRound yX5_lastOfRound : Cond) ∈ tb := tb_m2 (List.mem_of_getElem? (i := 46) rfl) rfl
theorem tm_339 : (.code yX5_lastOfRound cX5_lastOfRound 3 (some .int) : Cond) ∈ tb := tb_m2 (List.mem_of_getElem? (i := 47) rfl) rfl
theorem tm_340 : (.methodLink RL 32 yX7_many : Cond) ∈ tb := tb_m2 (List.mem_of_getElem? (i := 48) rfl) rfl
theorem tm_341 : (.instanceMethod yX7_many : Cond) ∈ tb := tb_m2 (List.mem_of_getElem? (i := 49) rfl) rfl
theorem tm_342 : (.selects RX7 yX7_many yX7_many : Cond) ∈ tb := tb_m2 (List.mem_of_getElem? (i := 50) rfl) rfl
theorem tm_343 : (.code yX7_many cX7_many 4 (some .int) : Cond) ∈ tb := tb_m2 (List.mem_of_getElem? (i := 51) rfl) rfl
theorem tm_344 : (.methodLink RX7 80 yX5_countEclipses : Cond) ∈ tb := tb_m2 (List.mem_of_getElem? (i := 52) rfl) rfl
theorem tm_345 : (.instanceMethod yX5_countEclipses : Cond) ∈ tb := tb_m2 (List.mem_of_getElem? (i := 53) rfl) rfl
theorem tm_346 : (.selects RX5 yX5_countEclipses yX5_countEclipses : Cond) ∈ tb := tb_m2 (List.mem_of_getElem? (i := 54) rfl) rfl
theorem tm_347 : (.code yX5_countEclipses cX5_countEclipses 7 (some .int) : Cond) ∈ tb := tb_m2 (List.mem_of_getElem? (i := 55) rfl) rfl
theorem tm_348 : (.methodLink RL 36 yX7_date : Cond) ∈ tb := tb_m2 (List.mem_of_getElem? (i := 56) rfl) rfl
theorem tm_349 : (.instanceMethod yX7_date : Cond) ∈ tb := tb_m2 (List.mem_of_getElem? (i := 57) rfl) rfl
theorem tm_350 : (.selects RX7 yX7_date yX7_date : Cond) ∈ tb := tb_m2 (List.mem_of_getElem? (i := 58) rfl) rfl
theorem tm_351 : (.code yX7_date cX7_date 6 (some .int) : Cond) ∈ tb := tb_m2 (List.mem_of_getElem? (i := 59) rfl) rfl
theorem tm_352 : (.constant RX7 83 (400000) : Cond) ∈ tb := tb_m2 (List.mem_of_getElem? (i := 60) rfl) rfl
theorem tm_353 : (.methodLink RX7 84 yX2_isCalendar : Cond) ∈ tb := tb_m2 (List.mem_of_getElem? (i := 61) rfl) rfl
theorem tm_354 : (.static yX2_isCalendar : Cond) ∈ tb := tb_m2 (List.mem_of_getElem? (i := 62) rfl) rfl
theorem tm_355 : (.code yX2_isCalendar cX2_isCalendar 1 (some .boolean) : Cond) ∈ tb := tb_m2 (List.mem_of_getElem? (i := 63) rfl) rfl
theorem tm_356 : (.methodLink RX7 89 yX2_yearOf : Cond) ∈ tb := tb_m2 (List.mem_of_getElem? (i := 64) rfl) rfl
theorem tm_357 : (.static yX2_yearOf : Cond) ∈ tb := tb_m2 (List.mem_of_getElem? (i := 65) rfl) rfl
theorem tm_358 : (.code yX2_yearOf cX2_yearOf 3 (some .int) : Cond) ∈ tb := tb_m2 (List.mem_of_getElem? (i := 66) rfl) rfl
theorem tm_359 : (.methodLink RX2 15 yX2_guessYear : Cond) ∈ tb := tb_m2 (List.mem_of_getElem? (i := 67) rfl) rfl
theorem tm_360 : (.static yX2_guessYear : Cond) ∈ tb := tb_m2 (List.mem_of_getElem? (i := 68) rfl) rfl
theorem tm_361 : (.code yX2_guessYear cX2_guessYear 2 (some .int) : Cond) ∈ tb := tb_m2 (List.mem_of_getElem? (i := 69) rfl) rfl
theorem tm_362 : (.methodLink RX2 19 yX2_firstDay : Cond) ∈ tb := tb_m2 (List.mem_of_getElem? (i := 70) rfl) rfl
theorem tm_363 : (.static yX2_firstDay : Cond) ∈ tb := tb_m2 (List.mem_of_getElem? (i := 71) rfl) rfl
theorem tm_364 : (.code yX2_firstDay cX2_firstDay 2 (some .int) : Cond) ∈ tb := tb_m2 (List.mem_of_getElem? (i := 72) rfl) rfl
theorem tm_365 : (.methodLink RX7 93 yX2_monthDayOf : Cond) ∈ tb := tb_m2 (List.mem_of_getElem? (i := 73) rfl) rfl
theorem tm_366 : (.static yX2_monthDayOf : Cond) ∈ tb := tb_m2 (List.mem_of_getElem? (i := 74) rfl) rfl
theorem tm_367 : (.code yX2_monthDayOf cX2_monthDayOf 6 (some .int) : Cond) ∈ tb := tb_m2 (List.mem_of_getElem? (i := 75) rfl) rfl
theorem tm_368 : (.methodLink RX2 22 yX2_monthLength : Cond) ∈ tb := tb_m2 (List.mem_of_getElem? (i := 76) rfl) rfl
theorem tm_369 : (.static yX2_monthLength : Cond) ∈ tb := tb_m2 (List.mem_of_getElem? (i := 77) rfl) rfl
theorem tm_370 : (.code yX2_monthLength cX2_monthLength 3 (some .int) : Cond) ∈ tb := tb_m2 (List.mem_of_getElem? (i := 78) rfl) rfl
theorem tm_371 : (.fieldLink RX2 11 "EclipseHouse$Calendars" "LEAP_MONTHS" "[I" : Cond) ∈ tb := tb_m2 (List.mem_of_getElem? (i := 79) rfl) rfl
theorem tm_373 : (.methodLink RX7 96 yX2_monthIn : Cond) ∈ tb := tb_m2 (List.mem_of_getElem? (i := 81) rfl) rfl
theorem tm_374 : (.static yX2_monthIn : Cond) ∈ tb := tb_m2 (List.mem_of_getElem? (i := 82) rfl) rfl
theorem tm_375 : (.code yX2_monthIn cX2_monthIn 1 (some .int) : Cond) ∈ tb := tb_m2 (List.mem_of_getElem? (i := 83) rfl) rfl
theorem tm_376 : (.methodLink RX7 99 yX2_dayIn : Cond) ∈ tb := tb_m2 (List.mem_of_getElem? (i := 84) rfl) rfl
theorem tm_377 : (.static yX2_dayIn : Cond) ∈ tb := tb_m2 (List.mem_of_getElem? (i := 85) rfl) rfl
theorem tm_378 : (.code yX2_dayIn cX2_dayIn 1 (some .int) : Cond) ∈ tb := tb_m2 (List.mem_of_getElem? (i := 86) rfl) rfl
theorem tm_379 : (.methodLink RL 40 yX7_day : Cond) ∈ tb := tb_m2 (List.mem_of_getElem? (i := 87) rfl) rfl
theorem tm_380 : (.instanceMethod yX7_day : Cond) ∈ tb := tb_m2 (List.mem_of_getElem? (i := 88) rfl) rfl
theorem tm_381 : (.selects RX7 yX7_day yX7_day : Cond) ∈ tb := tb_m2 (List.mem_of_getElem? (i := 89) rfl) rfl
theorem tm_382 : (.code yX7_day cX7_day 5 (some .int) : Cond) ∈ tb := tb_m2 (List.mem_of_getElem? (i := 90) rfl) rfl
theorem tm_383 : (.methodLink RX7 102 yX2_dayOf : Cond) ∈ tb := tb_m2 (List.mem_of_getElem? (i := 91) rfl) rfl
theorem tm_384 : (.static yX2_dayOf : Cond) ∈ tb := tb_m2 (List.mem_of_getElem? (i := 92) rfl) rfl
theorem tm_385 : (.code yX2_dayOf cX2_dayOf 6 (some .int) : Cond) ∈ tb := tb_m2 (List.mem_of_getElem? (i := 93) rfl) rfl
theorem tm_386 : (.methodLink RL 45 yX7_seen : Cond) ∈ tb := tb_m2 (List.mem_of_getElem? (i := 94) rfl) rfl
theorem tm_387 : (.instanceMethod yX7_seen : Cond) ∈ tb := tb_m2 (List.mem_of_getElem? (i := 95) rfl) rfl
theorem tm_388 : (.selects RX7 yX7_seen yX7_seen : Cond) ∈ tb := tb_m2 (List.mem_of_getElem? (i := 96) rfl) rfl
theorem tm_389 : (.code yX7_seen cX7_seen 4 (some .int) : Cond) ∈ tb := tb_m2 (List.mem_of_getElem? (i := 97) rfl) rfl
theorem tm_390 : (.methodLink RX7 106 yX7_isEast : Cond) ∈ tb := tb_m2 (List.mem_of_getElem? (i := 98) rfl) rfl
theorem tm_391 : (.static yX7_isEast : Cond) ∈ tb := tb_m2 (List.mem_of_getElem? (i := 99) rfl) rfl
theorem tm_392 : (.code yX7_isEast cX7_isEast 1 (some .boolean) : Cond) ∈ tb := tb_m2 (List.mem_of_getElem? (i := 100) rfl) rfl
theorem tm_393 : (.methodLink RX7 109 yX7_isSlow : Cond) ∈ tb := tb_m2 (List.mem_of_getElem? (i := 101) rfl) rfl
theorem tm_394 : (.static yX7_isSlow : Cond) ∈ tb := tb_m2 (List.mem_of_getElem? (i := 102) rfl) rfl
theorem tm_395 : (.code yX7_isSlow cX7_isSlow 1 (some .boolean) : Cond) ∈ tb := tb_m2 (List.mem_of_getElem? (i := 103) rfl) rfl
theorem tm_396 : (.constant RX7 112 (-1000000) : Cond) ∈ tb := tb_m2 (List.mem_of_getElem? (i := 104) rfl) rfl
theorem tm_397 : (.methodLink RX7 113 yX5_minuteSeen : Cond) ∈ tb := tb_m2 (List.mem_of_getElem? (i := 105) rfl) rfl
theorem tm_398 : (.static yX5_minuteSeen : Cond) ∈ tb := tb_m2 (List.mem_of_getElem? (i := 106) rfl) rfl
theorem tm_399 : (.code yX5_minuteSeen cX5_minuteSeen 4 (some .int) : Cond) ∈ tb := tb_m2 (List.mem_of_getElem? (i := 107) rfl) rfl
theorem tm_400 : (.constant RX5 90 (525600) : Cond) ∈ tb := tb_m2 (List.mem_of_getElem? (i := 108) rfl) rfl
theorem tm_401 : (.methodLink RL 49 yX7_feed : Cond) ∈ tb := tb_m2 (List.mem_of_getElem? (i := 109) rfl) rfl
theorem tm_402 : (.instanceMethod yX7_feed : Cond) ∈ tb := tb_m2 (List.mem_of_getElem? (i := 110) rfl) rfl
theorem tm_403 : (.selects RX7 yX7_feed yX7_feed : Cond) ∈ tb := tb_m2 (List.mem_of_getElem? (i := 111) rfl) rfl
theorem tm_404 : (.code yX7_feed cX7_feed 6 (some .int) : Cond) ∈ tb := tb_m2 (List.mem_of_getElem? (i := 112) rfl) rfl
theorem tm_405 : (.methodLink RX7 116 yX6_hasRoom : Cond) ∈ tb := tb_m2 (List.mem_of_getElem? (i := 113) rfl) rfl
theorem tm_406 : (.instanceMethod yX6_hasRoom : Cond) ∈ tb := tb_m2 (List.mem_of_getElem? (i := 114) rfl) rfl
theorem tm_407 : (.selects RX6 yX6_hasRoom yX6_hasRoom : Cond) ∈ tb := tb_m2 (List.mem_of_getElem? (i := 115) rfl) rfl
theorem tm_408 : (.code yX6_hasRoom cX6_hasRoom 1 (some .boolean) : Cond) ∈ tb := tb_m2 (List.mem_of_getElem? (i := 116) rfl) rfl
theorem tm_409 : (.methodLink RX7 120 yX6_addNumber : Cond) ∈ tb := tb_m2 (List.mem_of_getElem? (i := 117) rfl) rfl
theorem tm_410 : (.instanceMethod yX6_addNumber : Cond) ∈ tb := tb_m2 (List.mem_of_getElem? (i := 118) rfl) rfl
theorem tm_411 : (.selects RX6 yX6_addNumber yX6_addNumber : Cond) ∈ tb := tb_m2 (List.mem_of_getElem? (i := 119) rfl) rfl
theorem tm_412 : (.code yX6_addNumber cX6_addNumber 3 none : Cond) ∈ tb := tb_m2 (List.mem_of_getElem? (i := 120) rfl) rfl
theorem tm_413 : (.methodLink RX7 124 yX6_size : Cond) ∈ tb := tb_m2 (List.mem_of_getElem? (i := 121) rfl) rfl
theorem tm_414 : (.instanceMethod yX6_size : Cond) ∈ tb := tb_m2 (List.mem_of_getElem? (i := 122) rfl) rfl
theorem tm_415 : (.selects RX6 yX6_size yX6_size : Cond) ∈ tb := tb_m2 (List.mem_of_getElem? (i := 123) rfl) rfl
theorem tm_416 : (.code yX6_size cX6_size 1 (some .int) : Cond) ∈ tb := tb_m2 (List.mem_of_getElem? (i := 124) rfl) rfl
theorem tm_417 : (.methodLink RL 54 yX7_end : Cond) ∈ tb := tb_m2 (List.mem_of_getElem? (i := 125) rfl) rfl
theorem tm_418 : (.instanceMethod yX7_end : Cond) ∈ tb := tb_m2 (List.mem_of_getElem? (i := 126) rfl) rfl
theorem tm_419 : (.selects RX7 yX7_end yX7_end : Cond) ∈ tb := tb_m2 (List.mem_of_getElem? (i := 127) rfl) rfl
theorem tm_420 : (.code yX7_end cX7_end 2 (some .boolean) : Cond) ∈ tb := tb_m2 (List.mem_of_getElem? (i := 128) rfl) rfl
theorem tm_421 : (.methodLink RX7 128 yX6_cutTo : Cond) ∈ tb := tb_m2 (List.mem_of_getElem? (i := 129) rfl) rfl
theorem tm_422 : (.instanceMethod yX6_cutTo : Cond) ∈ tb := tb_m2 (List.mem_of_getElem? (i := 130) rfl) rfl
theorem tm_423 : (.selects RX6 yX6_cutTo yX6_cutTo : Cond) ∈ tb := tb_m2 (List.mem_of_getElem? (i := 131) rfl) rfl
theorem tm_424 : (.code yX6_cutTo cX6_cutTo 2 (some .boolean) : Cond) ∈ tb := tb_m2 (List.mem_of_getElem? (i := 132) rfl) rfl
theorem tm_425 : (.methodLink RL 59 yX7_reign : Cond) ∈ tb := tb_m2 (List.mem_of_getElem? (i := 133) rfl) rfl
theorem tm_426 : (.instanceMethod yX7_reign : Cond) ∈ tb := tb_m2 (List.mem_of_getElem? (i := 134) rfl) rfl
theorem tm_427 : (.selects RX7 yX7_reign yX7_reign : Cond) ∈ tb := tb_m2 (List.mem_of_getElem? (i := 135) rfl) rfl
theorem tm_428 : (.code yX7_reign cX7_reign 4 (some .int) : Cond) ∈ tb := tb_m2 (List.mem_of_getElem? (i := 136) rfl) rfl
theorem tm_429 : (.methodLink RX7 131 yX6_nameBetween : Cond) ∈ tb := tb_m2 (List.mem_of_getElem? (i := 137) rfl) rfl
theorem tm_430 : (.instanceMethod yX6_nameBetween : Cond) ∈ tb := tb_m2 (List.mem_of_getElem? (i := 138) rfl) rfl
theorem tm_431 : (.selects RX6 yX6_nameBetween yX6_nameBetween : Cond) ∈ tb := tb_m2 (List.mem_of_getElem? (i := 139) rfl) rfl
theorem tm_432 : (.code yX6_nameBetween cX6_nameBetween 6 (some .int) : Cond) ∈ tb := tb_m2 (List.mem_of_getElem? (i := 140) rfl) rfl
theorem tm_433 : (.methodLink RX6 19 yX6_byteAt : Cond) ∈ tb := tb_m2 (List.mem_of_getElem? (i := 141) rfl) rfl
theorem tm_434 : (.instanceMethod yX6_byteAt : Cond) ∈ tb := tb_m2 (List.mem_of_getElem? (i := 142) rfl) rfl
theorem tm_435 : (.selects RX6 yX6_byteAt yX6_byteAt : Cond) ∈ tb := tb_m2 (List.mem_of_getElem? (i := 143) rfl) rfl
theorem tm_436 : (.code yX6_byteAt cX6_byteAt 2 (some .int) : Cond) ∈ tb := tb_m2 (List.mem_of_getElem? (i := 144) rfl) rfl
theorem tm_437 : (.methodLink RX6 23 yX6_isLetter : Cond) ∈ tb := tb_m2 (List.mem_of_getElem? (i := 145) rfl) rfl
theorem tm_438 : (.static yX6_isLetter : Cond) ∈ tb := tb_m2 (List.mem_of_getElem? (i := 146) rfl) rfl
theorem tm_439 : (.code yX6_isLetter cX6_isLetter 1 (some .boolean) : Cond) ∈ tb := tb_m2 (List.mem_of_getElem? (i := 147) rfl) rfl
theorem tm_440 : (.methodLink RX7 134 yX6_clear : Cond) ∈ tb := tb_m2 (List.mem_of_getElem? (i := 148) rfl) rfl
theorem tm_441 : (.instanceMethod yX6_clear : Cond) ∈ tb := tb_m2 (List.mem_of_getElem? (i := 149) rfl) rfl
theorem tm_442 : (.selects RX6 yX6_clear yX6_clear : Cond) ∈ tb := tb_m2 (List.mem_of_getElem? (i := 150) rfl) rfl
theorem tm_443 : (.code yX6_clear cX6_clear 1 none : Cond) ∈ tb := tb_m2 (List.mem_of_getElem? (i := 151) rfl) rfl
theorem tm_444 : (.methodLink RX7 137 yX4_begin : Cond) ∈ tb := tb_m2 (List.mem_of_getElem? (i := 152) rfl) rfl
theorem tm_445 : (.instanceMethod yX4_begin : Cond) ∈ tb := tb_m2 (List.mem_of_getElem? (i := 153) rfl) rfl
theorem tm_446 : (.selects RX4 yX4_begin yX4_begin : Cond) ∈ tb := tb_m2 (List.mem_of_getElem? (i := 154) rfl) rfl
theorem tm_447 : (.code yX4_begin cX4_begin 5 (some .int) : Cond) ∈ tb := tb_m2 (List.mem_of_getElem? (i := 155) rfl) rfl
theorem tm_448 : (.methodLink RX4 21 yX2_isCalendar : Cond) ∈ tb := tb_m2 (List.mem_of_getElem? (i := 156) rfl) rfl
theorem tm_449 : (.methodLink RX4 31 yX4_find : Cond) ∈ tb := tb_m2 (List.mem_of_getElem? (i := 157) rfl) rfl
theorem tm_450 : (.instanceMethod yX4_find : Cond) ∈ tb := tb_m2 (List.mem_of_getElem? (i := 158) rfl) rfl
theorem tm_451 : (.selects RX4 yX4_find yX4_find : Cond) ∈ tb := tb_m2 (List.mem_of_getElem? (i := 159) rfl) rfl
theorem tm_452 : (.code yX4_find cX4_find 3 (some .int) : Cond) ∈ tb := tb_m2 (List.mem_of_getElem? (i := 160) rfl) rfl
theorem tm_453 : (.methodLink RL 63 yX7_record : Cond) ∈ tb := tb_m2 (List.mem_of_getElem? (i := 161) rfl) rfl
theorem tm_454 : (.instanceMethod yX7_record : Cond) ∈ tb := tb_m2 (List.mem_of_getElem? (i := 162) rfl) rfl
theorem tm_455 : (.selects RX7 yX7_record yX7_record : Cond) ∈ tb := tb_m2 (List.mem_of_getElem? (i := 163) rfl) rfl
theorem tm_456 : (.code yX7_record cX7_record 4 (some .int) : Cond) ∈ tb := tb_m2 (List.mem_of_getElem? (i := 164) rfl) rfl
theorem tm_457 : (.methodLink RX7 140 yX1_hasRoom : Cond) ∈ tb := tb_m2 (List.mem_of_getElem? (i := 165) rfl) rfl
theorem tm_458 : (.instanceMethod yX1_hasRoom : Cond) ∈ tb := tb_m2 (List.mem_of_getElem? (i := 166) rfl) rfl
theorem tm_459 : (.selects RX1 yX1_hasRoom yX1_hasRoom : Cond) ∈ tb := tb_m2 (List.mem_of_getElem? (i := 167) rfl) rfl
theorem tm_460 : (.code yX1_hasRoom cX1_hasRoom 1 (some .boolean) : Cond) ∈ tb := tb_m2 (List.mem_of_getElem? (i := 168) rfl) rfl
theorem tm_461 : (.methodLink RX7 141 yX1_spare : Cond) ∈ tb := tb_m2 (List.mem_of_getElem? (i := 169) rfl) rfl
theorem tm_462 : (.instanceMethod yX1_spare : Cond) ∈ tb := tb_m2 (List.mem_of_getElem? (i := 170) rfl) rfl
theorem tm_463 : (.selects RX1 yX1_spare yX1_spare : Cond) ∈ tb := tb_m2 (List.mem_of_getElem? (i := 171) rfl) rfl
theorem tm_464 : (.code yX1_spare cX1_spare 1 (some (.object "EclipseHouse$Account")) : Cond) ∈ tb := tb_m2 (List.mem_of_getElem? (i := 172) rfl) rfl
theorem tm_465 : (.methodLink RX1 22 yX1_hasRoom : Cond) ∈ tb := tb_m2 (List.mem_of_getElem? (i := 173) rfl) rfl
theorem tm_466 : (.methodLink RX7 145 yX3_read : Cond) ∈ tb := tb_m2 (List.mem_of_getElem? (i := 174) rfl) rfl
theorem tm_467 : (.instanceMethod yX3_read : Cond) ∈ tb := tb_m2 (List.mem_of_getElem? (i := 175) rfl) rfl
theorem tm_468 : (.selects RX3 yX3_read yX3_read : Cond) ∈ tb := tb_m2 (List.mem_of_getElem? (i := 176) rfl) rfl
theorem tm_469 : (.code yX3_read cX3_read 3 (some .boolean) : Cond) ∈ tb := tb_m2 (List.mem_of_getElem? (i := 177) rfl) rfl
theorem tm_470 : (.methodLink RX3 30 yX0_clear : Cond) ∈ tb := tb_m2 (List.mem_of_getElem? (i := 178) rfl) rfl
theorem tm_471 : (.instanceMethod yX0_clear : Cond) ∈ tb := tb_m2 (List.mem_of_getElem? (i := 179) rfl) rfl
theorem tm_472 : (.selects RX0 yX0_clear yX0_clear : Cond) ∈ tb := tb_m2 (List.mem_of_getElem? (i := 180) rfl) rfl
theorem tm_473 : (.code yX0_clear cX0_clear 3 none : Cond) ∈ tb := tb_m2 (List.mem_of_getElem? (i := 181) rfl) rfl
theorem tm_474 : (.methodLink RX3 48 yX3_advance : Cond) ∈ tb := tb_m2 (List.mem_of_getElem? (i := 182) rfl) rfl
theorem tm_476 : (.instanceMethod yX3_advance : Cond) ∈ tb := tb_m2 (List.mem_of_getElem? (i := 184) rfl) rfl
theorem tm_477 : (.code yX3_advance cX3_advance 3 none : Cond) ∈ tb := tb_m2 (List.mem_of_getElem? (i := 185) rfl) rfl
theorem tm_478 : (.methodLink RX3 70 yX6_size : Cond) ∈ tb := tb_m2 (List.mem_of_getElem? (i := 186) rfl) rfl
theorem tm_479 : (.methodLink RX3 76 yX6_byteAt : Cond) ∈ tb := tb_m2 (List.mem_of_getElem? (i := 187) rfl) rfl
theorem tm_480 : (.methodLink RX3 80 yX6_isBlank : Cond) ∈ tb := tb_m2 (List.mem_of_getElem? (i := 188) rfl) rfl
theorem tm_481 : (.static yX6_isBlank : Cond) ∈ tb := tb_m2 (List.mem_of_getElem? (i := 189) rfl) rfl
theorem tm_482 : (.code yX6_isBlank cX6_isBlank 1 (some .boolean) : Cond) ∈ tb := tb_m2 (List.mem_of_getElem? (i := 190) rfl) rfl
theorem tm_483 : (.methodLink RX3 84 yX3_takeSign : Cond) ∈ tb := tb_m2 (List.mem_of_getElem? (i := 191) rfl) rfl
theorem tm_485 : (.instanceMethod yX3_takeSign : Cond) ∈ tb := tb_m2 (List.mem_of_getElem? (i := 193) rfl) rfl
theorem tm_486 : (.code yX3_takeSign cX3_takeSign 2 none : Cond) ∈ tb := tb_m2 (List.mem_of_getElem? (i := 194) rfl) rfl
theorem tm_487 : (.methodLink RX3 87 yX6_isLetter : Cond) ∈ tb := tb_m2 (List.mem_of_getElem? (i := 195) rfl) rfl
theorem tm_488 : (.methodLink RX3 90 yX6_isDigit : Cond) ∈ tb := tb_m2 (List.mem_of_getElem? (i := 196) rfl) rfl
theorem tm_489 : (.static yX6_isDigit : Cond) ∈ tb := tb_m2 (List.mem_of_getElem? (i := 197) rfl) rfl
theorem tm_490 : (.code yX6_isDigit cX6_isDigit 1 (some .boolean) : Cond) ∈ tb := tb_m2 (List.mem_of_getElem? (i := 198) rfl) rfl
theorem tm_491 : (.methodLink RX3 51 yX3_readWhat : Cond) ∈ tb := tb_m2 (List.mem_of_getElem? (i := 199) rfl) rfl
theorem tm_493 : (.instanceMethod yX3_readWhat : Cond) ∈ tb := tb_m2 (List.mem_of_getElem? (i := 201) rfl) rfl
theorem tm_494 : (.code yX3_readWhat cX3_readWhat 3 (some .boolean) : Cond) ∈ tb := tb_m2 (List.mem_of_getElem? (i := 202) rfl) rfl
theorem tm_496 : (.methodLink RX3 104 yX3_isWord : Cond) ∈ tb := tb_m2 (List.mem_of_getElem? (i := 204) rfl) rfl
theorem tm_498 : (.instanceMethod yX3_isWord : Cond) ∈ tb := tb_m2 (List.mem_of_getElem? (i := 206) rfl) rfl
theorem tm_499 : (.code yX3_isWord cX3_isWord 3 (some .boolean) : Cond) ∈ tb := tb_m2 (List.mem_of_getElem? (i := 207) rfl) rfl
theorem tm_500 : (.methodLink RX3 93 yJ0_length_8abf5 : Cond) ∈ tb := tb_m2 (List.mem_of_getElem? (i := 208) rfl) rfl
theorem tm_501 : (.instanceMethod yJ0_length_8abf5 : Cond) ∈ tb := tb_m2 (List.mem_of_getElem? (i := 209) rfl) rfl
theorem tm_502 : (.selects RJ0 yJ0_length_8abf5 yJ0_length_8abf5 : Cond) ∈ tb := tb_m2 (List.mem_of_getElem? (i := 210) rfl) rfl
theorem tm_503 : (.code yJ0_length_8abf5 cJ0_length_8abf5 1 (some .int) : Cond) ∈ tb := tb_m2 (List.mem_of_getElem? (i := 211) rfl) rfl
theorem tm_504 : (.methodLink RJ0 335 yJ0_coder_7d493 : Cond) ∈ tb := tb_m2 (List.mem_of_getElem? (i := 212) rfl) rfl
theorem tm_505 : (.instanceMethod yJ0_coder_7d493 : Cond) ∈ tb := tb_m2 (List.mem_of_getElem? (i := 213) rfl) rfl
theorem tm_506 : (.selects RJ0 yJ0_coder_7d493 yJ0_coder_7d493 : Cond) ∈ tb := tb_m2 (List.mem_of_getElem? (i := 214) rfl) rfl
theorem tm_507 : (.code yJ0_coder_7d493 cJ0_coder_7d493 1 (some .byte) : Cond) ∈ tb := tb_m2 (List.mem_of_getElem? (i := 215) rfl) rfl
theorem tm_508 : (.fieldLink RJ0 38 "java/lang/String" "COMPACT_STRINGS" "Z" : Cond) ∈ tb := tb_m2 (List.mem_of_getElem? (i := 216) rfl) rfl
theorem tm_510 : (.methodLink RX3 98 yJ0_charAt_5068e : Cond) ∈ tb := tb_m2 (List.mem_of_getElem? (i := 218) rfl) rfl
theorem tm_511 : (.instanceMethod yJ0_charAt_5068e : Cond) ∈ tb := tb_m2 (List.mem_of_getElem? (i := 219) rfl) rfl
theorem tm_512 : (.selects RJ0 yJ0_charAt_5068e yJ0_charAt_5068e : Cond) ∈ tb := tb_m2 (List.mem_of_getElem? (i := 220) rfl) rfl
theorem tm_513 : (.code yJ0_charAt_5068e cJ0_charAt_5068e 2 (some .char) : Cond) ∈ tb := tb_m2 (List.mem_of_getElem? (i := 221) rfl) rfl
theorem tm_514 : (.methodLink RJ0 492 yJ0_isLatin1_aae02 : Cond) ∈ tb := tb_m2 (List.mem_of_getElem? (i := 222) rfl) rfl
theorem tm_515 : (.instanceMethod yJ0_isLatin1_aae02 : Cond) ∈ tb := tb_m2 (List.mem_of_getElem? (i := 223) rfl) rfl
theorem tm_516 : (.selects RJ0 yJ0_isLatin1_aae02 yJ0_isLatin1_aae02 : Cond) ∈ tb := tb_m2 (List.mem_of_getElem? (i := 224) rfl) rfl
theorem tm_517 : (.code yJ0_isLatin1_aae02 cJ0_isLatin1_aae02 1 (some .boolean) : Cond) ∈ tb := tb_m2 (List.mem_of_getElem? (i := 225) rfl) rfl
theorem tm_518 : (.methodLink RJ0 495 yJ1_charAt_3b067 : Cond) ∈ tb := tb_m2 (List.mem_of_getElem? (i := 226) rfl) rfl
theorem tm_519 : (.static yJ1_charAt_3b067 : Cond) ∈ tb := tb_m2 (List.mem_of_getElem? (i := 227) rfl) rfl
theorem tm_520 : (.code yJ1_charAt_3b067 cJ1_charAt_3b067 2 (some .char) : Cond) ∈ tb := tb_m2 (List.mem_of_getElem? (i := 228) rfl) rfl
theorem tm_521 : (.methodLink RJ1 9 yJ0_checkIndex_df160 : Cond) ∈ tb := tb_m2 (List.mem_of_getElem? (i := 229) rfl) rfl
theorem tm_522 : (.static yJ0_checkIndex_df160 : Cond) ∈ tb := tb_m2 (List.mem_of_getElem? (i := 230) rfl) rfl
theorem tm_523 : (.code yJ0_checkIndex_df160 cJ0_checkIndex_df160 2 none : Cond) ∈ tb := tb_m2 (List.mem_of_getElem? (i := 231) rfl) rfl
theorem tm_524 : (.fieldLink RJ0 1053 "jdk/internal/util/Preconditions" "SIOOBE_FORMATTER" "Ljava/util/function/BiFunction;" : Cond) ∈ tb := tb_m2 (List.mem_of_getElem? (i := 232) rfl) rfl
theorem tm_526 : (.methodLink RJ0 1059 yJ3_checkIndex_8e157 : Cond) ∈ tb := tb_m2 (List.mem_of_getElem? (i := 234) rfl) rfl
theorem tm_527 : (.static yJ3_checkIndex_8e157 : Cond) ∈ tb := tb_m2 (List.mem_of_getElem? (i := 235) rfl) rfl
theorem tm_528 : (.code yJ3_checkIndex_8e157 cJ3_checkIndex_8e157 3 (some .int) : Cond) ∈ tb := tb_m2 (List.mem_of_getElem? (i := 236) rfl) rfl
theorem tm_529 : (.methodLink RJ0 498 yJ2_charAt_3b067 : Cond) ∈ tb := tb_m2 (List.mem_of_getElem? (i := 237) rfl) rfl
theorem tm_530 : (.static yJ2_charAt_3b067 : Cond) ∈ tb := tb_m2 (List.mem_of_getElem? (i := 238) rfl) rfl
theorem tm_531 : (.code yJ2_charAt_3b067 cJ2_charAt_3b067 2 (some .char) : Cond) ∈ tb := tb_m2 (List.mem_of_getElem? (i := 239) rfl) rfl
theorem tm_532 : (.methodLink RJ2 67 yJ2_checkIndex_2214a : Cond) ∈ tb := tb_m3 (List.mem_of_getElem? (i := 0) rfl) rfl
theorem tm_533 : (.static yJ2_checkIndex_2214a : Cond) ∈ tb := tb_m3 (List.mem_of_getElem? (i := 1) rfl) rfl
theorem tm_534 : (.code yJ2_checkIndex_2214a cJ2_checkIndex_2214a 2 none : Cond) ∈ tb := tb_m3 (List.mem_of_getElem? (i := 2) rfl) rfl
theorem tm_535 : (.methodLink RJ2 48 yJ2_length_9d52b : Cond) ∈ tb := tb_m3 (List.mem_of_getElem? (i := 3) rfl) rfl
theorem tm_536 : (.static yJ2_length_9d52b : Cond) ∈ tb := tb_m3 (List.mem_of_getElem? (i := 4) rfl) rfl
theorem tm_537 : (.code yJ2_length_9d52b cJ2_length_9d52b 1 (some .int) : Cond) ∈ tb := tb_m3 (List.mem_of_getElem? (i := 5) rfl) rfl
theorem tm_538 : (.methodLink RJ2 414 yJ0_checkIndex_df160 : Cond) ∈ tb := tb_m3 (List.mem_of_getElem? (i := 6) rfl) rfl
theorem tm_539 : (.methodLink RJ2 71 yJ2_getChar_3b067 : Cond) ∈ tb := tb_m3 (List.mem_of_getElem? (i := 7) rfl) rfl
theorem tm_540 : (.static yJ2_getChar_3b067 : Cond) ∈ tb := tb_m3 (List.mem_of_getElem? (i := 8) rfl) rfl
theorem tm_541 : (.code yJ2_getChar_3b067 cJ2_getChar_3b067 2 (some .char) : Cond) ∈ tb := tb_m3 (List.mem_of_getElem? (i := 9) rfl) rfl
theorem tm_542 : (.fieldLink RJ2 44 "java/lang/StringUTF16" "$assertionsDisabled" "Z" : Cond) ∈ tb := tb_m3 (List.mem_of_getElem? (i := 10) rfl) rfl
theorem tm_544 : (.fieldLink RJ2 59 "java/lang/StringUTF16" "HI_BYTE_SHIFT" "I" : Cond) ∈ tb := tb_m3 (List.mem_of_getElem? (i := 12) rfl) rfl
theorem tm_546 : (.fieldLink RJ2 63 "java/lang/StringUTF16" "LO_BYTE_SHIFT" "I" : Cond) ∈ tb := tb_m3 (List.mem_of_getElem? (i := 14) rfl) rfl
theorem tm_549 : (.methodLink RX3 110 yX3_refuse : Cond) ∈ tb := tb_m3 (List.mem_of_getElem? (i := 17) rfl) rfl
theorem tm_551 : (.instanceMethod yX3_refuse : Cond) ∈ tb := tb_m3 (List.mem_of_getElem? (i := 19) rfl) rfl
theorem tm_552 : (.code yX3_refuse cX3_refuse 3 (some .boolean) : Cond) ∈ tb := tb_m3 (List.mem_of_getElem? (i := 20) rfl) rfl
theorem tm_553 : (.methodLink RX3 114 yX3_sunKind : Cond) ∈ tb := tb_m3 (List.mem_of_getElem? (i := 21) rfl) rfl
theorem tm_555 : (.instanceMethod yX3_sunKind : Cond) ∈ tb := tb_m3 (List.mem_of_getElem? (i := 23) rfl) rfl
theorem tm_556 : (.code yX3_sunKind cX3_sunKind 1 (some .int) : Cond) ∈ tb := tb_m3 (List.mem_of_getElem? (i := 24) rfl) rfl
theorem tm_560 : (.methodLink RX3 117 yX3_moonKind : Cond) ∈ tb := tb_m3 (List.mem_of_getElem? (i := 28) rfl) rfl
theorem tm_562 : (.instanceMethod yX3_moonKind : Cond) ∈ tb := tb_m3 (List.mem_of_getElem? (i := 30) rfl) rfl
theorem tm_563 : (.code yX3_moonKind cX3_moonKind 1 (some .int) : Cond) ∈ tb := tb_m3 (List.mem_of_getElem? (i := 31) rfl) rfl
theorem tm_566 : (.methodLink RX3 120 yX0_setKinds : Cond) ∈ tb := tb_m3 (List.mem_of_getElem? (i := 34) rfl) rfl
theorem tm_567 : (.instanceMethod yX0_setKinds : Cond) ∈ tb := tb_m3 (List.mem_of_getElem? (i := 35) rfl) rfl
theorem tm_568 : (.selects RX0 yX0_setKinds yX0_setKinds : Cond) ∈ tb := tb_m3 (List.mem_of_getElem? (i := 36) rfl) rfl
theorem tm_569 : (.code yX0_setKinds cX0_setKinds 2 none : Cond) ∈ tb := tb_m3 (List.mem_of_getElem? (i := 37) rfl) rfl
theorem tm_570 : (.methodLink RX3 55 yX3_readParts : Cond) ∈ tb := tb_m3 (List.mem_of_getElem? (i := 38) rfl) rfl
theorem tm_572 : (.instanceMethod yX3_readParts : Cond) ∈ tb := tb_m3 (List.mem_of_getElem? (i := 40) rfl) rfl
theorem tm_573 : (.code yX3_readParts cX3_readParts 2 (some .boolean) : Cond) ∈ tb := tb_m3 (List.mem_of_getElem? (i := 41) rfl) rfl
theorem tm_575 : (.methodLink RX3 135 yX3_readPart : Cond) ∈ tb := tb_m3 (List.mem_of_getElem? (i := 43) rfl) rfl
theorem tm_577 : (.instanceMethod yX3_readPart : Cond) ∈ tb := tb_m3 (List.mem_of_getElem? (i := 45) rfl) rfl
theorem tm_578 : (.code yX3_readPart cX3_readPart 2 (some .boolean) : Cond) ∈ tb := tb_m3 (List.mem_of_getElem? (i := 46) rfl) rfl
theorem tm_579 : (.methodLink RX3 146 yX3_partHere : Cond) ∈ tb := tb_m3 (List.mem_of_getElem? (i := 47) rfl) rfl
theorem tm_581 : (.instanceMethod yX3_partHere : Cond) ∈ tb := tb_m3 (List.mem_of_getElem? (i := 49) rfl) rfl
theorem tm_582 : (.code yX3_partHere cX3_partHere 1 (some .int) : Cond) ∈ tb := tb_m3 (List.mem_of_getElem? (i := 50) rfl) rfl
theorem tm_587 : (.methodLink RX3 149 yX0_has : Cond) ∈ tb := tb_m3 (List.mem_of_getElem? (i := 55) rfl) rfl
theorem tm_588 : (.instanceMethod yX0_has : Cond) ∈ tb := tb_m3 (List.mem_of_getElem? (i := 56) rfl) rfl
theorem tm_589 : (.selects RX0 yX0_has yX0_has : Cond) ∈ tb := tb_m3 (List.mem_of_getElem? (i := 57) rfl) rfl
theorem tm_590 : (.code yX0_has cX0_has 2 (some .boolean) : Cond) ∈ tb := tb_m3 (List.mem_of_getElem? (i := 58) rfl) rfl
theorem tm_591 : (.methodLink RX3 152 yX3_readNumber : Cond) ∈ tb := tb_m3 (List.mem_of_getElem? (i := 59) rfl) rfl
theorem tm_593 : (.instanceMethod yX3_readNumber : Cond) ∈ tb := tb_m3 (List.mem_of_getElem? (i := 61) rfl) rfl
theorem tm_594 : (.code yX3_readNumber cX3_readNumber 4 (some .boolean) : Cond) ∈ tb := tb_m3 (List.mem_of_getElem? (i := 62) rfl) rfl
theorem tm_595 : (.fieldLink RX3 160 "EclipseHouse$Reader" "LEAST" "[I" : Cond) ∈ tb := tb_m3 (List.mem_of_getElem? (i := 63) rfl) rfl
theorem tm_597 : (.fieldLink RX3 164 "EclipseHouse$Reader" "GREATEST" "[I" : Cond) ∈ tb := tb_m3 (List.mem_of_getElem? (i := 65) rfl) rfl
theorem tm_599 : (.methodLink RX3 167 yX0_setNumber : Cond) ∈ tb := tb_m3 (List.mem_of_getElem? (i := 67) rfl) rfl
theorem tm_600 : (.instanceMethod yX0_setNumber : Cond) ∈ tb := tb_m3 (List.mem_of_getElem? (i := 68) rfl) rfl
theorem tm_601 : (.selects RX0 yX0_setNumber yX0_setNumber : Cond) ∈ tb := tb_m3 (List.mem_of_getElem? (i := 69) rfl) rfl
theorem tm_602 : (.code yX0_setNumber cX0_setNumber 3 none : Cond) ∈ tb := tb_m3 (List.mem_of_getElem? (i := 70) rfl) rfl
theorem tm_604 : (.methodLink RX3 157 yX3_readRuler : Cond) ∈ tb := tb_m3 (List.mem_of_getElem? (i := 72) rfl) rfl
theorem tm_606 : (.instanceMethod yX3_readRuler : Cond) ∈ tb := tb_m3 (List.mem_of_getElem? (i := 74) rfl) rfl
theorem tm_607 : (.code yX3_readRuler cX3_readRuler 2 (some .boolean) : Cond) ∈ tb := tb_m3 (List.mem_of_getElem? (i := 75) rfl) rfl
theorem tm_608 : (.methodLink RX3 171 yX6_nameBetween : Cond) ∈ tb := tb_m3 (List.mem_of_getElem? (i := 76) rfl) rfl
theorem tm_609 : (.methodLink RX3 175 yX4_find : Cond) ∈ tb := tb_m3 (List.mem_of_getElem? (i := 77) rfl) rfl
theorem tm_610 : (.methodLink RX3 58 yX3_readCalendar : Cond) ∈ tb := tb_m3 (List.mem_of_getElem? (i := 78) rfl) rfl
theorem tm_612 : (.instanceMethod yX3_readCalendar : Cond) ∈ tb := tb_m3 (List.mem_of_getElem? (i := 80) rfl) rfl
theorem tm_613 : (.code yX3_readCalendar cX3_readCalendar 1 (some .boolean) : Cond) ∈ tb := tb_m3 (List.mem_of_getElem? (i := 81) rfl) rfl
theorem tm_617 : (.methodLink RX3 191 yX0_setCalendar : Cond) ∈ tb := tb_m3 (List.mem_of_getElem? (i := 85) rfl) rfl
theorem tm_618 : (.instanceMethod yX0_setCalendar : Cond) ∈ tb := tb_m3 (List.mem_of_getElem? (i := 86) rfl) rfl
theorem tm_619 : (.selects RX0 yX0_setCalendar yX0_setCalendar : Cond) ∈ tb := tb_m3 (List.mem_of_getElem? (i := 87) rfl) rfl
theorem tm_620 : (.code yX0_setCalendar cX0_setCalendar 2 none : Cond) ∈ tb := tb_m3 (List.mem_of_getElem? (i := 88) rfl) rfl
theorem tm_621 : (.methodLink RX3 61 yX3_readClose : Cond) ∈ tb := tb_m3 (List.mem_of_getElem? (i := 89) rfl) rfl
theorem tm_623 : (.instanceMethod yX3_readClose : Cond) ∈ tb := tb_m3 (List.mem_of_getElem? (i := 91) rfl) rfl
theorem tm_624 : (.code yX3_readClose cX3_readClose 1 (some .boolean) : Cond) ∈ tb := tb_m3 (List.mem_of_getElem? (i := 92) rfl) rfl
theorem tm_625 : (.methodLink RX3 64 yX3_joinRuler : Cond) ∈ tb := tb_m3 (List.mem_of_getElem? (i := 93) rfl) rfl
theorem tm_627 : (.instanceMethod yX3_joinRuler : Cond) ∈ tb := tb_m3 (List.mem_of_getElem? (i := 95) rfl) rfl
theorem tm_628 : (.code yX3_joinRuler cX3_joinRuler 1 (some .boolean) : Cond) ∈ tb := tb_m3 (List.mem_of_getElem? (i := 96) rfl) rfl
theorem tm_629 : (.methodLink RX3 194 yX4_calendarOf : Cond) ∈ tb := tb_m3 (List.mem_of_getElem? (i := 97) rfl) rfl
theorem tm_630 : (.instanceMethod yX4_calendarOf : Cond) ∈ tb := tb_m3 (List.mem_of_getElem? (i := 98) rfl) rfl
theorem tm_631 : (.selects RX4 yX4_calendarOf yX4_calendarOf : Cond) ∈ tb := tb_m3 (List.mem_of_getElem? (i := 99) rfl) rfl
theorem tm_632 : (.code yX4_calendarOf cX4_calendarOf 2 (some .int) : Cond) ∈ tb := tb_m3 (List.mem_of_getElem? (i := 100) rfl) rfl
theorem tm_633 : (.methodLink RX4 35 yX4_isThere : Cond) ∈ tb := tb_m3 (List.mem_of_getElem? (i := 101) rfl) rfl
theorem tm_635 : (.instanceMethod yX4_isThere : Cond) ∈ tb := tb_m3 (List.mem_of_getElem? (i := 103) rfl) rfl
theorem tm_636 : (.code yX4_isThere cX4_isThere 2 (some .boolean) : Cond) ∈ tb := tb_m3 (List.mem_of_getElem? (i := 104) rfl) rfl
theorem tm_637 : (.methodLink RX3 197 yX4_firstYearOf : Cond) ∈ tb := tb_m3 (List.mem_of_getElem? (i := 105) rfl) rfl
theorem tm_638 : (.instanceMethod yX4_firstYearOf : Cond) ∈ tb := tb_m3 (List.mem_of_getElem? (i := 106) rfl) rfl
theorem tm_639 : (.selects RX4 yX4_firstYearOf yX4_firstYearOf : Cond) ∈ tb := tb_m3 (List.mem_of_getElem? (i := 107) rfl) rfl
theorem tm_640 : (.code yX4_firstYearOf cX4_firstYearOf 2 (some .int) : Cond) ∈ tb := tb_m3 (List.mem_of_getElem? (i := 108) rfl) rfl
theorem tm_641 : (.methodLink RX3 200 yX0_setYearZero : Cond) ∈ tb := tb_m3 (List.mem_of_getElem? (i := 109) rfl) rfl
theorem tm_642 : (.instanceMethod yX0_setYearZero : Cond) ∈ tb := tb_m3 (List.mem_of_getElem? (i := 110) rfl) rfl
theorem tm_643 : (.selects RX0 yX0_setYearZero yX0_setYearZero : Cond) ∈ tb := tb_m3 (List.mem_of_getElem? (i := 111) rfl) rfl
theorem tm_644 : (.code yX0_setYearZero cX0_setYearZero 2 none : Cond) ∈ tb := tb_m3 (List.mem_of_getElem? (i := 112) rfl) rfl
theorem tm_645 : (.methodLink RX7 149 yX1_keepSpare : Cond) ∈ tb := tb_m3 (List.mem_of_getElem? (i := 113) rfl) rfl
theorem tm_646 : (.instanceMethod yX1_keepSpare : Cond) ∈ tb := tb_m3 (List.mem_of_getElem? (i := 114) rfl) rfl
theorem tm_647 : (.selects RX1 yX1_keepSpare yX1_keepSpare : Cond) ∈ tb := tb_m3 (List.mem_of_getElem? (i := 115) rfl) rfl
theorem tm_648 : (.code yX1_keepSpare cX1_keepSpare 1 (some .int) : Cond) ∈ tb := tb_m3 (List.mem_of_getElem? (i := 116) rfl) rfl
theorem tm_649 : (.arrayClass .byte : Cond) ∈ tb := tb_m3 (List.mem_of_getElem? (i := 117) rfl) rfl
theorem tm_650 : (.methodLink RL 68 yX7_fault : Cond) ∈ tb := tb_m3 (List.mem_of_getElem? (i := 118) rfl) rfl
theorem tm_651 : (.instanceMethod yX7_fault : Cond) ∈ tb := tb_m3 (List.mem_of_getElem? (i := 119) rfl) rfl
theorem tm_652 : (.selects RX7 yX7_fault yX7_fault : Cond) ∈ tb := tb_m3 (List.mem_of_getElem? (i := 120) rfl) rfl
theorem tm_653 : (.code yX7_fault cX7_fault 2 (some .int) : Cond) ∈ tb := tb_m3 (List.mem_of_getElem? (i := 121) rfl) rfl
theorem tm_654 : (.methodLink RX7 152 yX3_faultKind : Cond) ∈ tb := tb_m3 (List.mem_of_getElem? (i := 122) rfl) rfl
theorem tm_655 : (.instanceMethod yX3_faultKind : Cond) ∈ tb := tb_m3 (List.mem_of_getElem? (i := 123) rfl) rfl
theorem tm_656 : (.selects RX3 yX3_faultKind yX3_faultKind : Cond) ∈ tb := tb_m3 (List.mem_of_getElem? (i := 124) rfl) rfl
theorem tm_657 : (.code yX3_faultKind cX3_faultKind 1 (some .int) : Cond) ∈ tb := tb_m3 (List.mem_of_getElem? (i := 125) rfl) rfl
theorem tm_658 : (.methodLink RX7 155 yX3_faultPlace : Cond) ∈ tb := tb_m3 (List.mem_of_getElem? (i := 126) rfl) rfl
theorem tm_659 : (.instanceMethod yX3_faultPlace : Cond) ∈ tb := tb_m3 (List.mem_of_getElem? (i := 127) rfl) rfl
theorem tm_660 : (.selects RX3 yX3_faultPlace yX3_faultPlace : Cond) ∈ tb := tb_m3 (List.mem_of_getElem? (i := 128) rfl) rfl
theorem tm_661 : (.code yX3_faultPlace cX3_faultPlace 1 (some .int) : Cond) ∈ tb := tb_m3 (List.mem_of_getElem? (i := 129) rfl) rfl
theorem tm_662 : (.methodLink RL 72 yX7_means : Cond) ∈ tb := tb_m3 (List.mem_of_getElem? (i := 130) rfl) rfl
theorem tm_663 : (.instanceMethod yX7_means : Cond) ∈ tb := tb_m3 (List.mem_of_getElem? (i := 131) rfl) rfl
theorem tm_664 : (.selects RX7 yX7_means yX7_means : Cond) ∈ tb := tb_m3 (List.mem_of_getElem? (i := 132) rfl) rfl
theorem tm_665 : (.code yX7_means cX7_means 4 (some .int) : Cond) ∈ tb := tb_m3 (List.mem_of_getElem? (i := 133) rfl) rfl
theorem tm_666 : (.methodLink RX7 158 yX1_find : Cond) ∈ tb := tb_m3 (List.mem_of_getElem? (i := 134) rfl) rfl
theorem tm_667 : (.instanceMethod yX1_find : Cond) ∈ tb := tb_m3 (List.mem_of_getElem? (i := 135) rfl) rfl
theorem tm_668 : (.selects RX1 yX1_find yX1_find : Cond) ∈ tb := tb_m3 (List.mem_of_getElem? (i := 136) rfl) rfl
theorem tm_669 : (.code yX1_find cX1_find 2 (some (.object "EclipseHouse$Account")) : Cond) ∈ tb := tb_m3 (List.mem_of_getElem? (i := 137) rfl) rfl
theorem tm_670 : (.methodLink RX7 162 yX0_countMeant : Cond) ∈ tb := tb_m3 (List.mem_of_getElem? (i := 138) rfl) rfl
theorem tm_671 : (.instanceMethod yX0_countMeant : Cond) ∈ tb := tb_m3 (List.mem_of_getElem? (i := 139) rfl) rfl
theorem tm_672 : (.selects RX0 yX0_countMeant yX0_countMeant : Cond) ∈ tb := tb_m3 (List.mem_of_getElem? (i := 140) rfl) rfl
theorem tm_673 : (.code yX0_countMeant cX0_countMeant 6 (some .int) : Cond) ∈ tb := tb_m3 (List.mem_of_getElem? (i := 141) rfl) rfl
theorem tm_674 : (.methodLink RX0 31 yX5_listEclipses : Cond) ∈ tb := tb_m3 (List.mem_of_getElem? (i := 142) rfl) rfl
theorem tm_675 : (.methodLink RX0 37 yX0_isMeant : Cond) ∈ tb := tb_m3 (List.mem_of_getElem? (i := 143) rfl) rfl
theorem tm_677 : (.instanceMethod yX0_isMeant : Cond) ∈ tb := tb_m3 (List.mem_of_getElem? (i := 145) rfl) rfl
theorem tm_678 : (.code yX0_isMeant cX0_isMeant 5 (some .boolean) : Cond) ∈ tb := tb_m3 (List.mem_of_getElem? (i := 146) rfl) rfl
theorem tm_679 : (.methodLink RX0 45 yX0_hoursSeen : Cond) ∈ tb := tb_m3 (List.mem_of_getElem? (i := 147) rfl) rfl
theorem tm_681 : (.instanceMethod yX0_hoursSeen : Cond) ∈ tb := tb_m3 (List.mem_of_getElem? (i := 149) rfl) rfl
theorem tm_682 : (.code yX0_hoursSeen cX0_hoursSeen 5 (some .int) : Cond) ∈ tb := tb_m3 (List.mem_of_getElem? (i := 150) rfl) rfl
theorem tm_683 : (.methodLink RX0 67 yX0_isOfKind : Cond) ∈ tb := tb_m3 (List.mem_of_getElem? (i := 151) rfl) rfl
theorem tm_685 : (.instanceMethod yX0_isOfKind : Cond) ∈ tb := tb_m3 (List.mem_of_getElem? (i := 153) rfl) rfl
theorem tm_686 : (.code yX0_isOfKind cX0_isOfKind 3 (some .boolean) : Cond) ∈ tb := tb_m3 (List.mem_of_getElem? (i := 154) rfl) rfl
theorem tm_687 : (.methodLink RX0 100 yX5_kindAt : Cond) ∈ tb := tb_m3 (List.mem_of_getElem? (i := 155) rfl) rfl
theorem tm_688 : (.instanceMethod yX5_kindAt : Cond) ∈ tb := tb_m3 (List.mem_of_getElem? (i := 156) rfl) rfl
theorem tm_689 : (.selects RX5 yX5_kindAt yX5_kindAt : Cond) ∈ tb := tb_m3 (List.mem_of_getElem? (i := 157) rfl) rfl
theorem tm_690 : (.code yX5_kindAt cX5_kindAt 2 (some .int) : Cond) ∈ tb := tb_m3 (List.mem_of_getElem? (i := 158) rfl) rfl
theorem tm_691 : (.methodLink RX5 97 yX5_isListed : Cond) ∈ tb := tb_m3 (List.mem_of_getElem? (i := 159) rfl) rfl
theorem tm_693 : (.instanceMethod yX5_isListed : Cond) ∈ tb := tb_m3 (List.mem_of_getElem? (i := 161) rfl) rfl
theorem tm_694 : (.code yX5_isListed cX5_isListed 2 (some .boolean) : Cond) ∈ tb := tb_m3 (List.mem_of_getElem? (i := 162) rfl) rfl
theorem tm_695 : (.methodLink RX0 75 yX5_timeAt : Cond) ∈ tb := tb_m3 (List.mem_of_getElem? (i := 163) rfl) rfl
theorem tm_696 : (.instanceMethod yX5_timeAt : Cond) ∈ tb := tb_m3 (List.mem_of_getElem? (i := 164) rfl) rfl
theorem tm_697 : (.selects RX5 yX5_timeAt yX5_timeAt : Cond) ∈ tb := tb_m3 (List.mem_of_getElem? (i := 165) rfl) rfl
theorem tm_698 : (.code yX5_timeAt cX5_timeAt 2 (some .int) : Cond) ∈ tb := tb_m3 (List.mem_of_getElem? (i := 166) rfl) rfl
theorem tm_699 : (.methodLink RX0 82 yX0_hoursAt : Cond) ∈ tb := tb_m3 (List.mem_of_getElem? (i := 167) rfl) rfl
theorem tm_701 : (.instanceMethod yX0_hoursAt : Cond) ∈ tb := tb_m3 (List.mem_of_getElem? (i := 169) rfl) rfl
theorem tm_702 : (.code yX0_hoursAt cX0_hoursAt 3 (some .int) : Cond) ∈ tb := tb_m3 (List.mem_of_getElem? (i := 170) rfl) rfl
theorem tm_703 : (.methodLink RX0 93 yX5_minuteSeen : Cond) ∈ tb := tb_m3 (List.mem_of_getElem? (i := 171) rfl) rfl
theorem tm_704 : (.methodLink RX0 97 yJ9_floorDiv_7cf53 : Cond) ∈ tb := tb_m3 (List.mem_of_getElem? (i := 172) rfl) rfl
theorem tm_705 : (.methodLink RX0 78 yX5_isOfSunAt : Cond) ∈ tb := tb_m3 (List.mem_of_getElem? (i := 173) rfl) rfl
theorem tm_706 : (.instanceMethod yX5_isOfSunAt : Cond) ∈ tb := tb_m3 (List.mem_of_getElem? (i := 174) rfl) rfl
theorem tm_707 : (.selects RX5 yX5_isOfSunAt yX5_isOfSunAt : Cond) ∈ tb := tb_m3 (List.mem_of_getElem? (i := 175) rfl) rfl
theorem tm_708 : (.code yX5_isOfSunAt cX5_isOfSunAt 2 (some .boolean) : Cond) ∈ tb := tb_m3 (List.mem_of_getElem? (i := 176) rfl) rfl
theorem tm_709 : (.methodLink RX5 100 yX5_moonAt : Cond) ∈ tb := tb_m3 (List.mem_of_getElem? (i := 177) rfl) rfl
theorem tm_710 : (.instanceMethod yX5_moonAt : Cond) ∈ tb := tb_m3 (List.mem_of_getElem? (i := 178) rfl) rfl
theorem tm_711 : (.selects RX5 yX5_moonAt yX5_moonAt : Cond) ∈ tb := tb_m3 (List.mem_of_getElem? (i := 179) rfl) rfl
theorem tm_712 : (.code yX5_moonAt cX5_moonAt 2 (some .int) : Cond) ∈ tb := tb_m3 (List.mem_of_getElem? (i := 180) rfl) rfl
theorem tm_713 : (.methodLink RX0 85 yX0_isSeenAt : Cond) ∈ tb := tb_m3 (List.mem_of_getElem? (i := 181) rfl) rfl
theorem tm_714 : (.static yX0_isSeenAt : Cond) ∈ tb := tb_m3 (List.mem_of_getElem? (i := 182) rfl) rfl
theorem tm_715 : (.code yX0_isSeenAt cX0_isSeenAt 4 (some .boolean) : Cond) ∈ tb := tb_m3 (List.mem_of_getElem? (i := 183) rfl) rfl
theorem tm_716 : (.methodLink RX0 49 yX0_slipsAt : Cond) ∈ tb := tb_m3 (List.mem_of_getElem? (i := 184) rfl) rfl
theorem tm_718 : (.instanceMethod yX0_slipsAt : Cond) ∈ tb := tb_m3 (List.mem_of_getElem? (i := 186) rfl) rfl
theorem tm_719 : (.code yX0_slipsAt cX0_slipsAt 7 (some .int) : Cond) ∈ tb := tb_m3 (List.mem_of_getElem? (i := 187) rfl) rfl
theorem tm_720 : (.methodLink RX0 103 yX0_slipOf : Cond) ∈ tb := tb_m3 (List.mem_of_getElem? (i := 188) rfl) rfl
theorem tm_722 : (.instanceMethod yX0_slipOf : Cond) ∈ tb := tb_m3 (List.mem_of_getElem? (i := 190) rfl) rfl
theorem tm_723 : (.code yX0_slipOf cX0_slipOf 3 (some .int) : Cond) ∈ tb := tb_m3 (List.mem_of_getElem? (i := 191) rfl) rfl
theorem tm_724 : (.methodLink RX0 106 yX0_has : Cond) ∈ tb := tb_m3 (List.mem_of_getElem? (i := 192) rfl) rfl
theorem tm_725 : (.methodLink RX0 109 yX2_yearOf : Cond) ∈ tb := tb_m3 (List.mem_of_getElem? (i := 193) rfl) rfl
theorem tm_726 : (.methodLink RX0 114 yX0_canTell : Cond) ∈ tb := tb_m3 (List.mem_of_getElem? (i := 194) rfl) rfl
theorem tm_727 : (.static yX0_canTell : Cond) ∈ tb := tb_m3 (List.mem_of_getElem? (i := 195) rfl) rfl
theorem tm_728 : (.code yX0_canTell cX0_canTell 1 (some .boolean) : Cond) ∈ tb := tb_m3 (List.mem_of_getElem? (i := 196) rfl) rfl
theorem tm_729 : (.methodLink RX0 117 yX2_monthDayOf : Cond) ∈ tb := tb_m3 (List.mem_of_getElem? (i := 197) rfl) rfl
theorem tm_730 : (.methodLink RX0 120 yX2_monthIn : Cond) ∈ tb := tb_m3 (List.mem_of_getElem? (i := 198) rfl) rfl
theorem tm_731 : (.methodLink RX0 123 yX2_dayIn : Cond) ∈ tb := tb_m3 (List.mem_of_getElem? (i := 199) rfl) rfl
theorem tm_732 : (.methodLink RL 76 yX7_meant : Cond) ∈ tb := tb_m3 (List.mem_of_getElem? (i := 200) rfl) rfl
theorem tm_733 : (.instanceMethod yX7_meant : Cond) ∈ tb := tb_m3 (List.mem_of_getElem? (i := 201) rfl) rfl
theorem tm_734 : (.selects RX7 yX7_meant yX7_meant : Cond) ∈ tb := tb_m3 (List.mem_of_getElem? (i := 202) rfl) rfl
theorem tm_735 : (.code yX7_meant cX7_meant 5 (some .int) : Cond) ∈ tb := tb_m3 (List.mem_of_getElem? (i := 203) rfl) rfl
theorem tm_736 : (.methodLink RX7 168 yX0_findMeant : Cond) ∈ tb := tb_m3 (List.mem_of_getElem? (i := 204) rfl) rfl
theorem tm_737 : (.instanceMethod yX0_findMeant : Cond) ∈ tb := tb_m3 (List.mem_of_getElem? (i := 205) rfl) rfl
theorem tm_738 : (.selects RX0 yX0_findMeant yX0_findMeant : Cond) ∈ tb := tb_m3 (List.mem_of_getElem? (i := 206) rfl) rfl
theorem tm_739 : (.code yX0_findMeant cX0_findMeant 7 (some .int) : Cond) ∈ tb := tb_m3 (List.mem_of_getElem? (i := 207) rfl) rfl
theorem tm_740 : (.methodLink RX0 41 yX5_moonAt : Cond) ∈ tb := tb_m3 (List.mem_of_getElem? (i := 208) rfl) rfl
theorem tm_741 : (.methodLink RL 80 yX7_slips : Cond) ∈ tb := tb_m3 (List.mem_of_getElem? (i := 209) rfl) rfl
theorem tm_742 : (.instanceMethod yX7_slips : Cond) ∈ tb := tb_m3 (List.mem_of_getElem? (i := 210) rfl) rfl
theorem tm_743 : (.selects RX7 yX7_slips yX7_slips : Cond) ∈ tb := tb_m3 (List.mem_of_getElem? (i := 211) rfl) rfl
theorem tm_744 : (.code yX7_slips cX7_slips 4 (some .int) : Cond) ∈ tb := tb_m3 (List.mem_of_getElem? (i := 212) rfl) rfl
theorem tm_745 : (.methodLink RX7 172 yX0_leastSlips : Cond) ∈ tb := tb_m3 (List.mem_of_getElem? (i := 213) rfl) rfl
theorem tm_746 : (.instanceMethod yX0_leastSlips : Cond) ∈ tb := tb_m3 (List.mem_of_getElem? (i := 214) rfl) rfl
theorem tm_747 : (.selects RX0 yX0_leastSlips yX0_leastSlips : Cond) ∈ tb := tb_m3 (List.mem_of_getElem? (i := 215) rfl) rfl
theorem tm_748 : (.code yX0_leastSlips cX0_leastSlips 7 (some .int) : Cond) ∈ tb := tb_m3 (List.mem_of_getElem? (i := 216) rfl) rfl
theorem tm_749 : (.methodLink RX0 53 yJ9_min_7cf53 : Cond) ∈ tb := tb_m3 (List.mem_of_getElem? (i := 217) rfl) rfl
theorem tm_750 : (.methodLink RL 84 yX7_lets : Cond) ∈ tb := tb_m3 (List.mem_of_getElem? (i := 218) rfl) rfl
theorem tm_751 : (.instanceMethod yX7_lets : Cond) ∈ tb := tb_m3 (List.mem_of_getElem? (i := 219) rfl) rfl
theorem tm_752 : (.selects RX7 yX7_lets yX7_lets : Cond) ∈ tb := tb_m3 (List.mem_of_getElem? (i := 220) rfl) rfl
theorem tm_753 : (.code yX7_lets cX7_lets 3 (some .int) : Cond) ∈ tb := tb_m3 (List.mem_of_getElem? (i := 221) rfl) rfl
theorem tm_754 : (.methodLink RX7 175 yX0_slowsLet : Cond) ∈ tb := tb_m3 (List.mem_of_getElem? (i := 222) rfl) rfl
theorem tm_755 : (.instanceMethod yX0_slowsLet : Cond) ∈ tb := tb_m3 (List.mem_of_getElem? (i := 223) rfl) rfl
theorem tm_756 : (.selects RX0 yX0_slowsLet yX0_slowsLet : Cond) ∈ tb := tb_m3 (List.mem_of_getElem? (i := 224) rfl) rfl
theorem tm_757 : (.code yX0_slowsLet cX0_slowsLet 4 (some .long) : Cond) ∈ tb := tb_m3 (List.mem_of_getElem? (i := 225) rfl) rfl
theorem tm_758 : (.methodLink RX0 58 yX5_tablesVersion : Cond) ∈ tb := tb_m3 (List.mem_of_getElem? (i := 226) rfl) rfl
theorem tm_759 : (.instanceMethod yX5_tablesVersion : Cond) ∈ tb := tb_m3 (List.mem_of_getElem? (i := 227) rfl) rfl
theorem tm_760 : (.selects RX5 yX5_tablesVersion yX5_tablesVersion : Cond) ∈ tb := tb_m3 (List.mem_of_getElem? (i := 228) rfl) rfl
theorem tm_761 : (.code yX5_tablesVersion cX5_tablesVersion 1 (some .int) : Cond) ∈ tb := tb_m3 (List.mem_of_getElem? (i := 229) rfl) rfl
theorem tm_762 : (.constantLong RX0 65 (2305843009213693951) : Cond) ∈ tb := tb_m3 (List.mem_of_getElem? (i := 230) rfl) rfl
theorem tm_763 : (.methodLink RX0 71 yX0_slowsMeaning : Cond) ∈ tb := tb_m3 (List.mem_of_getElem? (i := 231) rfl) rfl
theorem tm_765 : (.instanceMethod yX0_slowsMeaning : Cond) ∈ tb := tb_m3 (List.mem_of_getElem? (i := 233) rfl) rfl
theorem tm_766 : (.code yX0_slowsMeaning cX0_slowsMeaning 9 (some .long) : Cond) ∈ tb := tb_m3 (List.mem_of_getElem? (i := 234) rfl) rfl
theorem tm_767 : (.methodLink RX0 89 yX0_slowsWithin : Cond) ∈ tb := tb_m3 (List.mem_of_getElem? (i := 235) rfl) rfl
theorem tm_769 : (.instanceMethod yX0_slowsWithin : Cond) ∈ tb := tb_m3 (List.mem_of_getElem? (i := 237) rfl) rfl
theorem tm_770 : (.code yX0_slowsWithin cX0_slowsWithin 6 (some .long) : Cond) ∈ tb := tb_m3 (List.mem_of_getElem? (i := 238) rfl) rfl
theorem tm_771 : (.methodLink RX7 179 yJ13_bitCount_95d88 : Cond) ∈ tb := tb_m3 (List.mem_of_getElem? (i := 239) rfl) rfl
theorem tm_772 : (.static yJ13_bitCount_95d88 : Cond) ∈ tb := tb_m4 (List.mem_of_getElem? (i := 0) rfl) rfl
theorem tm_773 : (.code yJ13_bitCount_95d88 cJ13_bitCount_95d88 2 (some .int) : Cond) ∈ tb := tb_m4 (List.mem_of_getElem? (i := 1) rfl) rfl
theorem tm_774 : (.constantLong RJ13 314 (6148914691236517205) : Cond) ∈ tb := tb_m4 (List.mem_of_getElem? (i := 2) rfl) rfl
theorem tm_775 : (.constantLong RJ13 316 (3689348814741910323) : Cond) ∈ tb := tb_m4 (List.mem_of_getElem? (i := 3) rfl) rfl
theorem tm_776 : (.constantLong RJ13 318 (1085102592571150095) : Cond) ∈ tb := tb_m4 (List.mem_of_getElem? (i := 4) rfl) rfl
theorem tm_777 : (.methodLink RL 88 yX7_slow : Cond) ∈ tb := tb_m4 (List.mem_of_getElem? (i := 5) rfl) rfl
theorem tm_778 : (.instanceMethod yX7_slow : Cond) ∈ tb := tb_m4 (List.mem_of_getElem? (i := 6) rfl) rfl
theorem tm_779 : (.selects RX7 yX7_slow yX7_slow : Cond) ∈ tb := tb_m4 (List.mem_of_getElem? (i := 7) rfl) rfl
theorem tm_780 : (.code yX7_slow cX7_slow 4 (some .int) : Cond) ∈ tb := tb_m4 (List.mem_of_getElem? (i := 8) rfl) rfl
theorem tm_781 : (.methodLink RX7 185 yX1_slowsOfAll : Cond) ∈ tb := tb_m4 (List.mem_of_getElem? (i := 9) rfl) rfl
theorem tm_782 : (.instanceMethod yX1_slowsOfAll : Cond) ∈ tb := tb_m4 (List.mem_of_getElem? (i := 10) rfl) rfl
theorem tm_783 : (.selects RX1 yX1_slowsOfAll yX1_slowsOfAll : Cond) ∈ tb := tb_m4 (List.mem_of_getElem? (i := 11) rfl) rfl
theorem tm_784 : (.code yX1_slowsOfAll cX1_slowsOfAll 6 (some .long) : Cond) ∈ tb := tb_m4 (List.mem_of_getElem? (i := 12) rfl) rfl
theorem tm_785 : (.constantLong RX1 30 (2305843009213693951) : Cond) ∈ tb := tb_m4 (List.mem_of_getElem? (i := 13) rfl) rfl
theorem tm_786 : (.methodLink RX1 26 yX1_find : Cond) ∈ tb := tb_m4 (List.mem_of_getElem? (i := 14) rfl) rfl
theorem tm_787 : (.methodLink RX1 32 yX0_slowsLet : Cond) ∈ tb := tb_m4 (List.mem_of_getElem? (i := 15) rfl) rfl
theorem tm_788 : (.methodLink RX7 188 yJ13_numberOfTrailingZeros_95d88 : Cond) ∈ tb := tb_m4 (List.mem_of_getElem? (i := 16) rfl) rfl
theorem tm_789 : (.static yJ13_numberOfTrailingZeros_95d88 : Cond) ∈ tb := tb_m4 (List.mem_of_getElem? (i := 17) rfl) rfl
theorem tm_790 : (.code yJ13_numberOfTrailingZeros_95d88 cJ13_numberOfTrailingZeros_95d88 3 (some .int) : Cond) ∈ tb := tb_m4 (List.mem_of_getElem? (i := 18) rfl) rfl
theorem tm_791 : (.methodLink RJ13 311 yJ6_numberOfTrailingZeros_0f7a4 : Cond) ∈ tb := tb_m4 (List.mem_of_getElem? (i := 19) rfl) rfl
theorem tm_792 : (.static yJ6_numberOfTrailingZeros_0f7a4 : Cond) ∈ tb := tb_m4 (List.mem_of_getElem? (i := 20) rfl) rfl
theorem tm_793 : (.code yJ6_numberOfTrailingZeros_0f7a4 cJ6_numberOfTrailingZeros_0f7a4 2 (some .int) : Cond) ∈ tb := tb_m4 (List.mem_of_getElem? (i := 21) rfl) rfl
theorem tm_794 : (.constant RJ6 264 (65536) : Cond) ∈ tb := tb_m4 (List.mem_of_getElem? (i := 22) rfl) rfl
theorem tm_795 : (.methodLink RX7 191 yJ13_numberOfLeadingZeros_95d88 : Cond) ∈ tb := tb_m4 (List.mem_of_getElem? (i := 23) rfl) rfl
theorem tm_796 : (.static yJ13_numberOfLeadingZeros_95d88 : Cond) ∈ tb := tb_m4 (List.mem_of_getElem? (i := 24) rfl) rfl
theorem tm_797 : (.code yJ13_numberOfLeadingZeros_95d88 cJ13_numberOfLeadingZeros_95d88 3 (some .int) : Cond) ∈ tb := tb_m4 (List.mem_of_getElem? (i := 25) rfl) rfl
theorem tm_798 : (.methodLink RJ13 308 yJ6_numberOfLeadingZeros_0f7a4 : Cond) ∈ tb := tb_m4 (List.mem_of_getElem? (i := 26) rfl) rfl
theorem tm_799 : (.static yJ6_numberOfLeadingZeros_0f7a4 : Cond) ∈ tb := tb_m4 (List.mem_of_getElem? (i := 27) rfl) rfl
theorem tm_800 : (.code yJ6_numberOfLeadingZeros_0f7a4 cJ6_numberOfLeadingZeros_0f7a4 2 (some .int) : Cond) ∈ tb := tb_m4 (List.mem_of_getElem? (i := 28) rfl) rfl
theorem tm_801 : (.methodLink RL 92 yX7_drop : Cond) ∈ tb := tb_m4 (List.mem_of_getElem? (i := 29) rfl) rfl
theorem tm_802 : (.instanceMethod yX7_drop : Cond) ∈ tb := tb_m4 (List.mem_of_getElem? (i := 30) rfl) rfl
theorem tm_803 : (.selects RX7 yX7_drop yX7_drop : Cond) ∈ tb := tb_m4 (List.mem_of_getElem? (i := 31) rfl) rfl
theorem tm_804 : (.code yX7_drop cX7_drop 2 (some .int) : Cond) ∈ tb := tb_m4 (List.mem_of_getElem? (i := 32) rfl) rfl
theorem tm_805 : (.methodLink RX7 194 yX1_remove : Cond) ∈ tb := tb_m4 (List.mem_of_getElem? (i := 33) rfl) rfl
theorem tm_806 : (.instanceMethod yX1_remove : Cond) ∈ tb := tb_m4 (List.mem_of_getElem? (i := 34) rfl) rfl
theorem tm_807 : (.selects RX1 yX1_remove yX1_remove : Cond) ∈ tb := tb_m4 (List.mem_of_getElem? (i := 35) rfl) rfl
theorem tm_808 : (.code yX1_remove cX1_remove 4 (some .int) : Cond) ∈ tb := tb_m4 (List.mem_of_getElem? (i := 36) rfl) rfl
theorem tm_809 : (.classLink RL 10 RX8 : Cond) ∈ tb := tb_m4 (List.mem_of_getElem? (i := 37) rfl) rfl
theorem tm_810 : (.instantiable RX8 50 : Cond) ∈ tb := tb_m4 (List.mem_of_getElem? (i := 38) rfl) rfl
theorem tm_811 : (.methodLink RL 12 yX8_init : Cond) ∈ tb := tb_m4 (List.mem_of_getElem? (i := 39) rfl) rfl
theorem tm_812 : (.instanceMethod yX8_init : Cond) ∈ tb := tb_m4 (List.mem_of_getElem? (i := 40) rfl) rfl
theorem tm_813 : (.code yX8_init cX8_init 1 none : Cond) ∈ tb := tb_m4 (List.mem_of_getElem? (i := 41) rfl) rfl
theorem tm_814 : (.methodLink RX8 1 objectInit : Cond) ∈ tb := tb_m4 (List.mem_of_getElem? (i := 42) rfl) rfl
theorem tm_815 : (.fieldLink RX8 7 "EclipseHouseModel" "a" "I" : Cond) ∈ tb := tb_m4 (List.mem_of_getElem? (i := 43) rfl) rfl
theorem tm_816 : (.fieldLink RX8 117 "EclipseHouseModel" "b" "I" : Cond) ∈ tb := tb_m4 (List.mem_of_getElem? (i := 44) rfl) rfl
theorem tm_817 : (.fieldLink RX8 13 "EclipseHouseModel" "f" "I" : Cond) ∈ tb := tb_m4 (List.mem_of_getElem? (i := 45) rfl) rfl
theorem tm_818 : (.fieldLink RX8 120 "EclipseHouseModel" "isNoted" "Z" : Cond) ∈ tb := tb_m4 (List.mem_of_getElem? (i := 46) rfl) rfl
theorem tm_819 : (.fieldLink RX8 174 "EclipseHouseModel" "eclipses" "I" : Cond) ∈ tb := tb_m4 (List.mem_of_getElem? (i := 47) rfl) rfl
theorem tm_820 : (.fieldLink RX8 16 "EclipseHouseModel" "eclipse" "[I" : Cond) ∈ tb := tb_m4 (List.mem_of_getElem? (i := 48) rfl) rfl
theorem tm_821 : (.fieldLink RX8 20 "EclipseHouseModel" "sort" "[I" : Cond) ∈ tb := tb_m4 (List.mem_of_getElem? (i := 49) rfl) rfl
theorem tm_822 : (.fieldLink RX8 23 "EclipseHouseModel" "minute" "[I" : Cond) ∈ tb := tb_m4 (List.mem_of_getElem? (i := 50) rfl) rfl
theorem tm_823 : (.fieldLink RX8 26 "EclipseHouseModel" "waveRow" "[I" : Cond) ∈ tb := tb_m4 (List.mem_of_getElem? (i := 51) rfl) rfl
theorem tm_824 : (.fieldLink RX8 29 "EclipseHouseModel" "leapMonths" "[I" : Cond) ∈ tb := tb_m4 (List.mem_of_getElem? (i := 52) rfl) rfl
theorem tm_825 : (.fieldLink RX8 184 "EclipseHouseModel" "dateYear" "I" : Cond) ∈ tb := tb_m4 (List.mem_of_getElem? (i := 53) rfl) rfl
theorem tm_826 : (.fieldLink RX8 191 "EclipseHouseModel" "dateMonth" "I" : Cond) ∈ tb := tb_m4 (List.mem_of_getElem? (i := 54) rfl) rfl
theorem tm_827 : (.fieldLink RX8 198 "EclipseHouseModel" "dateDay" "I" : Cond) ∈ tb := tb_m4 (List.mem_of_getElem? (i := 55) rfl) rfl
theorem tm_828 : (.fieldLink RX8 32 "EclipseHouseModel" "tape" "[I" : Cond) ∈ tb := tb_m4 (List.mem_of_getElem? (i := 56) rfl) rfl
theorem tm_829 : (.fieldLink RX8 211 "EclipseHouseModel" "taped" "I" : Cond) ∈ tb := tb_m4 (List.mem_of_getElem? (i := 57) rfl) rfl
theorem tm_830 : (.fieldLink RX8 220 "EclipseHouseModel" "at" "I" : Cond) ∈ tb := tb_m4 (List.mem_of_getElem? (i := 58) rfl) rfl
theorem tm_831 : (.fieldLink RX8 223 "EclipseHouseModel" "size" "I" : Cond) ∈ tb := tb_m4 (List.mem_of_getElem? (i := 59) rfl) rfl
theorem tm_832 : (.fieldLink RX8 233 "EclipseHouseModel" "ended" "I" : Cond) ∈ tb := tb_m4 (List.mem_of_getElem? (i := 60) rfl) rfl
theorem tm_833 : (.fieldLink RX8 214 "EclipseHouseModel" "bad" "I" : Cond) ∈ tb := tb_m4 (List.mem_of_getElem? (i := 61) rfl) rfl
theorem tm_834 : (.fieldLink RX8 217 "EclipseHouseModel" "badPlace" "I" : Cond) ∈ tb := tb_m4 (List.mem_of_getElem? (i := 62) rfl) rfl
theorem tm_835 : (.fieldLink RX8 289 "EclipseHouseModel" "fault" "I" : Cond) ∈ tb := tb_m4 (List.mem_of_getElem? (i := 63) rfl) rfl
theorem tm_836 : (.fieldLink RX8 35 "EclipseHouseModel" "faultPlace" "I" : Cond) ∈ tb := tb_m4 (List.mem_of_getElem? (i := 64) rfl) rfl
theorem tm_837 : (.fieldLink RX8 249 "EclipseHouseModel" "reigns" "I" : Cond) ∈ tb := tb_m4 (List.mem_of_getElem? (i := 65) rfl) rfl
theorem tm_838 : (.fieldLink RX8 38 "EclipseHouseModel" "reignName" "[J" : Cond) ∈ tb := tb_m4 (List.mem_of_getElem? (i := 66) rfl) rfl
theorem tm_839 : (.fieldLink RX8 42 "EclipseHouseModel" "reignCalendar" "[I" : Cond) ∈ tb := tb_m4 (List.mem_of_getElem? (i := 67) rfl) rfl
theorem tm_840 : (.fieldLink RX8 45 "EclipseHouseModel" "reignYear" "[I" : Cond) ∈ tb := tb_m4 (List.mem_of_getElem? (i := 68) rfl) rfl
theorem tm_841 : (.fieldLink RX8 282 "EclipseHouseModel" "records" "I" : Cond) ∈ tb := tb_m4 (List.mem_of_getElem? (i := 69) rfl) rfl
theorem tm_842 : (.fieldLink RX8 48 "EclipseHouseModel" "sorts" "[I" : Cond) ∈ tb := tb_m4 (List.mem_of_getElem? (i := 70) rfl) rfl
theorem tm_843 : (.fieldLink RX8 51 "EclipseHouseModel" "numbers" "[I" : Cond) ∈ tb := tb_m4 (List.mem_of_getElem? (i := 71) rfl) rfl
theorem tm_844 : (.fieldLink RX8 54 "EclipseHouseModel" "began" "[I" : Cond) ∈ tb := tb_m4 (List.mem_of_getElem? (i := 72) rfl) rfl
theorem tm_845 : (.fieldLink RX8 57 "EclipseHouseModel" "calendarOf" "[I" : Cond) ∈ tb := tb_m4 (List.mem_of_getElem? (i := 73) rfl) rfl
theorem tm_846 : (.fieldLink RX8 60 "EclipseHouseModel" "eastOf" "[I" : Cond) ∈ tb := tb_m4 (List.mem_of_getElem? (i := 74) rfl) rfl
theorem tm_847 : (.fieldLink RX8 264 "EclipseHouseModel" "namePlace" "I" : Cond) ∈ tb := tb_m4 (List.mem_of_getElem? (i := 75) rfl) rfl
theorem tm_848 : (.fieldLink RX8 267 "EclipseHouseModel" "nameReign" "I" : Cond) ∈ tb := tb_m4 (List.mem_of_getElem? (i := 76) rfl) rfl
theorem tm_849 : (.fieldLink RX8 63 "EclipseHouseModel" "sunWord" "[C" : Cond) ∈ tb := tb_m4 (List.mem_of_getElem? (i := 77) rfl) rfl
theorem tm_850 : (.fieldLink RX8 67 "EclipseHouseModel" "moonWord" "[C" : Cond) ∈ tb := tb_m4 (List.mem_of_getElem? (i := 78) rfl) rfl
theorem tm_851 : (.fieldLink RX8 70 "EclipseHouseModel" "totalWord" "[C" : Cond) ∈ tb := tb_m4 (List.mem_of_getElem? (i := 79) rfl) rfl
theorem tm_852 : (.fieldLink RX8 73 "EclipseHouseModel" "ringWord" "[C" : Cond) ∈ tb := tb_m4 (List.mem_of_getElem? (i := 80) rfl) rfl
theorem tm_853 : (.fieldLink RX8 76 "EclipseHouseModel" "partWord" "[C" : Cond) ∈ tb := tb_m4 (List.mem_of_getElem? (i := 81) rfl) rfl
theorem tm_854 : (.fieldLink RX8 79 "EclipseHouseModel" "wholeWord" "[C" : Cond) ∈ tb := tb_m4 (List.mem_of_getElem? (i := 82) rfl) rfl
theorem tm_855 : (.fieldLink RX8 82 "EclipseHouseModel" "halfWord" "[C" : Cond) ∈ tb := tb_m4 (List.mem_of_getElem? (i := 83) rfl) rfl
theorem tm_856 : (.fieldLink RX8 85 "EclipseHouseModel" "yearWord" "[C" : Cond) ∈ tb := tb_m4 (List.mem_of_getElem? (i := 84) rfl) rfl
theorem tm_857 : (.fieldLink RX8 88 "EclipseHouseModel" "monthWord" "[C" : Cond) ∈ tb := tb_m4 (List.mem_of_getElem? (i := 85) rfl) rfl
theorem tm_858 : (.fieldLink RX8 91 "EclipseHouseModel" "dayWord" "[C" : Cond) ∈ tb := tb_m4 (List.mem_of_getElem? (i := 86) rfl) rfl
theorem tm_859 : (.fieldLink RX8 94 "EclipseHouseModel" "hourWord" "[C" : Cond) ∈ tb := tb_m4 (List.mem_of_getElem? (i := 87) rfl) rfl
theorem tm_860 : (.fieldLink RX8 97 "EclipseHouseModel" "ofWord" "[C" : Cond) ∈ tb := tb_m4 (List.mem_of_getElem? (i := 88) rfl) rfl
theorem tm_861 : (.fieldLink RX8 100 "EclipseHouseModel" "inWord" "[C" : Cond) ∈ tb := tb_m4 (List.mem_of_getElem? (i := 89) rfl) rfl
theorem tm_862 : (.fieldLink RX8 103 "EclipseHouseModel" "evenWord" "[C" : Cond) ∈ tb := tb_m4 (List.mem_of_getElem? (i := 90) rfl) rfl
theorem tm_863 : (.fieldLink RX8 106 "EclipseHouseModel" "leapWord" "[C" : Cond) ∈ tb := tb_m4 (List.mem_of_getElem? (i := 91) rfl) rfl
theorem tm_864 : (.fieldLink RX8 109 "EclipseHouseModel" "moonsWord" "[C" : Cond) ∈ tb := tb_m4 (List.mem_of_getElem? (i := 92) rfl) rfl
theorem tm_865 : (.lays "EclipseHouseModel" "EclipseHouseModel" "a" "I" : Cond) ∈ tb := tb_m4 (List.mem_of_getElem? (i := 93) rfl) rfl
theorem tm_867 : (.lays "EclipseHouseModel" "EclipseHouseModel" "b" "I" : Cond) ∈ tb := tb_m4 (List.mem_of_getElem? (i := 95) rfl) rfl
theorem tm_869 : (.lays "EclipseHouseModel" "EclipseHouseModel" "f" "I" : Cond) ∈ tb := tb_m4 (List.mem_of_getElem? (i := 97) rfl) rfl
theorem tm_871 : (.lays "EclipseHouseModel" "EclipseHouseModel" "isNoted" "Z" : Cond) ∈ tb := tb_m4 (List.mem_of_getElem? (i := 99) rfl) rfl
theorem tm_873 : (.lays "EclipseHouseModel" "EclipseHouseModel" "eclipses" "I" : Cond) ∈ tb := tb_m4 (List.mem_of_getElem? (i := 101) rfl) rfl
theorem tm_875 : (.laysFinal "EclipseHouseModel" "EclipseHouseModel" "eclipse" "[I" : Cond) ∈ tb := tb_m4 (List.mem_of_getElem? (i := 103) rfl) rfl
theorem tm_877 : (.laysFinal "EclipseHouseModel" "EclipseHouseModel" "sort" "[I" : Cond) ∈ tb := tb_m4 (List.mem_of_getElem? (i := 105) rfl) rfl
theorem tm_879 : (.laysFinal "EclipseHouseModel" "EclipseHouseModel" "minute" "[I" : Cond) ∈ tb := tb_m4 (List.mem_of_getElem? (i := 107) rfl) rfl
theorem tm_881 : (.laysFinal "EclipseHouseModel" "EclipseHouseModel" "waveRow" "[I" : Cond) ∈ tb := tb_m4 (List.mem_of_getElem? (i := 109) rfl) rfl
theorem tm_883 : (.laysFinal "EclipseHouseModel" "EclipseHouseModel" "leapMonths" "[I" : Cond) ∈ tb := tb_m4 (List.mem_of_getElem? (i := 111) rfl) rfl
theorem tm_885 : (.lays "EclipseHouseModel" "EclipseHouseModel" "dateYear" "I" : Cond) ∈ tb := tb_m4 (List.mem_of_getElem? (i := 113) rfl) rfl
theorem tm_887 : (.lays "EclipseHouseModel" "EclipseHouseModel" "dateMonth" "I" : Cond) ∈ tb := tb_m4 (List.mem_of_getElem? (i := 115) rfl) rfl
theorem tm_889 : (.lays "EclipseHouseModel" "EclipseHouseModel" "dateDay" "I" : Cond) ∈ tb := tb_m4 (List.mem_of_getElem? (i := 117) rfl) rfl
theorem tm_891 : (.laysFinal "EclipseHouseModel" "EclipseHouseModel" "tape" "[I" : Cond) ∈ tb := tb_m4 (List.mem_of_getElem? (i := 119) rfl) rfl
theorem tm_893 : (.lays "EclipseHouseModel" "EclipseHouseModel" "taped" "I" : Cond) ∈ tb := tb_m4 (List.mem_of_getElem? (i := 121) rfl) rfl
theorem tm_895 : (.lays "EclipseHouseModel" "EclipseHouseModel" "at" "I" : Cond) ∈ tb := tb_m4 (List.mem_of_getElem? (i := 123) rfl) rfl
theorem tm_897 : (.lays "EclipseHouseModel" "EclipseHouseModel" "size" "I" : Cond) ∈ tb := tb_m4 (List.mem_of_getElem? (i := 125) rfl) rfl
theorem tm_899 : (.lays "EclipseHouseModel" "EclipseHouseModel" "ended" "I" : Cond) ∈ tb := tb_m4 (List.mem_of_getElem? (i := 127) rfl) rfl
theorem tm_901 : (.lays "EclipseHouseModel" "EclipseHouseModel" "bad" "I" : Cond) ∈ tb := tb_m4 (List.mem_of_getElem? (i := 129) rfl) rfl
theorem tm_903 : (.lays "EclipseHouseModel" "EclipseHouseModel" "badPlace" "I" : Cond) ∈ tb := tb_m4 (List.mem_of_getElem? (i := 131) rfl) rfl
theorem tm_905 : (.lays "EclipseHouseModel" "EclipseHouseModel" "fault" "I" : Cond) ∈ tb := tb_m4 (List.mem_of_getElem? (i := 133) rfl) rfl
theorem tm_907 : (.lays "EclipseHouseModel" "EclipseHouseModel" "faultPlace" "I" : Cond) ∈ tb := tb_m4 (List.mem_of_getElem? (i := 135) rfl) rfl
theorem tm_909 : (.lays "EclipseHouseModel" "EclipseHouseModel" "reigns" "I" : Cond) ∈ tb := tb_m4 (List.mem_of_getElem? (i := 137) rfl) rfl
theorem tm_911 : (.laysFinal "EclipseHouseModel" "EclipseHouseModel" "reignName" "[J" : Cond) ∈ tb := tb_m4 (List.mem_of_getElem? (i := 139) rfl) rfl
theorem tm_913 : (.laysFinal "EclipseHouseModel" "EclipseHouseModel" "reignCalendar" "[I" : Cond) ∈ tb := tb_m4 (List.mem_of_getElem? (i := 141) rfl) rfl
theorem tm_915 : (.laysFinal "EclipseHouseModel" "EclipseHouseModel" "reignYear" "[I" : Cond) ∈ tb := tb_m4 (List.mem_of_getElem? (i := 143) rfl) rfl
theorem tm_917 : (.lays "EclipseHouseModel" "EclipseHouseModel" "records" "I" : Cond) ∈ tb := tb_m4 (List.mem_of_getElem? (i := 145) rfl) rfl
theorem tm_919 : (.laysFinal "EclipseHouseModel" "EclipseHouseModel" "sorts" "[I" : Cond) ∈ tb := tb_m4 (List.mem_of_getElem? (i := 147) rfl) rfl
theorem tm_921 : (.laysFinal "EclipseHouseModel" "EclipseHouseModel" "numbers" "[I" : Cond) ∈ tb := tb_m4 (List.mem_of_getElem? (i := 149) rfl) rfl
theorem tm_923 : (.laysFinal "EclipseHouseModel" "EclipseHouseModel" "began" "[I" : Cond) ∈ tb := tb_m4 (List.mem_of_getElem? (i := 151) rfl) rfl
theorem tm_925 : (.laysFinal "EclipseHouseModel" "EclipseHouseModel" "calendarOf" "[I" : Cond) ∈ tb := tb_m4 (List.mem_of_getElem? (i := 153) rfl) rfl
theorem tm_927 : (.laysFinal "EclipseHouseModel" "EclipseHouseModel" "eastOf" "[I" : Cond) ∈ tb := tb_m4 (List.mem_of_getElem? (i := 155) rfl) rfl
theorem tm_929 : (.lays "EclipseHouseModel" "EclipseHouseModel" "namePlace" "I" : Cond) ∈ tb := tb_m4 (List.mem_of_getElem? (i := 157) rfl) rfl
theorem tm_931 : (.lays "EclipseHouseModel" "EclipseHouseModel" "nameReign" "I" : Cond) ∈ tb := tb_m4 (List.mem_of_getElem? (i := 159) rfl) rfl
theorem tm_933 : (.laysFinal "EclipseHouseModel" "EclipseHouseModel" "sunWord" "[C" : Cond) ∈ tb := tb_m4 (List.mem_of_getElem? (i := 161) rfl) rfl
theorem tm_935 : (.laysFinal "EclipseHouseModel" "EclipseHouseModel" "moonWord" "[C" : Cond) ∈ tb := tb_m4 (List.mem_of_getElem? (i := 163) rfl) rfl
theorem tm_937 : (.laysFinal "EclipseHouseModel" "EclipseHouseModel" "totalWord" "[C" : Cond) ∈ tb := tb_m4 (List.mem_of_getElem? (i := 165) rfl) rfl
theorem tm_939 : (.laysFinal "EclipseHouseModel" "EclipseHouseModel" "ringWord" "[C" : Cond) ∈ tb := tb_m4 (List.mem_of_getElem? (i := 167) rfl) rfl
theorem tm_941 : (.laysFinal "EclipseHouseModel" "EclipseHouseModel" "partWord" "[C" : Cond) ∈ tb := tb_m4 (List.mem_of_getElem? (i := 169) rfl) rfl
theorem tm_943 : (.laysFinal "EclipseHouseModel" "EclipseHouseModel" "wholeWord" "[C" : Cond) ∈ tb := tb_m4 (List.mem_of_getElem? (i := 171) rfl) rfl
theorem tm_945 : (.laysFinal "EclipseHouseModel" "EclipseHouseModel" "halfWord" "[C" : Cond) ∈ tb := tb_m4 (List.mem_of_getElem? (i := 173) rfl) rfl
theorem tm_947 : (.laysFinal "EclipseHouseModel" "EclipseHouseModel" "yearWord" "[C" : Cond) ∈ tb := tb_m4 (List.mem_of_getElem? (i := 175) rfl) rfl
theorem tm_949 : (.laysFinal "EclipseHouseModel" "EclipseHouseModel" "monthWord" "[C" : Cond) ∈ tb := tb_m4 (List.mem_of_getElem? (i := 177) rfl) rfl
theorem tm_951 : (.laysFinal "EclipseHouseModel" "EclipseHouseModel" "dayWord" "[C" : Cond) ∈ tb := tb_m4 (List.mem_of_getElem? (i := 179) rfl) rfl
theorem tm_953 : (.laysFinal "EclipseHouseModel" "EclipseHouseModel" "hourWord" "[C" : Cond) ∈ tb := tb_m4 (List.mem_of_getElem? (i := 181) rfl) rfl
theorem tm_955 : (.laysFinal "EclipseHouseModel" "EclipseHouseModel" "ofWord" "[C" : Cond) ∈ tb := tb_m4 (List.mem_of_getElem? (i := 183) rfl) rfl
theorem tm_957 : (.laysFinal "EclipseHouseModel" "EclipseHouseModel" "inWord" "[C" : Cond) ∈ tb := tb_m4 (List.mem_of_getElem? (i := 185) rfl) rfl
theorem tm_959 : (.laysFinal "EclipseHouseModel" "EclipseHouseModel" "evenWord" "[C" : Cond) ∈ tb := tb_m4 (List.mem_of_getElem? (i := 187) rfl) rfl
theorem tm_961 : (.laysFinal "EclipseHouseModel" "EclipseHouseModel" "leapWord" "[C" : Cond) ∈ tb := tb_m4 (List.mem_of_getElem? (i := 189) rfl) rfl
theorem tm_963 : (.laysFinal "EclipseHouseModel" "EclipseHouseModel" "moonsWord" "[C" : Cond) ∈ tb := tb_m4 (List.mem_of_getElem? (i := 191) rfl) rfl
theorem tm_966 : (.arrayClass .long : Cond) ∈ tb := tb_m4 (List.mem_of_getElem? (i := 194) rfl) rfl
theorem tm_967 : (.arrayClass .char : Cond) ∈ tb := tb_m4 (List.mem_of_getElem? (i := 195) rfl) rfl
theorem tm_968 : (.methodLink RL 17 yX8_tables : Cond) ∈ tb := tb_m4 (List.mem_of_getElem? (i := 196) rfl) rfl
theorem tm_969 : (.instanceMethod yX8_tables : Cond) ∈ tb := tb_m4 (List.mem_of_getElem? (i := 197) rfl) rfl
theorem tm_970 : (.selects RX8 yX8_tables yX8_tables : Cond) ∈ tb := tb_m4 (List.mem_of_getElem? (i := 198) rfl) rfl
theorem tm_971 : (.code yX8_tables cX8_tables 4 (some .boolean) : Cond) ∈ tb := tb_m4 (List.mem_of_getElem? (i := 199) rfl) rfl
theorem tm_972 : (.constant RX8 112 (35999) : Cond) ∈ tb := tb_m4 (List.mem_of_getElem? (i := 200) rfl) rfl
theorem tm_973 : (.methodLink RX8 113 yX8_isIn : Cond) ∈ tb := tb_m4 (List.mem_of_getElem? (i := 201) rfl) rfl
theorem tm_974 : (.static yX8_isIn : Cond) ∈ tb := tb_m4 (List.mem_of_getElem? (i := 202) rfl) rfl
theorem tm_975 : (.code yX8_isIn cX8_isIn 3 (some .boolean) : Cond) ∈ tb := tb_m4 (List.mem_of_getElem? (i := 203) rfl) rfl
theorem tm_976 : (.methodLink RL 22 yX8_moon : Cond) ∈ tb := tb_m4 (List.mem_of_getElem? (i := 204) rfl) rfl
theorem tm_977 : (.instanceMethod yX8_moon : Cond) ∈ tb := tb_m4 (List.mem_of_getElem? (i := 205) rfl) rfl
theorem tm_978 : (.selects RX8 yX8_moon yX8_moon : Cond) ∈ tb := tb_m4 (List.mem_of_getElem? (i := 206) rfl) rfl
theorem tm_979 : (.code yX8_moon cX8_moon 3 (some .int) : Cond) ∈ tb := tb_m4 (List.mem_of_getElem? (i := 207) rfl) rfl
theorem tm_980 : (.methodLink RX8 164 yX8_isMoon : Cond) ∈ tb := tb_m4 (List.mem_of_getElem? (i := 208) rfl) rfl
theorem tm_981 : (.static yX8_isMoon : Cond) ∈ tb := tb_m4 (List.mem_of_getElem? (i := 209) rfl) rfl
theorem tm_982 : (.code yX8_isMoon cX8_isMoon 1 (some .boolean) : Cond) ∈ tb := tb_m4 (List.mem_of_getElem? (i := 210) rfl) rfl
theorem tm_983 : (.methodLink RX8 144 yX8_moonAt : Cond) ∈ tb := tb_m4 (List.mem_of_getElem? (i := 211) rfl) rfl
theorem tm_985 : (.instanceMethod yX8_moonAt : Cond) ∈ tb := tb_m4 (List.mem_of_getElem? (i := 213) rfl) rfl
theorem tm_986 : (.code yX8_moonAt cX8_moonAt 2 (some .int) : Cond) ∈ tb := tb_m4 (List.mem_of_getElem? (i := 214) rfl) rfl
theorem tm_987 : (.constantLong RX8 124 (19291) : Cond) ∈ tb := tb_m4 (List.mem_of_getElem? (i := 215) rfl) rfl
theorem tm_988 : (.constantLong RX8 126 (36000) : Cond) ∈ tb := tb_m4 (List.mem_of_getElem? (i := 216) rfl) rfl
theorem tm_989 : (.methodLink RX8 158 yX8_sunAt : Cond) ∈ tb := tb_m4 (List.mem_of_getElem? (i := 217) rfl) rfl
theorem tm_991 : (.instanceMethod yX8_sunAt : Cond) ∈ tb := tb_m4 (List.mem_of_getElem? (i := 219) rfl) rfl
theorem tm_992 : (.code yX8_sunAt cX8_sunAt 2 (some .int) : Cond) ∈ tb := tb_m4 (List.mem_of_getElem? (i := 220) rfl) rfl
theorem tm_993 : (.constantLong RX8 128 (1455) : Cond) ∈ tb := tb_m4 (List.mem_of_getElem? (i := 221) rfl) rfl
theorem tm_994 : (.methodLink RX8 161 yX8_nodeAt : Cond) ∈ tb := tb_m4 (List.mem_of_getElem? (i := 222) rfl) rfl
theorem tm_996 : (.instanceMethod yX8_nodeAt : Cond) ∈ tb := tb_m4 (List.mem_of_getElem? (i := 224) rfl) rfl
theorem tm_997 : (.code yX8_nodeAt cX8_nodeAt 2 (some .int) : Cond) ∈ tb := tb_m4 (List.mem_of_getElem? (i := 225) rfl) rfl
theorem tm_998 : (.constantLong RX8 130 (1953353) : Cond) ∈ tb := tb_m4 (List.mem_of_getElem? (i := 226) rfl) rfl
theorem tm_999 : (.constantLong RX8 132 (100) : Cond) ∈ tb := tb_m4 (List.mem_of_getElem? (i := 227) rfl) rfl
theorem tm_1000 : (.methodLink RX8 168 yX8_timeOf : Cond) ∈ tb := tb_m4 (List.mem_of_getElem? (i := 228) rfl) rfl
theorem tm_1002 : (.instanceMethod yX8_timeOf : Cond) ∈ tb := tb_m4 (List.mem_of_getElem? (i := 230) rfl) rfl
theorem tm_1003 : (.code yX8_timeOf cX8_timeOf 2 (some .int) : Cond) ∈ tb := tb_m4 (List.mem_of_getElem? (i := 231) rfl) rfl
theorem tm_1004 : (.constantLong RX8 138 (212620236) : Cond) ∈ tb := tb_m4 (List.mem_of_getElem? (i := 232) rfl) rfl
theorem tm_1005 : (.constantLong RX8 140 (10000) : Cond) ∈ tb := tb_m4 (List.mem_of_getElem? (i := 233) rfl) rfl
theorem tm_1006 : (.constantLong RX8 142 (586) : Cond) ∈ tb := tb_m4 (List.mem_of_getElem? (i := 234) rfl) rfl
theorem tm_1007 : (.methodLink RX8 147 yX8_wave : Cond) ∈ tb := tb_m4 (List.mem_of_getElem? (i := 235) rfl) rfl
theorem tm_1009 : (.instanceMethod yX8_wave : Cond) ∈ tb := tb_m4 (List.mem_of_getElem? (i := 237) rfl) rfl
theorem tm_1010 : (.code yX8_wave cX8_wave 4 (some .int) : Cond) ∈ tb := tb_m4 (List.mem_of_getElem? (i := 238) rfl) rfl
theorem tm_1011 : (.methodLink RX8 134 yX8_quarter : Cond) ∈ tb := tb_m4 (List.mem_of_getElem? (i := 239) rfl) rfl
theorem tm_1013 : (.instanceMethod yX8_quarter : Cond) ∈ tb := tb_m5 (List.mem_of_getElem? (i := 1) rfl) rfl
theorem tm_1014 : (.code yX8_quarter cX8_quarter 3 (some .int) : Cond) ∈ tb := tb_m5 (List.mem_of_getElem? (i := 2) rfl) rfl
theorem tm_1015 : (.constantLong RX8 150 (1000) : Cond) ∈ tb := tb_m5 (List.mem_of_getElem? (i := 3) rfl) rfl
theorem tm_1016 : (.methodLink RX8 152 yX8_floor : Cond) ∈ tb := tb_m5 (List.mem_of_getElem? (i := 4) rfl) rfl
theorem tm_1017 : (.static yX8_floor : Cond) ∈ tb := tb_m5 (List.mem_of_getElem? (i := 5) rfl) rfl
theorem tm_1018 : (.code yX8_floor cX8_floor 6 (some .long) : Cond) ∈ tb := tb_m5 (List.mem_of_getElem? (i := 6) rfl) rfl
theorem tm_1019 : (.constantLong RX8 156 (248) : Cond) ∈ tb := tb_m5 (List.mem_of_getElem? (i := 7) rfl) rfl
theorem tm_1020 : (.methodLink RX8 171 yX8_sortOf : Cond) ∈ tb := tb_m5 (List.mem_of_getElem? (i := 8) rfl) rfl
theorem tm_1022 : (.instanceMethod yX8_sortOf : Cond) ∈ tb := tb_m5 (List.mem_of_getElem? (i := 10) rfl) rfl
theorem tm_1023 : (.code yX8_sortOf cX8_sortOf 5 (some .int) : Cond) ∈ tb := tb_m5 (List.mem_of_getElem? (i := 11) rfl) rfl
theorem tm_1024 : (.methodLink RL 27 yX8_next : Cond) ∈ tb := tb_m5 (List.mem_of_getElem? (i := 12) rfl) rfl
theorem tm_1025 : (.instanceMethod yX8_next : Cond) ∈ tb := tb_m5 (List.mem_of_getElem? (i := 13) rfl) rfl
theorem tm_1026 : (.selects RX8 yX8_next yX8_next : Cond) ∈ tb := tb_m5 (List.mem_of_getElem? (i := 14) rfl) rfl
theorem tm_1027 : (.code yX8_next cX8_next 6 (some .int) : Cond) ∈ tb := tb_m5 (List.mem_of_getElem? (i := 15) rfl) rfl
theorem tm_1028 : (.methodLink RX8 177 yX8_notes : Cond) ∈ tb := tb_m5 (List.mem_of_getElem? (i := 16) rfl) rfl
theorem tm_1030 : (.instanceMethod yX8_notes : Cond) ∈ tb := tb_m5 (List.mem_of_getElem? (i := 18) rfl) rfl
theorem tm_1031 : (.code yX8_notes cX8_notes 3 none : Cond) ∈ tb := tb_m5 (List.mem_of_getElem? (i := 19) rfl) rfl
theorem tm_1032 : (.methodLink RL 35 yX8_many : Cond) ∈ tb := tb_m5 (List.mem_of_getElem? (i := 20) rfl) rfl
theorem tm_1033 : (.instanceMethod yX8_many : Cond) ∈ tb := tb_m5 (List.mem_of_getElem? (i := 21) rfl) rfl
theorem tm_1034 : (.selects RX8 yX8_many yX8_many : Cond) ∈ tb := tb_m5 (List.mem_of_getElem? (i := 22) rfl) rfl
theorem tm_1035 : (.code yX8_many cX8_many 6 (some .int) : Cond) ∈ tb := tb_m5 (List.mem_of_getElem? (i := 23) rfl) rfl
theorem tm_1036 : (.methodLink RL 31 yX8_round : Cond) ∈ tb := tb_m5 (List.mem_of_getElem? (i := 24) rfl) rfl
theorem tm_1037 : (.instanceMethod yX8_round : Cond) ∈ tb := tb_m5 (List.mem_of_getElem? (i := 25) rfl) rfl
theorem tm_1038 : (.selects RX8 yX8_round yX8_round : Cond) ∈ tb := tb_m5 (List.mem_of_getElem? (i := 26) rfl) rfl
theorem tm_1039 : (.code yX8_round cX8_round 5 (some .int) : Cond) ∈ tb := tb_m5 (List.mem_of_getElem? (i := 27) rfl) rfl
theorem tm_1040 : (.methodLink RL 39 yX8_date : Cond) ∈ tb := tb_m5 (List.mem_of_getElem? (i := 28) rfl) rfl
theorem tm_1041 : (.instanceMethod yX8_date : Cond) ∈ tb := tb_m5 (List.mem_of_getElem? (i := 29) rfl) rfl
theorem tm_1042 : (.selects RX8 yX8_date yX8_date : Cond) ∈ tb := tb_m5 (List.mem_of_getElem? (i := 30) rfl) rfl
theorem tm_1043 : (.code yX8_date cX8_date 4 (some .int) : Cond) ∈ tb := tb_m5 (List.mem_of_getElem? (i := 31) rfl) rfl
theorem tm_1044 : (.constant RX8 201 (400000) : Cond) ∈ tb := tb_m5 (List.mem_of_getElem? (i := 32) rfl) rfl
theorem tm_1045 : (.methodLink RX8 202 yX8_dates : Cond) ∈ tb := tb_m5 (List.mem_of_getElem? (i := 33) rfl) rfl
theorem tm_1047 : (.instanceMethod yX8_dates : Cond) ∈ tb := tb_m5 (List.mem_of_getElem? (i := 35) rfl) rfl
theorem tm_1048 : (.code yX8_dates cX8_dates 6 none : Cond) ∈ tb := tb_m5 (List.mem_of_getElem? (i := 36) rfl) rfl
theorem tm_1049 : (.methodLink RX8 187 yX8_yearDays : Cond) ∈ tb := tb_m5 (List.mem_of_getElem? (i := 37) rfl) rfl
theorem tm_1050 : (.static yX8_yearDays : Cond) ∈ tb := tb_m5 (List.mem_of_getElem? (i := 38) rfl) rfl
theorem tm_1051 : (.code yX8_yearDays cX8_yearDays 2 (some .int) : Cond) ∈ tb := tb_m5 (List.mem_of_getElem? (i := 39) rfl) rfl
theorem tm_1052 : (.methodLink RX8 180 yX8_isLong : Cond) ∈ tb := tb_m5 (List.mem_of_getElem? (i := 40) rfl) rfl
theorem tm_1053 : (.static yX8_isLong : Cond) ∈ tb := tb_m5 (List.mem_of_getElem? (i := 41) rfl) rfl
theorem tm_1054 : (.code yX8_isLong cX8_isLong 2 (some .boolean) : Cond) ∈ tb := tb_m5 (List.mem_of_getElem? (i := 42) rfl) rfl
theorem tm_1055 : (.methodLink RX8 194 yX8_monthDays : Cond) ∈ tb := tb_m5 (List.mem_of_getElem? (i := 43) rfl) rfl
theorem tm_1057 : (.instanceMethod yX8_monthDays : Cond) ∈ tb := tb_m5 (List.mem_of_getElem? (i := 45) rfl) rfl
theorem tm_1058 : (.code yX8_monthDays cX8_monthDays 4 (some .int) : Cond) ∈ tb := tb_m5 (List.mem_of_getElem? (i := 46) rfl) rfl
theorem tm_1059 : (.methodLink RL 44 yX8_day : Cond) ∈ tb := tb_m5 (List.mem_of_getElem? (i := 47) rfl) rfl
theorem tm_1060 : (.instanceMethod yX8_day : Cond) ∈ tb := tb_m5 (List.mem_of_getElem? (i := 48) rfl) rfl
theorem tm_1061 : (.selects RX8 yX8_day yX8_day : Cond) ∈ tb := tb_m5 (List.mem_of_getElem? (i := 49) rfl) rfl
theorem tm_1062 : (.code yX8_day cX8_day 7 (some .int) : Cond) ∈ tb := tb_m5 (List.mem_of_getElem? (i := 50) rfl) rfl
theorem tm_1063 : (.methodLink RL 48 yX8_seen : Cond) ∈ tb := tb_m5 (List.mem_of_getElem? (i := 51) rfl) rfl
theorem tm_1064 : (.instanceMethod yX8_seen : Cond) ∈ tb := tb_m5 (List.mem_of_getElem? (i := 52) rfl) rfl
theorem tm_1065 : (.selects RX8 yX8_seen yX8_seen : Cond) ∈ tb := tb_m5 (List.mem_of_getElem? (i := 53) rfl) rfl
theorem tm_1066 : (.code yX8_seen cX8_seen 4 (some .int) : Cond) ∈ tb := tb_m5 (List.mem_of_getElem? (i := 54) rfl) rfl
theorem tm_1067 : (.methodLink RX8 207 yX8_seenAt : Cond) ∈ tb := tb_m5 (List.mem_of_getElem? (i := 55) rfl) rfl
theorem tm_1068 : (.static yX8_seenAt : Cond) ∈ tb := tb_m5 (List.mem_of_getElem? (i := 56) rfl) rfl
theorem tm_1069 : (.code yX8_seenAt cX8_seenAt 4 (some .int) : Cond) ∈ tb := tb_m5 (List.mem_of_getElem? (i := 57) rfl) rfl
theorem tm_1070 : (.constant RX8 206 (525600) : Cond) ∈ tb := tb_m5 (List.mem_of_getElem? (i := 58) rfl) rfl
theorem tm_1071 : (.constant RX8 210 (-1000000) : Cond) ∈ tb := tb_m5 (List.mem_of_getElem? (i := 59) rfl) rfl
theorem tm_1072 : (.methodLink RL 53 yX8_feed : Cond) ∈ tb := tb_m5 (List.mem_of_getElem? (i := 60) rfl) rfl
theorem tm_1073 : (.instanceMethod yX8_feed : Cond) ∈ tb := tb_m5 (List.mem_of_getElem? (i := 61) rfl) rfl
theorem tm_1074 : (.selects RX8 yX8_feed yX8_feed : Cond) ∈ tb := tb_m5 (List.mem_of_getElem? (i := 62) rfl) rfl
theorem tm_1075 : (.code yX8_feed cX8_feed 8 (some .int) : Cond) ∈ tb := tb_m5 (List.mem_of_getElem? (i := 63) rfl) rfl
theorem tm_1076 : (.methodLink RL 58 yX8_end : Cond) ∈ tb := tb_m5 (List.mem_of_getElem? (i := 64) rfl) rfl
theorem tm_1077 : (.instanceMethod yX8_end : Cond) ∈ tb := tb_m5 (List.mem_of_getElem? (i := 65) rfl) rfl
theorem tm_1078 : (.selects RX8 yX8_end yX8_end : Cond) ∈ tb := tb_m5 (List.mem_of_getElem? (i := 66) rfl) rfl
theorem tm_1079 : (.code yX8_end cX8_end 2 (some .boolean) : Cond) ∈ tb := tb_m5 (List.mem_of_getElem? (i := 67) rfl) rfl
theorem tm_1080 : (.methodLink RL 62 yX8_reign : Cond) ∈ tb := tb_m5 (List.mem_of_getElem? (i := 68) rfl) rfl
theorem tm_1081 : (.instanceMethod yX8_reign : Cond) ∈ tb := tb_m5 (List.mem_of_getElem? (i := 69) rfl) rfl
theorem tm_1082 : (.selects RX8 yX8_reign yX8_reign : Cond) ∈ tb := tb_m5 (List.mem_of_getElem? (i := 70) rfl) rfl
theorem tm_1083 : (.code yX8_reign cX8_reign 6 (some .int) : Cond) ∈ tb := tb_m5 (List.mem_of_getElem? (i := 71) rfl) rfl
theorem tm_1084 : (.methodLink RX8 226 yX8_isLetter : Cond) ∈ tb := tb_m5 (List.mem_of_getElem? (i := 72) rfl) rfl
theorem tm_1085 : (.static yX8_isLetter : Cond) ∈ tb := tb_m5 (List.mem_of_getElem? (i := 73) rfl) rfl
theorem tm_1086 : (.code yX8_isLetter cX8_isLetter 1 (some .boolean) : Cond) ∈ tb := tb_m5 (List.mem_of_getElem? (i := 74) rfl) rfl
theorem tm_1087 : (.methodLink RX8 252 yX8_packed : Cond) ∈ tb := tb_m5 (List.mem_of_getElem? (i := 75) rfl) rfl
theorem tm_1089 : (.instanceMethod yX8_packed : Cond) ∈ tb := tb_m5 (List.mem_of_getElem? (i := 77) rfl) rfl
theorem tm_1090 : (.code yX8_packed cX8_packed 6 (some .long) : Cond) ∈ tb := tb_m5 (List.mem_of_getElem? (i := 78) rfl) rfl
theorem tm_1091 : (.constantLong RX8 245 (27) : Cond) ∈ tb := tb_m5 (List.mem_of_getElem? (i := 79) rfl) rfl
theorem tm_1092 : (.constantLong RX8 247 (97) : Cond) ∈ tb := tb_m5 (List.mem_of_getElem? (i := 80) rfl) rfl
theorem tm_1093 : (.methodLink RX8 256 yX8_reignOf : Cond) ∈ tb := tb_m5 (List.mem_of_getElem? (i := 81) rfl) rfl
theorem tm_1095 : (.instanceMethod yX8_reignOf : Cond) ∈ tb := tb_m5 (List.mem_of_getElem? (i := 83) rfl) rfl
theorem tm_1096 : (.code yX8_reignOf cX8_reignOf 4 (some .int) : Cond) ∈ tb := tb_m5 (List.mem_of_getElem? (i := 84) rfl) rfl
theorem tm_1097 : (.methodLink RL 67 yX8_record : Cond) ∈ tb := tb_m5 (List.mem_of_getElem? (i := 85) rfl) rfl
theorem tm_1098 : (.instanceMethod yX8_record : Cond) ∈ tb := tb_m5 (List.mem_of_getElem? (i := 86) rfl) rfl
theorem tm_1099 : (.selects RX8 yX8_record yX8_record : Cond) ∈ tb := tb_m5 (List.mem_of_getElem? (i := 87) rfl) rfl
theorem tm_1100 : (.code yX8_record cX8_record 2 (some .int) : Cond) ∈ tb := tb_m5 (List.mem_of_getElem? (i := 88) rfl) rfl
theorem tm_1101 : (.methodLink RX8 285 yX8_reads : Cond) ∈ tb := tb_m5 (List.mem_of_getElem? (i := 89) rfl) rfl
theorem tm_1103 : (.instanceMethod yX8_reads : Cond) ∈ tb := tb_m5 (List.mem_of_getElem? (i := 91) rfl) rfl
theorem tm_1104 : (.code yX8_reads cX8_reads 5 none : Cond) ∈ tb := tb_m5 (List.mem_of_getElem? (i := 92) rfl) rfl
theorem tm_1105 : (.methodLink RX8 270 yX8_whats : Cond) ∈ tb := tb_m5 (List.mem_of_getElem? (i := 93) rfl) rfl
theorem tm_1107 : (.instanceMethod yX8_whats : Cond) ∈ tb := tb_m5 (List.mem_of_getElem? (i := 95) rfl) rfl
theorem tm_1108 : (.code yX8_whats cX8_whats 1 (some .int) : Cond) ∈ tb := tb_m5 (List.mem_of_getElem? (i := 96) rfl) rfl
theorem tm_1109 : (.methodLink RX8 260 yX8_takes : Cond) ∈ tb := tb_m5 (List.mem_of_getElem? (i := 97) rfl) rfl
theorem tm_1111 : (.instanceMethod yX8_takes : Cond) ∈ tb := tb_m5 (List.mem_of_getElem? (i := 99) rfl) rfl
theorem tm_1112 : (.code yX8_takes cX8_takes 3 (some .boolean) : Cond) ∈ tb := tb_m5 (List.mem_of_getElem? (i := 100) rfl) rfl
theorem tm_1113 : (.methodLink RX8 229 yX8_next_ : Cond) ∈ tb := tb_m5 (List.mem_of_getElem? (i := 101) rfl) rfl
theorem tm_1115 : (.instanceMethod yX8_next_ : Cond) ∈ tb := tb_m5 (List.mem_of_getElem? (i := 103) rfl) rfl
theorem tm_1116 : (.code yX8_next_ cX8_next_ 1 (some .int) : Cond) ∈ tb := tb_m5 (List.mem_of_getElem? (i := 104) rfl) rfl
theorem tm_1117 : (.methodLink RX8 236 yX8_wordEnd : Cond) ∈ tb := tb_m5 (List.mem_of_getElem? (i := 105) rfl) rfl
theorem tm_1119 : (.instanceMethod yX8_wordEnd : Cond) ∈ tb := tb_m5 (List.mem_of_getElem? (i := 107) rfl) rfl
theorem tm_1120 : (.code yX8_wordEnd cX8_wordEnd 2 (some .int) : Cond) ∈ tb := tb_m5 (List.mem_of_getElem? (i := 108) rfl) rfl
theorem tm_1121 : (.methodLink RX8 242 yX8_fail : Cond) ∈ tb := tb_m5 (List.mem_of_getElem? (i := 109) rfl) rfl
theorem tm_1123 : (.instanceMethod yX8_fail : Cond) ∈ tb := tb_m5 (List.mem_of_getElem? (i := 111) rfl) rfl
theorem tm_1124 : (.code yX8_fail cX8_fail 3 none : Cond) ∈ tb := tb_m5 (List.mem_of_getElem? (i := 112) rfl) rfl
theorem tm_1125 : (.methodLink RX8 273 yX8_partOf : Cond) ∈ tb := tb_m5 (List.mem_of_getElem? (i := 113) rfl) rfl
theorem tm_1127 : (.instanceMethod yX8_partOf : Cond) ∈ tb := tb_m5 (List.mem_of_getElem? (i := 115) rfl) rfl
theorem tm_1128 : (.code yX8_partOf cX8_partOf 1 (some .int) : Cond) ∈ tb := tb_m5 (List.mem_of_getElem? (i := 116) rfl) rfl
theorem tm_1129 : (.methodLink RX8 276 yX8_number : Cond) ∈ tb := tb_m5 (List.mem_of_getElem? (i := 117) rfl) rfl
theorem tm_1131 : (.instanceMethod yX8_number : Cond) ∈ tb := tb_m5 (List.mem_of_getElem? (i := 119) rfl) rfl
theorem tm_1132 : (.code yX8_number cX8_number 5 (some .int) : Cond) ∈ tb := tb_m5 (List.mem_of_getElem? (i := 120) rfl) rfl
theorem tm_1133 : (.methodLink RX8 239 yX8_isDigit : Cond) ∈ tb := tb_m5 (List.mem_of_getElem? (i := 121) rfl) rfl
theorem tm_1134 : (.static yX8_isDigit : Cond) ∈ tb := tb_m5 (List.mem_of_getElem? (i := 122) rfl) rfl
theorem tm_1135 : (.code yX8_isDigit cX8_isDigit 1 (some .boolean) : Cond) ∈ tb := tb_m5 (List.mem_of_getElem? (i := 123) rfl) rfl
theorem tm_1136 : (.methodLink RX8 279 yX8_name : Cond) ∈ tb := tb_m5 (List.mem_of_getElem? (i := 124) rfl) rfl
theorem tm_1138 : (.instanceMethod yX8_name : Cond) ∈ tb := tb_m5 (List.mem_of_getElem? (i := 126) rfl) rfl
theorem tm_1139 : (.code yX8_name cX8_name 3 none : Cond) ∈ tb := tb_m5 (List.mem_of_getElem? (i := 127) rfl) rfl
theorem tm_1140 : (.methodLink RL 71 yX8_fault : Cond) ∈ tb := tb_m5 (List.mem_of_getElem? (i := 128) rfl) rfl
theorem tm_1141 : (.instanceMethod yX8_fault : Cond) ∈ tb := tb_m5 (List.mem_of_getElem? (i := 129) rfl) rfl
theorem tm_1142 : (.selects RX8 yX8_fault yX8_fault : Cond) ∈ tb := tb_m5 (List.mem_of_getElem? (i := 130) rfl) rfl
theorem tm_1143 : (.code yX8_fault cX8_fault 2 (some .int) : Cond) ∈ tb := tb_m5 (List.mem_of_getElem? (i := 131) rfl) rfl
theorem tm_1144 : (.methodLink RL 75 yX8_means : Cond) ∈ tb := tb_m5 (List.mem_of_getElem? (i := 132) rfl) rfl
theorem tm_1145 : (.instanceMethod yX8_means : Cond) ∈ tb := tb_m5 (List.mem_of_getElem? (i := 133) rfl) rfl
theorem tm_1146 : (.selects RX8 yX8_means yX8_means : Cond) ∈ tb := tb_m5 (List.mem_of_getElem? (i := 134) rfl) rfl
theorem tm_1147 : (.code yX8_means cX8_means 5 (some .int) : Cond) ∈ tb := tb_m5 (List.mem_of_getElem? (i := 135) rfl) rfl
theorem tm_1148 : (.methodLink RX8 295 yX8_isAsked : Cond) ∈ tb := tb_m5 (List.mem_of_getElem? (i := 136) rfl) rfl
theorem tm_1150 : (.instanceMethod yX8_isAsked : Cond) ∈ tb := tb_m5 (List.mem_of_getElem? (i := 138) rfl) rfl
theorem tm_1151 : (.code yX8_isAsked cX8_isAsked 3 (some .boolean) : Cond) ∈ tb := tb_m5 (List.mem_of_getElem? (i := 139) rfl) rfl
theorem tm_1152 : (.methodLink RX8 292 yX8_isRecord : Cond) ∈ tb := tb_m5 (List.mem_of_getElem? (i := 140) rfl) rfl
theorem tm_1154 : (.instanceMethod yX8_isRecord : Cond) ∈ tb := tb_m5 (List.mem_of_getElem? (i := 142) rfl) rfl
theorem tm_1155 : (.code yX8_isRecord cX8_isRecord 2 (some .boolean) : Cond) ∈ tb := tb_m5 (List.mem_of_getElem? (i := 143) rfl) rfl
theorem tm_1156 : (.methodLink RX8 298 yX8_differs : Cond) ∈ tb := tb_m5 (List.mem_of_getElem? (i := 144) rfl) rfl
theorem tm_1158 : (.instanceMethod yX8_differs : Cond) ∈ tb := tb_m5 (List.mem_of_getElem? (i := 146) rfl) rfl
theorem tm_1159 : (.code yX8_differs cX8_differs 11 (some .int) : Cond) ∈ tb := tb_m5 (List.mem_of_getElem? (i := 147) rfl) rfl
theorem tm_1160 : (.methodLink RL 79 yX8_meant : Cond) ∈ tb := tb_m5 (List.mem_of_getElem? (i := 148) rfl) rfl
theorem tm_1161 : (.instanceMethod yX8_meant : Cond) ∈ tb := tb_m5 (List.mem_of_getElem? (i := 149) rfl) rfl
theorem tm_1162 : (.selects RX8 yX8_meant yX8_meant : Cond) ∈ tb := tb_m5 (List.mem_of_getElem? (i := 150) rfl) rfl
theorem tm_1163 : (.code yX8_meant cX8_meant 6 (some .int) : Cond) ∈ tb := tb_m5 (List.mem_of_getElem? (i := 151) rfl) rfl
theorem tm_1164 : (.methodLink RL 83 yX8_slips : Cond) ∈ tb := tb_m5 (List.mem_of_getElem? (i := 152) rfl) rfl
theorem tm_1165 : (.instanceMethod yX8_slips : Cond) ∈ tb := tb_m5 (List.mem_of_getElem? (i := 153) rfl) rfl
theorem tm_1166 : (.selects RX8 yX8_slips yX8_slips : Cond) ∈ tb := tb_m5 (List.mem_of_getElem? (i := 154) rfl) rfl
theorem tm_1167 : (.code yX8_slips cX8_slips 6 (some .int) : Cond) ∈ tb := tb_m5 (List.mem_of_getElem? (i := 155) rfl) rfl
theorem tm_1168 : (.methodLink RL 87 yX8_lets : Cond) ∈ tb := tb_m5 (List.mem_of_getElem? (i := 156) rfl) rfl
theorem tm_1169 : (.instanceMethod yX8_lets : Cond) ∈ tb := tb_m5 (List.mem_of_getElem? (i := 157) rfl) rfl
theorem tm_1170 : (.selects RX8 yX8_lets yX8_lets : Cond) ∈ tb := tb_m5 (List.mem_of_getElem? (i := 158) rfl) rfl
theorem tm_1171 : (.code yX8_lets cX8_lets 4 (some .int) : Cond) ∈ tb := tb_m5 (List.mem_of_getElem? (i := 159) rfl) rfl
theorem tm_1172 : (.methodLink RX8 301 yX8_isLet : Cond) ∈ tb := tb_m5 (List.mem_of_getElem? (i := 160) rfl) rfl
theorem tm_1174 : (.instanceMethod yX8_isLet : Cond) ∈ tb := tb_m5 (List.mem_of_getElem? (i := 162) rfl) rfl
theorem tm_1175 : (.code yX8_isLet cX8_isLet 4 (some .boolean) : Cond) ∈ tb := tb_m5 (List.mem_of_getElem? (i := 163) rfl) rfl
theorem tm_1176 : (.methodLink RL 91 yX8_slow : Cond) ∈ tb := tb_m5 (List.mem_of_getElem? (i := 164) rfl) rfl
theorem tm_1177 : (.instanceMethod yX8_slow : Cond) ∈ tb := tb_m5 (List.mem_of_getElem? (i := 165) rfl) rfl
theorem tm_1178 : (.selects RX8 yX8_slow yX8_slow : Cond) ∈ tb := tb_m5 (List.mem_of_getElem? (i := 166) rfl) rfl
theorem tm_1179 : (.code yX8_slow cX8_slow 8 (some .int) : Cond) ∈ tb := tb_m5 (List.mem_of_getElem? (i := 167) rfl) rfl
theorem tm_1180 : (.methodLink RL 95 yX8_drop : Cond) ∈ tb := tb_m5 (List.mem_of_getElem? (i := 168) rfl) rfl
theorem tm_1181 : (.instanceMethod yX8_drop : Cond) ∈ tb := tb_m5 (List.mem_of_getElem? (i := 169) rfl) rfl
theorem tm_1182 : (.selects RX8 yX8_drop yX8_drop : Cond) ∈ tb := tb_m5 (List.mem_of_getElem? (i := 170) rfl) rfl
theorem tm_1183 : (.code yX8_drop cX8_drop 4 (some .int) : Cond) ∈ tb := tb_m5 (List.mem_of_getElem? (i := 171) rfl) rfl
theorem tm_1184 : (.fieldLink RJ0 9 "java/lang/String" "value" "[B" : Cond) ∈ tb := tb_m5 (List.mem_of_getElem? (i := 172) rfl) rfl
theorem tm_1185 : (.fieldLink RJ0 15 "java/lang/String" "coder" "B" : Cond) ∈ tb := tb_m5 (List.mem_of_getElem? (i := 173) rfl) rfl
theorem ix_0 : ∀ w ∈ u_ws RX0 TX0 7, w ∈ tb := by decide +kernel
theorem ix_1 : ∀ w ∈ u_ws RX1 TX1 2, w ∈ tb := by decide +kernel
theorem ix_3 : ∀ w ∈ u_ws RX3 TX3 11, w ∈ tb := by decide +kernel
theorem ix_4 : ∀ w ∈ u_ws RX4 TX4 4, w ∈ tb := by decide +kernel
theorem ix_5 : ∀ w ∈ u_ws RX5 TX5 9, w ∈ tb := by decide +kernel
theorem ix_6 : ∀ w ∈ u_ws RX6 TX6 2, w ∈ tb := by decide +kernel
theorem ix_7 : ∀ w ∈ u_ws RX7 TX7 5, w ∈ tb := by decide +kernel
theorem ix_8 : ∀ w ∈ u_ws RX8 TX8 50, w ∈ tb := by decide +kernel
end
section
theorem dX0_init_0 : decode cX0_init 0 = .ok (.aload_n 0, 1) := by decide +kernel
theorem dX0_init_1 : decode cX0_init 1 = .ok (.invokespecial 3, 3) := by decide +kernel
theorem dX0_init_4 : decode cX0_init 4 = .ok (.aload_n 0, 1) := by decide +kernel
theorem dX0_init_5 : decode cX0_init 5 = .ok (.iconst 4, 1) := by decide +kernel
theorem dX0_init_6 : decode cX0_init 6 = .ok (.newarray .int, 2) := by decide +kernel
theorem dX0_init_8 : decode cX0_init 8 = .ok (.putfield 9, 3) := by decide +kernel
theorem dX0_init_11 : decode cX0_init 11 = .ok (.return_, 1) := by decide +kernel
theorem dX0_clear_0 : decode cX0_clear 0 = .ok (.aload_n 0, 1) := by decide +kernel
theorem dX0_clear_1 : decode cX0_clear 1 = .ok (.iconst 0, 1) := by decide +kernel
theorem dX0_clear_2 : decode cX0_clear 2 = .ok (.putfield 15, 3) := by decide +kernel
theorem dX0_clear_5 : decode cX0_clear 5 = .ok (.aload_n 0, 1) := by decide +kernel
theorem dX0_clear_6 : decode cX0_clear 6 = .ok (.iconst 0, 1) := by decide +kernel
theorem dX0_clear_7 : decode cX0_clear 7 = .ok (.putfield 19, 3) := by decide +kernel
theorem dX0_clear_10 : decode cX0_clear 10 = .ok (.aload_n 0, 1) := by decide +kernel
theorem dX0_clear_11 : decode cX0_clear 11 = .ok (.iload_n 1, 1) := by decide +kernel
theorem dX0_clear_12 : decode cX0_clear 12 = .ok (.putfield 22, 3) := by decide +kernel
theorem dX0_clear_15 : decode cX0_clear 15 = .ok (.aload_n 0, 1) := by decide +kernel
theorem dX0_clear_16 : decode cX0_clear 16 = .ok (.iconst 0, 1) := by decide +kernel
theorem dX0_clear_17 : decode cX0_clear 17 = .ok (.putfield 25, 3) := by decide +kernel
theorem dX0_clear_20 : decode cX0_clear 20 = .ok (.iconst 0, 1) := by decide +kernel
theorem dX0_clear_21 : decode cX0_clear 21 = .ok (.istore_n 2, 1) := by decide +kernel
theorem dX0_clear_22 : decode cX0_clear 22 = .ok (.iload_n 2, 1) := by decide +kernel
theorem dX0_clear_23 : decode cX0_clear 23 = .ok (.iconst 4, 1) := by decide +kernel
theorem dX0_clear_24 : decode cX0_clear 24 = .ok (.if_icmp .ge 16, 3) := by decide +kernel
theorem dX0_clear_27 : decode cX0_clear 27 = .ok (.aload_n 0, 1) := by decide +kernel
theorem dX0_clear_28 : decode cX0_clear 28 = .ok (.getfield 9, 3) := by decide +kernel
theorem dX0_clear_31 : decode cX0_clear 31 = .ok (.iload_n 2, 1) := by decide +kernel
theorem dX0_clear_32 : decode cX0_clear 32 = .ok (.iconst (-1), 1) := by decide +kernel
theorem dX0_clear_33 : decode cX0_clear 33 = .ok (.iastore, 1) := by decide +kernel
theorem dX0_clear_34 : decode cX0_clear 34 = .ok (.iinc 2 1, 3) := by decide +kernel
theorem dX0_clear_37 : decode cX0_clear 37 = .ok (.goto (-15), 3) := by decide +kernel
theorem dX0_clear_40 : decode cX0_clear 40 = .ok (.aload_n 0, 1) := by decide +kernel
theorem dX0_clear_41 : decode cX0_clear 41 = .ok (.iconst 0, 1) := by decide +kernel
theorem dX0_clear_42 : decode cX0_clear 42 = .ok (.putfield 28, 3) := by decide +kernel
theorem dX0_clear_45 : decode cX0_clear 45 = .ok (.return_, 1) := by decide +kernel
theorem dX0_setKinds_0 : decode cX0_setKinds 0 = .ok (.aload_n 0, 1) := by decide +kernel
theorem dX0_setKinds_1 : decode cX0_setKinds 1 = .ok (.iload_n 1, 1) := by decide +kernel
theorem dX0_setKinds_2 : decode cX0_setKinds 2 = .ok (.putfield 15, 3) := by decide +kernel
theorem dX0_setKinds_5 : decode cX0_setKinds 5 = .ok (.return_, 1) := by decide +kernel
theorem dX0_setCalendar_0 : decode cX0_setCalendar 0 = .ok (.aload_n 0, 1) := by decide +kernel
theorem dX0_setCalendar_1 : decode cX0_setCalendar 1 = .ok (.iload_n 1, 1) := by decide +kernel
theorem dX0_setCalendar_2 : decode cX0_setCalendar 2 = .ok (.putfield 19, 3) := by decide +kernel
theorem dX0_setCalendar_5 : decode cX0_setCalendar 5 = .ok (.return_, 1) := by decide +kernel
theorem dX0_setYearZero_0 : decode cX0_setYearZero 0 = .ok (.aload_n 0, 1) := by decide +kernel
theorem dX0_setYearZero_1 : decode cX0_setYearZero 1 = .ok (.iload_n 1, 1) := by decide +kernel
theorem dX0_setYearZero_2 : decode cX0_setYearZero 2 = .ok (.putfield 25, 3) := by decide +kernel
theorem dX0_setYearZero_5 : decode cX0_setYearZero 5 = .ok (.return_, 1) := by decide +kernel
theorem dX0_setNumber_0 : decode cX0_setNumber 0 = .ok (.iload_n 1, 1) := by decide +kernel
theorem dX0_setNumber_1 : decode cX0_setNumber 1 = .ok (.ifCond .lt 15, 3) := by decide +kernel
theorem dX0_setNumber_4 : decode cX0_setNumber 4 = .ok (.iload_n 1, 1) := by decide +kernel
theorem dX0_setNumber_5 : decode cX0_setNumber 5 = .ok (.iconst 4, 1) := by decide +kernel
theorem dX0_setNumber_6 : decode cX0_setNumber 6 = .ok (.if_icmp .ge 10, 3) := by decide +kernel
theorem dX0_setNumber_9 : decode cX0_setNumber 9 = .ok (.aload_n 0, 1) := by decide +kernel
theorem dX0_setNumber_10 : decode cX0_setNumber 10 = .ok (.getfield 9, 3) := by decide +kernel
theorem dX0_setNumber_13 : decode cX0_setNumber 13 = .ok (.iload_n 1, 1) := by decide +kernel
theorem dX0_setNumber_14 : decode cX0_setNumber 14 = .ok (.iload_n 2, 1) := by decide +kernel
theorem dX0_setNumber_15 : decode cX0_setNumber 15 = .ok (.iastore, 1) := by decide +kernel
theorem dX0_setNumber_16 : decode cX0_setNumber 16 = .ok (.return_, 1) := by decide +kernel
theorem dX0_has_0 : decode cX0_has 0 = .ok (.iload_n 1, 1) := by decide +kernel
theorem dX0_has_1 : decode cX0_has 1 = .ok (.ifCond .lt 22, 3) := by decide +kernel
theorem dX0_has_4 : decode cX0_has 4 = .ok (.iload_n 1, 1) := by decide +kernel
theorem dX0_has_5 : decode cX0_has 5 = .ok (.iconst 4, 1) := by decide +kernel
theorem dX0_has_6 : decode cX0_has 6 = .ok (.if_icmp .ge 17, 3) := by decide +kernel
theorem dX0_has_9 : decode cX0_has 9 = .ok (.aload_n 0, 1) := by decide +kernel
theorem dX0_has_10 : decode cX0_has 10 = .ok (.getfield 9, 3) := by decide +kernel
theorem dX0_has_13 : decode cX0_has 13 = .ok (.iload_n 1, 1) := by decide +kernel
theorem dX0_has_14 : decode cX0_has 14 = .ok (.iaload, 1) := by decide +kernel
theorem dX0_has_15 : decode cX0_has 15 = .ok (.iconst (-1), 1) := by decide +kernel
theorem dX0_has_16 : decode cX0_has 16 = .ok (.if_icmp .eq 7, 3) := by decide +kernel
theorem dX0_has_19 : decode cX0_has 19 = .ok (.iconst 1, 1) := by decide +kernel
theorem dX0_has_20 : decode cX0_has 20 = .ok (.goto 4, 3) := by decide +kernel
theorem dX0_has_23 : decode cX0_has 23 = .ok (.iconst 0, 1) := by decide +kernel
theorem dX0_has_24 : decode cX0_has 24 = .ok (.ireturn, 1) := by decide +kernel
theorem dX0_countMeant_0 : decode cX0_countMeant 0 = .ok (.aload_n 1, 1) := by decide +kernel
theorem dX0_countMeant_1 : decode cX0_countMeant 1 = .ok (.invokevirtual 31, 3) := by decide +kernel
theorem dX0_countMeant_4 : decode cX0_countMeant 4 = .ok (.istore_n 3, 1) := by decide +kernel
theorem dX0_countMeant_5 : decode cX0_countMeant 5 = .ok (.iconst 0, 1) := by decide +kernel
theorem dX0_countMeant_6 : decode cX0_countMeant 6 = .ok (.istore 4, 2) := by decide +kernel
theorem dX0_countMeant_8 : decode cX0_countMeant 8 = .ok (.iconst 0, 1) := by decide +kernel
theorem dX0_countMeant_9 : decode cX0_countMeant 9 = .ok (.istore 5, 2) := by decide +kernel
theorem dX0_countMeant_11 : decode cX0_countMeant 11 = .ok (.iload 5, 2) := by decide +kernel
theorem dX0_countMeant_13 : decode cX0_countMeant 13 = .ok (.iload_n 3, 1) := by decide +kernel
theorem dX0_countMeant_14 : decode cX0_countMeant 14 = .ok (.if_icmp .ge 23, 3) := by decide +kernel
theorem dX0_countMeant_17 : decode cX0_countMeant 17 = .ok (.aload_n 0, 1) := by decide +kernel
theorem dX0_countMeant_18 : decode cX0_countMeant 18 = .ok (.aload_n 1, 1) := by decide +kernel
theorem dX0_countMeant_19 : decode cX0_countMeant 19 = .ok (.iload 5, 2) := by decide +kernel
theorem dX0_countMeant_21 : decode cX0_countMeant 21 = .ok (.iload_n 2, 1) := by decide +kernel
theorem dX0_countMeant_22 : decode cX0_countMeant 22 = .ok (.invokevirtual 37, 3) := by decide +kernel
theorem dX0_countMeant_25 : decode cX0_countMeant 25 = .ok (.ifCond .eq 6, 3) := by decide +kernel
theorem dX0_countMeant_28 : decode cX0_countMeant 28 = .ok (.iinc 4 1, 3) := by decide +kernel
theorem dX0_countMeant_31 : decode cX0_countMeant 31 = .ok (.iinc 5 1, 3) := by decide +kernel
theorem dX0_countMeant_34 : decode cX0_countMeant 34 = .ok (.goto (-23), 3) := by decide +kernel
theorem dX0_countMeant_37 : decode cX0_countMeant 37 = .ok (.iload 4, 2) := by decide +kernel
theorem dX0_countMeant_39 : decode cX0_countMeant 39 = .ok (.ireturn, 1) := by decide +kernel
theorem dX0_findMeant_0 : decode cX0_findMeant 0 = .ok (.aload_n 1, 1) := by decide +kernel
theorem dX0_findMeant_1 : decode cX0_findMeant 1 = .ok (.invokevirtual 31, 3) := by decide +kernel
theorem dX0_findMeant_4 : decode cX0_findMeant 4 = .ok (.istore 4, 2) := by decide +kernel
theorem dX0_findMeant_6 : decode cX0_findMeant 6 = .ok (.iload_n 3, 1) := by decide +kernel
theorem dX0_findMeant_7 : decode cX0_findMeant 7 = .ok (.istore 5, 2) := by decide +kernel
theorem dX0_findMeant_9 : decode cX0_findMeant 9 = .ok (.iconst 0, 1) := by decide +kernel
theorem dX0_findMeant_10 : decode cX0_findMeant 10 = .ok (.istore 6, 2) := by decide +kernel
theorem dX0_findMeant_12 : decode cX0_findMeant 12 = .ok (.iload 6, 2) := by decide +kernel
theorem dX0_findMeant_14 : decode cX0_findMeant 14 = .ok (.iload 4, 2) := by decide +kernel
theorem dX0_findMeant_16 : decode cX0_findMeant 16 = .ok (.if_icmp .ge 35, 3) := by decide +kernel
theorem dX0_findMeant_19 : decode cX0_findMeant 19 = .ok (.aload_n 0, 1) := by decide +kernel
theorem dX0_findMeant_20 : decode cX0_findMeant 20 = .ok (.aload_n 1, 1) := by decide +kernel
theorem dX0_findMeant_21 : decode cX0_findMeant 21 = .ok (.iload 6, 2) := by decide +kernel
theorem dX0_findMeant_23 : decode cX0_findMeant 23 = .ok (.iload_n 2, 1) := by decide +kernel
theorem dX0_findMeant_24 : decode cX0_findMeant 24 = .ok (.invokevirtual 37, 3) := by decide +kernel
theorem dX0_findMeant_27 : decode cX0_findMeant 27 = .ok (.ifCond .eq 18, 3) := by decide +kernel
theorem dX0_findMeant_30 : decode cX0_findMeant 30 = .ok (.iload 5, 2) := by decide +kernel
theorem dX0_findMeant_32 : decode cX0_findMeant 32 = .ok (.ifCond .ne 10, 3) := by decide +kernel
theorem dX0_findMeant_35 : decode cX0_findMeant 35 = .ok (.aload_n 1, 1) := by decide +kernel
theorem dX0_findMeant_36 : decode cX0_findMeant 36 = .ok (.iload 6, 2) := by decide +kernel
theorem dX0_findMeant_38 : decode cX0_findMeant 38 = .ok (.invokevirtual 41, 3) := by decide +kernel
theorem dX0_findMeant_41 : decode cX0_findMeant 41 = .ok (.ireturn, 1) := by decide +kernel
theorem dX0_findMeant_42 : decode cX0_findMeant 42 = .ok (.iinc 5 (-1), 3) := by decide +kernel
theorem dX0_findMeant_45 : decode cX0_findMeant 45 = .ok (.iinc 6 1, 3) := by decide +kernel
theorem dX0_findMeant_48 : decode cX0_findMeant 48 = .ok (.goto (-36), 3) := by decide +kernel
theorem dX0_findMeant_51 : decode cX0_findMeant 51 = .ok (.iconst (-1), 1) := by decide +kernel
theorem dX0_findMeant_52 : decode cX0_findMeant 52 = .ok (.ireturn, 1) := by decide +kernel
theorem dX0_leastSlips_0 : decode cX0_leastSlips 0 = .ok (.aload_n 1, 1) := by decide +kernel
theorem dX0_leastSlips_1 : decode cX0_leastSlips 1 = .ok (.invokevirtual 31, 3) := by decide +kernel
theorem dX0_leastSlips_4 : decode cX0_leastSlips 4 = .ok (.istore_n 3, 1) := by decide +kernel
theorem dX0_leastSlips_5 : decode cX0_leastSlips 5 = .ok (.iconst 5, 1) := by decide +kernel
theorem dX0_leastSlips_6 : decode cX0_leastSlips 6 = .ok (.istore 4, 2) := by decide +kernel
theorem dX0_leastSlips_8 : decode cX0_leastSlips 8 = .ok (.iconst 0, 1) := by decide +kernel
theorem dX0_leastSlips_9 : decode cX0_leastSlips 9 = .ok (.istore 5, 2) := by decide +kernel
theorem dX0_leastSlips_11 : decode cX0_leastSlips 11 = .ok (.iload 5, 2) := by decide +kernel
theorem dX0_leastSlips_13 : decode cX0_leastSlips 13 = .ok (.iload_n 3, 1) := by decide +kernel
theorem dX0_leastSlips_14 : decode cX0_leastSlips 14 = .ok (.if_icmp .ge 47, 3) := by decide +kernel
theorem dX0_leastSlips_17 : decode cX0_leastSlips 17 = .ok (.iload 4, 2) := by decide +kernel
theorem dX0_leastSlips_19 : decode cX0_leastSlips 19 = .ok (.ifCond .le 42, 3) := by decide +kernel
theorem dX0_leastSlips_22 : decode cX0_leastSlips 22 = .ok (.aload_n 0, 1) := by decide +kernel
theorem dX0_leastSlips_23 : decode cX0_leastSlips 23 = .ok (.aload_n 1, 1) := by decide +kernel
theorem dX0_leastSlips_24 : decode cX0_leastSlips 24 = .ok (.iload 5, 2) := by decide +kernel
theorem dX0_leastSlips_26 : decode cX0_leastSlips 26 = .ok (.iload_n 2, 1) := by decide +kernel
theorem dX0_leastSlips_27 : decode cX0_leastSlips 27 = .ok (.invokevirtual 45, 3) := by decide +kernel
theorem dX0_leastSlips_30 : decode cX0_leastSlips 30 = .ok (.istore 6, 2) := by decide +kernel
theorem dX0_leastSlips_32 : decode cX0_leastSlips 32 = .ok (.iload 6, 2) := by decide +kernel
theorem dX0_leastSlips_34 : decode cX0_leastSlips 34 = .ok (.iconst (-1), 1) := by decide +kernel
theorem dX0_leastSlips_35 : decode cX0_leastSlips 35 = .ok (.if_icmp .eq 20, 3) := by decide +kernel
theorem dX0_leastSlips_38 : decode cX0_leastSlips 38 = .ok (.iload 4, 2) := by decide +kernel
theorem dX0_leastSlips_40 : decode cX0_leastSlips 40 = .ok (.aload_n 0, 1) := by decide +kernel
theorem dX0_leastSlips_41 : decode cX0_leastSlips 41 = .ok (.iload 6, 2) := by decide +kernel
theorem dX0_leastSlips_43 : decode cX0_leastSlips 43 = .ok (.iload 4, 2) := by decide +kernel
theorem dX0_leastSlips_45 : decode cX0_leastSlips 45 = .ok (.iconst 1, 1) := by decide +kernel
theorem dX0_leastSlips_46 : decode cX0_leastSlips 46 = .ok (.isub, 1) := by decide +kernel
theorem dX0_leastSlips_47 : decode cX0_leastSlips 47 = .ok (.invokevirtual 49, 3) := by decide +kernel
theorem dX0_leastSlips_50 : decode cX0_leastSlips 50 = .ok (.invokestatic 53, 3) := by decide +kernel
theorem dX0_leastSlips_53 : decode cX0_leastSlips 53 = .ok (.istore 4, 2) := by decide +kernel
theorem dX0_leastSlips_55 : decode cX0_leastSlips 55 = .ok (.iinc 5 1, 3) := by decide +kernel
theorem dX0_leastSlips_58 : decode cX0_leastSlips 58 = .ok (.goto (-47), 3) := by decide +kernel
theorem dX0_leastSlips_61 : decode cX0_leastSlips 61 = .ok (.iload 4, 2) := by decide +kernel
theorem dX0_leastSlips_63 : decode cX0_leastSlips 63 = .ok (.iconst 5, 1) := by decide +kernel
theorem dX0_leastSlips_64 : decode cX0_leastSlips 64 = .ok (.if_icmp .ne 7, 3) := by decide +kernel
theorem dX0_leastSlips_67 : decode cX0_leastSlips 67 = .ok (.iconst (-1), 1) := by decide +kernel
theorem dX0_leastSlips_68 : decode cX0_leastSlips 68 = .ok (.goto 5, 3) := by decide +kernel
theorem dX0_leastSlips_71 : decode cX0_leastSlips 71 = .ok (.iload 4, 2) := by decide +kernel
theorem dX0_leastSlips_73 : decode cX0_leastSlips 73 = .ok (.ireturn, 1) := by decide +kernel
theorem dX0_slowsLet_0 : decode cX0_slowsLet 0 = .ok (.aload_n 0, 1) := by decide +kernel
theorem dX0_slowsLet_1 : decode cX0_slowsLet 1 = .ok (.getfield 28, 3) := by decide +kernel
theorem dX0_slowsLet_4 : decode cX0_slowsLet 4 = .ok (.aload_n 1, 1) := by decide +kernel
theorem dX0_slowsLet_5 : decode cX0_slowsLet 5 = .ok (.invokevirtual 58, 3) := by decide +kernel
theorem dX0_slowsLet_8 : decode cX0_slowsLet 8 = .ok (.if_icmp .ne 8, 3) := by decide +kernel
theorem dX0_slowsLet_11 : decode cX0_slowsLet 11 = .ok (.aload_n 0, 1) := by decide +kernel
theorem dX0_slowsLet_12 : decode cX0_slowsLet 12 = .ok (.getfield 61, 3) := by decide +kernel
theorem dX0_slowsLet_15 : decode cX0_slowsLet 15 = .ok (.lreturn, 1) := by decide +kernel
theorem dX0_slowsLet_16 : decode cX0_slowsLet 16 = .ok (.aload_n 1, 1) := by decide +kernel
theorem dX0_slowsLet_17 : decode cX0_slowsLet 17 = .ok (.invokevirtual 31, 3) := by decide +kernel
theorem dX0_slowsLet_20 : decode cX0_slowsLet 20 = .ok (.istore_n 2, 1) := by decide +kernel
theorem dX0_slowsLet_21 : decode cX0_slowsLet 21 = .ok (.aload_n 0, 1) := by decide +kernel
theorem dX0_slowsLet_22 : decode cX0_slowsLet 22 = .ok (.lconst 0, 1) := by decide +kernel
theorem dX0_slowsLet_23 : decode cX0_slowsLet 23 = .ok (.putfield 61, 3) := by decide +kernel
theorem dX0_slowsLet_26 : decode cX0_slowsLet 26 = .ok (.iconst 0, 1) := by decide +kernel
theorem dX0_slowsLet_27 : decode cX0_slowsLet 27 = .ok (.istore_n 3, 1) := by decide +kernel
theorem dX0_slowsLet_28 : decode cX0_slowsLet 28 = .ok (.iload_n 3, 1) := by decide +kernel
theorem dX0_slowsLet_29 : decode cX0_slowsLet 29 = .ok (.iload_n 2, 1) := by decide +kernel
theorem dX0_slowsLet_30 : decode cX0_slowsLet 30 = .ok (.if_icmp .ge 44, 3) := by decide +kernel
theorem dX0_slowsLet_33 : decode cX0_slowsLet 33 = .ok (.aload_n 0, 1) := by decide +kernel
theorem dX0_slowsLet_34 : decode cX0_slowsLet 34 = .ok (.getfield 61, 3) := by decide +kernel
theorem dX0_slowsLet_37 : decode cX0_slowsLet 37 = .ok (.ldc2_w 65, 3) := by decide +kernel
theorem dX0_slowsLet_40 : decode cX0_slowsLet 40 = .ok (.lcmp, 1) := by decide +kernel
theorem dX0_slowsLet_41 : decode cX0_slowsLet 41 = .ok (.ifCond .eq 33, 3) := by decide +kernel
theorem dX0_slowsLet_44 : decode cX0_slowsLet 44 = .ok (.aload_n 0, 1) := by decide +kernel
theorem dX0_slowsLet_45 : decode cX0_slowsLet 45 = .ok (.aload_n 1, 1) := by decide +kernel
theorem dX0_slowsLet_46 : decode cX0_slowsLet 46 = .ok (.iload_n 3, 1) := by decide +kernel
theorem dX0_slowsLet_47 : decode cX0_slowsLet 47 = .ok (.invokevirtual 67, 3) := by decide +kernel
theorem dX0_slowsLet_50 : decode cX0_slowsLet 50 = .ok (.ifCond .eq 18, 3) := by decide +kernel
theorem dX0_slowsLet_53 : decode cX0_slowsLet 53 = .ok (.aload_n 0, 1) := by decide +kernel
theorem dX0_slowsLet_54 : decode cX0_slowsLet 54 = .ok (.dup, 1) := by decide +kernel
theorem dX0_slowsLet_55 : decode cX0_slowsLet 55 = .ok (.getfield 61, 3) := by decide +kernel
theorem dX0_slowsLet_58 : decode cX0_slowsLet 58 = .ok (.aload_n 0, 1) := by decide +kernel
theorem dX0_slowsLet_59 : decode cX0_slowsLet 59 = .ok (.aload_n 1, 1) := by decide +kernel
theorem dX0_slowsLet_60 : decode cX0_slowsLet 60 = .ok (.iload_n 3, 1) := by decide +kernel
theorem dX0_slowsLet_61 : decode cX0_slowsLet 61 = .ok (.invokevirtual 71, 3) := by decide +kernel
theorem dX0_slowsLet_64 : decode cX0_slowsLet 64 = .ok (.lor, 1) := by decide +kernel
theorem dX0_slowsLet_65 : decode cX0_slowsLet 65 = .ok (.putfield 61, 3) := by decide +kernel
theorem dX0_slowsLet_68 : decode cX0_slowsLet 68 = .ok (.iinc 3 1, 3) := by decide +kernel
theorem dX0_slowsLet_71 : decode cX0_slowsLet 71 = .ok (.goto (-43), 3) := by decide +kernel
theorem dX0_slowsLet_74 : decode cX0_slowsLet 74 = .ok (.aload_n 0, 1) := by decide +kernel
theorem dX0_slowsLet_75 : decode cX0_slowsLet 75 = .ok (.aload_n 1, 1) := by decide +kernel
theorem dX0_slowsLet_76 : decode cX0_slowsLet 76 = .ok (.invokevirtual 58, 3) := by decide +kernel
theorem dX0_slowsLet_79 : decode cX0_slowsLet 79 = .ok (.putfield 28, 3) := by decide +kernel
theorem dX0_slowsLet_82 : decode cX0_slowsLet 82 = .ok (.aload_n 0, 1) := by decide +kernel
theorem dX0_slowsLet_83 : decode cX0_slowsLet 83 = .ok (.getfield 61, 3) := by decide +kernel
theorem dX0_slowsLet_86 : decode cX0_slowsLet 86 = .ok (.lreturn, 1) := by decide +kernel
theorem dX0_slowsMeaning_0 : decode cX0_slowsMeaning 0 = .ok (.aload_n 1, 1) := by decide +kernel
theorem dX0_slowsMeaning_1 : decode cX0_slowsMeaning 1 = .ok (.iload_n 2, 1) := by decide +kernel
theorem dX0_slowsMeaning_2 : decode cX0_slowsMeaning 2 = .ok (.invokevirtual 75, 3) := by decide +kernel
theorem dX0_slowsMeaning_5 : decode cX0_slowsMeaning 5 = .ok (.istore_n 3, 1) := by decide +kernel
theorem dX0_slowsMeaning_6 : decode cX0_slowsMeaning 6 = .ok (.aload_n 1, 1) := by decide +kernel
theorem dX0_slowsMeaning_7 : decode cX0_slowsMeaning 7 = .ok (.iload_n 2, 1) := by decide +kernel
theorem dX0_slowsMeaning_8 : decode cX0_slowsMeaning 8 = .ok (.invokevirtual 78, 3) := by decide +kernel
theorem dX0_slowsMeaning_11 : decode cX0_slowsMeaning 11 = .ok (.istore 4, 2) := by decide +kernel
theorem dX0_slowsMeaning_13 : decode cX0_slowsMeaning 13 = .ok (.aload_n 0, 1) := by decide +kernel
theorem dX0_slowsMeaning_14 : decode cX0_slowsMeaning 14 = .ok (.iload_n 3, 1) := by decide +kernel
theorem dX0_slowsMeaning_15 : decode cX0_slowsMeaning 15 = .ok (.bipush 60, 2) := by decide +kernel
theorem dX0_slowsMeaning_17 : decode cX0_slowsMeaning 17 = .ok (.invokevirtual 82, 3) := by decide +kernel
theorem dX0_slowsMeaning_20 : decode cX0_slowsMeaning 20 = .ok (.istore 5, 2) := by decide +kernel
theorem dX0_slowsMeaning_22 : decode cX0_slowsMeaning 22 = .ok (.lconst 0, 1) := by decide +kernel
theorem dX0_slowsMeaning_23 : decode cX0_slowsMeaning 23 = .ok (.lstore 6, 2) := by decide +kernel
theorem dX0_slowsMeaning_25 : decode cX0_slowsMeaning 25 = .ok (.aload_n 0, 1) := by decide +kernel
theorem dX0_slowsMeaning_26 : decode cX0_slowsMeaning 26 = .ok (.iload_n 3, 1) := by decide +kernel
theorem dX0_slowsMeaning_27 : decode cX0_slowsMeaning 27 = .ok (.iconst 0, 1) := by decide +kernel
theorem dX0_slowsMeaning_28 : decode cX0_slowsMeaning 28 = .ok (.invokevirtual 82, 3) := by decide +kernel
theorem dX0_slowsMeaning_31 : decode cX0_slowsMeaning 31 = .ok (.istore 8, 2) := by decide +kernel
theorem dX0_slowsMeaning_33 : decode cX0_slowsMeaning 33 = .ok (.iload 8, 2) := by decide +kernel
theorem dX0_slowsMeaning_35 : decode cX0_slowsMeaning 35 = .ok (.iload 5, 2) := by decide +kernel
theorem dX0_slowsMeaning_37 : decode cX0_slowsMeaning 37 = .ok (.if_icmp .gt 41, 3) := by decide +kernel
theorem dX0_slowsMeaning_40 : decode cX0_slowsMeaning 40 = .ok (.iload 8, 2) := by decide +kernel
theorem dX0_slowsMeaning_42 : decode cX0_slowsMeaning 42 = .ok (.iload 4, 2) := by decide +kernel
theorem dX0_slowsMeaning_44 : decode cX0_slowsMeaning 44 = .ok (.invokestatic 85, 3) := by decide +kernel
theorem dX0_slowsMeaning_47 : decode cX0_slowsMeaning 47 = .ok (.ifCond .eq 25, 3) := by decide +kernel
theorem dX0_slowsMeaning_50 : decode cX0_slowsMeaning 50 = .ok (.aload_n 0, 1) := by decide +kernel
theorem dX0_slowsMeaning_51 : decode cX0_slowsMeaning 51 = .ok (.iload 8, 2) := by decide +kernel
theorem dX0_slowsMeaning_53 : decode cX0_slowsMeaning 53 = .ok (.iconst 0, 1) := by decide +kernel
theorem dX0_slowsMeaning_54 : decode cX0_slowsMeaning 54 = .ok (.invokevirtual 49, 3) := by decide +kernel
theorem dX0_slowsMeaning_57 : decode cX0_slowsMeaning 57 = .ok (.ifCond .ne 15, 3) := by decide +kernel
theorem dX0_slowsMeaning_60 : decode cX0_slowsMeaning 60 = .ok (.lload 6, 2) := by decide +kernel
theorem dX0_slowsMeaning_62 : decode cX0_slowsMeaning 62 = .ok (.aload_n 0, 1) := by decide +kernel
theorem dX0_slowsMeaning_63 : decode cX0_slowsMeaning 63 = .ok (.iload 8, 2) := by decide +kernel
theorem dX0_slowsMeaning_65 : decode cX0_slowsMeaning 65 = .ok (.iload_n 3, 1) := by decide +kernel
theorem dX0_slowsMeaning_66 : decode cX0_slowsMeaning 66 = .ok (.invokevirtual 89, 3) := by decide +kernel
theorem dX0_slowsMeaning_69 : decode cX0_slowsMeaning 69 = .ok (.lor, 1) := by decide +kernel
theorem dX0_slowsMeaning_70 : decode cX0_slowsMeaning 70 = .ok (.lstore 6, 2) := by decide +kernel
theorem dX0_slowsMeaning_72 : decode cX0_slowsMeaning 72 = .ok (.iinc 8 1, 3) := by decide +kernel
theorem dX0_slowsMeaning_75 : decode cX0_slowsMeaning 75 = .ok (.goto (-42), 3) := by decide +kernel
theorem dX0_slowsMeaning_78 : decode cX0_slowsMeaning 78 = .ok (.lload 6, 2) := by decide +kernel
theorem dX0_slowsMeaning_80 : decode cX0_slowsMeaning 80 = .ok (.lreturn, 1) := by decide +kernel
theorem dX0_slowsWithin_0 : decode cX0_slowsWithin 0 = .ok (.lconst 0, 1) := by decide +kernel
theorem dX0_slowsWithin_1 : decode cX0_slowsWithin 1 = .ok (.lstore_n 3, 1) := by decide +kernel
theorem dX0_slowsWithin_2 : decode cX0_slowsWithin 2 = .ok (.iconst 0, 1) := by decide +kernel
theorem dX0_slowsWithin_3 : decode cX0_slowsWithin 3 = .ok (.istore 5, 2) := by decide +kernel
theorem dX0_slowsWithin_5 : decode cX0_slowsWithin 5 = .ok (.iload 5, 2) := by decide +kernel
theorem dX0_slowsWithin_7 : decode cX0_slowsWithin 7 = .ok (.bipush 60, 2) := by decide +kernel
theorem dX0_slowsWithin_9 : decode cX0_slowsWithin 9 = .ok (.if_icmp .gt 27, 3) := by decide +kernel
theorem dX0_slowsWithin_12 : decode cX0_slowsWithin 12 = .ok (.aload_n 0, 1) := by decide +kernel
theorem dX0_slowsWithin_13 : decode cX0_slowsWithin 13 = .ok (.iload_n 2, 1) := by decide +kernel
theorem dX0_slowsWithin_14 : decode cX0_slowsWithin 14 = .ok (.iload 5, 2) := by decide +kernel
theorem dX0_slowsWithin_16 : decode cX0_slowsWithin 16 = .ok (.invokevirtual 82, 3) := by decide +kernel
theorem dX0_slowsWithin_19 : decode cX0_slowsWithin 19 = .ok (.iload_n 1, 1) := by decide +kernel
theorem dX0_slowsWithin_20 : decode cX0_slowsWithin 20 = .ok (.if_icmp .ne 10, 3) := by decide +kernel
theorem dX0_slowsWithin_23 : decode cX0_slowsWithin 23 = .ok (.lload_n 3, 1) := by decide +kernel
theorem dX0_slowsWithin_24 : decode cX0_slowsWithin 24 = .ok (.lconst 1, 1) := by decide +kernel
theorem dX0_slowsWithin_25 : decode cX0_slowsWithin 25 = .ok (.iload 5, 2) := by decide +kernel
theorem dX0_slowsWithin_27 : decode cX0_slowsWithin 27 = .ok (.lshl, 1) := by decide +kernel
theorem dX0_slowsWithin_28 : decode cX0_slowsWithin 28 = .ok (.lor, 1) := by decide +kernel
theorem dX0_slowsWithin_29 : decode cX0_slowsWithin 29 = .ok (.lstore_n 3, 1) := by decide +kernel
theorem dX0_slowsWithin_30 : decode cX0_slowsWithin 30 = .ok (.iinc 5 1, 3) := by decide +kernel
theorem dX0_slowsWithin_33 : decode cX0_slowsWithin 33 = .ok (.goto (-28), 3) := by decide +kernel
theorem dX0_slowsWithin_36 : decode cX0_slowsWithin 36 = .ok (.lload_n 3, 1) := by decide +kernel
theorem dX0_slowsWithin_37 : decode cX0_slowsWithin 37 = .ok (.lreturn, 1) := by decide +kernel
theorem dX0_hoursAt_0 : decode cX0_hoursAt 0 = .ok (.iload_n 1, 1) := by decide +kernel
theorem dX0_hoursAt_1 : decode cX0_hoursAt 1 = .ok (.aload_n 0, 1) := by decide +kernel
theorem dX0_hoursAt_2 : decode cX0_hoursAt 2 = .ok (.getfield 22, 3) := by decide +kernel
theorem dX0_hoursAt_5 : decode cX0_hoursAt 5 = .ok (.iload_n 2, 1) := by decide +kernel
theorem dX0_hoursAt_6 : decode cX0_hoursAt 6 = .ok (.invokestatic 93, 3) := by decide +kernel
theorem dX0_hoursAt_9 : decode cX0_hoursAt 9 = .ok (.bipush 60, 2) := by decide +kernel
theorem dX0_hoursAt_11 : decode cX0_hoursAt 11 = .ok (.invokestatic 97, 3) := by decide +kernel
theorem dX0_hoursAt_14 : decode cX0_hoursAt 14 = .ok (.ireturn, 1) := by decide +kernel
theorem dX0_isOfKind_0 : decode cX0_isOfKind 0 = .ok (.aload_n 0, 1) := by decide +kernel
theorem dX0_isOfKind_1 : decode cX0_isOfKind 1 = .ok (.getfield 15, 3) := by decide +kernel
theorem dX0_isOfKind_4 : decode cX0_isOfKind 4 = .ok (.aload_n 1, 1) := by decide +kernel
theorem dX0_isOfKind_5 : decode cX0_isOfKind 5 = .ok (.iload_n 2, 1) := by decide +kernel
theorem dX0_isOfKind_6 : decode cX0_isOfKind 6 = .ok (.invokevirtual 100, 3) := by decide +kernel
theorem dX0_isOfKind_9 : decode cX0_isOfKind 9 = .ok (.ishr, 1) := by decide +kernel
theorem dX0_isOfKind_10 : decode cX0_isOfKind 10 = .ok (.iconst 1, 1) := by decide +kernel
theorem dX0_isOfKind_11 : decode cX0_isOfKind 11 = .ok (.iand, 1) := by decide +kernel
theorem dX0_isOfKind_12 : decode cX0_isOfKind 12 = .ok (.ifCond .eq 7, 3) := by decide +kernel
theorem dX0_isOfKind_15 : decode cX0_isOfKind 15 = .ok (.iconst 1, 1) := by decide +kernel
theorem dX0_isOfKind_16 : decode cX0_isOfKind 16 = .ok (.goto 4, 3) := by decide +kernel
theorem dX0_isOfKind_19 : decode cX0_isOfKind 19 = .ok (.iconst 0, 1) := by decide +kernel
theorem dX0_isOfKind_20 : decode cX0_isOfKind 20 = .ok (.ireturn, 1) := by decide +kernel
theorem dX0_isMeant_0 : decode cX0_isMeant 0 = .ok (.aload_n 0, 1) := by decide +kernel
theorem dX0_isMeant_1 : decode cX0_isMeant 1 = .ok (.aload_n 1, 1) := by decide +kernel
theorem dX0_isMeant_2 : decode cX0_isMeant 2 = .ok (.iload_n 2, 1) := by decide +kernel
theorem dX0_isMeant_3 : decode cX0_isMeant 3 = .ok (.iload_n 3, 1) := by decide +kernel
theorem dX0_isMeant_4 : decode cX0_isMeant 4 = .ok (.invokevirtual 45, 3) := by decide +kernel
theorem dX0_isMeant_7 : decode cX0_isMeant 7 = .ok (.istore 4, 2) := by decide +kernel
theorem dX0_isMeant_9 : decode cX0_isMeant 9 = .ok (.iload 4, 2) := by decide +kernel
theorem dX0_isMeant_11 : decode cX0_isMeant 11 = .ok (.iconst (-1), 1) := by decide +kernel
theorem dX0_isMeant_12 : decode cX0_isMeant 12 = .ok (.if_icmp .eq 17, 3) := by decide +kernel
theorem dX0_isMeant_15 : decode cX0_isMeant 15 = .ok (.aload_n 0, 1) := by decide +kernel
theorem dX0_isMeant_16 : decode cX0_isMeant 16 = .ok (.iload 4, 2) := by decide +kernel
theorem dX0_isMeant_18 : decode cX0_isMeant 18 = .ok (.iconst 0, 1) := by decide +kernel
theorem dX0_isMeant_19 : decode cX0_isMeant 19 = .ok (.invokevirtual 49, 3) := by decide +kernel
theorem dX0_isMeant_22 : decode cX0_isMeant 22 = .ok (.ifCond .ne 7, 3) := by decide +kernel
theorem dX0_isMeant_25 : decode cX0_isMeant 25 = .ok (.iconst 1, 1) := by decide +kernel
theorem dX0_isMeant_26 : decode cX0_isMeant 26 = .ok (.goto 4, 3) := by decide +kernel
theorem dX0_isMeant_29 : decode cX0_isMeant 29 = .ok (.iconst 0, 1) := by decide +kernel
theorem dX0_isMeant_30 : decode cX0_isMeant 30 = .ok (.ireturn, 1) := by decide +kernel
theorem dX0_hoursSeen_0 : decode cX0_hoursSeen 0 = .ok (.aload_n 0, 1) := by decide +kernel
theorem dX0_hoursSeen_1 : decode cX0_hoursSeen 1 = .ok (.aload_n 1, 1) := by decide +kernel
theorem dX0_hoursSeen_2 : decode cX0_hoursSeen 2 = .ok (.iload_n 2, 1) := by decide +kernel
theorem dX0_hoursSeen_3 : decode cX0_hoursSeen 3 = .ok (.invokevirtual 67, 3) := by decide +kernel
theorem dX0_hoursSeen_6 : decode cX0_hoursSeen 6 = .ok (.ifCond .ne 5, 3) := by decide +kernel
theorem dX0_hoursSeen_9 : decode cX0_hoursSeen 9 = .ok (.iconst (-1), 1) := by decide +kernel
theorem dX0_hoursSeen_10 : decode cX0_hoursSeen 10 = .ok (.ireturn, 1) := by decide +kernel
theorem dX0_hoursSeen_11 : decode cX0_hoursSeen 11 = .ok (.aload_n 0, 1) := by decide +kernel
theorem dX0_hoursSeen_12 : decode cX0_hoursSeen 12 = .ok (.aload_n 1, 1) := by decide +kernel
theorem dX0_hoursSeen_13 : decode cX0_hoursSeen 13 = .ok (.iload_n 2, 1) := by decide +kernel
theorem dX0_hoursSeen_14 : decode cX0_hoursSeen 14 = .ok (.invokevirtual 75, 3) := by decide +kernel
theorem dX0_hoursSeen_17 : decode cX0_hoursSeen 17 = .ok (.iload_n 3, 1) := by decide +kernel
theorem dX0_hoursSeen_18 : decode cX0_hoursSeen 18 = .ok (.invokevirtual 82, 3) := by decide +kernel
theorem dX0_hoursSeen_21 : decode cX0_hoursSeen 21 = .ok (.istore 4, 2) := by decide +kernel
theorem dX0_hoursSeen_23 : decode cX0_hoursSeen 23 = .ok (.iload 4, 2) := by decide +kernel
theorem dX0_hoursSeen_25 : decode cX0_hoursSeen 25 = .ok (.aload_n 1, 1) := by decide +kernel
theorem dX0_hoursSeen_26 : decode cX0_hoursSeen 26 = .ok (.iload_n 2, 1) := by decide +kernel
theorem dX0_hoursSeen_27 : decode cX0_hoursSeen 27 = .ok (.invokevirtual 78, 3) := by decide +kernel
theorem dX0_hoursSeen_30 : decode cX0_hoursSeen 30 = .ok (.invokestatic 85, 3) := by decide +kernel
theorem dX0_hoursSeen_33 : decode cX0_hoursSeen 33 = .ok (.ifCond .eq 8, 3) := by decide +kernel
theorem dX0_hoursSeen_36 : decode cX0_hoursSeen 36 = .ok (.iload 4, 2) := by decide +kernel
theorem dX0_hoursSeen_38 : decode cX0_hoursSeen 38 = .ok (.goto 4, 3) := by decide +kernel
theorem dX0_hoursSeen_41 : decode cX0_hoursSeen 41 = .ok (.iconst (-1), 1) := by decide +kernel
theorem dX0_hoursSeen_42 : decode cX0_hoursSeen 42 = .ok (.ireturn, 1) := by decide +kernel
theorem dX0_isSeenAt_0 : decode cX0_isSeenAt 0 = .ok (.iload_n 0, 1) := by decide +kernel
theorem dX0_isSeenAt_1 : decode cX0_isSeenAt 1 = .ok (.ifCond .ge 5, 3) := by decide +kernel
theorem dX0_isSeenAt_4 : decode cX0_isSeenAt 4 = .ok (.iconst 0, 1) := by decide +kernel
theorem dX0_isSeenAt_5 : decode cX0_isSeenAt 5 = .ok (.ireturn, 1) := by decide +kernel
theorem dX0_isSeenAt_6 : decode cX0_isSeenAt 6 = .ok (.iload_n 0, 1) := by decide +kernel
theorem dX0_isSeenAt_7 : decode cX0_isSeenAt 7 = .ok (.bipush 24, 2) := by decide +kernel
theorem dX0_isSeenAt_9 : decode cX0_isSeenAt 9 = .ok (.irem, 1) := by decide +kernel
theorem dX0_isSeenAt_10 : decode cX0_isSeenAt 10 = .ok (.istore_n 2, 1) := by decide +kernel
theorem dX0_isSeenAt_11 : decode cX0_isSeenAt 11 = .ok (.iload_n 2, 1) := by decide +kernel
theorem dX0_isSeenAt_12 : decode cX0_isSeenAt 12 = .ok (.bipush 6, 2) := by decide +kernel
theorem dX0_isSeenAt_14 : decode cX0_isSeenAt 14 = .ok (.if_icmp .lt 13, 3) := by decide +kernel
theorem dX0_isSeenAt_17 : decode cX0_isSeenAt 17 = .ok (.iload_n 2, 1) := by decide +kernel
theorem dX0_isSeenAt_18 : decode cX0_isSeenAt 18 = .ok (.bipush 17, 2) := by decide +kernel
theorem dX0_isSeenAt_20 : decode cX0_isSeenAt 20 = .ok (.if_icmp .gt 7, 3) := by decide +kernel
theorem dX0_isSeenAt_23 : decode cX0_isSeenAt 23 = .ok (.iconst 1, 1) := by decide +kernel
theorem dX0_isSeenAt_24 : decode cX0_isSeenAt 24 = .ok (.goto 4, 3) := by decide +kernel
theorem dX0_isSeenAt_27 : decode cX0_isSeenAt 27 = .ok (.iconst 0, 1) := by decide +kernel
theorem dX0_isSeenAt_28 : decode cX0_isSeenAt 28 = .ok (.istore_n 3, 1) := by decide +kernel
theorem dX0_isSeenAt_29 : decode cX0_isSeenAt 29 = .ok (.iload_n 3, 1) := by decide +kernel
theorem dX0_isSeenAt_30 : decode cX0_isSeenAt 30 = .ok (.iload_n 1, 1) := by decide +kernel
theorem dX0_isSeenAt_31 : decode cX0_isSeenAt 31 = .ok (.if_icmp .ne 7, 3) := by decide +kernel
theorem dX0_isSeenAt_34 : decode cX0_isSeenAt 34 = .ok (.iconst 1, 1) := by decide +kernel
theorem dX0_isSeenAt_35 : decode cX0_isSeenAt 35 = .ok (.goto 4, 3) := by decide +kernel
theorem dX0_isSeenAt_38 : decode cX0_isSeenAt 38 = .ok (.iconst 0, 1) := by decide +kernel
theorem dX0_isSeenAt_39 : decode cX0_isSeenAt 39 = .ok (.ireturn, 1) := by decide +kernel
theorem dX0_slipsAt_0 : decode cX0_slipsAt 0 = .ok (.aload_n 0, 1) := by decide +kernel
theorem dX0_slipsAt_1 : decode cX0_slipsAt 1 = .ok (.iconst 3, 1) := by decide +kernel
theorem dX0_slipsAt_2 : decode cX0_slipsAt 2 = .ok (.iload_n 1, 1) := by decide +kernel
theorem dX0_slipsAt_3 : decode cX0_slipsAt 3 = .ok (.bipush 24, 2) := by decide +kernel
theorem dX0_slipsAt_5 : decode cX0_slipsAt 5 = .ok (.irem, 1) := by decide +kernel
theorem dX0_slipsAt_6 : decode cX0_slipsAt 6 = .ok (.invokevirtual 103, 3) := by decide +kernel
theorem dX0_slipsAt_9 : decode cX0_slipsAt 9 = .ok (.istore_n 3, 1) := by decide +kernel
theorem dX0_slipsAt_10 : decode cX0_slipsAt 10 = .ok (.iload_n 3, 1) := by decide +kernel
theorem dX0_slipsAt_11 : decode cX0_slipsAt 11 = .ok (.iload_n 2, 1) := by decide +kernel
theorem dX0_slipsAt_12 : decode cX0_slipsAt 12 = .ok (.if_icmp .gt 27, 3) := by decide +kernel
theorem dX0_slipsAt_15 : decode cX0_slipsAt 15 = .ok (.aload_n 0, 1) := by decide +kernel
theorem dX0_slipsAt_16 : decode cX0_slipsAt 16 = .ok (.iconst 0, 1) := by decide +kernel
theorem dX0_slipsAt_17 : decode cX0_slipsAt 17 = .ok (.invokevirtual 106, 3) := by decide +kernel
theorem dX0_slipsAt_20 : decode cX0_slipsAt 20 = .ok (.ifCond .ne 21, 3) := by decide +kernel
theorem dX0_slipsAt_23 : decode cX0_slipsAt 23 = .ok (.aload_n 0, 1) := by decide +kernel
theorem dX0_slipsAt_24 : decode cX0_slipsAt 24 = .ok (.iconst 1, 1) := by decide +kernel
theorem dX0_slipsAt_25 : decode cX0_slipsAt 25 = .ok (.invokevirtual 106, 3) := by decide +kernel
theorem dX0_slipsAt_28 : decode cX0_slipsAt 28 = .ok (.ifCond .ne 13, 3) := by decide +kernel
theorem dX0_slipsAt_31 : decode cX0_slipsAt 31 = .ok (.aload_n 0, 1) := by decide +kernel
theorem dX0_slipsAt_32 : decode cX0_slipsAt 32 = .ok (.iconst 2, 1) := by decide +kernel
theorem dX0_slipsAt_33 : decode cX0_slipsAt 33 = .ok (.invokevirtual 106, 3) := by decide +kernel
theorem dX0_slipsAt_36 : decode cX0_slipsAt 36 = .ok (.ifCond .ne 5, 3) := by decide +kernel
theorem dX0_slipsAt_39 : decode cX0_slipsAt 39 = .ok (.iload_n 3, 1) := by decide +kernel
theorem dX0_slipsAt_40 : decode cX0_slipsAt 40 = .ok (.ireturn, 1) := by decide +kernel
theorem dX0_slipsAt_41 : decode cX0_slipsAt 41 = .ok (.iload_n 1, 1) := by decide +kernel
theorem dX0_slipsAt_42 : decode cX0_slipsAt 42 = .ok (.bipush 24, 2) := by decide +kernel
theorem dX0_slipsAt_44 : decode cX0_slipsAt 44 = .ok (.idiv, 1) := by decide +kernel
theorem dX0_slipsAt_45 : decode cX0_slipsAt 45 = .ok (.istore 4, 2) := by decide +kernel
theorem dX0_slipsAt_47 : decode cX0_slipsAt 47 = .ok (.aload_n 0, 1) := by decide +kernel
theorem dX0_slipsAt_48 : decode cX0_slipsAt 48 = .ok (.getfield 19, 3) := by decide +kernel
theorem dX0_slipsAt_51 : decode cX0_slipsAt 51 = .ok (.iload 4, 2) := by decide +kernel
theorem dX0_slipsAt_53 : decode cX0_slipsAt 53 = .ok (.invokestatic 109, 3) := by decide +kernel
theorem dX0_slipsAt_56 : decode cX0_slipsAt 56 = .ok (.istore 5, 2) := by decide +kernel
theorem dX0_slipsAt_58 : decode cX0_slipsAt 58 = .ok (.aload_n 0, 1) := by decide +kernel
theorem dX0_slipsAt_59 : decode cX0_slipsAt 59 = .ok (.iconst 0, 1) := by decide +kernel
theorem dX0_slipsAt_60 : decode cX0_slipsAt 60 = .ok (.invokevirtual 106, 3) := by decide +kernel
theorem dX0_slipsAt_63 : decode cX0_slipsAt 63 = .ok (.ifCond .eq 18, 3) := by decide +kernel
theorem dX0_slipsAt_66 : decode cX0_slipsAt 66 = .ok (.iload 5, 2) := by decide +kernel
theorem dX0_slipsAt_68 : decode cX0_slipsAt 68 = .ok (.aload_n 0, 1) := by decide +kernel
theorem dX0_slipsAt_69 : decode cX0_slipsAt 69 = .ok (.getfield 25, 3) := by decide +kernel
theorem dX0_slipsAt_72 : decode cX0_slipsAt 72 = .ok (.isub, 1) := by decide +kernel
theorem dX0_slipsAt_73 : decode cX0_slipsAt 73 = .ok (.invokestatic 114, 3) := by decide +kernel
theorem dX0_slipsAt_76 : decode cX0_slipsAt 76 = .ok (.ifCond .ne 5, 3) := by decide +kernel
theorem dX0_slipsAt_79 : decode cX0_slipsAt 79 = .ok (.iconst 5, 1) := by decide +kernel
theorem dX0_slipsAt_80 : decode cX0_slipsAt 80 = .ok (.ireturn, 1) := by decide +kernel
theorem dX0_slipsAt_81 : decode cX0_slipsAt 81 = .ok (.iload_n 3, 1) := by decide +kernel
theorem dX0_slipsAt_82 : decode cX0_slipsAt 82 = .ok (.aload_n 0, 1) := by decide +kernel
theorem dX0_slipsAt_83 : decode cX0_slipsAt 83 = .ok (.iconst 0, 1) := by decide +kernel
theorem dX0_slipsAt_84 : decode cX0_slipsAt 84 = .ok (.iload 5, 2) := by decide +kernel
theorem dX0_slipsAt_86 : decode cX0_slipsAt 86 = .ok (.aload_n 0, 1) := by decide +kernel
theorem dX0_slipsAt_87 : decode cX0_slipsAt 87 = .ok (.getfield 25, 3) := by decide +kernel
theorem dX0_slipsAt_90 : decode cX0_slipsAt 90 = .ok (.isub, 1) := by decide +kernel
theorem dX0_slipsAt_91 : decode cX0_slipsAt 91 = .ok (.invokevirtual 103, 3) := by decide +kernel
theorem dX0_slipsAt_94 : decode cX0_slipsAt 94 = .ok (.iadd, 1) := by decide +kernel
theorem dX0_slipsAt_95 : decode cX0_slipsAt 95 = .ok (.istore_n 3, 1) := by decide +kernel
theorem dX0_slipsAt_96 : decode cX0_slipsAt 96 = .ok (.iload_n 3, 1) := by decide +kernel
theorem dX0_slipsAt_97 : decode cX0_slipsAt 97 = .ok (.iload_n 2, 1) := by decide +kernel
theorem dX0_slipsAt_98 : decode cX0_slipsAt 98 = .ok (.if_icmp .gt 19, 3) := by decide +kernel
theorem dX0_slipsAt_101 : decode cX0_slipsAt 101 = .ok (.aload_n 0, 1) := by decide +kernel
theorem dX0_slipsAt_102 : decode cX0_slipsAt 102 = .ok (.iconst 1, 1) := by decide +kernel
theorem dX0_slipsAt_103 : decode cX0_slipsAt 103 = .ok (.invokevirtual 106, 3) := by decide +kernel
theorem dX0_slipsAt_106 : decode cX0_slipsAt 106 = .ok (.ifCond .ne 13, 3) := by decide +kernel
theorem dX0_slipsAt_109 : decode cX0_slipsAt 109 = .ok (.aload_n 0, 1) := by decide +kernel
theorem dX0_slipsAt_110 : decode cX0_slipsAt 110 = .ok (.iconst 2, 1) := by decide +kernel
theorem dX0_slipsAt_111 : decode cX0_slipsAt 111 = .ok (.invokevirtual 106, 3) := by decide +kernel
theorem dX0_slipsAt_114 : decode cX0_slipsAt 114 = .ok (.ifCond .ne 5, 3) := by decide +kernel
theorem dX0_slipsAt_117 : decode cX0_slipsAt 117 = .ok (.iload_n 3, 1) := by decide +kernel
theorem dX0_slipsAt_118 : decode cX0_slipsAt 118 = .ok (.ireturn, 1) := by decide +kernel
theorem dX0_slipsAt_119 : decode cX0_slipsAt 119 = .ok (.aload_n 0, 1) := by decide +kernel
theorem dX0_slipsAt_120 : decode cX0_slipsAt 120 = .ok (.getfield 19, 3) := by decide +kernel
theorem dX0_slipsAt_123 : decode cX0_slipsAt 123 = .ok (.iload 5, 2) := by decide +kernel
theorem dX0_slipsAt_125 : decode cX0_slipsAt 125 = .ok (.iload 4, 2) := by decide +kernel
theorem dX0_slipsAt_127 : decode cX0_slipsAt 127 = .ok (.invokestatic 117, 3) := by decide +kernel
theorem dX0_slipsAt_130 : decode cX0_slipsAt 130 = .ok (.istore 6, 2) := by decide +kernel
theorem dX0_slipsAt_132 : decode cX0_slipsAt 132 = .ok (.iload_n 3, 1) := by decide +kernel
theorem dX0_slipsAt_133 : decode cX0_slipsAt 133 = .ok (.aload_n 0, 1) := by decide +kernel
theorem dX0_slipsAt_134 : decode cX0_slipsAt 134 = .ok (.iconst 1, 1) := by decide +kernel
theorem dX0_slipsAt_135 : decode cX0_slipsAt 135 = .ok (.iload 6, 2) := by decide +kernel
theorem dX0_slipsAt_137 : decode cX0_slipsAt 137 = .ok (.invokestatic 120, 3) := by decide +kernel
theorem dX0_slipsAt_140 : decode cX0_slipsAt 140 = .ok (.invokevirtual 103, 3) := by decide +kernel
theorem dX0_slipsAt_143 : decode cX0_slipsAt 143 = .ok (.iadd, 1) := by decide +kernel
theorem dX0_slipsAt_144 : decode cX0_slipsAt 144 = .ok (.aload_n 0, 1) := by decide +kernel
theorem dX0_slipsAt_145 : decode cX0_slipsAt 145 = .ok (.iconst 2, 1) := by decide +kernel
theorem dX0_slipsAt_146 : decode cX0_slipsAt 146 = .ok (.iload 6, 2) := by decide +kernel
theorem dX0_slipsAt_148 : decode cX0_slipsAt 148 = .ok (.invokestatic 123, 3) := by decide +kernel
theorem dX0_slipsAt_151 : decode cX0_slipsAt 151 = .ok (.invokevirtual 103, 3) := by decide +kernel
theorem dX0_slipsAt_154 : decode cX0_slipsAt 154 = .ok (.iadd, 1) := by decide +kernel
theorem dX0_slipsAt_155 : decode cX0_slipsAt 155 = .ok (.ireturn, 1) := by decide +kernel
theorem dX0_canTell_0 : decode cX0_canTell 0 = .ok (.iload_n 0, 1) := by decide +kernel
theorem dX0_canTell_1 : decode cX0_canTell 1 = .ok (.ifCond .lt 14, 3) := by decide +kernel
theorem dX0_canTell_4 : decode cX0_canTell 4 = .ok (.iload_n 0, 1) := by decide +kernel
theorem dX0_canTell_5 : decode cX0_canTell 5 = .ok (.sipush 999, 3) := by decide +kernel
theorem dX0_canTell_8 : decode cX0_canTell 8 = .ok (.if_icmp .gt 7, 3) := by decide +kernel
theorem dX0_canTell_11 : decode cX0_canTell 11 = .ok (.iconst 1, 1) := by decide +kernel
theorem dX0_canTell_12 : decode cX0_canTell 12 = .ok (.goto 4, 3) := by decide +kernel
theorem dX0_canTell_15 : decode cX0_canTell 15 = .ok (.iconst 0, 1) := by decide +kernel
theorem dX0_canTell_16 : decode cX0_canTell 16 = .ok (.ireturn, 1) := by decide +kernel
theorem dX0_slipOf_0 : decode cX0_slipOf 0 = .ok (.aload_n 0, 1) := by decide +kernel
theorem dX0_slipOf_1 : decode cX0_slipOf 1 = .ok (.iload_n 1, 1) := by decide +kernel
theorem dX0_slipOf_2 : decode cX0_slipOf 2 = .ok (.invokevirtual 106, 3) := by decide +kernel
theorem dX0_slipOf_5 : decode cX0_slipOf 5 = .ok (.ifCond .eq 13, 3) := by decide +kernel
theorem dX0_slipOf_8 : decode cX0_slipOf 8 = .ok (.aload_n 0, 1) := by decide +kernel
theorem dX0_slipOf_9 : decode cX0_slipOf 9 = .ok (.getfield 9, 3) := by decide +kernel
theorem dX0_slipOf_12 : decode cX0_slipOf 12 = .ok (.iload_n 1, 1) := by decide +kernel
theorem dX0_slipOf_13 : decode cX0_slipOf 13 = .ok (.iaload, 1) := by decide +kernel
theorem dX0_slipOf_14 : decode cX0_slipOf 14 = .ok (.iload_n 2, 1) := by decide +kernel
theorem dX0_slipOf_15 : decode cX0_slipOf 15 = .ok (.if_icmp .ne 7, 3) := by decide +kernel
theorem dX0_slipOf_18 : decode cX0_slipOf 18 = .ok (.iconst 0, 1) := by decide +kernel
theorem dX0_slipOf_19 : decode cX0_slipOf 19 = .ok (.goto 4, 3) := by decide +kernel
theorem dX0_slipOf_22 : decode cX0_slipOf 22 = .ok (.iconst 1, 1) := by decide +kernel
theorem dX0_slipOf_23 : decode cX0_slipOf 23 = .ok (.ireturn, 1) := by decide +kernel
theorem dX1_init_0 : decode cX1_init 0 = .ok (.aload_n 0, 1) := by decide +kernel
theorem dX1_init_1 : decode cX1_init 1 = .ok (.invokespecial 3, 3) := by decide +kernel
theorem dX1_init_4 : decode cX1_init 4 = .ok (.aload_n 0, 1) := by decide +kernel
theorem dX1_init_5 : decode cX1_init 5 = .ok (.bipush 8, 2) := by decide +kernel
theorem dX1_init_7 : decode cX1_init 7 = .ok (.anewarray 11, 3) := by decide +kernel
theorem dX1_init_10 : decode cX1_init 10 = .ok (.putfield 13, 3) := by decide +kernel
theorem dX1_init_13 : decode cX1_init 13 = .ok (.iconst 0, 1) := by decide +kernel
theorem dX1_init_14 : decode cX1_init 14 = .ok (.istore_n 1, 1) := by decide +kernel
theorem dX1_init_15 : decode cX1_init 15 = .ok (.iload_n 1, 1) := by decide +kernel
theorem dX1_init_16 : decode cX1_init 16 = .ok (.bipush 8, 2) := by decide +kernel
theorem dX1_init_18 : decode cX1_init 18 = .ok (.if_icmp .ge 22, 3) := by decide +kernel
theorem dX1_init_21 : decode cX1_init 21 = .ok (.aload_n 0, 1) := by decide +kernel
theorem dX1_init_22 : decode cX1_init 22 = .ok (.getfield 13, 3) := by decide +kernel
theorem dX1_init_25 : decode cX1_init 25 = .ok (.iload_n 1, 1) := by decide +kernel
theorem dX1_init_26 : decode cX1_init 26 = .ok (.new 11, 3) := by decide +kernel
theorem dX1_init_29 : decode cX1_init 29 = .ok (.dup, 1) := by decide +kernel
theorem dX1_init_30 : decode cX1_init 30 = .ok (.invokespecial 17, 3) := by decide +kernel
theorem dX1_init_33 : decode cX1_init 33 = .ok (.aastore, 1) := by decide +kernel
theorem dX1_init_34 : decode cX1_init 34 = .ok (.iinc 1 1, 3) := by decide +kernel
theorem dX1_init_37 : decode cX1_init 37 = .ok (.goto (-22), 3) := by decide +kernel
theorem dX1_init_40 : decode cX1_init 40 = .ok (.return_, 1) := by decide +kernel
theorem dX1_hasRoom_0 : decode cX1_hasRoom 0 = .ok (.aload_n 0, 1) := by decide +kernel
theorem dX1_hasRoom_1 : decode cX1_hasRoom 1 = .ok (.getfield 18, 3) := by decide +kernel
theorem dX1_hasRoom_4 : decode cX1_hasRoom 4 = .ok (.bipush 8, 2) := by decide +kernel
theorem dX1_hasRoom_6 : decode cX1_hasRoom 6 = .ok (.if_icmp .ge 7, 3) := by decide +kernel
theorem dX1_hasRoom_9 : decode cX1_hasRoom 9 = .ok (.iconst 1, 1) := by decide +kernel
theorem dX1_hasRoom_10 : decode cX1_hasRoom 10 = .ok (.goto 4, 3) := by decide +kernel
theorem dX1_hasRoom_13 : decode cX1_hasRoom 13 = .ok (.iconst 0, 1) := by decide +kernel
theorem dX1_hasRoom_14 : decode cX1_hasRoom 14 = .ok (.ireturn, 1) := by decide +kernel
theorem dX1_spare_0 : decode cX1_spare 0 = .ok (.aload_n 0, 1) := by decide +kernel
theorem dX1_spare_1 : decode cX1_spare 1 = .ok (.invokevirtual 22, 3) := by decide +kernel
theorem dX1_spare_4 : decode cX1_spare 4 = .ok (.ifCond .eq 15, 3) := by decide +kernel
theorem dX1_spare_7 : decode cX1_spare 7 = .ok (.aload_n 0, 1) := by decide +kernel
theorem dX1_spare_8 : decode cX1_spare 8 = .ok (.getfield 13, 3) := by decide +kernel
theorem dX1_spare_11 : decode cX1_spare 11 = .ok (.aload_n 0, 1) := by decide +kernel
theorem dX1_spare_12 : decode cX1_spare 12 = .ok (.getfield 18, 3) := by decide +kernel
theorem dX1_spare_15 : decode cX1_spare 15 = .ok (.aaload, 1) := by decide +kernel
theorem dX1_spare_16 : decode cX1_spare 16 = .ok (.goto 4, 3) := by decide +kernel
theorem dX1_spare_19 : decode cX1_spare 19 = .ok (.aconst_null, 1) := by decide +kernel
theorem dX1_spare_20 : decode cX1_spare 20 = .ok (.areturn, 1) := by decide +kernel
theorem dX1_keepSpare_0 : decode cX1_keepSpare 0 = .ok (.aload_n 0, 1) := by decide +kernel
theorem dX1_keepSpare_1 : decode cX1_keepSpare 1 = .ok (.invokevirtual 22, 3) := by decide +kernel
theorem dX1_keepSpare_4 : decode cX1_keepSpare 4 = .ok (.ifCond .ne 5, 3) := by decide +kernel
theorem dX1_keepSpare_7 : decode cX1_keepSpare 7 = .ok (.iconst (-1), 1) := by decide +kernel
theorem dX1_keepSpare_8 : decode cX1_keepSpare 8 = .ok (.ireturn, 1) := by decide +kernel
theorem dX1_keepSpare_9 : decode cX1_keepSpare 9 = .ok (.aload_n 0, 1) := by decide +kernel
theorem dX1_keepSpare_10 : decode cX1_keepSpare 10 = .ok (.dup, 1) := by decide +kernel
theorem dX1_keepSpare_11 : decode cX1_keepSpare 11 = .ok (.getfield 18, 3) := by decide +kernel
theorem dX1_keepSpare_14 : decode cX1_keepSpare 14 = .ok (.iconst 1, 1) := by decide +kernel
theorem dX1_keepSpare_15 : decode cX1_keepSpare 15 = .ok (.iadd, 1) := by decide +kernel
theorem dX1_keepSpare_16 : decode cX1_keepSpare 16 = .ok (.putfield 18, 3) := by decide +kernel
theorem dX1_keepSpare_19 : decode cX1_keepSpare 19 = .ok (.aload_n 0, 1) := by decide +kernel
theorem dX1_keepSpare_20 : decode cX1_keepSpare 20 = .ok (.getfield 18, 3) := by decide +kernel
theorem dX1_keepSpare_23 : decode cX1_keepSpare 23 = .ok (.iconst 1, 1) := by decide +kernel
theorem dX1_keepSpare_24 : decode cX1_keepSpare 24 = .ok (.isub, 1) := by decide +kernel
theorem dX1_keepSpare_25 : decode cX1_keepSpare 25 = .ok (.ireturn, 1) := by decide +kernel
theorem dX1_find_0 : decode cX1_find 0 = .ok (.iload_n 1, 1) := by decide +kernel
theorem dX1_find_1 : decode cX1_find 1 = .ok (.ifCond .lt 20, 3) := by decide +kernel
theorem dX1_find_4 : decode cX1_find 4 = .ok (.iload_n 1, 1) := by decide +kernel
theorem dX1_find_5 : decode cX1_find 5 = .ok (.aload_n 0, 1) := by decide +kernel
theorem dX1_find_6 : decode cX1_find 6 = .ok (.getfield 18, 3) := by decide +kernel
theorem dX1_find_9 : decode cX1_find 9 = .ok (.if_icmp .ge 12, 3) := by decide +kernel
theorem dX1_find_12 : decode cX1_find 12 = .ok (.aload_n 0, 1) := by decide +kernel
theorem dX1_find_13 : decode cX1_find 13 = .ok (.getfield 13, 3) := by decide +kernel
theorem dX1_find_16 : decode cX1_find 16 = .ok (.iload_n 1, 1) := by decide +kernel
theorem dX1_find_17 : decode cX1_find 17 = .ok (.aaload, 1) := by decide +kernel
theorem dX1_find_18 : decode cX1_find 18 = .ok (.goto 4, 3) := by decide +kernel
theorem dX1_find_21 : decode cX1_find 21 = .ok (.aconst_null, 1) := by decide +kernel
theorem dX1_find_22 : decode cX1_find 22 = .ok (.areturn, 1) := by decide +kernel
theorem dX1_remove_0 : decode cX1_remove 0 = .ok (.aload_n 0, 1) := by decide +kernel
theorem dX1_remove_1 : decode cX1_remove 1 = .ok (.iload_n 1, 1) := by decide +kernel
theorem dX1_remove_2 : decode cX1_remove 2 = .ok (.invokevirtual 26, 3) := by decide +kernel
theorem dX1_remove_5 : decode cX1_remove 5 = .ok (.astore_n 2, 1) := by decide +kernel
theorem dX1_remove_6 : decode cX1_remove 6 = .ok (.aload_n 2, 1) := by decide +kernel
theorem dX1_remove_7 : decode cX1_remove 7 = .ok (.ifnonnull 5, 3) := by decide +kernel
theorem dX1_remove_10 : decode cX1_remove 10 = .ok (.iconst (-1), 1) := by decide +kernel
theorem dX1_remove_11 : decode cX1_remove 11 = .ok (.ireturn, 1) := by decide +kernel
theorem dX1_remove_12 : decode cX1_remove 12 = .ok (.iload_n 1, 1) := by decide +kernel
theorem dX1_remove_13 : decode cX1_remove 13 = .ok (.istore_n 3, 1) := by decide +kernel
theorem dX1_remove_14 : decode cX1_remove 14 = .ok (.iload_n 3, 1) := by decide +kernel
theorem dX1_remove_15 : decode cX1_remove 15 = .ok (.aload_n 0, 1) := by decide +kernel
theorem dX1_remove_16 : decode cX1_remove 16 = .ok (.getfield 18, 3) := by decide +kernel
theorem dX1_remove_19 : decode cX1_remove 19 = .ok (.iconst 1, 1) := by decide +kernel
theorem dX1_remove_20 : decode cX1_remove 20 = .ok (.isub, 1) := by decide +kernel
theorem dX1_remove_21 : decode cX1_remove 21 = .ok (.if_icmp .ge 23, 3) := by decide +kernel
theorem dX1_remove_24 : decode cX1_remove 24 = .ok (.aload_n 0, 1) := by decide +kernel
theorem dX1_remove_25 : decode cX1_remove 25 = .ok (.getfield 13, 3) := by decide +kernel
theorem dX1_remove_28 : decode cX1_remove 28 = .ok (.iload_n 3, 1) := by decide +kernel
theorem dX1_remove_29 : decode cX1_remove 29 = .ok (.aload_n 0, 1) := by decide +kernel
theorem dX1_remove_30 : decode cX1_remove 30 = .ok (.getfield 13, 3) := by decide +kernel
theorem dX1_remove_33 : decode cX1_remove 33 = .ok (.iload_n 3, 1) := by decide +kernel
theorem dX1_remove_34 : decode cX1_remove 34 = .ok (.iconst 1, 1) := by decide +kernel
theorem dX1_remove_35 : decode cX1_remove 35 = .ok (.iadd, 1) := by decide +kernel
theorem dX1_remove_36 : decode cX1_remove 36 = .ok (.aaload, 1) := by decide +kernel
theorem dX1_remove_37 : decode cX1_remove 37 = .ok (.aastore, 1) := by decide +kernel
theorem dX1_remove_38 : decode cX1_remove 38 = .ok (.iinc 3 1, 3) := by decide +kernel
theorem dX1_remove_41 : decode cX1_remove 41 = .ok (.goto (-27), 3) := by decide +kernel
theorem dX1_remove_44 : decode cX1_remove 44 = .ok (.aload_n 0, 1) := by decide +kernel
theorem dX1_remove_45 : decode cX1_remove 45 = .ok (.dup, 1) := by decide +kernel
theorem dX1_remove_46 : decode cX1_remove 46 = .ok (.getfield 18, 3) := by decide +kernel
theorem dX1_remove_49 : decode cX1_remove 49 = .ok (.iconst 1, 1) := by decide +kernel
theorem dX1_remove_50 : decode cX1_remove 50 = .ok (.isub, 1) := by decide +kernel
theorem dX1_remove_51 : decode cX1_remove 51 = .ok (.putfield 18, 3) := by decide +kernel
theorem dX1_remove_54 : decode cX1_remove 54 = .ok (.aload_n 0, 1) := by decide +kernel
theorem dX1_remove_55 : decode cX1_remove 55 = .ok (.getfield 13, 3) := by decide +kernel
theorem dX1_remove_58 : decode cX1_remove 58 = .ok (.aload_n 0, 1) := by decide +kernel
theorem dX1_remove_59 : decode cX1_remove 59 = .ok (.getfield 18, 3) := by decide +kernel
theorem dX1_remove_62 : decode cX1_remove 62 = .ok (.aload_n 2, 1) := by decide +kernel
theorem dX1_remove_63 : decode cX1_remove 63 = .ok (.aastore, 1) := by decide +kernel
theorem dX1_remove_64 : decode cX1_remove 64 = .ok (.aload_n 0, 1) := by decide +kernel
theorem dX1_remove_65 : decode cX1_remove 65 = .ok (.getfield 18, 3) := by decide +kernel
theorem dX1_remove_68 : decode cX1_remove 68 = .ok (.ireturn, 1) := by decide +kernel
theorem dX1_slowsOfAll_0 : decode cX1_slowsOfAll 0 = .ok (.ldc2_w 30, 3) := by decide +kernel
theorem dX1_slowsOfAll_3 : decode cX1_slowsOfAll 3 = .ok (.lstore_n 2, 1) := by decide +kernel
theorem dX1_slowsOfAll_4 : decode cX1_slowsOfAll 4 = .ok (.iconst 0, 1) := by decide +kernel
theorem dX1_slowsOfAll_5 : decode cX1_slowsOfAll 5 = .ok (.istore 4, 2) := by decide +kernel
theorem dX1_slowsOfAll_7 : decode cX1_slowsOfAll 7 = .ok (.iload 4, 2) := by decide +kernel
theorem dX1_slowsOfAll_9 : decode cX1_slowsOfAll 9 = .ok (.aload_n 0, 1) := by decide +kernel
theorem dX1_slowsOfAll_10 : decode cX1_slowsOfAll 10 = .ok (.getfield 18, 3) := by decide +kernel
theorem dX1_slowsOfAll_13 : decode cX1_slowsOfAll 13 = .ok (.if_icmp .ge 37, 3) := by decide +kernel
theorem dX1_slowsOfAll_16 : decode cX1_slowsOfAll 16 = .ok (.lload_n 2, 1) := by decide +kernel
theorem dX1_slowsOfAll_17 : decode cX1_slowsOfAll 17 = .ok (.lconst 0, 1) := by decide +kernel
theorem dX1_slowsOfAll_18 : decode cX1_slowsOfAll 18 = .ok (.lcmp, 1) := by decide +kernel
theorem dX1_slowsOfAll_19 : decode cX1_slowsOfAll 19 = .ok (.ifCond .eq 31, 3) := by decide +kernel
theorem dX1_slowsOfAll_22 : decode cX1_slowsOfAll 22 = .ok (.aload_n 0, 1) := by decide +kernel
theorem dX1_slowsOfAll_23 : decode cX1_slowsOfAll 23 = .ok (.iload 4, 2) := by decide +kernel
theorem dX1_slowsOfAll_25 : decode cX1_slowsOfAll 25 = .ok (.invokevirtual 26, 3) := by decide +kernel
theorem dX1_slowsOfAll_28 : decode cX1_slowsOfAll 28 = .ok (.astore 5, 2) := by decide +kernel
theorem dX1_slowsOfAll_30 : decode cX1_slowsOfAll 30 = .ok (.aload 5, 2) := by decide +kernel
theorem dX1_slowsOfAll_32 : decode cX1_slowsOfAll 32 = .ok (.ifnull 12, 3) := by decide +kernel
theorem dX1_slowsOfAll_35 : decode cX1_slowsOfAll 35 = .ok (.lload_n 2, 1) := by decide +kernel
theorem dX1_slowsOfAll_36 : decode cX1_slowsOfAll 36 = .ok (.aload 5, 2) := by decide +kernel
theorem dX1_slowsOfAll_38 : decode cX1_slowsOfAll 38 = .ok (.aload_n 1, 1) := by decide +kernel
theorem dX1_slowsOfAll_39 : decode cX1_slowsOfAll 39 = .ok (.invokevirtual 32, 3) := by decide +kernel
theorem dX1_slowsOfAll_42 : decode cX1_slowsOfAll 42 = .ok (.land, 1) := by decide +kernel
theorem dX1_slowsOfAll_43 : decode cX1_slowsOfAll 43 = .ok (.lstore_n 2, 1) := by decide +kernel
theorem dX1_slowsOfAll_44 : decode cX1_slowsOfAll 44 = .ok (.iinc 4 1, 3) := by decide +kernel
theorem dX1_slowsOfAll_47 : decode cX1_slowsOfAll 47 = .ok (.goto (-40), 3) := by decide +kernel
theorem dX1_slowsOfAll_50 : decode cX1_slowsOfAll 50 = .ok (.lload_n 2, 1) := by decide +kernel
theorem dX1_slowsOfAll_51 : decode cX1_slowsOfAll 51 = .ok (.lreturn, 1) := by decide +kernel
theorem dX2_isCalendar_0 : decode cX2_isCalendar 0 = .ok (.iload_n 0, 1) := by decide +kernel
theorem dX2_isCalendar_1 : decode cX2_isCalendar 1 = .ok (.ifCond .lt 12, 3) := by decide +kernel
theorem dX2_isCalendar_4 : decode cX2_isCalendar 4 = .ok (.iload_n 0, 1) := by decide +kernel
theorem dX2_isCalendar_5 : decode cX2_isCalendar 5 = .ok (.iconst 2, 1) := by decide +kernel
theorem dX2_isCalendar_6 : decode cX2_isCalendar 6 = .ok (.if_icmp .gt 7, 3) := by decide +kernel
theorem dX2_isCalendar_9 : decode cX2_isCalendar 9 = .ok (.iconst 1, 1) := by decide +kernel
theorem dX2_isCalendar_10 : decode cX2_isCalendar 10 = .ok (.goto 4, 3) := by decide +kernel
theorem dX2_isCalendar_13 : decode cX2_isCalendar 13 = .ok (.iconst 0, 1) := by decide +kernel
theorem dX2_isCalendar_14 : decode cX2_isCalendar 14 = .ok (.ireturn, 1) := by decide +kernel
theorem dX2_firstDay_0 : decode cX2_firstDay 0 = .ok (.iload_n 0, 1) := by decide +kernel
theorem dX2_firstDay_1 : decode cX2_firstDay 1 = .ok (.ifCond .ne 9, 3) := by decide +kernel
theorem dX2_firstDay_4 : decode cX2_firstDay 4 = .ok (.sipush 365, 3) := by decide +kernel
theorem dX2_firstDay_7 : decode cX2_firstDay 7 = .ok (.iload_n 1, 1) := by decide +kernel
theorem dX2_firstDay_8 : decode cX2_firstDay 8 = .ok (.imul, 1) := by decide +kernel
theorem dX2_firstDay_9 : decode cX2_firstDay 9 = .ok (.ireturn, 1) := by decide +kernel
theorem dX2_firstDay_10 : decode cX2_firstDay 10 = .ok (.iload_n 0, 1) := by decide +kernel
theorem dX2_firstDay_11 : decode cX2_firstDay 11 = .ok (.iconst 1, 1) := by decide +kernel
theorem dX2_firstDay_12 : decode cX2_firstDay 12 = .ok (.if_icmp .ne 15, 3) := by decide +kernel
theorem dX2_firstDay_15 : decode cX2_firstDay 15 = .ok (.sipush 365, 3) := by decide +kernel
theorem dX2_firstDay_18 : decode cX2_firstDay 18 = .ok (.iload_n 1, 1) := by decide +kernel
theorem dX2_firstDay_19 : decode cX2_firstDay 19 = .ok (.imul, 1) := by decide +kernel
theorem dX2_firstDay_20 : decode cX2_firstDay 20 = .ok (.iload_n 1, 1) := by decide +kernel
theorem dX2_firstDay_21 : decode cX2_firstDay 21 = .ok (.iconst 3, 1) := by decide +kernel
theorem dX2_firstDay_22 : decode cX2_firstDay 22 = .ok (.iadd, 1) := by decide +kernel
theorem dX2_firstDay_23 : decode cX2_firstDay 23 = .ok (.iconst 4, 1) := by decide +kernel
theorem dX2_firstDay_24 : decode cX2_firstDay 24 = .ok (.idiv, 1) := by decide +kernel
theorem dX2_firstDay_25 : decode cX2_firstDay 25 = .ok (.iadd, 1) := by decide +kernel
theorem dX2_firstDay_26 : decode cX2_firstDay 26 = .ok (.ireturn, 1) := by decide +kernel
theorem dX2_firstDay_27 : decode cX2_firstDay 27 = .ok (.sipush 354, 3) := by decide +kernel
theorem dX2_firstDay_30 : decode cX2_firstDay 30 = .ok (.iload_n 1, 1) := by decide +kernel
theorem dX2_firstDay_31 : decode cX2_firstDay 31 = .ok (.imul, 1) := by decide +kernel
theorem dX2_firstDay_32 : decode cX2_firstDay 32 = .ok (.bipush 30, 2) := by decide +kernel
theorem dX2_firstDay_34 : decode cX2_firstDay 34 = .ok (.bipush 7, 2) := by decide +kernel
theorem dX2_firstDay_36 : decode cX2_firstDay 36 = .ok (.iload_n 1, 1) := by decide +kernel
theorem dX2_firstDay_37 : decode cX2_firstDay 37 = .ok (.imul, 1) := by decide +kernel
theorem dX2_firstDay_38 : decode cX2_firstDay 38 = .ok (.bipush 13, 2) := by decide +kernel
theorem dX2_firstDay_40 : decode cX2_firstDay 40 = .ok (.iadd, 1) := by decide +kernel
theorem dX2_firstDay_41 : decode cX2_firstDay 41 = .ok (.bipush 19, 2) := by decide +kernel
theorem dX2_firstDay_43 : decode cX2_firstDay 43 = .ok (.idiv, 1) := by decide +kernel
theorem dX2_firstDay_44 : decode cX2_firstDay 44 = .ok (.imul, 1) := by decide +kernel
theorem dX2_firstDay_45 : decode cX2_firstDay 45 = .ok (.iadd, 1) := by decide +kernel
theorem dX2_firstDay_46 : decode cX2_firstDay 46 = .ok (.ireturn, 1) := by decide +kernel
theorem dX2_monthLength_0 : decode cX2_monthLength 0 = .ok (.iload_n 2, 1) := by decide +kernel
theorem dX2_monthLength_1 : decode cX2_monthLength 1 = .ok (.iconst 1, 1) := by decide +kernel
theorem dX2_monthLength_2 : decode cX2_monthLength 2 = .ok (.if_icmp .lt 9, 3) := by decide +kernel
theorem dX2_monthLength_5 : decode cX2_monthLength 5 = .ok (.iload_n 2, 1) := by decide +kernel
theorem dX2_monthLength_6 : decode cX2_monthLength 6 = .ok (.bipush 13, 2) := by decide +kernel
theorem dX2_monthLength_8 : decode cX2_monthLength 8 = .ok (.if_icmp .le 5, 3) := by decide +kernel
theorem dX2_monthLength_11 : decode cX2_monthLength 11 = .ok (.iconst 0, 1) := by decide +kernel
theorem dX2_monthLength_12 : decode cX2_monthLength 12 = .ok (.ireturn, 1) := by decide +kernel
theorem dX2_monthLength_13 : decode cX2_monthLength 13 = .ok (.iload_n 0, 1) := by decide +kernel
theorem dX2_monthLength_14 : decode cX2_monthLength 14 = .ok (.ifCond .ne 16, 3) := by decide +kernel
theorem dX2_monthLength_17 : decode cX2_monthLength 17 = .ok (.iload_n 2, 1) := by decide +kernel
theorem dX2_monthLength_18 : decode cX2_monthLength 18 = .ok (.bipush 13, 2) := by decide +kernel
theorem dX2_monthLength_20 : decode cX2_monthLength 20 = .ok (.if_icmp .ge 8, 3) := by decide +kernel
theorem dX2_monthLength_23 : decode cX2_monthLength 23 = .ok (.bipush 30, 2) := by decide +kernel
theorem dX2_monthLength_25 : decode cX2_monthLength 25 = .ok (.goto 4, 3) := by decide +kernel
theorem dX2_monthLength_28 : decode cX2_monthLength 28 = .ok (.iconst 5, 1) := by decide +kernel
theorem dX2_monthLength_29 : decode cX2_monthLength 29 = .ok (.ireturn, 1) := by decide +kernel
theorem dX2_monthLength_30 : decode cX2_monthLength 30 = .ok (.iload_n 0, 1) := by decide +kernel
theorem dX2_monthLength_31 : decode cX2_monthLength 31 = .ok (.iconst 2, 1) := by decide +kernel
theorem dX2_monthLength_32 : decode cX2_monthLength 32 = .ok (.if_icmp .ne 16, 3) := by decide +kernel
theorem dX2_monthLength_35 : decode cX2_monthLength 35 = .ok (.iload_n 2, 1) := by decide +kernel
theorem dX2_monthLength_36 : decode cX2_monthLength 36 = .ok (.bipush 13, 2) := by decide +kernel
theorem dX2_monthLength_38 : decode cX2_monthLength 38 = .ok (.if_icmp .ge 10, 3) := by decide +kernel
theorem dX2_monthLength_41 : decode cX2_monthLength 41 = .ok (.bipush 29, 2) := by decide +kernel
theorem dX2_monthLength_43 : decode cX2_monthLength 43 = .ok (.iload_n 2, 1) := by decide +kernel
theorem dX2_monthLength_44 : decode cX2_monthLength 44 = .ok (.iconst 2, 1) := by decide +kernel
theorem dX2_monthLength_45 : decode cX2_monthLength 45 = .ok (.irem, 1) := by decide +kernel
theorem dX2_monthLength_46 : decode cX2_monthLength 46 = .ok (.iadd, 1) := by decide +kernel
theorem dX2_monthLength_47 : decode cX2_monthLength 47 = .ok (.ireturn, 1) := by decide +kernel
theorem dX2_monthLength_48 : decode cX2_monthLength 48 = .ok (.iload_n 0, 1) := by decide +kernel
theorem dX2_monthLength_49 : decode cX2_monthLength 49 = .ok (.iconst 2, 1) := by decide +kernel
theorem dX2_monthLength_50 : decode cX2_monthLength 50 = .ok (.if_icmp .ne 24, 3) := by decide +kernel
theorem dX2_monthLength_53 : decode cX2_monthLength 53 = .ok (.bipush 7, 2) := by decide +kernel
theorem dX2_monthLength_55 : decode cX2_monthLength 55 = .ok (.iload_n 1, 1) := by decide +kernel
theorem dX2_monthLength_56 : decode cX2_monthLength 56 = .ok (.imul, 1) := by decide +kernel
theorem dX2_monthLength_57 : decode cX2_monthLength 57 = .ok (.iconst 1, 1) := by decide +kernel
theorem dX2_monthLength_58 : decode cX2_monthLength 58 = .ok (.iadd, 1) := by decide +kernel
theorem dX2_monthLength_59 : decode cX2_monthLength 59 = .ok (.bipush 19, 2) := by decide +kernel
theorem dX2_monthLength_61 : decode cX2_monthLength 61 = .ok (.irem, 1) := by decide +kernel
theorem dX2_monthLength_62 : decode cX2_monthLength 62 = .ok (.bipush 7, 2) := by decide +kernel
theorem dX2_monthLength_64 : decode cX2_monthLength 64 = .ok (.if_icmp .ge 8, 3) := by decide +kernel
theorem dX2_monthLength_67 : decode cX2_monthLength 67 = .ok (.bipush 30, 2) := by decide +kernel
theorem dX2_monthLength_69 : decode cX2_monthLength 69 = .ok (.goto 4, 3) := by decide +kernel
theorem dX2_monthLength_72 : decode cX2_monthLength 72 = .ok (.iconst 0, 1) := by decide +kernel
theorem dX2_monthLength_73 : decode cX2_monthLength 73 = .ok (.ireturn, 1) := by decide +kernel
theorem dX2_monthLength_74 : decode cX2_monthLength 74 = .ok (.iload_n 2, 1) := by decide +kernel
theorem dX2_monthLength_75 : decode cX2_monthLength 75 = .ok (.getstatic 11, 3) := by decide +kernel
theorem dX2_monthLength_78 : decode cX2_monthLength 78 = .ok (.arraylength, 1) := by decide +kernel
theorem dX2_monthLength_79 : decode cX2_monthLength 79 = .ok (.if_icmp .le 5, 3) := by decide +kernel
theorem dX2_monthLength_82 : decode cX2_monthLength 82 = .ok (.iconst 0, 1) := by decide +kernel
theorem dX2_monthLength_83 : decode cX2_monthLength 83 = .ok (.ireturn, 1) := by decide +kernel
theorem dX2_monthLength_84 : decode cX2_monthLength 84 = .ok (.iload_n 2, 1) := by decide +kernel
theorem dX2_monthLength_85 : decode cX2_monthLength 85 = .ok (.iconst 2, 1) := by decide +kernel
theorem dX2_monthLength_86 : decode cX2_monthLength 86 = .ok (.if_icmp .ne 14, 3) := by decide +kernel
theorem dX2_monthLength_89 : decode cX2_monthLength 89 = .ok (.iload_n 1, 1) := by decide +kernel
theorem dX2_monthLength_90 : decode cX2_monthLength 90 = .ok (.iconst 4, 1) := by decide +kernel
theorem dX2_monthLength_91 : decode cX2_monthLength 91 = .ok (.irem, 1) := by decide +kernel
theorem dX2_monthLength_92 : decode cX2_monthLength 92 = .ok (.ifCond .ne 8, 3) := by decide +kernel
theorem dX2_monthLength_95 : decode cX2_monthLength 95 = .ok (.bipush 29, 2) := by decide +kernel
theorem dX2_monthLength_97 : decode cX2_monthLength 97 = .ok (.goto 10, 3) := by decide +kernel
theorem dX2_monthLength_100 : decode cX2_monthLength 100 = .ok (.getstatic 11, 3) := by decide +kernel
theorem dX2_monthLength_103 : decode cX2_monthLength 103 = .ok (.iload_n 2, 1) := by decide +kernel
theorem dX2_monthLength_104 : decode cX2_monthLength 104 = .ok (.iconst 1, 1) := by decide +kernel
theorem dX2_monthLength_105 : decode cX2_monthLength 105 = .ok (.isub, 1) := by decide +kernel
theorem dX2_monthLength_106 : decode cX2_monthLength 106 = .ok (.iaload, 1) := by decide +kernel
theorem dX2_monthLength_107 : decode cX2_monthLength 107 = .ok (.ireturn, 1) := by decide +kernel
theorem dX2_yearOf_0 : decode cX2_yearOf 0 = .ok (.iload_n 0, 1) := by decide +kernel
theorem dX2_yearOf_1 : decode cX2_yearOf 1 = .ok (.iload_n 1, 1) := by decide +kernel
theorem dX2_yearOf_2 : decode cX2_yearOf 2 = .ok (.invokestatic 15, 3) := by decide +kernel
theorem dX2_yearOf_5 : decode cX2_yearOf 5 = .ok (.istore_n 2, 1) := by decide +kernel
theorem dX2_yearOf_6 : decode cX2_yearOf 6 = .ok (.iload_n 0, 1) := by decide +kernel
theorem dX2_yearOf_7 : decode cX2_yearOf 7 = .ok (.iload_n 2, 1) := by decide +kernel
theorem dX2_yearOf_8 : decode cX2_yearOf 8 = .ok (.invokestatic 19, 3) := by decide +kernel
theorem dX2_yearOf_11 : decode cX2_yearOf 11 = .ok (.iload_n 1, 1) := by decide +kernel
theorem dX2_yearOf_12 : decode cX2_yearOf 12 = .ok (.if_icmp .le 7, 3) := by decide +kernel
theorem dX2_yearOf_15 : decode cX2_yearOf 15 = .ok (.iload_n 2, 1) := by decide +kernel
theorem dX2_yearOf_16 : decode cX2_yearOf 16 = .ok (.iconst 1, 1) := by decide +kernel
theorem dX2_yearOf_17 : decode cX2_yearOf 17 = .ok (.isub, 1) := by decide +kernel
theorem dX2_yearOf_18 : decode cX2_yearOf 18 = .ok (.ireturn, 1) := by decide +kernel
theorem dX2_yearOf_19 : decode cX2_yearOf 19 = .ok (.iload_n 0, 1) := by decide +kernel
theorem dX2_yearOf_20 : decode cX2_yearOf 20 = .ok (.iload_n 2, 1) := by decide +kernel
theorem dX2_yearOf_21 : decode cX2_yearOf 21 = .ok (.iconst 1, 1) := by decide +kernel
theorem dX2_yearOf_22 : decode cX2_yearOf 22 = .ok (.iadd, 1) := by decide +kernel
theorem dX2_yearOf_23 : decode cX2_yearOf 23 = .ok (.invokestatic 19, 3) := by decide +kernel
theorem dX2_yearOf_26 : decode cX2_yearOf 26 = .ok (.iload_n 1, 1) := by decide +kernel
theorem dX2_yearOf_27 : decode cX2_yearOf 27 = .ok (.if_icmp .gt 9, 3) := by decide +kernel
theorem dX2_yearOf_30 : decode cX2_yearOf 30 = .ok (.iload_n 2, 1) := by decide +kernel
theorem dX2_yearOf_31 : decode cX2_yearOf 31 = .ok (.iconst 1, 1) := by decide +kernel
theorem dX2_yearOf_32 : decode cX2_yearOf 32 = .ok (.iadd, 1) := by decide +kernel
theorem dX2_yearOf_33 : decode cX2_yearOf 33 = .ok (.goto 4, 3) := by decide +kernel
theorem dX2_yearOf_36 : decode cX2_yearOf 36 = .ok (.iload_n 2, 1) := by decide +kernel
theorem dX2_yearOf_37 : decode cX2_yearOf 37 = .ok (.ireturn, 1) := by decide +kernel
theorem dX2_guessYear_0 : decode cX2_guessYear 0 = .ok (.iload_n 0, 1) := by decide +kernel
theorem dX2_guessYear_1 : decode cX2_guessYear 1 = .ok (.ifCond .ne 9, 3) := by decide +kernel
theorem dX2_guessYear_4 : decode cX2_guessYear 4 = .ok (.iload_n 1, 1) := by decide +kernel
theorem dX2_guessYear_5 : decode cX2_guessYear 5 = .ok (.sipush 365, 3) := by decide +kernel
theorem dX2_guessYear_8 : decode cX2_guessYear 8 = .ok (.idiv, 1) := by decide +kernel
theorem dX2_guessYear_9 : decode cX2_guessYear 9 = .ok (.ireturn, 1) := by decide +kernel
theorem dX2_guessYear_10 : decode cX2_guessYear 10 = .ok (.iload_n 0, 1) := by decide +kernel
theorem dX2_guessYear_11 : decode cX2_guessYear 11 = .ok (.iconst 1, 1) := by decide +kernel
theorem dX2_guessYear_12 : decode cX2_guessYear 12 = .ok (.if_icmp .ne 13, 3) := by decide +kernel
theorem dX2_guessYear_15 : decode cX2_guessYear 15 = .ok (.iconst 4, 1) := by decide +kernel
theorem dX2_guessYear_16 : decode cX2_guessYear 16 = .ok (.iload_n 1, 1) := by decide +kernel
theorem dX2_guessYear_17 : decode cX2_guessYear 17 = .ok (.imul, 1) := by decide +kernel
theorem dX2_guessYear_18 : decode cX2_guessYear 18 = .ok (.sipush 1461, 3) := by decide +kernel
theorem dX2_guessYear_21 : decode cX2_guessYear 21 = .ok (.idiv, 1) := by decide +kernel
theorem dX2_guessYear_22 : decode cX2_guessYear 22 = .ok (.goto 11, 3) := by decide +kernel
theorem dX2_guessYear_25 : decode cX2_guessYear 25 = .ok (.bipush 19, 2) := by decide +kernel
theorem dX2_guessYear_27 : decode cX2_guessYear 27 = .ok (.iload_n 1, 1) := by decide +kernel
theorem dX2_guessYear_28 : decode cX2_guessYear 28 = .ok (.imul, 1) := by decide +kernel
theorem dX2_guessYear_29 : decode cX2_guessYear 29 = .ok (.sipush 6936, 3) := by decide +kernel
theorem dX2_guessYear_32 : decode cX2_guessYear 32 = .ok (.idiv, 1) := by decide +kernel
theorem dX2_guessYear_33 : decode cX2_guessYear 33 = .ok (.ireturn, 1) := by decide +kernel
theorem dX2_monthDayOf_0 : decode cX2_monthDayOf 0 = .ok (.iload_n 2, 1) := by decide +kernel
theorem dX2_monthDayOf_1 : decode cX2_monthDayOf 1 = .ok (.iload_n 0, 1) := by decide +kernel
theorem dX2_monthDayOf_2 : decode cX2_monthDayOf 2 = .ok (.iload_n 1, 1) := by decide +kernel
theorem dX2_monthDayOf_3 : decode cX2_monthDayOf 3 = .ok (.invokestatic 19, 3) := by decide +kernel
theorem dX2_monthDayOf_6 : decode cX2_monthDayOf 6 = .ok (.isub, 1) := by decide +kernel
theorem dX2_monthDayOf_7 : decode cX2_monthDayOf 7 = .ok (.istore_n 3, 1) := by decide +kernel
theorem dX2_monthDayOf_8 : decode cX2_monthDayOf 8 = .ok (.iconst 1, 1) := by decide +kernel
theorem dX2_monthDayOf_9 : decode cX2_monthDayOf 9 = .ok (.istore 4, 2) := by decide +kernel
theorem dX2_monthDayOf_11 : decode cX2_monthDayOf 11 = .ok (.iload 4, 2) := by decide +kernel
theorem dX2_monthDayOf_13 : decode cX2_monthDayOf 13 = .ok (.bipush 13, 2) := by decide +kernel
theorem dX2_monthDayOf_15 : decode cX2_monthDayOf 15 = .ok (.if_icmp .gt 39, 3) := by decide +kernel
theorem dX2_monthDayOf_18 : decode cX2_monthDayOf 18 = .ok (.iload_n 0, 1) := by decide +kernel
theorem dX2_monthDayOf_19 : decode cX2_monthDayOf 19 = .ok (.iload_n 1, 1) := by decide +kernel
theorem dX2_monthDayOf_20 : decode cX2_monthDayOf 20 = .ok (.iload 4, 2) := by decide +kernel
theorem dX2_monthDayOf_22 : decode cX2_monthDayOf 22 = .ok (.invokestatic 22, 3) := by decide +kernel
theorem dX2_monthDayOf_25 : decode cX2_monthDayOf 25 = .ok (.istore 5, 2) := by decide +kernel
theorem dX2_monthDayOf_27 : decode cX2_monthDayOf 27 = .ok (.iload_n 3, 1) := by decide +kernel
theorem dX2_monthDayOf_28 : decode cX2_monthDayOf 28 = .ok (.iload 5, 2) := by decide +kernel
theorem dX2_monthDayOf_30 : decode cX2_monthDayOf 30 = .ok (.if_icmp .ge 13, 3) := by decide +kernel
theorem dX2_monthDayOf_33 : decode cX2_monthDayOf 33 = .ok (.iload 4, 2) := by decide +kernel
theorem dX2_monthDayOf_35 : decode cX2_monthDayOf 35 = .ok (.bipush 100, 2) := by decide +kernel
theorem dX2_monthDayOf_37 : decode cX2_monthDayOf 37 = .ok (.imul, 1) := by decide +kernel
theorem dX2_monthDayOf_38 : decode cX2_monthDayOf 38 = .ok (.iload_n 3, 1) := by decide +kernel
theorem dX2_monthDayOf_39 : decode cX2_monthDayOf 39 = .ok (.iadd, 1) := by decide +kernel
theorem dX2_monthDayOf_40 : decode cX2_monthDayOf 40 = .ok (.iconst 1, 1) := by decide +kernel
theorem dX2_monthDayOf_41 : decode cX2_monthDayOf 41 = .ok (.iadd, 1) := by decide +kernel
theorem dX2_monthDayOf_42 : decode cX2_monthDayOf 42 = .ok (.ireturn, 1) := by decide +kernel
theorem dX2_monthDayOf_43 : decode cX2_monthDayOf 43 = .ok (.iload_n 3, 1) := by decide +kernel
theorem dX2_monthDayOf_44 : decode cX2_monthDayOf 44 = .ok (.iload 5, 2) := by decide +kernel
theorem dX2_monthDayOf_46 : decode cX2_monthDayOf 46 = .ok (.isub, 1) := by decide +kernel
theorem dX2_monthDayOf_47 : decode cX2_monthDayOf 47 = .ok (.istore_n 3, 1) := by decide +kernel
theorem dX2_monthDayOf_48 : decode cX2_monthDayOf 48 = .ok (.iinc 4 1, 3) := by decide +kernel
theorem dX2_monthDayOf_51 : decode cX2_monthDayOf 51 = .ok (.goto (-40), 3) := by decide +kernel
theorem dX2_monthDayOf_54 : decode cX2_monthDayOf 54 = .ok (.iconst 0, 1) := by decide +kernel
theorem dX2_monthDayOf_55 : decode cX2_monthDayOf 55 = .ok (.ireturn, 1) := by decide +kernel
theorem dX2_monthIn_0 : decode cX2_monthIn 0 = .ok (.iload_n 0, 1) := by decide +kernel
theorem dX2_monthIn_1 : decode cX2_monthIn 1 = .ok (.bipush 100, 2) := by decide +kernel
theorem dX2_monthIn_3 : decode cX2_monthIn 3 = .ok (.idiv, 1) := by decide +kernel
theorem dX2_monthIn_4 : decode cX2_monthIn 4 = .ok (.ireturn, 1) := by decide +kernel
theorem dX2_dayIn_0 : decode cX2_dayIn 0 = .ok (.iload_n 0, 1) := by decide +kernel
theorem dX2_dayIn_1 : decode cX2_dayIn 1 = .ok (.bipush 100, 2) := by decide +kernel
theorem dX2_dayIn_3 : decode cX2_dayIn 3 = .ok (.irem, 1) := by decide +kernel
theorem dX2_dayIn_4 : decode cX2_dayIn 4 = .ok (.ireturn, 1) := by decide +kernel
theorem dX2_dayOf_0 : decode cX2_dayOf 0 = .ok (.iload_n 3, 1) := by decide +kernel
theorem dX2_dayOf_1 : decode cX2_dayOf 1 = .ok (.iconst 1, 1) := by decide +kernel
theorem dX2_dayOf_2 : decode cX2_dayOf 2 = .ok (.if_icmp .lt 13, 3) := by decide +kernel
theorem dX2_dayOf_5 : decode cX2_dayOf 5 = .ok (.iload_n 3, 1) := by decide +kernel
theorem dX2_dayOf_6 : decode cX2_dayOf 6 = .ok (.iload_n 0, 1) := by decide +kernel
theorem dX2_dayOf_7 : decode cX2_dayOf 7 = .ok (.iload_n 1, 1) := by decide +kernel
theorem dX2_dayOf_8 : decode cX2_dayOf 8 = .ok (.iload_n 2, 1) := by decide +kernel
theorem dX2_dayOf_9 : decode cX2_dayOf 9 = .ok (.invokestatic 22, 3) := by decide +kernel
theorem dX2_dayOf_12 : decode cX2_dayOf 12 = .ok (.if_icmp .le 5, 3) := by decide +kernel
theorem dX2_dayOf_15 : decode cX2_dayOf 15 = .ok (.iconst (-1), 1) := by decide +kernel
theorem dX2_dayOf_16 : decode cX2_dayOf 16 = .ok (.ireturn, 1) := by decide +kernel
theorem dX2_dayOf_17 : decode cX2_dayOf 17 = .ok (.iload_n 0, 1) := by decide +kernel
theorem dX2_dayOf_18 : decode cX2_dayOf 18 = .ok (.iload_n 1, 1) := by decide +kernel
theorem dX2_dayOf_19 : decode cX2_dayOf 19 = .ok (.invokestatic 19, 3) := by decide +kernel
theorem dX2_dayOf_22 : decode cX2_dayOf 22 = .ok (.istore 4, 2) := by decide +kernel
theorem dX2_dayOf_24 : decode cX2_dayOf 24 = .ok (.iconst 1, 1) := by decide +kernel
theorem dX2_dayOf_25 : decode cX2_dayOf 25 = .ok (.istore 5, 2) := by decide +kernel
theorem dX2_dayOf_27 : decode cX2_dayOf 27 = .ok (.iload 5, 2) := by decide +kernel
theorem dX2_dayOf_29 : decode cX2_dayOf 29 = .ok (.iload_n 2, 1) := by decide +kernel
theorem dX2_dayOf_30 : decode cX2_dayOf 30 = .ok (.if_icmp .ge 28, 3) := by decide +kernel
theorem dX2_dayOf_33 : decode cX2_dayOf 33 = .ok (.iload 5, 2) := by decide +kernel
theorem dX2_dayOf_35 : decode cX2_dayOf 35 = .ok (.bipush 13, 2) := by decide +kernel
theorem dX2_dayOf_37 : decode cX2_dayOf 37 = .ok (.if_icmp .ge 21, 3) := by decide +kernel
theorem dX2_dayOf_40 : decode cX2_dayOf 40 = .ok (.iload 4, 2) := by decide +kernel
theorem dX2_dayOf_42 : decode cX2_dayOf 42 = .ok (.iload_n 0, 1) := by decide +kernel
theorem dX2_dayOf_43 : decode cX2_dayOf 43 = .ok (.iload_n 1, 1) := by decide +kernel
theorem dX2_dayOf_44 : decode cX2_dayOf 44 = .ok (.iload 5, 2) := by decide +kernel
theorem dX2_dayOf_46 : decode cX2_dayOf 46 = .ok (.invokestatic 22, 3) := by decide +kernel
theorem dX2_dayOf_49 : decode cX2_dayOf 49 = .ok (.iadd, 1) := by decide +kernel
theorem dX2_dayOf_50 : decode cX2_dayOf 50 = .ok (.istore 4, 2) := by decide +kernel
theorem dX2_dayOf_52 : decode cX2_dayOf 52 = .ok (.iinc 5 1, 3) := by decide +kernel
theorem dX2_dayOf_55 : decode cX2_dayOf 55 = .ok (.goto (-28), 3) := by decide +kernel
theorem dX2_dayOf_58 : decode cX2_dayOf 58 = .ok (.iload 4, 2) := by decide +kernel
theorem dX2_dayOf_60 : decode cX2_dayOf 60 = .ok (.iload_n 3, 1) := by decide +kernel
theorem dX2_dayOf_61 : decode cX2_dayOf 61 = .ok (.iadd, 1) := by decide +kernel
theorem dX2_dayOf_62 : decode cX2_dayOf 62 = .ok (.iconst 1, 1) := by decide +kernel
theorem dX2_dayOf_63 : decode cX2_dayOf 63 = .ok (.isub, 1) := by decide +kernel
theorem dX2_dayOf_64 : decode cX2_dayOf 64 = .ok (.ireturn, 1) := by decide +kernel
theorem dX3_init_0 : decode cX3_init 0 = .ok (.aload_n 0, 1) := by decide +kernel
theorem dX3_init_1 : decode cX3_init 1 = .ok (.invokespecial 3, 3) := by decide +kernel
theorem dX3_init_4 : decode cX3_init 4 = .ok (.aload_n 0, 1) := by decide +kernel
theorem dX3_init_5 : decode cX3_init 5 = .ok (.aload_n 1, 1) := by decide +kernel
theorem dX3_init_6 : decode cX3_init 6 = .ok (.putfield 9, 3) := by decide +kernel
theorem dX3_init_9 : decode cX3_init 9 = .ok (.aload_n 0, 1) := by decide +kernel
theorem dX3_init_10 : decode cX3_init 10 = .ok (.aload_n 2, 1) := by decide +kernel
theorem dX3_init_11 : decode cX3_init 11 = .ok (.putfield 15, 3) := by decide +kernel
theorem dX3_init_14 : decode cX3_init 14 = .ok (.aload_n 0, 1) := by decide +kernel
theorem dX3_init_15 : decode cX3_init 15 = .ok (.iconst (-1), 1) := by decide +kernel
theorem dX3_init_16 : decode cX3_init 16 = .ok (.putfield 19, 3) := by decide +kernel
theorem dX3_init_19 : decode cX3_init 19 = .ok (.return_, 1) := by decide +kernel
theorem dX3_faultKind_0 : decode cX3_faultKind 0 = .ok (.aload_n 0, 1) := by decide +kernel
theorem dX3_faultKind_1 : decode cX3_faultKind 1 = .ok (.getfield 23, 3) := by decide +kernel
theorem dX3_faultKind_4 : decode cX3_faultKind 4 = .ok (.ireturn, 1) := by decide +kernel
theorem dX3_faultPlace_0 : decode cX3_faultPlace 0 = .ok (.aload_n 0, 1) := by decide +kernel
theorem dX3_faultPlace_1 : decode cX3_faultPlace 1 = .ok (.getfield 19, 3) := by decide +kernel
theorem dX3_faultPlace_4 : decode cX3_faultPlace 4 = .ok (.ireturn, 1) := by decide +kernel
theorem dX3_read_0 : decode cX3_read 0 = .ok (.aload_n 0, 1) := by decide +kernel
theorem dX3_read_1 : decode cX3_read 1 = .ok (.aload_n 1, 1) := by decide +kernel
theorem dX3_read_2 : decode cX3_read 2 = .ok (.putfield 26, 3) := by decide +kernel
theorem dX3_read_5 : decode cX3_read 5 = .ok (.aload_n 0, 1) := by decide +kernel
theorem dX3_read_6 : decode cX3_read 6 = .ok (.getfield 26, 3) := by decide +kernel
theorem dX3_read_9 : decode cX3_read 9 = .ok (.iload_n 2, 1) := by decide +kernel
theorem dX3_read_10 : decode cX3_read 10 = .ok (.invokevirtual 30, 3) := by decide +kernel
theorem dX3_read_13 : decode cX3_read 13 = .ok (.aload_n 0, 1) := by decide +kernel
theorem dX3_read_14 : decode cX3_read 14 = .ok (.iconst 0, 1) := by decide +kernel
theorem dX3_read_15 : decode cX3_read 15 = .ok (.putfield 36, 3) := by decide +kernel
theorem dX3_read_18 : decode cX3_read 18 = .ok (.aload_n 0, 1) := by decide +kernel
theorem dX3_read_19 : decode cX3_read 19 = .ok (.iconst 0, 1) := by decide +kernel
theorem dX3_read_20 : decode cX3_read 20 = .ok (.putfield 39, 3) := by decide +kernel
theorem dX3_read_23 : decode cX3_read 23 = .ok (.aload_n 0, 1) := by decide +kernel
theorem dX3_read_24 : decode cX3_read 24 = .ok (.iconst (-1), 1) := by decide +kernel
theorem dX3_read_25 : decode cX3_read 25 = .ok (.putfield 42, 3) := by decide +kernel
theorem dX3_read_28 : decode cX3_read 28 = .ok (.aload_n 0, 1) := by decide +kernel
theorem dX3_read_29 : decode cX3_read 29 = .ok (.iconst (-1), 1) := by decide +kernel
theorem dX3_read_30 : decode cX3_read 30 = .ok (.putfield 45, 3) := by decide +kernel
theorem dX3_read_33 : decode cX3_read 33 = .ok (.aload_n 0, 1) := by decide +kernel
theorem dX3_read_34 : decode cX3_read 34 = .ok (.iconst 0, 1) := by decide +kernel
theorem dX3_read_35 : decode cX3_read 35 = .ok (.putfield 23, 3) := by decide +kernel
theorem dX3_read_38 : decode cX3_read 38 = .ok (.aload_n 0, 1) := by decide +kernel
theorem dX3_read_39 : decode cX3_read 39 = .ok (.iconst (-1), 1) := by decide +kernel
theorem dX3_read_40 : decode cX3_read 40 = .ok (.putfield 19, 3) := by decide +kernel
theorem dX3_read_43 : decode cX3_read 43 = .ok (.aload_n 0, 1) := by decide +kernel
theorem dX3_read_44 : decode cX3_read 44 = .ok (.invokevirtual 48, 3) := by decide +kernel
theorem dX3_read_47 : decode cX3_read 47 = .ok (.aload_n 0, 1) := by decide +kernel
theorem dX3_read_48 : decode cX3_read 48 = .ok (.invokevirtual 51, 3) := by decide +kernel
theorem dX3_read_51 : decode cX3_read 51 = .ok (.ifCond .eq 35, 3) := by decide +kernel
theorem dX3_read_54 : decode cX3_read 54 = .ok (.aload_n 0, 1) := by decide +kernel
theorem dX3_read_55 : decode cX3_read 55 = .ok (.invokevirtual 55, 3) := by decide +kernel
theorem dX3_read_58 : decode cX3_read 58 = .ok (.ifCond .eq 28, 3) := by decide +kernel
theorem dX3_read_61 : decode cX3_read 61 = .ok (.aload_n 0, 1) := by decide +kernel
theorem dX3_read_62 : decode cX3_read 62 = .ok (.invokevirtual 58, 3) := by decide +kernel
theorem dX3_read_65 : decode cX3_read 65 = .ok (.ifCond .eq 21, 3) := by decide +kernel
theorem dX3_read_68 : decode cX3_read 68 = .ok (.aload_n 0, 1) := by decide +kernel
theorem dX3_read_69 : decode cX3_read 69 = .ok (.invokevirtual 61, 3) := by decide +kernel
theorem dX3_read_72 : decode cX3_read 72 = .ok (.ifCond .eq 14, 3) := by decide +kernel
theorem dX3_read_75 : decode cX3_read 75 = .ok (.aload_n 0, 1) := by decide +kernel
theorem dX3_read_76 : decode cX3_read 76 = .ok (.invokevirtual 64, 3) := by decide +kernel
theorem dX3_read_79 : decode cX3_read 79 = .ok (.ifCond .eq 7, 3) := by decide +kernel
theorem dX3_read_82 : decode cX3_read 82 = .ok (.iconst 1, 1) := by decide +kernel
theorem dX3_read_83 : decode cX3_read 83 = .ok (.goto 4, 3) := by decide +kernel
theorem dX3_read_86 : decode cX3_read 86 = .ok (.iconst 0, 1) := by decide +kernel
theorem dX3_read_87 : decode cX3_read 87 = .ok (.ireturn, 1) := by decide +kernel
theorem dX3_refuse_0 : decode cX3_refuse 0 = .ok (.aload_n 0, 1) := by decide +kernel
theorem dX3_refuse_1 : decode cX3_refuse 1 = .ok (.iload_n 1, 1) := by decide +kernel
theorem dX3_refuse_2 : decode cX3_refuse 2 = .ok (.putfield 23, 3) := by decide +kernel
theorem dX3_refuse_5 : decode cX3_refuse 5 = .ok (.aload_n 0, 1) := by decide +kernel
theorem dX3_refuse_6 : decode cX3_refuse 6 = .ok (.iload_n 2, 1) := by decide +kernel
theorem dX3_refuse_7 : decode cX3_refuse 7 = .ok (.putfield 19, 3) := by decide +kernel
theorem dX3_refuse_10 : decode cX3_refuse 10 = .ok (.iconst 0, 1) := by decide +kernel
theorem dX3_refuse_11 : decode cX3_refuse 11 = .ok (.ireturn, 1) := by decide +kernel
theorem dX3_advance_0 : decode cX3_advance 0 = .ok (.aload_n 0, 1) := by decide +kernel
theorem dX3_advance_1 : decode cX3_advance 1 = .ok (.getfield 36, 3) := by decide +kernel
theorem dX3_advance_4 : decode cX3_advance 4 = .ok (.iconst 1, 1) := by decide +kernel
theorem dX3_advance_5 : decode cX3_advance 5 = .ok (.if_icmp .eq 11, 3) := by decide +kernel
theorem dX3_advance_8 : decode cX3_advance 8 = .ok (.aload_n 0, 1) := by decide +kernel
theorem dX3_advance_9 : decode cX3_advance 9 = .ok (.getfield 36, 3) := by decide +kernel
theorem dX3_advance_12 : decode cX3_advance 12 = .ok (.iconst 2, 1) := by decide +kernel
theorem dX3_advance_13 : decode cX3_advance 13 = .ok (.if_icmp .ne 7, 3) := by decide +kernel
theorem dX3_advance_16 : decode cX3_advance 16 = .ok (.iconst 1, 1) := by decide +kernel
theorem dX3_advance_17 : decode cX3_advance 17 = .ok (.goto 4, 3) := by decide +kernel
theorem dX3_advance_20 : decode cX3_advance 20 = .ok (.iconst 0, 1) := by decide +kernel
theorem dX3_advance_21 : decode cX3_advance 21 = .ok (.istore_n 1, 1) := by decide +kernel
theorem dX3_advance_22 : decode cX3_advance 22 = .ok (.aload_n 0, 1) := by decide +kernel
theorem dX3_advance_23 : decode cX3_advance 23 = .ok (.getfield 39, 3) := by decide +kernel
theorem dX3_advance_26 : decode cX3_advance 26 = .ok (.istore_n 2, 1) := by decide +kernel
theorem dX3_advance_27 : decode cX3_advance 27 = .ok (.aload_n 0, 1) := by decide +kernel
theorem dX3_advance_28 : decode cX3_advance 28 = .ok (.iload_n 2, 1) := by decide +kernel
theorem dX3_advance_29 : decode cX3_advance 29 = .ok (.putfield 67, 3) := by decide +kernel
theorem dX3_advance_32 : decode cX3_advance 32 = .ok (.aload_n 0, 1) := by decide +kernel
theorem dX3_advance_33 : decode cX3_advance 33 = .ok (.getfield 67, 3) := by decide +kernel
theorem dX3_advance_36 : decode cX3_advance 36 = .ok (.aload_n 0, 1) := by decide +kernel
theorem dX3_advance_37 : decode cX3_advance 37 = .ok (.getfield 9, 3) := by decide +kernel
theorem dX3_advance_40 : decode cX3_advance 40 = .ok (.invokevirtual 70, 3) := by decide +kernel
theorem dX3_advance_43 : decode cX3_advance 43 = .ok (.if_icmp .ge 33, 3) := by decide +kernel
theorem dX3_advance_46 : decode cX3_advance 46 = .ok (.aload_n 0, 1) := by decide +kernel
theorem dX3_advance_47 : decode cX3_advance 47 = .ok (.getfield 9, 3) := by decide +kernel
theorem dX3_advance_50 : decode cX3_advance 50 = .ok (.aload_n 0, 1) := by decide +kernel
theorem dX3_advance_51 : decode cX3_advance 51 = .ok (.getfield 67, 3) := by decide +kernel
theorem dX3_advance_54 : decode cX3_advance 54 = .ok (.invokevirtual 76, 3) := by decide +kernel
theorem dX3_advance_57 : decode cX3_advance 57 = .ok (.invokestatic 80, 3) := by decide +kernel
theorem dX3_advance_60 : decode cX3_advance 60 = .ok (.ifCond .eq 16, 3) := by decide +kernel
theorem dX3_advance_63 : decode cX3_advance 63 = .ok (.aload_n 0, 1) := by decide +kernel
theorem dX3_advance_64 : decode cX3_advance 64 = .ok (.dup, 1) := by decide +kernel
theorem dX3_advance_65 : decode cX3_advance 65 = .ok (.getfield 67, 3) := by decide +kernel
theorem dX3_advance_68 : decode cX3_advance 68 = .ok (.iconst 1, 1) := by decide +kernel
theorem dX3_advance_69 : decode cX3_advance 69 = .ok (.iadd, 1) := by decide +kernel
theorem dX3_advance_70 : decode cX3_advance 70 = .ok (.putfield 67, 3) := by decide +kernel
theorem dX3_advance_73 : decode cX3_advance 73 = .ok (.goto (-41), 3) := by decide +kernel
theorem dX3_advance_76 : decode cX3_advance 76 = .ok (.aload_n 0, 1) := by decide +kernel
theorem dX3_advance_77 : decode cX3_advance 77 = .ok (.invokevirtual 84, 3) := by decide +kernel
theorem dX3_advance_80 : decode cX3_advance 80 = .ok (.iload_n 1, 1) := by decide +kernel
theorem dX3_advance_81 : decode cX3_advance 81 = .ok (.ifCond .eq 32, 3) := by decide +kernel
theorem dX3_advance_84 : decode cX3_advance 84 = .ok (.aload_n 0, 1) := by decide +kernel
theorem dX3_advance_85 : decode cX3_advance 85 = .ok (.getfield 67, 3) := by decide +kernel
theorem dX3_advance_88 : decode cX3_advance 88 = .ok (.iload_n 2, 1) := by decide +kernel
theorem dX3_advance_89 : decode cX3_advance 89 = .ok (.if_icmp .ne 24, 3) := by decide +kernel
theorem dX3_advance_92 : decode cX3_advance 92 = .ok (.aload_n 0, 1) := by decide +kernel
theorem dX3_advance_93 : decode cX3_advance 93 = .ok (.getfield 36, 3) := by decide +kernel
theorem dX3_advance_96 : decode cX3_advance 96 = .ok (.iconst 1, 1) := by decide +kernel
theorem dX3_advance_97 : decode cX3_advance 97 = .ok (.if_icmp .eq 11, 3) := by decide +kernel
theorem dX3_advance_100 : decode cX3_advance 100 = .ok (.aload_n 0, 1) := by decide +kernel
theorem dX3_advance_101 : decode cX3_advance 101 = .ok (.getfield 36, 3) := by decide +kernel
theorem dX3_advance_104 : decode cX3_advance 104 = .ok (.iconst 2, 1) := by decide +kernel
theorem dX3_advance_105 : decode cX3_advance 105 = .ok (.if_icmp .ne 8, 3) := by decide +kernel
theorem dX3_advance_108 : decode cX3_advance 108 = .ok (.aload_n 0, 1) := by decide +kernel
theorem dX3_advance_109 : decode cX3_advance 109 = .ok (.iconst 3, 1) := by decide +kernel
theorem dX3_advance_110 : decode cX3_advance 110 = .ok (.putfield 36, 3) := by decide +kernel
theorem dX3_advance_113 : decode cX3_advance 113 = .ok (.return_, 1) := by decide +kernel
theorem dX3_takeSign_0 : decode cX3_takeSign 0 = .ok (.aload_n 0, 1) := by decide +kernel
theorem dX3_takeSign_1 : decode cX3_takeSign 1 = .ok (.getfield 9, 3) := by decide +kernel
theorem dX3_takeSign_4 : decode cX3_takeSign 4 = .ok (.aload_n 0, 1) := by decide +kernel
theorem dX3_takeSign_5 : decode cX3_takeSign 5 = .ok (.getfield 67, 3) := by decide +kernel
theorem dX3_takeSign_8 : decode cX3_takeSign 8 = .ok (.invokevirtual 76, 3) := by decide +kernel
theorem dX3_takeSign_11 : decode cX3_takeSign 11 = .ok (.istore_n 1, 1) := by decide +kernel
theorem dX3_takeSign_12 : decode cX3_takeSign 12 = .ok (.aload_n 0, 1) := by decide +kernel
theorem dX3_takeSign_13 : decode cX3_takeSign 13 = .ok (.aload_n 0, 1) := by decide +kernel
theorem dX3_takeSign_14 : decode cX3_takeSign 14 = .ok (.getfield 67, 3) := by decide +kernel
theorem dX3_takeSign_17 : decode cX3_takeSign 17 = .ok (.putfield 39, 3) := by decide +kernel
theorem dX3_takeSign_20 : decode cX3_takeSign 20 = .ok (.aload_n 0, 1) := by decide +kernel
theorem dX3_takeSign_21 : decode cX3_takeSign 21 = .ok (.getfield 67, 3) := by decide +kernel
theorem dX3_takeSign_24 : decode cX3_takeSign 24 = .ok (.aload_n 0, 1) := by decide +kernel
theorem dX3_takeSign_25 : decode cX3_takeSign 25 = .ok (.getfield 9, 3) := by decide +kernel
theorem dX3_takeSign_28 : decode cX3_takeSign 28 = .ok (.invokevirtual 70, 3) := by decide +kernel
theorem dX3_takeSign_31 : decode cX3_takeSign 31 = .ok (.if_icmp .lt 11, 3) := by decide +kernel
theorem dX3_takeSign_34 : decode cX3_takeSign 34 = .ok (.aload_n 0, 1) := by decide +kernel
theorem dX3_takeSign_35 : decode cX3_takeSign 35 = .ok (.iconst 0, 1) := by decide +kernel
theorem dX3_takeSign_36 : decode cX3_takeSign 36 = .ok (.putfield 36, 3) := by decide +kernel
theorem dX3_takeSign_39 : decode cX3_takeSign 39 = .ok (.goto 130, 3) := by decide +kernel
theorem dX3_takeSign_42 : decode cX3_takeSign 42 = .ok (.iload_n 1, 1) := by decide +kernel
theorem dX3_takeSign_43 : decode cX3_takeSign 43 = .ok (.invokestatic 87, 3) := by decide +kernel
theorem dX3_takeSign_46 : decode cX3_takeSign 46 = .ok (.ifCond .eq 52, 3) := by decide +kernel
theorem dX3_takeSign_49 : decode cX3_takeSign 49 = .ok (.aload_n 0, 1) := by decide +kernel
theorem dX3_takeSign_50 : decode cX3_takeSign 50 = .ok (.iconst 1, 1) := by decide +kernel
theorem dX3_takeSign_51 : decode cX3_takeSign 51 = .ok (.putfield 36, 3) := by decide +kernel
theorem dX3_takeSign_54 : decode cX3_takeSign 54 = .ok (.aload_n 0, 1) := by decide +kernel
theorem dX3_takeSign_55 : decode cX3_takeSign 55 = .ok (.getfield 39, 3) := by decide +kernel
theorem dX3_takeSign_58 : decode cX3_takeSign 58 = .ok (.aload_n 0, 1) := by decide +kernel
theorem dX3_takeSign_59 : decode cX3_takeSign 59 = .ok (.getfield 9, 3) := by decide +kernel
theorem dX3_takeSign_62 : decode cX3_takeSign 62 = .ok (.invokevirtual 70, 3) := by decide +kernel
theorem dX3_takeSign_65 : decode cX3_takeSign 65 = .ok (.if_icmp .ge 104, 3) := by decide +kernel
theorem dX3_takeSign_68 : decode cX3_takeSign 68 = .ok (.aload_n 0, 1) := by decide +kernel
theorem dX3_takeSign_69 : decode cX3_takeSign 69 = .ok (.getfield 9, 3) := by decide +kernel
theorem dX3_takeSign_72 : decode cX3_takeSign 72 = .ok (.aload_n 0, 1) := by decide +kernel
theorem dX3_takeSign_73 : decode cX3_takeSign 73 = .ok (.getfield 39, 3) := by decide +kernel
theorem dX3_takeSign_76 : decode cX3_takeSign 76 = .ok (.invokevirtual 76, 3) := by decide +kernel
theorem dX3_takeSign_79 : decode cX3_takeSign 79 = .ok (.invokestatic 87, 3) := by decide +kernel
theorem dX3_takeSign_82 : decode cX3_takeSign 82 = .ok (.ifCond .eq 87, 3) := by decide +kernel
theorem dX3_takeSign_85 : decode cX3_takeSign 85 = .ok (.aload_n 0, 1) := by decide +kernel
theorem dX3_takeSign_86 : decode cX3_takeSign 86 = .ok (.dup, 1) := by decide +kernel
theorem dX3_takeSign_87 : decode cX3_takeSign 87 = .ok (.getfield 39, 3) := by decide +kernel
theorem dX3_takeSign_90 : decode cX3_takeSign 90 = .ok (.iconst 1, 1) := by decide +kernel
theorem dX3_takeSign_91 : decode cX3_takeSign 91 = .ok (.iadd, 1) := by decide +kernel
theorem dX3_takeSign_92 : decode cX3_takeSign 92 = .ok (.putfield 39, 3) := by decide +kernel
theorem dX3_takeSign_95 : decode cX3_takeSign 95 = .ok (.goto (-41), 3) := by decide +kernel
theorem dX3_takeSign_98 : decode cX3_takeSign 98 = .ok (.iload_n 1, 1) := by decide +kernel
theorem dX3_takeSign_99 : decode cX3_takeSign 99 = .ok (.invokestatic 90, 3) := by decide +kernel
theorem dX3_takeSign_102 : decode cX3_takeSign 102 = .ok (.ifCond .eq 52, 3) := by decide +kernel
theorem dX3_takeSign_105 : decode cX3_takeSign 105 = .ok (.aload_n 0, 1) := by decide +kernel
theorem dX3_takeSign_106 : decode cX3_takeSign 106 = .ok (.iconst 2, 1) := by decide +kernel
theorem dX3_takeSign_107 : decode cX3_takeSign 107 = .ok (.putfield 36, 3) := by decide +kernel
theorem dX3_takeSign_110 : decode cX3_takeSign 110 = .ok (.aload_n 0, 1) := by decide +kernel
theorem dX3_takeSign_111 : decode cX3_takeSign 111 = .ok (.getfield 39, 3) := by decide +kernel
theorem dX3_takeSign_114 : decode cX3_takeSign 114 = .ok (.aload_n 0, 1) := by decide +kernel
theorem dX3_takeSign_115 : decode cX3_takeSign 115 = .ok (.getfield 9, 3) := by decide +kernel
theorem dX3_takeSign_118 : decode cX3_takeSign 118 = .ok (.invokevirtual 70, 3) := by decide +kernel
theorem dX3_takeSign_121 : decode cX3_takeSign 121 = .ok (.if_icmp .ge 48, 3) := by decide +kernel
theorem dX3_takeSign_124 : decode cX3_takeSign 124 = .ok (.aload_n 0, 1) := by decide +kernel
theorem dX3_takeSign_125 : decode cX3_takeSign 125 = .ok (.getfield 9, 3) := by decide +kernel
theorem dX3_takeSign_128 : decode cX3_takeSign 128 = .ok (.aload_n 0, 1) := by decide +kernel
theorem dX3_takeSign_129 : decode cX3_takeSign 129 = .ok (.getfield 39, 3) := by decide +kernel
theorem dX3_takeSign_132 : decode cX3_takeSign 132 = .ok (.invokevirtual 76, 3) := by decide +kernel
theorem dX3_takeSign_135 : decode cX3_takeSign 135 = .ok (.invokestatic 90, 3) := by decide +kernel
theorem dX3_takeSign_138 : decode cX3_takeSign 138 = .ok (.ifCond .eq 31, 3) := by decide +kernel
theorem dX3_takeSign_141 : decode cX3_takeSign 141 = .ok (.aload_n 0, 1) := by decide +kernel
theorem dX3_takeSign_142 : decode cX3_takeSign 142 = .ok (.dup, 1) := by decide +kernel
theorem dX3_takeSign_143 : decode cX3_takeSign 143 = .ok (.getfield 39, 3) := by decide +kernel
theorem dX3_takeSign_146 : decode cX3_takeSign 146 = .ok (.iconst 1, 1) := by decide +kernel
theorem dX3_takeSign_147 : decode cX3_takeSign 147 = .ok (.iadd, 1) := by decide +kernel
theorem dX3_takeSign_148 : decode cX3_takeSign 148 = .ok (.putfield 39, 3) := by decide +kernel
theorem dX3_takeSign_151 : decode cX3_takeSign 151 = .ok (.goto (-41), 3) := by decide +kernel
theorem dX3_takeSign_154 : decode cX3_takeSign 154 = .ok (.aload_n 0, 1) := by decide +kernel
theorem dX3_takeSign_155 : decode cX3_takeSign 155 = .ok (.iconst 3, 1) := by decide +kernel
theorem dX3_takeSign_156 : decode cX3_takeSign 156 = .ok (.putfield 36, 3) := by decide +kernel
theorem dX3_takeSign_159 : decode cX3_takeSign 159 = .ok (.aload_n 0, 1) := by decide +kernel
theorem dX3_takeSign_160 : decode cX3_takeSign 160 = .ok (.aload_n 0, 1) := by decide +kernel
theorem dX3_takeSign_161 : decode cX3_takeSign 161 = .ok (.getfield 67, 3) := by decide +kernel
theorem dX3_takeSign_164 : decode cX3_takeSign 164 = .ok (.iconst 1, 1) := by decide +kernel
theorem dX3_takeSign_165 : decode cX3_takeSign 165 = .ok (.iadd, 1) := by decide +kernel
theorem dX3_takeSign_166 : decode cX3_takeSign 166 = .ok (.putfield 39, 3) := by decide +kernel
theorem dX3_takeSign_169 : decode cX3_takeSign 169 = .ok (.return_, 1) := by decide +kernel
theorem dX3_isWord_0 : decode cX3_isWord 0 = .ok (.aload_n 0, 1) := by decide +kernel
theorem dX3_isWord_1 : decode cX3_isWord 1 = .ok (.getfield 36, 3) := by decide +kernel
theorem dX3_isWord_4 : decode cX3_isWord 4 = .ok (.iconst 1, 1) := by decide +kernel
theorem dX3_isWord_5 : decode cX3_isWord 5 = .ok (.if_icmp .ne 19, 3) := by decide +kernel
theorem dX3_isWord_8 : decode cX3_isWord 8 = .ok (.aload_n 0, 1) := by decide +kernel
theorem dX3_isWord_9 : decode cX3_isWord 9 = .ok (.getfield 39, 3) := by decide +kernel
theorem dX3_isWord_12 : decode cX3_isWord 12 = .ok (.aload_n 0, 1) := by decide +kernel
theorem dX3_isWord_13 : decode cX3_isWord 13 = .ok (.getfield 67, 3) := by decide +kernel
theorem dX3_isWord_16 : decode cX3_isWord 16 = .ok (.isub, 1) := by decide +kernel
theorem dX3_isWord_17 : decode cX3_isWord 17 = .ok (.aload_n 1, 1) := by decide +kernel
theorem dX3_isWord_18 : decode cX3_isWord 18 = .ok (.invokevirtual 93, 3) := by decide +kernel
theorem dX3_isWord_21 : decode cX3_isWord 21 = .ok (.if_icmp .eq 5, 3) := by decide +kernel
theorem dX3_isWord_24 : decode cX3_isWord 24 = .ok (.iconst 0, 1) := by decide +kernel
theorem dX3_isWord_25 : decode cX3_isWord 25 = .ok (.ireturn, 1) := by decide +kernel
theorem dX3_isWord_26 : decode cX3_isWord 26 = .ok (.iconst 0, 1) := by decide +kernel
theorem dX3_isWord_27 : decode cX3_isWord 27 = .ok (.istore_n 2, 1) := by decide +kernel
theorem dX3_isWord_28 : decode cX3_isWord 28 = .ok (.iload_n 2, 1) := by decide +kernel
theorem dX3_isWord_29 : decode cX3_isWord 29 = .ok (.aload_n 1, 1) := by decide +kernel
theorem dX3_isWord_30 : decode cX3_isWord 30 = .ok (.invokevirtual 93, 3) := by decide +kernel
theorem dX3_isWord_33 : decode cX3_isWord 33 = .ok (.if_icmp .ge 32, 3) := by decide +kernel
theorem dX3_isWord_36 : decode cX3_isWord 36 = .ok (.aload_n 0, 1) := by decide +kernel
theorem dX3_isWord_37 : decode cX3_isWord 37 = .ok (.getfield 9, 3) := by decide +kernel
theorem dX3_isWord_40 : decode cX3_isWord 40 = .ok (.aload_n 0, 1) := by decide +kernel
theorem dX3_isWord_41 : decode cX3_isWord 41 = .ok (.getfield 67, 3) := by decide +kernel
theorem dX3_isWord_44 : decode cX3_isWord 44 = .ok (.iload_n 2, 1) := by decide +kernel
theorem dX3_isWord_45 : decode cX3_isWord 45 = .ok (.iadd, 1) := by decide +kernel
theorem dX3_isWord_46 : decode cX3_isWord 46 = .ok (.invokevirtual 76, 3) := by decide +kernel
theorem dX3_isWord_49 : decode cX3_isWord 49 = .ok (.aload_n 1, 1) := by decide +kernel
theorem dX3_isWord_50 : decode cX3_isWord 50 = .ok (.iload_n 2, 1) := by decide +kernel
theorem dX3_isWord_51 : decode cX3_isWord 51 = .ok (.invokevirtual 98, 3) := by decide +kernel
theorem dX3_isWord_54 : decode cX3_isWord 54 = .ok (.if_icmp .eq 5, 3) := by decide +kernel
theorem dX3_isWord_57 : decode cX3_isWord 57 = .ok (.iconst 0, 1) := by decide +kernel
theorem dX3_isWord_58 : decode cX3_isWord 58 = .ok (.ireturn, 1) := by decide +kernel
theorem dX3_isWord_59 : decode cX3_isWord 59 = .ok (.iinc 2 1, 3) := by decide +kernel
theorem dX3_isWord_62 : decode cX3_isWord 62 = .ok (.goto (-34), 3) := by decide +kernel
theorem dX3_isWord_65 : decode cX3_isWord 65 = .ok (.iconst 1, 1) := by decide +kernel
theorem dX3_isWord_66 : decode cX3_isWord 66 = .ok (.ireturn, 1) := by decide +kernel
theorem dX3_readWhat_0 : decode cX3_readWhat 0 = .ok (.aload_n 0, 1) := by decide +kernel
theorem dX3_readWhat_1 : decode cX3_readWhat 1 = .ok (.ldc 102, 2) := by decide +kernel
theorem dX3_readWhat_3 : decode cX3_readWhat 3 = .ok (.invokevirtual 104, 3) := by decide +kernel
theorem dX3_readWhat_6 : decode cX3_readWhat 6 = .ok (.istore_n 1, 1) := by decide +kernel
theorem dX3_readWhat_7 : decode cX3_readWhat 7 = .ok (.iload_n 1, 1) := by decide +kernel
theorem dX3_readWhat_8 : decode cX3_readWhat 8 = .ok (.ifCond .ne 22, 3) := by decide +kernel
theorem dX3_readWhat_11 : decode cX3_readWhat 11 = .ok (.aload_n 0, 1) := by decide +kernel
theorem dX3_readWhat_12 : decode cX3_readWhat 12 = .ok (.ldc 108, 2) := by decide +kernel
theorem dX3_readWhat_14 : decode cX3_readWhat 14 = .ok (.invokevirtual 104, 3) := by decide +kernel
theorem dX3_readWhat_17 : decode cX3_readWhat 17 = .ok (.ifCond .ne 13, 3) := by decide +kernel
theorem dX3_readWhat_20 : decode cX3_readWhat 20 = .ok (.aload_n 0, 1) := by decide +kernel
theorem dX3_readWhat_21 : decode cX3_readWhat 21 = .ok (.iconst 1, 1) := by decide +kernel
theorem dX3_readWhat_22 : decode cX3_readWhat 22 = .ok (.aload_n 0, 1) := by decide +kernel
theorem dX3_readWhat_23 : decode cX3_readWhat 23 = .ok (.getfield 67, 3) := by decide +kernel
theorem dX3_readWhat_26 : decode cX3_readWhat 26 = .ok (.invokevirtual 110, 3) := by decide +kernel
theorem dX3_readWhat_29 : decode cX3_readWhat 29 = .ok (.ireturn, 1) := by decide +kernel
theorem dX3_readWhat_30 : decode cX3_readWhat 30 = .ok (.aload_n 0, 1) := by decide +kernel
theorem dX3_readWhat_31 : decode cX3_readWhat 31 = .ok (.invokevirtual 48, 3) := by decide +kernel
theorem dX3_readWhat_34 : decode cX3_readWhat 34 = .ok (.iload_n 1, 1) := by decide +kernel
theorem dX3_readWhat_35 : decode cX3_readWhat 35 = .ok (.ifCond .eq 10, 3) := by decide +kernel
theorem dX3_readWhat_38 : decode cX3_readWhat 38 = .ok (.aload_n 0, 1) := by decide +kernel
theorem dX3_readWhat_39 : decode cX3_readWhat 39 = .ok (.invokevirtual 114, 3) := by decide +kernel
theorem dX3_readWhat_42 : decode cX3_readWhat 42 = .ok (.goto 7, 3) := by decide +kernel
theorem dX3_readWhat_45 : decode cX3_readWhat 45 = .ok (.aload_n 0, 1) := by decide +kernel
theorem dX3_readWhat_46 : decode cX3_readWhat 46 = .ok (.invokevirtual 117, 3) := by decide +kernel
theorem dX3_readWhat_49 : decode cX3_readWhat 49 = .ok (.istore_n 2, 1) := by decide +kernel
theorem dX3_readWhat_50 : decode cX3_readWhat 50 = .ok (.iload_n 2, 1) := by decide +kernel
theorem dX3_readWhat_51 : decode cX3_readWhat 51 = .ok (.ifCond .ne 23, 3) := by decide +kernel
theorem dX3_readWhat_54 : decode cX3_readWhat 54 = .ok (.aload_n 0, 1) := by decide +kernel
theorem dX3_readWhat_55 : decode cX3_readWhat 55 = .ok (.getfield 26, 3) := by decide +kernel
theorem dX3_readWhat_58 : decode cX3_readWhat 58 = .ok (.iload_n 1, 1) := by decide +kernel
theorem dX3_readWhat_59 : decode cX3_readWhat 59 = .ok (.ifCond .eq 8, 3) := by decide +kernel
theorem dX3_readWhat_62 : decode cX3_readWhat 62 = .ok (.bipush 14, 2) := by decide +kernel
theorem dX3_readWhat_64 : decode cX3_readWhat 64 = .ok (.goto 5, 3) := by decide +kernel
theorem dX3_readWhat_67 : decode cX3_readWhat 67 = .ok (.bipush 48, 2) := by decide +kernel
theorem dX3_readWhat_69 : decode cX3_readWhat 69 = .ok (.invokevirtual 120, 3) := by decide +kernel
theorem dX3_readWhat_72 : decode cX3_readWhat 72 = .ok (.iconst 1, 1) := by decide +kernel
theorem dX3_readWhat_73 : decode cX3_readWhat 73 = .ok (.ireturn, 1) := by decide +kernel
theorem dX3_readWhat_74 : decode cX3_readWhat 74 = .ok (.aload_n 0, 1) := by decide +kernel
theorem dX3_readWhat_75 : decode cX3_readWhat 75 = .ok (.getfield 26, 3) := by decide +kernel
theorem dX3_readWhat_78 : decode cX3_readWhat 78 = .ok (.iconst 1, 1) := by decide +kernel
theorem dX3_readWhat_79 : decode cX3_readWhat 79 = .ok (.iload_n 2, 1) := by decide +kernel
theorem dX3_readWhat_80 : decode cX3_readWhat 80 = .ok (.ishl, 1) := by decide +kernel
theorem dX3_readWhat_81 : decode cX3_readWhat 81 = .ok (.invokevirtual 120, 3) := by decide +kernel
theorem dX3_readWhat_84 : decode cX3_readWhat 84 = .ok (.aload_n 0, 1) := by decide +kernel
theorem dX3_readWhat_85 : decode cX3_readWhat 85 = .ok (.invokevirtual 48, 3) := by decide +kernel
theorem dX3_readWhat_88 : decode cX3_readWhat 88 = .ok (.iconst 1, 1) := by decide +kernel
theorem dX3_readWhat_89 : decode cX3_readWhat 89 = .ok (.ireturn, 1) := by decide +kernel
theorem dX3_sunKind_0 : decode cX3_sunKind 0 = .ok (.aload_n 0, 1) := by decide +kernel
theorem dX3_sunKind_1 : decode cX3_sunKind 1 = .ok (.ldc 123, 2) := by decide +kernel
theorem dX3_sunKind_3 : decode cX3_sunKind 3 = .ok (.invokevirtual 104, 3) := by decide +kernel
theorem dX3_sunKind_6 : decode cX3_sunKind 6 = .ok (.ifCond .eq 5, 3) := by decide +kernel
theorem dX3_sunKind_9 : decode cX3_sunKind 9 = .ok (.iconst 1, 1) := by decide +kernel
theorem dX3_sunKind_10 : decode cX3_sunKind 10 = .ok (.ireturn, 1) := by decide +kernel
theorem dX3_sunKind_11 : decode cX3_sunKind 11 = .ok (.aload_n 0, 1) := by decide +kernel
theorem dX3_sunKind_12 : decode cX3_sunKind 12 = .ok (.ldc 125, 2) := by decide +kernel
theorem dX3_sunKind_14 : decode cX3_sunKind 14 = .ok (.invokevirtual 104, 3) := by decide +kernel
theorem dX3_sunKind_17 : decode cX3_sunKind 17 = .ok (.ifCond .eq 5, 3) := by decide +kernel
theorem dX3_sunKind_20 : decode cX3_sunKind 20 = .ok (.iconst 2, 1) := by decide +kernel
theorem dX3_sunKind_21 : decode cX3_sunKind 21 = .ok (.ireturn, 1) := by decide +kernel
theorem dX3_sunKind_22 : decode cX3_sunKind 22 = .ok (.aload_n 0, 1) := by decide +kernel
theorem dX3_sunKind_23 : decode cX3_sunKind 23 = .ok (.ldc 127, 2) := by decide +kernel
theorem dX3_sunKind_25 : decode cX3_sunKind 25 = .ok (.invokevirtual 104, 3) := by decide +kernel
theorem dX3_sunKind_28 : decode cX3_sunKind 28 = .ok (.ifCond .eq 7, 3) := by decide +kernel
theorem dX3_sunKind_31 : decode cX3_sunKind 31 = .ok (.iconst 3, 1) := by decide +kernel
theorem dX3_sunKind_32 : decode cX3_sunKind 32 = .ok (.goto 4, 3) := by decide +kernel
theorem dX3_sunKind_35 : decode cX3_sunKind 35 = .ok (.iconst 0, 1) := by decide +kernel
theorem dX3_sunKind_36 : decode cX3_sunKind 36 = .ok (.ireturn, 1) := by decide +kernel
theorem dX3_moonKind_0 : decode cX3_moonKind 0 = .ok (.aload_n 0, 1) := by decide +kernel
theorem dX3_moonKind_1 : decode cX3_moonKind 1 = .ok (.ldc 129, 2) := by decide +kernel
theorem dX3_moonKind_3 : decode cX3_moonKind 3 = .ok (.invokevirtual 104, 3) := by decide +kernel
theorem dX3_moonKind_6 : decode cX3_moonKind 6 = .ok (.ifCond .eq 5, 3) := by decide +kernel
theorem dX3_moonKind_9 : decode cX3_moonKind 9 = .ok (.iconst 4, 1) := by decide +kernel
theorem dX3_moonKind_10 : decode cX3_moonKind 10 = .ok (.ireturn, 1) := by decide +kernel
theorem dX3_moonKind_11 : decode cX3_moonKind 11 = .ok (.aload_n 0, 1) := by decide +kernel
theorem dX3_moonKind_12 : decode cX3_moonKind 12 = .ok (.ldc 131, 2) := by decide +kernel
theorem dX3_moonKind_14 : decode cX3_moonKind 14 = .ok (.invokevirtual 104, 3) := by decide +kernel
theorem dX3_moonKind_17 : decode cX3_moonKind 17 = .ok (.ifCond .eq 7, 3) := by decide +kernel
theorem dX3_moonKind_20 : decode cX3_moonKind 20 = .ok (.iconst 5, 1) := by decide +kernel
theorem dX3_moonKind_21 : decode cX3_moonKind 21 = .ok (.goto 4, 3) := by decide +kernel
theorem dX3_moonKind_24 : decode cX3_moonKind 24 = .ok (.iconst 0, 1) := by decide +kernel
theorem dX3_moonKind_25 : decode cX3_moonKind 25 = .ok (.ireturn, 1) := by decide +kernel
theorem dX3_readParts_0 : decode cX3_readParts 0 = .ok (.iconst 0, 1) := by decide +kernel
theorem dX3_readParts_1 : decode cX3_readParts 1 = .ok (.istore_n 1, 1) := by decide +kernel
theorem dX3_readParts_2 : decode cX3_readParts 2 = .ok (.iload_n 1, 1) := by decide +kernel
theorem dX3_readParts_3 : decode cX3_readParts 3 = .ok (.iconst 4, 1) := by decide +kernel
theorem dX3_readParts_4 : decode cX3_readParts 4 = .ok (.if_icmp .gt 29, 3) := by decide +kernel
theorem dX3_readParts_7 : decode cX3_readParts 7 = .ok (.aload_n 0, 1) := by decide +kernel
theorem dX3_readParts_8 : decode cX3_readParts 8 = .ok (.ldc 133, 2) := by decide +kernel
theorem dX3_readParts_10 : decode cX3_readParts 10 = .ok (.invokevirtual 104, 3) := by decide +kernel
theorem dX3_readParts_13 : decode cX3_readParts 13 = .ok (.ifCond .eq 5, 3) := by decide +kernel
theorem dX3_readParts_16 : decode cX3_readParts 16 = .ok (.iconst 1, 1) := by decide +kernel
theorem dX3_readParts_17 : decode cX3_readParts 17 = .ok (.ireturn, 1) := by decide +kernel
theorem dX3_readParts_18 : decode cX3_readParts 18 = .ok (.aload_n 0, 1) := by decide +kernel
theorem dX3_readParts_19 : decode cX3_readParts 19 = .ok (.invokevirtual 135, 3) := by decide +kernel
theorem dX3_readParts_22 : decode cX3_readParts 22 = .ok (.ifCond .ne 5, 3) := by decide +kernel
theorem dX3_readParts_25 : decode cX3_readParts 25 = .ok (.iconst 0, 1) := by decide +kernel
theorem dX3_readParts_26 : decode cX3_readParts 26 = .ok (.ireturn, 1) := by decide +kernel
theorem dX3_readParts_27 : decode cX3_readParts 27 = .ok (.iinc 1 1, 3) := by decide +kernel
theorem dX3_readParts_30 : decode cX3_readParts 30 = .ok (.goto (-28), 3) := by decide +kernel
theorem dX3_readParts_33 : decode cX3_readParts 33 = .ok (.aload_n 0, 1) := by decide +kernel
theorem dX3_readParts_34 : decode cX3_readParts 34 = .ok (.iconst 1, 1) := by decide +kernel
theorem dX3_readParts_35 : decode cX3_readParts 35 = .ok (.aload_n 0, 1) := by decide +kernel
theorem dX3_readParts_36 : decode cX3_readParts 36 = .ok (.getfield 67, 3) := by decide +kernel
theorem dX3_readParts_39 : decode cX3_readParts 39 = .ok (.invokevirtual 110, 3) := by decide +kernel
theorem dX3_readParts_42 : decode cX3_readParts 42 = .ok (.ireturn, 1) := by decide +kernel
theorem dX3_partHere_0 : decode cX3_partHere 0 = .ok (.aload_n 0, 1) := by decide +kernel
theorem dX3_partHere_1 : decode cX3_partHere 1 = .ok (.ldc 138, 2) := by decide +kernel
theorem dX3_partHere_3 : decode cX3_partHere 3 = .ok (.invokevirtual 104, 3) := by decide +kernel
theorem dX3_partHere_6 : decode cX3_partHere 6 = .ok (.ifCond .eq 5, 3) := by decide +kernel
theorem dX3_partHere_9 : decode cX3_partHere 9 = .ok (.iconst 0, 1) := by decide +kernel
theorem dX3_partHere_10 : decode cX3_partHere 10 = .ok (.ireturn, 1) := by decide +kernel
theorem dX3_partHere_11 : decode cX3_partHere 11 = .ok (.aload_n 0, 1) := by decide +kernel
theorem dX3_partHere_12 : decode cX3_partHere 12 = .ok (.ldc 140, 2) := by decide +kernel
theorem dX3_partHere_14 : decode cX3_partHere 14 = .ok (.invokevirtual 104, 3) := by decide +kernel
theorem dX3_partHere_17 : decode cX3_partHere 17 = .ok (.ifCond .eq 5, 3) := by decide +kernel
theorem dX3_partHere_20 : decode cX3_partHere 20 = .ok (.iconst 1, 1) := by decide +kernel
theorem dX3_partHere_21 : decode cX3_partHere 21 = .ok (.ireturn, 1) := by decide +kernel
theorem dX3_partHere_22 : decode cX3_partHere 22 = .ok (.aload_n 0, 1) := by decide +kernel
theorem dX3_partHere_23 : decode cX3_partHere 23 = .ok (.ldc 142, 2) := by decide +kernel
theorem dX3_partHere_25 : decode cX3_partHere 25 = .ok (.invokevirtual 104, 3) := by decide +kernel
theorem dX3_partHere_28 : decode cX3_partHere 28 = .ok (.ifCond .eq 5, 3) := by decide +kernel
theorem dX3_partHere_31 : decode cX3_partHere 31 = .ok (.iconst 2, 1) := by decide +kernel
theorem dX3_partHere_32 : decode cX3_partHere 32 = .ok (.ireturn, 1) := by decide +kernel
theorem dX3_partHere_33 : decode cX3_partHere 33 = .ok (.aload_n 0, 1) := by decide +kernel
theorem dX3_partHere_34 : decode cX3_partHere 34 = .ok (.ldc 144, 2) := by decide +kernel
theorem dX3_partHere_36 : decode cX3_partHere 36 = .ok (.invokevirtual 104, 3) := by decide +kernel
theorem dX3_partHere_39 : decode cX3_partHere 39 = .ok (.ifCond .eq 7, 3) := by decide +kernel
theorem dX3_partHere_42 : decode cX3_partHere 42 = .ok (.iconst 3, 1) := by decide +kernel
theorem dX3_partHere_43 : decode cX3_partHere 43 = .ok (.goto 4, 3) := by decide +kernel
theorem dX3_partHere_46 : decode cX3_partHere 46 = .ok (.iconst (-1), 1) := by decide +kernel
theorem dX3_partHere_47 : decode cX3_partHere 47 = .ok (.ireturn, 1) := by decide +kernel
theorem dX3_readPart_0 : decode cX3_readPart 0 = .ok (.aload_n 0, 1) := by decide +kernel
theorem dX3_readPart_1 : decode cX3_readPart 1 = .ok (.invokevirtual 146, 3) := by decide +kernel
theorem dX3_readPart_4 : decode cX3_readPart 4 = .ok (.istore_n 1, 1) := by decide +kernel
theorem dX3_readPart_5 : decode cX3_readPart 5 = .ok (.iload_n 1, 1) := by decide +kernel
theorem dX3_readPart_6 : decode cX3_readPart 6 = .ok (.iconst (-1), 1) := by decide +kernel
theorem dX3_readPart_7 : decode cX3_readPart 7 = .ok (.if_icmp .ne 13, 3) := by decide +kernel
theorem dX3_readPart_10 : decode cX3_readPart 10 = .ok (.aload_n 0, 1) := by decide +kernel
theorem dX3_readPart_11 : decode cX3_readPart 11 = .ok (.iconst 1, 1) := by decide +kernel
theorem dX3_readPart_12 : decode cX3_readPart 12 = .ok (.aload_n 0, 1) := by decide +kernel
theorem dX3_readPart_13 : decode cX3_readPart 13 = .ok (.getfield 67, 3) := by decide +kernel
theorem dX3_readPart_16 : decode cX3_readPart 16 = .ok (.invokevirtual 110, 3) := by decide +kernel
theorem dX3_readPart_19 : decode cX3_readPart 19 = .ok (.ireturn, 1) := by decide +kernel
theorem dX3_readPart_20 : decode cX3_readPart 20 = .ok (.aload_n 0, 1) := by decide +kernel
theorem dX3_readPart_21 : decode cX3_readPart 21 = .ok (.getfield 26, 3) := by decide +kernel
theorem dX3_readPart_24 : decode cX3_readPart 24 = .ok (.iload_n 1, 1) := by decide +kernel
theorem dX3_readPart_25 : decode cX3_readPart 25 = .ok (.invokevirtual 149, 3) := by decide +kernel
theorem dX3_readPart_28 : decode cX3_readPart 28 = .ok (.ifCond .eq 13, 3) := by decide +kernel
theorem dX3_readPart_31 : decode cX3_readPart 31 = .ok (.aload_n 0, 1) := by decide +kernel
theorem dX3_readPart_32 : decode cX3_readPart 32 = .ok (.iconst 2, 1) := by decide +kernel
theorem dX3_readPart_33 : decode cX3_readPart 33 = .ok (.aload_n 0, 1) := by decide +kernel
theorem dX3_readPart_34 : decode cX3_readPart 34 = .ok (.getfield 67, 3) := by decide +kernel
theorem dX3_readPart_37 : decode cX3_readPart 37 = .ok (.invokevirtual 110, 3) := by decide +kernel
theorem dX3_readPart_40 : decode cX3_readPart 40 = .ok (.ireturn, 1) := by decide +kernel
theorem dX3_readPart_41 : decode cX3_readPart 41 = .ok (.aload_n 0, 1) := by decide +kernel
theorem dX3_readPart_42 : decode cX3_readPart 42 = .ok (.invokevirtual 48, 3) := by decide +kernel
theorem dX3_readPart_45 : decode cX3_readPart 45 = .ok (.aload_n 0, 1) := by decide +kernel
theorem dX3_readPart_46 : decode cX3_readPart 46 = .ok (.iload_n 1, 1) := by decide +kernel
theorem dX3_readPart_47 : decode cX3_readPart 47 = .ok (.invokevirtual 152, 3) := by decide +kernel
theorem dX3_readPart_50 : decode cX3_readPart 50 = .ok (.ifCond .ne 5, 3) := by decide +kernel
theorem dX3_readPart_53 : decode cX3_readPart 53 = .ok (.iconst 0, 1) := by decide +kernel
theorem dX3_readPart_54 : decode cX3_readPart 54 = .ok (.ireturn, 1) := by decide +kernel
theorem dX3_readPart_55 : decode cX3_readPart 55 = .ok (.aload_n 0, 1) := by decide +kernel
theorem dX3_readPart_56 : decode cX3_readPart 56 = .ok (.invokevirtual 48, 3) := by decide +kernel
theorem dX3_readPart_59 : decode cX3_readPart 59 = .ok (.iload_n 1, 1) := by decide +kernel
theorem dX3_readPart_60 : decode cX3_readPart 60 = .ok (.ifCond .ne 12, 3) := by decide +kernel
theorem dX3_readPart_63 : decode cX3_readPart 63 = .ok (.aload_n 0, 1) := by decide +kernel
theorem dX3_readPart_64 : decode cX3_readPart 64 = .ok (.ldc 155, 2) := by decide +kernel
theorem dX3_readPart_66 : decode cX3_readPart 66 = .ok (.invokevirtual 104, 3) := by decide +kernel
theorem dX3_readPart_69 : decode cX3_readPart 69 = .ok (.ifCond .ne 5, 3) := by decide +kernel
theorem dX3_readPart_72 : decode cX3_readPart 72 = .ok (.iconst 1, 1) := by decide +kernel
theorem dX3_readPart_73 : decode cX3_readPart 73 = .ok (.ireturn, 1) := by decide +kernel
theorem dX3_readPart_74 : decode cX3_readPart 74 = .ok (.aload_n 0, 1) := by decide +kernel
theorem dX3_readPart_75 : decode cX3_readPart 75 = .ok (.invokevirtual 48, 3) := by decide +kernel
theorem dX3_readPart_78 : decode cX3_readPart 78 = .ok (.aload_n 0, 1) := by decide +kernel
theorem dX3_readPart_79 : decode cX3_readPart 79 = .ok (.invokevirtual 157, 3) := by decide +kernel
theorem dX3_readPart_82 : decode cX3_readPart 82 = .ok (.ifCond .ne 5, 3) := by decide +kernel
theorem dX3_readPart_85 : decode cX3_readPart 85 = .ok (.iconst 0, 1) := by decide +kernel
theorem dX3_readPart_86 : decode cX3_readPart 86 = .ok (.ireturn, 1) := by decide +kernel
theorem dX3_readPart_87 : decode cX3_readPart 87 = .ok (.aload_n 0, 1) := by decide +kernel
theorem dX3_readPart_88 : decode cX3_readPart 88 = .ok (.invokevirtual 48, 3) := by decide +kernel
theorem dX3_readPart_91 : decode cX3_readPart 91 = .ok (.iconst 1, 1) := by decide +kernel
theorem dX3_readPart_92 : decode cX3_readPart 92 = .ok (.ireturn, 1) := by decide +kernel
theorem dX3_readNumber_0 : decode cX3_readNumber 0 = .ok (.aload_n 0, 1) := by decide +kernel
theorem dX3_readNumber_1 : decode cX3_readNumber 1 = .ok (.getfield 36, 3) := by decide +kernel
theorem dX3_readNumber_4 : decode cX3_readNumber 4 = .ok (.iconst 2, 1) := by decide +kernel
theorem dX3_readNumber_5 : decode cX3_readNumber 5 = .ok (.if_icmp .eq 13, 3) := by decide +kernel
theorem dX3_readNumber_8 : decode cX3_readNumber 8 = .ok (.aload_n 0, 1) := by decide +kernel
theorem dX3_readNumber_9 : decode cX3_readNumber 9 = .ok (.iconst 1, 1) := by decide +kernel
theorem dX3_readNumber_10 : decode cX3_readNumber 10 = .ok (.aload_n 0, 1) := by decide +kernel
theorem dX3_readNumber_11 : decode cX3_readNumber 11 = .ok (.getfield 67, 3) := by decide +kernel
theorem dX3_readNumber_14 : decode cX3_readNumber 14 = .ok (.invokevirtual 110, 3) := by decide +kernel
theorem dX3_readNumber_17 : decode cX3_readNumber 17 = .ok (.ireturn, 1) := by decide +kernel
theorem dX3_readNumber_18 : decode cX3_readNumber 18 = .ok (.aload_n 0, 1) := by decide +kernel
theorem dX3_readNumber_19 : decode cX3_readNumber 19 = .ok (.getfield 39, 3) := by decide +kernel
theorem dX3_readNumber_22 : decode cX3_readNumber 22 = .ok (.aload_n 0, 1) := by decide +kernel
theorem dX3_readNumber_23 : decode cX3_readNumber 23 = .ok (.getfield 67, 3) := by decide +kernel
theorem dX3_readNumber_26 : decode cX3_readNumber 26 = .ok (.isub, 1) := by decide +kernel
theorem dX3_readNumber_27 : decode cX3_readNumber 27 = .ok (.iconst 3, 1) := by decide +kernel
theorem dX3_readNumber_28 : decode cX3_readNumber 28 = .ok (.if_icmp .le 15, 3) := by decide +kernel
theorem dX3_readNumber_31 : decode cX3_readNumber 31 = .ok (.aload_n 0, 1) := by decide +kernel
theorem dX3_readNumber_32 : decode cX3_readNumber 32 = .ok (.iconst 1, 1) := by decide +kernel
theorem dX3_readNumber_33 : decode cX3_readNumber 33 = .ok (.aload_n 0, 1) := by decide +kernel
theorem dX3_readNumber_34 : decode cX3_readNumber 34 = .ok (.getfield 67, 3) := by decide +kernel
theorem dX3_readNumber_37 : decode cX3_readNumber 37 = .ok (.iconst 3, 1) := by decide +kernel
theorem dX3_readNumber_38 : decode cX3_readNumber 38 = .ok (.iadd, 1) := by decide +kernel
theorem dX3_readNumber_39 : decode cX3_readNumber 39 = .ok (.invokevirtual 110, 3) := by decide +kernel
theorem dX3_readNumber_42 : decode cX3_readNumber 42 = .ok (.ireturn, 1) := by decide +kernel
theorem dX3_readNumber_43 : decode cX3_readNumber 43 = .ok (.iconst 0, 1) := by decide +kernel
theorem dX3_readNumber_44 : decode cX3_readNumber 44 = .ok (.istore_n 2, 1) := by decide +kernel
theorem dX3_readNumber_45 : decode cX3_readNumber 45 = .ok (.aload_n 0, 1) := by decide +kernel
theorem dX3_readNumber_46 : decode cX3_readNumber 46 = .ok (.getfield 67, 3) := by decide +kernel
theorem dX3_readNumber_49 : decode cX3_readNumber 49 = .ok (.istore_n 3, 1) := by decide +kernel
theorem dX3_readNumber_50 : decode cX3_readNumber 50 = .ok (.iload_n 3, 1) := by decide +kernel
theorem dX3_readNumber_51 : decode cX3_readNumber 51 = .ok (.aload_n 0, 1) := by decide +kernel
theorem dX3_readNumber_52 : decode cX3_readNumber 52 = .ok (.getfield 39, 3) := by decide +kernel
theorem dX3_readNumber_55 : decode cX3_readNumber 55 = .ok (.if_icmp .ge 26, 3) := by decide +kernel
theorem dX3_readNumber_58 : decode cX3_readNumber 58 = .ok (.iload_n 2, 1) := by decide +kernel
theorem dX3_readNumber_59 : decode cX3_readNumber 59 = .ok (.bipush 10, 2) := by decide +kernel
theorem dX3_readNumber_61 : decode cX3_readNumber 61 = .ok (.imul, 1) := by decide +kernel
theorem dX3_readNumber_62 : decode cX3_readNumber 62 = .ok (.aload_n 0, 1) := by decide +kernel
theorem dX3_readNumber_63 : decode cX3_readNumber 63 = .ok (.getfield 9, 3) := by decide +kernel
theorem dX3_readNumber_66 : decode cX3_readNumber 66 = .ok (.iload_n 3, 1) := by decide +kernel
theorem dX3_readNumber_67 : decode cX3_readNumber 67 = .ok (.invokevirtual 76, 3) := by decide +kernel
theorem dX3_readNumber_70 : decode cX3_readNumber 70 = .ok (.iadd, 1) := by decide +kernel
theorem dX3_readNumber_71 : decode cX3_readNumber 71 = .ok (.bipush 48, 2) := by decide +kernel
theorem dX3_readNumber_73 : decode cX3_readNumber 73 = .ok (.isub, 1) := by decide +kernel
theorem dX3_readNumber_74 : decode cX3_readNumber 74 = .ok (.istore_n 2, 1) := by decide +kernel
theorem dX3_readNumber_75 : decode cX3_readNumber 75 = .ok (.iinc 3 1, 3) := by decide +kernel
theorem dX3_readNumber_78 : decode cX3_readNumber 78 = .ok (.goto (-28), 3) := by decide +kernel
theorem dX3_readNumber_81 : decode cX3_readNumber 81 = .ok (.iload_n 1, 1) := by decide +kernel
theorem dX3_readNumber_82 : decode cX3_readNumber 82 = .ok (.ifCond .lt 26, 3) := by decide +kernel
theorem dX3_readNumber_85 : decode cX3_readNumber 85 = .ok (.iload_n 1, 1) := by decide +kernel
theorem dX3_readNumber_86 : decode cX3_readNumber 86 = .ok (.iconst 4, 1) := by decide +kernel
theorem dX3_readNumber_87 : decode cX3_readNumber 87 = .ok (.if_icmp .ge 21, 3) := by decide +kernel
theorem dX3_readNumber_90 : decode cX3_readNumber 90 = .ok (.iload_n 2, 1) := by decide +kernel
theorem dX3_readNumber_91 : decode cX3_readNumber 91 = .ok (.getstatic 160, 3) := by decide +kernel
theorem dX3_readNumber_94 : decode cX3_readNumber 94 = .ok (.iload_n 1, 1) := by decide +kernel
theorem dX3_readNumber_95 : decode cX3_readNumber 95 = .ok (.iaload, 1) := by decide +kernel
theorem dX3_readNumber_96 : decode cX3_readNumber 96 = .ok (.if_icmp .lt 12, 3) := by decide +kernel
theorem dX3_readNumber_99 : decode cX3_readNumber 99 = .ok (.iload_n 2, 1) := by decide +kernel
theorem dX3_readNumber_100 : decode cX3_readNumber 100 = .ok (.getstatic 164, 3) := by decide +kernel
theorem dX3_readNumber_103 : decode cX3_readNumber 103 = .ok (.iload_n 1, 1) := by decide +kernel
theorem dX3_readNumber_104 : decode cX3_readNumber 104 = .ok (.iaload, 1) := by decide +kernel
theorem dX3_readNumber_105 : decode cX3_readNumber 105 = .ok (.if_icmp .le 13, 3) := by decide +kernel
theorem dX3_readNumber_108 : decode cX3_readNumber 108 = .ok (.aload_n 0, 1) := by decide +kernel
theorem dX3_readNumber_109 : decode cX3_readNumber 109 = .ok (.iconst 4, 1) := by decide +kernel
theorem dX3_readNumber_110 : decode cX3_readNumber 110 = .ok (.aload_n 0, 1) := by decide +kernel
theorem dX3_readNumber_111 : decode cX3_readNumber 111 = .ok (.getfield 67, 3) := by decide +kernel
theorem dX3_readNumber_114 : decode cX3_readNumber 114 = .ok (.invokevirtual 110, 3) := by decide +kernel
theorem dX3_readNumber_117 : decode cX3_readNumber 117 = .ok (.ireturn, 1) := by decide +kernel
theorem dX3_readNumber_118 : decode cX3_readNumber 118 = .ok (.aload_n 0, 1) := by decide +kernel
theorem dX3_readNumber_119 : decode cX3_readNumber 119 = .ok (.getfield 26, 3) := by decide +kernel
theorem dX3_readNumber_122 : decode cX3_readNumber 122 = .ok (.iload_n 1, 1) := by decide +kernel
theorem dX3_readNumber_123 : decode cX3_readNumber 123 = .ok (.iload_n 2, 1) := by decide +kernel
theorem dX3_readNumber_124 : decode cX3_readNumber 124 = .ok (.invokevirtual 167, 3) := by decide +kernel
theorem dX3_readNumber_127 : decode cX3_readNumber 127 = .ok (.iconst 1, 1) := by decide +kernel
theorem dX3_readNumber_128 : decode cX3_readNumber 128 = .ok (.ireturn, 1) := by decide +kernel
theorem dX3_readRuler_0 : decode cX3_readRuler 0 = .ok (.aload_n 0, 1) := by decide +kernel
theorem dX3_readRuler_1 : decode cX3_readRuler 1 = .ok (.getfield 9, 3) := by decide +kernel
theorem dX3_readRuler_4 : decode cX3_readRuler 4 = .ok (.aload_n 0, 1) := by decide +kernel
theorem dX3_readRuler_5 : decode cX3_readRuler 5 = .ok (.getfield 67, 3) := by decide +kernel
theorem dX3_readRuler_8 : decode cX3_readRuler 8 = .ok (.aload_n 0, 1) := by decide +kernel
theorem dX3_readRuler_9 : decode cX3_readRuler 9 = .ok (.getfield 39, 3) := by decide +kernel
theorem dX3_readRuler_12 : decode cX3_readRuler 12 = .ok (.invokevirtual 171, 3) := by decide +kernel
theorem dX3_readRuler_15 : decode cX3_readRuler 15 = .ok (.istore_n 1, 1) := by decide +kernel
theorem dX3_readRuler_16 : decode cX3_readRuler 16 = .ok (.aload_n 0, 1) := by decide +kernel
theorem dX3_readRuler_17 : decode cX3_readRuler 17 = .ok (.getfield 36, 3) := by decide +kernel
theorem dX3_readRuler_20 : decode cX3_readRuler 20 = .ok (.iconst 1, 1) := by decide +kernel
theorem dX3_readRuler_21 : decode cX3_readRuler 21 = .ok (.if_icmp .ne 8, 3) := by decide +kernel
theorem dX3_readRuler_24 : decode cX3_readRuler 24 = .ok (.iload_n 1, 1) := by decide +kernel
theorem dX3_readRuler_25 : decode cX3_readRuler 25 = .ok (.iconst (-1), 1) := by decide +kernel
theorem dX3_readRuler_26 : decode cX3_readRuler 26 = .ok (.if_icmp .ne 13, 3) := by decide +kernel
theorem dX3_readRuler_29 : decode cX3_readRuler 29 = .ok (.aload_n 0, 1) := by decide +kernel
theorem dX3_readRuler_30 : decode cX3_readRuler 30 = .ok (.iconst 1, 1) := by decide +kernel
theorem dX3_readRuler_31 : decode cX3_readRuler 31 = .ok (.aload_n 0, 1) := by decide +kernel
theorem dX3_readRuler_32 : decode cX3_readRuler 32 = .ok (.getfield 67, 3) := by decide +kernel
theorem dX3_readRuler_35 : decode cX3_readRuler 35 = .ok (.invokevirtual 110, 3) := by decide +kernel
theorem dX3_readRuler_38 : decode cX3_readRuler 38 = .ok (.ireturn, 1) := by decide +kernel
theorem dX3_readRuler_39 : decode cX3_readRuler 39 = .ok (.aload_n 0, 1) := by decide +kernel
theorem dX3_readRuler_40 : decode cX3_readRuler 40 = .ok (.aload_n 0, 1) := by decide +kernel
theorem dX3_readRuler_41 : decode cX3_readRuler 41 = .ok (.getfield 15, 3) := by decide +kernel
theorem dX3_readRuler_44 : decode cX3_readRuler 44 = .ok (.iload_n 1, 1) := by decide +kernel
theorem dX3_readRuler_45 : decode cX3_readRuler 45 = .ok (.invokevirtual 175, 3) := by decide +kernel
theorem dX3_readRuler_48 : decode cX3_readRuler 48 = .ok (.putfield 45, 3) := by decide +kernel
theorem dX3_readRuler_51 : decode cX3_readRuler 51 = .ok (.aload_n 0, 1) := by decide +kernel
theorem dX3_readRuler_52 : decode cX3_readRuler 52 = .ok (.aload_n 0, 1) := by decide +kernel
theorem dX3_readRuler_53 : decode cX3_readRuler 53 = .ok (.getfield 67, 3) := by decide +kernel
theorem dX3_readRuler_56 : decode cX3_readRuler 56 = .ok (.putfield 180, 3) := by decide +kernel
theorem dX3_readRuler_59 : decode cX3_readRuler 59 = .ok (.aload_n 0, 1) := by decide +kernel
theorem dX3_readRuler_60 : decode cX3_readRuler 60 = .ok (.getfield 45, 3) := by decide +kernel
theorem dX3_readRuler_63 : decode cX3_readRuler 63 = .ok (.iconst (-1), 1) := by decide +kernel
theorem dX3_readRuler_64 : decode cX3_readRuler 64 = .ok (.if_icmp .ne 13, 3) := by decide +kernel
theorem dX3_readRuler_67 : decode cX3_readRuler 67 = .ok (.aload_n 0, 1) := by decide +kernel
theorem dX3_readRuler_68 : decode cX3_readRuler 68 = .ok (.iconst 3, 1) := by decide +kernel
theorem dX3_readRuler_69 : decode cX3_readRuler 69 = .ok (.aload_n 0, 1) := by decide +kernel
theorem dX3_readRuler_70 : decode cX3_readRuler 70 = .ok (.getfield 67, 3) := by decide +kernel
theorem dX3_readRuler_73 : decode cX3_readRuler 73 = .ok (.invokevirtual 110, 3) := by decide +kernel
theorem dX3_readRuler_76 : decode cX3_readRuler 76 = .ok (.ireturn, 1) := by decide +kernel
theorem dX3_readRuler_77 : decode cX3_readRuler 77 = .ok (.iconst 1, 1) := by decide +kernel
theorem dX3_readRuler_78 : decode cX3_readRuler 78 = .ok (.ireturn, 1) := by decide +kernel
theorem dX3_readCalendar_0 : decode cX3_readCalendar 0 = .ok (.aload_n 0, 1) := by decide +kernel
theorem dX3_readCalendar_1 : decode cX3_readCalendar 1 = .ok (.invokevirtual 48, 3) := by decide +kernel
theorem dX3_readCalendar_4 : decode cX3_readCalendar 4 = .ok (.aload_n 0, 1) := by decide +kernel
theorem dX3_readCalendar_5 : decode cX3_readCalendar 5 = .ok (.ldc 183, 2) := by decide +kernel
theorem dX3_readCalendar_7 : decode cX3_readCalendar 7 = .ok (.invokevirtual 104, 3) := by decide +kernel
theorem dX3_readCalendar_10 : decode cX3_readCalendar 10 = .ok (.ifCond .eq 11, 3) := by decide +kernel
theorem dX3_readCalendar_13 : decode cX3_readCalendar 13 = .ok (.aload_n 0, 1) := by decide +kernel
theorem dX3_readCalendar_14 : decode cX3_readCalendar 14 = .ok (.iconst 0, 1) := by decide +kernel
theorem dX3_readCalendar_15 : decode cX3_readCalendar 15 = .ok (.putfield 42, 3) := by decide +kernel
theorem dX3_readCalendar_18 : decode cX3_readCalendar 18 = .ok (.goto 47, 3) := by decide +kernel
theorem dX3_readCalendar_21 : decode cX3_readCalendar 21 = .ok (.aload_n 0, 1) := by decide +kernel
theorem dX3_readCalendar_22 : decode cX3_readCalendar 22 = .ok (.ldc 187, 2) := by decide +kernel
theorem dX3_readCalendar_24 : decode cX3_readCalendar 24 = .ok (.invokevirtual 104, 3) := by decide +kernel
theorem dX3_readCalendar_27 : decode cX3_readCalendar 27 = .ok (.ifCond .eq 11, 3) := by decide +kernel
theorem dX3_readCalendar_30 : decode cX3_readCalendar 30 = .ok (.aload_n 0, 1) := by decide +kernel
theorem dX3_readCalendar_31 : decode cX3_readCalendar 31 = .ok (.iconst 1, 1) := by decide +kernel
theorem dX3_readCalendar_32 : decode cX3_readCalendar 32 = .ok (.putfield 42, 3) := by decide +kernel
theorem dX3_readCalendar_35 : decode cX3_readCalendar 35 = .ok (.goto 30, 3) := by decide +kernel
theorem dX3_readCalendar_38 : decode cX3_readCalendar 38 = .ok (.aload_n 0, 1) := by decide +kernel
theorem dX3_readCalendar_39 : decode cX3_readCalendar 39 = .ok (.ldc 189, 2) := by decide +kernel
theorem dX3_readCalendar_41 : decode cX3_readCalendar 41 = .ok (.invokevirtual 104, 3) := by decide +kernel
theorem dX3_readCalendar_44 : decode cX3_readCalendar 44 = .ok (.ifCond .eq 11, 3) := by decide +kernel
theorem dX3_readCalendar_47 : decode cX3_readCalendar 47 = .ok (.aload_n 0, 1) := by decide +kernel
theorem dX3_readCalendar_48 : decode cX3_readCalendar 48 = .ok (.iconst 2, 1) := by decide +kernel
theorem dX3_readCalendar_49 : decode cX3_readCalendar 49 = .ok (.putfield 42, 3) := by decide +kernel
theorem dX3_readCalendar_52 : decode cX3_readCalendar 52 = .ok (.goto 13, 3) := by decide +kernel
theorem dX3_readCalendar_55 : decode cX3_readCalendar 55 = .ok (.aload_n 0, 1) := by decide +kernel
theorem dX3_readCalendar_56 : decode cX3_readCalendar 56 = .ok (.iconst 1, 1) := by decide +kernel
theorem dX3_readCalendar_57 : decode cX3_readCalendar 57 = .ok (.aload_n 0, 1) := by decide +kernel
theorem dX3_readCalendar_58 : decode cX3_readCalendar 58 = .ok (.getfield 67, 3) := by decide +kernel
theorem dX3_readCalendar_61 : decode cX3_readCalendar 61 = .ok (.invokevirtual 110, 3) := by decide +kernel
theorem dX3_readCalendar_64 : decode cX3_readCalendar 64 = .ok (.ireturn, 1) := by decide +kernel
theorem dX3_readCalendar_65 : decode cX3_readCalendar 65 = .ok (.aload_n 0, 1) := by decide +kernel
theorem dX3_readCalendar_66 : decode cX3_readCalendar 66 = .ok (.getfield 26, 3) := by decide +kernel
theorem dX3_readCalendar_69 : decode cX3_readCalendar 69 = .ok (.aload_n 0, 1) := by decide +kernel
theorem dX3_readCalendar_70 : decode cX3_readCalendar 70 = .ok (.getfield 42, 3) := by decide +kernel
theorem dX3_readCalendar_73 : decode cX3_readCalendar 73 = .ok (.invokevirtual 191, 3) := by decide +kernel
theorem dX3_readCalendar_76 : decode cX3_readCalendar 76 = .ok (.iconst 1, 1) := by decide +kernel
theorem dX3_readCalendar_77 : decode cX3_readCalendar 77 = .ok (.ireturn, 1) := by decide +kernel
theorem dX3_readClose_0 : decode cX3_readClose 0 = .ok (.aload_n 0, 1) := by decide +kernel
theorem dX3_readClose_1 : decode cX3_readClose 1 = .ok (.invokevirtual 48, 3) := by decide +kernel
theorem dX3_readClose_4 : decode cX3_readClose 4 = .ok (.aload_n 0, 1) := by decide +kernel
theorem dX3_readClose_5 : decode cX3_readClose 5 = .ok (.getfield 9, 3) := by decide +kernel
theorem dX3_readClose_8 : decode cX3_readClose 8 = .ok (.aload_n 0, 1) := by decide +kernel
theorem dX3_readClose_9 : decode cX3_readClose 9 = .ok (.getfield 67, 3) := by decide +kernel
theorem dX3_readClose_12 : decode cX3_readClose 12 = .ok (.invokevirtual 76, 3) := by decide +kernel
theorem dX3_readClose_15 : decode cX3_readClose 15 = .ok (.bipush 59, 2) := by decide +kernel
theorem dX3_readClose_17 : decode cX3_readClose 17 = .ok (.if_icmp .eq 13, 3) := by decide +kernel
theorem dX3_readClose_20 : decode cX3_readClose 20 = .ok (.aload_n 0, 1) := by decide +kernel
theorem dX3_readClose_21 : decode cX3_readClose 21 = .ok (.iconst 1, 1) := by decide +kernel
theorem dX3_readClose_22 : decode cX3_readClose 22 = .ok (.aload_n 0, 1) := by decide +kernel
theorem dX3_readClose_23 : decode cX3_readClose 23 = .ok (.getfield 67, 3) := by decide +kernel
theorem dX3_readClose_26 : decode cX3_readClose 26 = .ok (.invokevirtual 110, 3) := by decide +kernel
theorem dX3_readClose_29 : decode cX3_readClose 29 = .ok (.ireturn, 1) := by decide +kernel
theorem dX3_readClose_30 : decode cX3_readClose 30 = .ok (.aload_n 0, 1) := by decide +kernel
theorem dX3_readClose_31 : decode cX3_readClose 31 = .ok (.invokevirtual 48, 3) := by decide +kernel
theorem dX3_readClose_34 : decode cX3_readClose 34 = .ok (.aload_n 0, 1) := by decide +kernel
theorem dX3_readClose_35 : decode cX3_readClose 35 = .ok (.getfield 36, 3) := by decide +kernel
theorem dX3_readClose_38 : decode cX3_readClose 38 = .ok (.ifCond .eq 15, 3) := by decide +kernel
theorem dX3_readClose_41 : decode cX3_readClose 41 = .ok (.aload_n 0, 1) := by decide +kernel
theorem dX3_readClose_42 : decode cX3_readClose 42 = .ok (.iconst 1, 1) := by decide +kernel
theorem dX3_readClose_43 : decode cX3_readClose 43 = .ok (.aload_n 0, 1) := by decide +kernel
theorem dX3_readClose_44 : decode cX3_readClose 44 = .ok (.getfield 67, 3) := by decide +kernel
theorem dX3_readClose_47 : decode cX3_readClose 47 = .ok (.invokevirtual 110, 3) := by decide +kernel
theorem dX3_readClose_50 : decode cX3_readClose 50 = .ok (.ifCond .eq 7, 3) := by decide +kernel
theorem dX3_readClose_53 : decode cX3_readClose 53 = .ok (.iconst 1, 1) := by decide +kernel
theorem dX3_readClose_54 : decode cX3_readClose 54 = .ok (.goto 4, 3) := by decide +kernel
theorem dX3_readClose_57 : decode cX3_readClose 57 = .ok (.iconst 0, 1) := by decide +kernel
theorem dX3_readClose_58 : decode cX3_readClose 58 = .ok (.ireturn, 1) := by decide +kernel
theorem dX3_joinRuler_0 : decode cX3_joinRuler 0 = .ok (.aload_n 0, 1) := by decide +kernel
theorem dX3_joinRuler_1 : decode cX3_joinRuler 1 = .ok (.getfield 45, 3) := by decide +kernel
theorem dX3_joinRuler_4 : decode cX3_joinRuler 4 = .ok (.iconst (-1), 1) := by decide +kernel
theorem dX3_joinRuler_5 : decode cX3_joinRuler 5 = .ok (.if_icmp .ne 5, 3) := by decide +kernel
theorem dX3_joinRuler_8 : decode cX3_joinRuler 8 = .ok (.iconst 1, 1) := by decide +kernel
theorem dX3_joinRuler_9 : decode cX3_joinRuler 9 = .ok (.ireturn, 1) := by decide +kernel
theorem dX3_joinRuler_10 : decode cX3_joinRuler 10 = .ok (.aload_n 0, 1) := by decide +kernel
theorem dX3_joinRuler_11 : decode cX3_joinRuler 11 = .ok (.getfield 15, 3) := by decide +kernel
theorem dX3_joinRuler_14 : decode cX3_joinRuler 14 = .ok (.aload_n 0, 1) := by decide +kernel
theorem dX3_joinRuler_15 : decode cX3_joinRuler 15 = .ok (.getfield 45, 3) := by decide +kernel
theorem dX3_joinRuler_18 : decode cX3_joinRuler 18 = .ok (.invokevirtual 194, 3) := by decide +kernel
theorem dX3_joinRuler_21 : decode cX3_joinRuler 21 = .ok (.aload_n 0, 1) := by decide +kernel
theorem dX3_joinRuler_22 : decode cX3_joinRuler 22 = .ok (.getfield 42, 3) := by decide +kernel
theorem dX3_joinRuler_25 : decode cX3_joinRuler 25 = .ok (.if_icmp .eq 13, 3) := by decide +kernel
theorem dX3_joinRuler_28 : decode cX3_joinRuler 28 = .ok (.aload_n 0, 1) := by decide +kernel
theorem dX3_joinRuler_29 : decode cX3_joinRuler 29 = .ok (.iconst 3, 1) := by decide +kernel
theorem dX3_joinRuler_30 : decode cX3_joinRuler 30 = .ok (.aload_n 0, 1) := by decide +kernel
theorem dX3_joinRuler_31 : decode cX3_joinRuler 31 = .ok (.getfield 180, 3) := by decide +kernel
theorem dX3_joinRuler_34 : decode cX3_joinRuler 34 = .ok (.invokevirtual 110, 3) := by decide +kernel
theorem dX3_joinRuler_37 : decode cX3_joinRuler 37 = .ok (.ireturn, 1) := by decide +kernel
theorem dX3_joinRuler_38 : decode cX3_joinRuler 38 = .ok (.aload_n 0, 1) := by decide +kernel
theorem dX3_joinRuler_39 : decode cX3_joinRuler 39 = .ok (.getfield 26, 3) := by decide +kernel
theorem dX3_joinRuler_42 : decode cX3_joinRuler 42 = .ok (.aload_n 0, 1) := by decide +kernel
theorem dX3_joinRuler_43 : decode cX3_joinRuler 43 = .ok (.getfield 15, 3) := by decide +kernel
theorem dX3_joinRuler_46 : decode cX3_joinRuler 46 = .ok (.aload_n 0, 1) := by decide +kernel
theorem dX3_joinRuler_47 : decode cX3_joinRuler 47 = .ok (.getfield 45, 3) := by decide +kernel
theorem dX3_joinRuler_50 : decode cX3_joinRuler 50 = .ok (.invokevirtual 197, 3) := by decide +kernel
theorem dX3_joinRuler_53 : decode cX3_joinRuler 53 = .ok (.iconst 1, 1) := by decide +kernel
theorem dX3_joinRuler_54 : decode cX3_joinRuler 54 = .ok (.isub, 1) := by decide +kernel
theorem dX3_joinRuler_55 : decode cX3_joinRuler 55 = .ok (.invokevirtual 200, 3) := by decide +kernel
theorem dX3_joinRuler_58 : decode cX3_joinRuler 58 = .ok (.iconst 1, 1) := by decide +kernel
theorem dX3_joinRuler_59 : decode cX3_joinRuler 59 = .ok (.ireturn, 1) := by decide +kernel
theorem dX4_init_0 : decode cX4_init 0 = .ok (.aload_n 0, 1) := by decide +kernel
theorem dX4_init_1 : decode cX4_init 1 = .ok (.invokespecial 3, 3) := by decide +kernel
theorem dX4_init_4 : decode cX4_init 4 = .ok (.aload_n 0, 1) := by decide +kernel
theorem dX4_init_5 : decode cX4_init 5 = .ok (.bipush 12, 2) := by decide +kernel
theorem dX4_init_7 : decode cX4_init 7 = .ok (.newarray .int, 2) := by decide +kernel
theorem dX4_init_9 : decode cX4_init 9 = .ok (.putfield 11, 3) := by decide +kernel
theorem dX4_init_12 : decode cX4_init 12 = .ok (.aload_n 0, 1) := by decide +kernel
theorem dX4_init_13 : decode cX4_init 13 = .ok (.bipush 12, 2) := by decide +kernel
theorem dX4_init_15 : decode cX4_init 15 = .ok (.newarray .int, 2) := by decide +kernel
theorem dX4_init_17 : decode cX4_init 17 = .ok (.putfield 15, 3) := by decide +kernel
theorem dX4_init_20 : decode cX4_init 20 = .ok (.aload_n 0, 1) := by decide +kernel
theorem dX4_init_21 : decode cX4_init 21 = .ok (.bipush 12, 2) := by decide +kernel
theorem dX4_init_23 : decode cX4_init 23 = .ok (.newarray .int, 2) := by decide +kernel
theorem dX4_init_25 : decode cX4_init 25 = .ok (.putfield 18, 3) := by decide +kernel
theorem dX4_init_28 : decode cX4_init 28 = .ok (.return_, 1) := by decide +kernel
theorem dX4_begin_0 : decode cX4_begin 0 = .ok (.iload_n 1, 1) := by decide +kernel
theorem dX4_begin_1 : decode cX4_begin 1 = .ok (.iconst (-1), 1) := by decide +kernel
theorem dX4_begin_2 : decode cX4_begin 2 = .ok (.if_icmp .eq 25, 3) := by decide +kernel
theorem dX4_begin_5 : decode cX4_begin 5 = .ok (.iload_n 2, 1) := by decide +kernel
theorem dX4_begin_6 : decode cX4_begin 6 = .ok (.invokestatic 21, 3) := by decide +kernel
theorem dX4_begin_9 : decode cX4_begin 9 = .ok (.ifCond .eq 18, 3) := by decide +kernel
theorem dX4_begin_12 : decode cX4_begin 12 = .ok (.iload_n 3, 1) := by decide +kernel
theorem dX4_begin_13 : decode cX4_begin 13 = .ok (.ifCond .lt 14, 3) := by decide +kernel
theorem dX4_begin_16 : decode cX4_begin 16 = .ok (.iload_n 3, 1) := by decide +kernel
theorem dX4_begin_17 : decode cX4_begin 17 = .ok (.sipush 600, 3) := by decide +kernel
theorem dX4_begin_20 : decode cX4_begin 20 = .ok (.if_icmp .gt 7, 3) := by decide +kernel
theorem dX4_begin_23 : decode cX4_begin 23 = .ok (.iconst 1, 1) := by decide +kernel
theorem dX4_begin_24 : decode cX4_begin 24 = .ok (.goto 4, 3) := by decide +kernel
theorem dX4_begin_27 : decode cX4_begin 27 = .ok (.iconst 0, 1) := by decide +kernel
theorem dX4_begin_28 : decode cX4_begin 28 = .ok (.istore 4, 2) := by decide +kernel
theorem dX4_begin_30 : decode cX4_begin 30 = .ok (.iload 4, 2) := by decide +kernel
theorem dX4_begin_32 : decode cX4_begin 32 = .ok (.ifCond .eq 21, 3) := by decide +kernel
theorem dX4_begin_35 : decode cX4_begin 35 = .ok (.aload_n 0, 1) := by decide +kernel
theorem dX4_begin_36 : decode cX4_begin 36 = .ok (.getfield 27, 3) := by decide +kernel
theorem dX4_begin_39 : decode cX4_begin 39 = .ok (.bipush 12, 2) := by decide +kernel
theorem dX4_begin_41 : decode cX4_begin 41 = .ok (.if_icmp .ge 12, 3) := by decide +kernel
theorem dX4_begin_44 : decode cX4_begin 44 = .ok (.aload_n 0, 1) := by decide +kernel
theorem dX4_begin_45 : decode cX4_begin 45 = .ok (.iload_n 1, 1) := by decide +kernel
theorem dX4_begin_46 : decode cX4_begin 46 = .ok (.invokevirtual 31, 3) := by decide +kernel
theorem dX4_begin_49 : decode cX4_begin 49 = .ok (.iconst (-1), 1) := by decide +kernel
theorem dX4_begin_50 : decode cX4_begin 50 = .ok (.if_icmp .eq 5, 3) := by decide +kernel
theorem dX4_begin_53 : decode cX4_begin 53 = .ok (.iconst (-1), 1) := by decide +kernel
theorem dX4_begin_54 : decode cX4_begin 54 = .ok (.ireturn, 1) := by decide +kernel
theorem dX4_begin_55 : decode cX4_begin 55 = .ok (.aload_n 0, 1) := by decide +kernel
theorem dX4_begin_56 : decode cX4_begin 56 = .ok (.getfield 11, 3) := by decide +kernel
theorem dX4_begin_59 : decode cX4_begin 59 = .ok (.aload_n 0, 1) := by decide +kernel
theorem dX4_begin_60 : decode cX4_begin 60 = .ok (.getfield 27, 3) := by decide +kernel
theorem dX4_begin_63 : decode cX4_begin 63 = .ok (.iload_n 1, 1) := by decide +kernel
theorem dX4_begin_64 : decode cX4_begin 64 = .ok (.iastore, 1) := by decide +kernel
theorem dX4_begin_65 : decode cX4_begin 65 = .ok (.aload_n 0, 1) := by decide +kernel
theorem dX4_begin_66 : decode cX4_begin 66 = .ok (.getfield 15, 3) := by decide +kernel
theorem dX4_begin_69 : decode cX4_begin 69 = .ok (.aload_n 0, 1) := by decide +kernel
theorem dX4_begin_70 : decode cX4_begin 70 = .ok (.getfield 27, 3) := by decide +kernel
theorem dX4_begin_73 : decode cX4_begin 73 = .ok (.iload_n 2, 1) := by decide +kernel
theorem dX4_begin_74 : decode cX4_begin 74 = .ok (.iastore, 1) := by decide +kernel
theorem dX4_begin_75 : decode cX4_begin 75 = .ok (.aload_n 0, 1) := by decide +kernel
theorem dX4_begin_76 : decode cX4_begin 76 = .ok (.getfield 18, 3) := by decide +kernel
theorem dX4_begin_79 : decode cX4_begin 79 = .ok (.aload_n 0, 1) := by decide +kernel
theorem dX4_begin_80 : decode cX4_begin 80 = .ok (.getfield 27, 3) := by decide +kernel
theorem dX4_begin_83 : decode cX4_begin 83 = .ok (.iload_n 3, 1) := by decide +kernel
theorem dX4_begin_84 : decode cX4_begin 84 = .ok (.iastore, 1) := by decide +kernel
theorem dX4_begin_85 : decode cX4_begin 85 = .ok (.aload_n 0, 1) := by decide +kernel
theorem dX4_begin_86 : decode cX4_begin 86 = .ok (.dup, 1) := by decide +kernel
theorem dX4_begin_87 : decode cX4_begin 87 = .ok (.getfield 27, 3) := by decide +kernel
theorem dX4_begin_90 : decode cX4_begin 90 = .ok (.iconst 1, 1) := by decide +kernel
theorem dX4_begin_91 : decode cX4_begin 91 = .ok (.iadd, 1) := by decide +kernel
theorem dX4_begin_92 : decode cX4_begin 92 = .ok (.putfield 27, 3) := by decide +kernel
theorem dX4_begin_95 : decode cX4_begin 95 = .ok (.aload_n 0, 1) := by decide +kernel
theorem dX4_begin_96 : decode cX4_begin 96 = .ok (.getfield 27, 3) := by decide +kernel
theorem dX4_begin_99 : decode cX4_begin 99 = .ok (.ireturn, 1) := by decide +kernel
theorem dX4_find_0 : decode cX4_find 0 = .ok (.iconst 0, 1) := by decide +kernel
theorem dX4_find_1 : decode cX4_find 1 = .ok (.istore_n 2, 1) := by decide +kernel
theorem dX4_find_2 : decode cX4_find 2 = .ok (.iload_n 2, 1) := by decide +kernel
theorem dX4_find_3 : decode cX4_find 3 = .ok (.aload_n 0, 1) := by decide +kernel
theorem dX4_find_4 : decode cX4_find 4 = .ok (.getfield 27, 3) := by decide +kernel
theorem dX4_find_7 : decode cX4_find 7 = .ok (.if_icmp .ge 21, 3) := by decide +kernel
theorem dX4_find_10 : decode cX4_find 10 = .ok (.aload_n 0, 1) := by decide +kernel
theorem dX4_find_11 : decode cX4_find 11 = .ok (.getfield 11, 3) := by decide +kernel
theorem dX4_find_14 : decode cX4_find 14 = .ok (.iload_n 2, 1) := by decide +kernel
theorem dX4_find_15 : decode cX4_find 15 = .ok (.iaload, 1) := by decide +kernel
theorem dX4_find_16 : decode cX4_find 16 = .ok (.iload_n 1, 1) := by decide +kernel
theorem dX4_find_17 : decode cX4_find 17 = .ok (.if_icmp .ne 5, 3) := by decide +kernel
theorem dX4_find_20 : decode cX4_find 20 = .ok (.iload_n 2, 1) := by decide +kernel
theorem dX4_find_21 : decode cX4_find 21 = .ok (.ireturn, 1) := by decide +kernel
theorem dX4_find_22 : decode cX4_find 22 = .ok (.iinc 2 1, 3) := by decide +kernel
theorem dX4_find_25 : decode cX4_find 25 = .ok (.goto (-23), 3) := by decide +kernel
theorem dX4_find_28 : decode cX4_find 28 = .ok (.iconst (-1), 1) := by decide +kernel
theorem dX4_find_29 : decode cX4_find 29 = .ok (.ireturn, 1) := by decide +kernel
theorem dX4_isThere_0 : decode cX4_isThere 0 = .ok (.iload_n 1, 1) := by decide +kernel
theorem dX4_isThere_1 : decode cX4_isThere 1 = .ok (.ifCond .lt 15, 3) := by decide +kernel
theorem dX4_isThere_4 : decode cX4_isThere 4 = .ok (.iload_n 1, 1) := by decide +kernel
theorem dX4_isThere_5 : decode cX4_isThere 5 = .ok (.aload_n 0, 1) := by decide +kernel
theorem dX4_isThere_6 : decode cX4_isThere 6 = .ok (.getfield 27, 3) := by decide +kernel
theorem dX4_isThere_9 : decode cX4_isThere 9 = .ok (.if_icmp .ge 7, 3) := by decide +kernel
theorem dX4_isThere_12 : decode cX4_isThere 12 = .ok (.iconst 1, 1) := by decide +kernel
theorem dX4_isThere_13 : decode cX4_isThere 13 = .ok (.goto 4, 3) := by decide +kernel
theorem dX4_isThere_16 : decode cX4_isThere 16 = .ok (.iconst 0, 1) := by decide +kernel
theorem dX4_isThere_17 : decode cX4_isThere 17 = .ok (.ireturn, 1) := by decide +kernel
theorem dX4_calendarOf_0 : decode cX4_calendarOf 0 = .ok (.aload_n 0, 1) := by decide +kernel
theorem dX4_calendarOf_1 : decode cX4_calendarOf 1 = .ok (.iload_n 1, 1) := by decide +kernel
end
section
theorem dX4_calendarOf_2 : decode cX4_calendarOf 2 = .ok (.invokevirtual 35, 3) := by decide +kernel
theorem dX4_calendarOf_5 : decode cX4_calendarOf 5 = .ok (.ifCond .eq 12, 3) := by decide +kernel
theorem dX4_calendarOf_8 : decode cX4_calendarOf 8 = .ok (.aload_n 0, 1) := by decide +kernel
theorem dX4_calendarOf_9 : decode cX4_calendarOf 9 = .ok (.getfield 15, 3) := by decide +kernel
theorem dX4_calendarOf_12 : decode cX4_calendarOf 12 = .ok (.iload_n 1, 1) := by decide +kernel
theorem dX4_calendarOf_13 : decode cX4_calendarOf 13 = .ok (.iaload, 1) := by decide +kernel
theorem dX4_calendarOf_14 : decode cX4_calendarOf 14 = .ok (.goto 4, 3) := by decide +kernel
theorem dX4_calendarOf_17 : decode cX4_calendarOf 17 = .ok (.iconst (-1), 1) := by decide +kernel
theorem dX4_calendarOf_18 : decode cX4_calendarOf 18 = .ok (.ireturn, 1) := by decide +kernel
theorem dX4_firstYearOf_0 : decode cX4_firstYearOf 0 = .ok (.aload_n 0, 1) := by decide +kernel
theorem dX4_firstYearOf_1 : decode cX4_firstYearOf 1 = .ok (.iload_n 1, 1) := by decide +kernel
theorem dX4_firstYearOf_2 : decode cX4_firstYearOf 2 = .ok (.invokevirtual 35, 3) := by decide +kernel
theorem dX4_firstYearOf_5 : decode cX4_firstYearOf 5 = .ok (.ifCond .eq 12, 3) := by decide +kernel
theorem dX4_firstYearOf_8 : decode cX4_firstYearOf 8 = .ok (.aload_n 0, 1) := by decide +kernel
theorem dX4_firstYearOf_9 : decode cX4_firstYearOf 9 = .ok (.getfield 18, 3) := by decide +kernel
theorem dX4_firstYearOf_12 : decode cX4_firstYearOf 12 = .ok (.iload_n 1, 1) := by decide +kernel
theorem dX4_firstYearOf_13 : decode cX4_firstYearOf 13 = .ok (.iaload, 1) := by decide +kernel
theorem dX4_firstYearOf_14 : decode cX4_firstYearOf 14 = .ok (.goto 4, 3) := by decide +kernel
theorem dX4_firstYearOf_17 : decode cX4_firstYearOf 17 = .ok (.iconst (-1), 1) := by decide +kernel
theorem dX4_firstYearOf_18 : decode cX4_firstYearOf 18 = .ok (.ireturn, 1) := by decide +kernel
theorem dX5_init_0 : decode cX5_init 0 = .ok (.aload_n 0, 1) := by decide +kernel
theorem dX5_init_1 : decode cX5_init 1 = .ok (.invokespecial 3, 3) := by decide +kernel
theorem dX5_init_4 : decode cX5_init 4 = .ok (.aload_n 0, 1) := by decide +kernel
theorem dX5_init_5 : decode cX5_init 5 = .ok (.sipush 9000, 3) := by decide +kernel
theorem dX5_init_8 : decode cX5_init 8 = .ok (.putfield 9, 3) := by decide +kernel
theorem dX5_init_11 : decode cX5_init 11 = .ok (.aload_n 0, 1) := by decide +kernel
theorem dX5_init_12 : decode cX5_init 12 = .ok (.iconst 0, 1) := by decide +kernel
theorem dX5_init_13 : decode cX5_init 13 = .ok (.putfield 15, 3) := by decide +kernel
theorem dX5_init_16 : decode cX5_init 16 = .ok (.aload_n 0, 1) := by decide +kernel
theorem dX5_init_17 : decode cX5_init 17 = .ok (.sipush 400, 3) := by decide +kernel
theorem dX5_init_20 : decode cX5_init 20 = .ok (.putfield 18, 3) := by decide +kernel
theorem dX5_init_23 : decode cX5_init 23 = .ok (.aload_n 0, 1) := by decide +kernel
theorem dX5_init_24 : decode cX5_init 24 = .ok (.iconst 1, 1) := by decide +kernel
theorem dX5_init_25 : decode cX5_init 25 = .ok (.putfield 21, 3) := by decide +kernel
theorem dX5_init_28 : decode cX5_init 28 = .ok (.aload_n 0, 1) := by decide +kernel
theorem dX5_init_29 : decode cX5_init 29 = .ok (.sipush 1800, 3) := by decide +kernel
theorem dX5_init_32 : decode cX5_init 32 = .ok (.newarray .int, 2) := by decide +kernel
theorem dX5_init_34 : decode cX5_init 34 = .ok (.putfield 24, 3) := by decide +kernel
theorem dX5_init_37 : decode cX5_init 37 = .ok (.aload_n 0, 1) := by decide +kernel
theorem dX5_init_38 : decode cX5_init 38 = .ok (.sipush 1800, 3) := by decide +kernel
theorem dX5_init_41 : decode cX5_init 41 = .ok (.newarray .int, 2) := by decide +kernel
theorem dX5_init_43 : decode cX5_init 43 = .ok (.putfield 28, 3) := by decide +kernel
theorem dX5_init_46 : decode cX5_init 46 = .ok (.aload_n 0, 1) := by decide +kernel
theorem dX5_init_47 : decode cX5_init 47 = .ok (.sipush 1800, 3) := by decide +kernel
theorem dX5_init_50 : decode cX5_init 50 = .ok (.newarray .int, 2) := by decide +kernel
theorem dX5_init_52 : decode cX5_init 52 = .ok (.putfield 31, 3) := by decide +kernel
theorem dX5_init_55 : decode cX5_init 55 = .ok (.return_, 1) := by decide +kernel
theorem dX5_isMoon_0 : decode cX5_isMoon 0 = .ok (.iload_n 0, 1) := by decide +kernel
theorem dX5_isMoon_1 : decode cX5_isMoon 1 = .ok (.ifCond .lt 14, 3) := by decide +kernel
theorem dX5_isMoon_4 : decode cX5_isMoon 4 = .ok (.iload_n 0, 1) := by decide +kernel
theorem dX5_isMoon_5 : decode cX5_isMoon 5 = .ok (.sipush 12000, 3) := by decide +kernel
theorem dX5_isMoon_8 : decode cX5_isMoon 8 = .ok (.if_icmp .gt 7, 3) := by decide +kernel
theorem dX5_isMoon_11 : decode cX5_isMoon 11 = .ok (.iconst 1, 1) := by decide +kernel
theorem dX5_isMoon_12 : decode cX5_isMoon 12 = .ok (.goto 4, 3) := by decide +kernel
theorem dX5_isMoon_15 : decode cX5_isMoon 15 = .ok (.iconst 0, 1) := by decide +kernel
theorem dX5_isMoon_16 : decode cX5_isMoon 16 = .ok (.ireturn, 1) := by decide +kernel
theorem dX5_isPlace_0 : decode cX5_isPlace 0 = .ok (.iload_n 0, 1) := by decide +kernel
theorem dX5_isPlace_1 : decode cX5_isPlace 1 = .ok (.ifCond .lt 13, 3) := by decide +kernel
theorem dX5_isPlace_4 : decode cX5_isPlace 4 = .ok (.iload_n 0, 1) := by decide +kernel
theorem dX5_isPlace_5 : decode cX5_isPlace 5 = .ok (.ldc 34, 2) := by decide +kernel
theorem dX5_isPlace_7 : decode cX5_isPlace 7 = .ok (.if_icmp .ge 7, 3) := by decide +kernel
theorem dX5_isPlace_10 : decode cX5_isPlace 10 = .ok (.iconst 1, 1) := by decide +kernel
theorem dX5_isPlace_11 : decode cX5_isPlace 11 = .ok (.goto 4, 3) := by decide +kernel
theorem dX5_isPlace_14 : decode cX5_isPlace 14 = .ok (.iconst 0, 1) := by decide +kernel
theorem dX5_isPlace_15 : decode cX5_isPlace 15 = .ok (.ireturn, 1) := by decide +kernel
theorem dX5_setTables_0 : decode cX5_setTables 0 = .ok (.iload_n 1, 1) := by decide +kernel
theorem dX5_setTables_1 : decode cX5_setTables 1 = .ok (.invokestatic 35, 3) := by decide +kernel
theorem dX5_setTables_4 : decode cX5_setTables 4 = .ok (.ifCond .eq 17, 3) := by decide +kernel
theorem dX5_setTables_7 : decode cX5_setTables 7 = .ok (.iload_n 2, 1) := by decide +kernel
theorem dX5_setTables_8 : decode cX5_setTables 8 = .ok (.invokestatic 35, 3) := by decide +kernel
theorem dX5_setTables_11 : decode cX5_setTables 11 = .ok (.ifCond .eq 10, 3) := by decide +kernel
theorem dX5_setTables_14 : decode cX5_setTables 14 = .ok (.iload_n 3, 1) := by decide +kernel
theorem dX5_setTables_15 : decode cX5_setTables 15 = .ok (.invokestatic 35, 3) := by decide +kernel
theorem dX5_setTables_18 : decode cX5_setTables 18 = .ok (.ifCond .ne 5, 3) := by decide +kernel
theorem dX5_setTables_21 : decode cX5_setTables 21 = .ok (.iconst 0, 1) := by decide +kernel
theorem dX5_setTables_22 : decode cX5_setTables 22 = .ok (.ireturn, 1) := by decide +kernel
theorem dX5_setTables_23 : decode cX5_setTables 23 = .ok (.aload_n 0, 1) := by decide +kernel
theorem dX5_setTables_24 : decode cX5_setTables 24 = .ok (.iload_n 1, 1) := by decide +kernel
theorem dX5_setTables_25 : decode cX5_setTables 25 = .ok (.putfield 9, 3) := by decide +kernel
theorem dX5_setTables_28 : decode cX5_setTables 28 = .ok (.aload_n 0, 1) := by decide +kernel
theorem dX5_setTables_29 : decode cX5_setTables 29 = .ok (.iload_n 2, 1) := by decide +kernel
theorem dX5_setTables_30 : decode cX5_setTables 30 = .ok (.putfield 15, 3) := by decide +kernel
theorem dX5_setTables_33 : decode cX5_setTables 33 = .ok (.aload_n 0, 1) := by decide +kernel
theorem dX5_setTables_34 : decode cX5_setTables 34 = .ok (.iload_n 3, 1) := by decide +kernel
theorem dX5_setTables_35 : decode cX5_setTables 35 = .ok (.putfield 18, 3) := by decide +kernel
theorem dX5_setTables_38 : decode cX5_setTables 38 = .ok (.aload_n 0, 1) := by decide +kernel
theorem dX5_setTables_39 : decode cX5_setTables 39 = .ok (.iconst 0, 1) := by decide +kernel
theorem dX5_setTables_40 : decode cX5_setTables 40 = .ok (.putfield 39, 3) := by decide +kernel
theorem dX5_setTables_43 : decode cX5_setTables 43 = .ok (.aload_n 0, 1) := by decide +kernel
theorem dX5_setTables_44 : decode cX5_setTables 44 = .ok (.dup, 1) := by decide +kernel
theorem dX5_setTables_45 : decode cX5_setTables 45 = .ok (.getfield 21, 3) := by decide +kernel
theorem dX5_setTables_48 : decode cX5_setTables 48 = .ok (.iconst 1, 1) := by decide +kernel
theorem dX5_setTables_49 : decode cX5_setTables 49 = .ok (.iadd, 1) := by decide +kernel
theorem dX5_setTables_50 : decode cX5_setTables 50 = .ok (.putfield 21, 3) := by decide +kernel
theorem dX5_setTables_53 : decode cX5_setTables 53 = .ok (.iconst 1, 1) := by decide +kernel
theorem dX5_setTables_54 : decode cX5_setTables 54 = .ok (.ireturn, 1) := by decide +kernel
theorem dX5_tablesVersion_0 : decode cX5_tablesVersion 0 = .ok (.aload_n 0, 1) := by decide +kernel
theorem dX5_tablesVersion_1 : decode cX5_tablesVersion 1 = .ok (.getfield 21, 3) := by decide +kernel
theorem dX5_tablesVersion_4 : decode cX5_tablesVersion 4 = .ok (.ireturn, 1) := by decide +kernel
theorem dX5_moonPlace_0 : decode cX5_moonPlace 0 = .ok (.sipush 19291, 3) := by decide +kernel
theorem dX5_moonPlace_3 : decode cX5_moonPlace 3 = .ok (.iload_n 1, 1) := by decide +kernel
theorem dX5_moonPlace_4 : decode cX5_moonPlace 4 = .ok (.imul, 1) := by decide +kernel
theorem dX5_moonPlace_5 : decode cX5_moonPlace 5 = .ok (.aload_n 0, 1) := by decide +kernel
theorem dX5_moonPlace_6 : decode cX5_moonPlace 6 = .ok (.getfield 9, 3) := by decide +kernel
theorem dX5_moonPlace_9 : decode cX5_moonPlace 9 = .ok (.iadd, 1) := by decide +kernel
theorem dX5_moonPlace_10 : decode cX5_moonPlace 10 = .ok (.ldc 34, 2) := by decide +kernel
theorem dX5_moonPlace_12 : decode cX5_moonPlace 12 = .ok (.irem, 1) := by decide +kernel
theorem dX5_moonPlace_13 : decode cX5_moonPlace 13 = .ok (.ireturn, 1) := by decide +kernel
theorem dX5_sunPlace_0 : decode cX5_sunPlace 0 = .ok (.sipush 1455, 3) := by decide +kernel
theorem dX5_sunPlace_3 : decode cX5_sunPlace 3 = .ok (.iload_n 1, 1) := by decide +kernel
theorem dX5_sunPlace_4 : decode cX5_sunPlace 4 = .ok (.imul, 1) := by decide +kernel
theorem dX5_sunPlace_5 : decode cX5_sunPlace 5 = .ok (.aload_n 0, 1) := by decide +kernel
theorem dX5_sunPlace_6 : decode cX5_sunPlace 6 = .ok (.getfield 15, 3) := by decide +kernel
theorem dX5_sunPlace_9 : decode cX5_sunPlace 9 = .ok (.iadd, 1) := by decide +kernel
theorem dX5_sunPlace_10 : decode cX5_sunPlace 10 = .ok (.ldc 34, 2) := by decide +kernel
theorem dX5_sunPlace_12 : decode cX5_sunPlace 12 = .ok (.irem, 1) := by decide +kernel
theorem dX5_sunPlace_13 : decode cX5_sunPlace 13 = .ok (.ireturn, 1) := by decide +kernel
theorem dX5_nodePlace_0 : decode cX5_nodePlace 0 = .ok (.ldc2_w 43, 3) := by decide +kernel
theorem dX5_nodePlace_3 : decode cX5_nodePlace 3 = .ok (.iload_n 1, 1) := by decide +kernel
theorem dX5_nodePlace_4 : decode cX5_nodePlace 4 = .ok (.i2l, 1) := by decide +kernel
theorem dX5_nodePlace_5 : decode cX5_nodePlace 5 = .ok (.lmul, 1) := by decide +kernel
theorem dX5_nodePlace_6 : decode cX5_nodePlace 6 = .ok (.ldc2_w 45, 3) := by decide +kernel
theorem dX5_nodePlace_9 : decode cX5_nodePlace 9 = .ok (.ldiv, 1) := by decide +kernel
theorem dX5_nodePlace_10 : decode cX5_nodePlace 10 = .ok (.aload_n 0, 1) := by decide +kernel
theorem dX5_nodePlace_11 : decode cX5_nodePlace 11 = .ok (.getfield 18, 3) := by decide +kernel
theorem dX5_nodePlace_14 : decode cX5_nodePlace 14 = .ok (.i2l, 1) := by decide +kernel
theorem dX5_nodePlace_15 : decode cX5_nodePlace 15 = .ok (.ladd, 1) := by decide +kernel
theorem dX5_nodePlace_16 : decode cX5_nodePlace 16 = .ok (.ldc2_w 47, 3) := by decide +kernel
theorem dX5_nodePlace_19 : decode cX5_nodePlace 19 = .ok (.lrem, 1) := by decide +kernel
theorem dX5_nodePlace_20 : decode cX5_nodePlace 20 = .ok (.l2i, 1) := by decide +kernel
theorem dX5_nodePlace_21 : decode cX5_nodePlace 21 = .ok (.ireturn, 1) := by decide +kernel
theorem dX5_timeOf_0 : decode cX5_timeOf 0 = .ok (.ldc2_w 49, 3) := by decide +kernel
theorem dX5_timeOf_3 : decode cX5_timeOf 3 = .ok (.iload_n 1, 1) := by decide +kernel
theorem dX5_timeOf_4 : decode cX5_timeOf 4 = .ok (.i2l, 1) := by decide +kernel
theorem dX5_timeOf_5 : decode cX5_timeOf 5 = .ok (.lmul, 1) := by decide +kernel
theorem dX5_timeOf_6 : decode cX5_timeOf 6 = .ok (.ldc2_w 51, 3) := by decide +kernel
theorem dX5_timeOf_9 : decode cX5_timeOf 9 = .ok (.ldiv, 1) := by decide +kernel
theorem dX5_timeOf_10 : decode cX5_timeOf 10 = .ok (.l2i, 1) := by decide +kernel
theorem dX5_timeOf_11 : decode cX5_timeOf 11 = .ok (.istore_n 2, 1) := by decide +kernel
theorem dX5_timeOf_12 : decode cX5_timeOf 12 = .ok (.sipush 586, 3) := by decide +kernel
theorem dX5_timeOf_15 : decode cX5_timeOf 15 = .ok (.aload_n 0, 1) := by decide +kernel
theorem dX5_timeOf_16 : decode cX5_timeOf 16 = .ok (.iload_n 1, 1) := by decide +kernel
theorem dX5_timeOf_17 : decode cX5_timeOf 17 = .ok (.invokevirtual 53, 3) := by decide +kernel
theorem dX5_timeOf_20 : decode cX5_timeOf 20 = .ok (.invokestatic 57, 3) := by decide +kernel
theorem dX5_timeOf_23 : decode cX5_timeOf 23 = .ok (.imul, 1) := by decide +kernel
theorem dX5_timeOf_24 : decode cX5_timeOf 24 = .ok (.sipush 1000, 3) := by decide +kernel
theorem dX5_timeOf_27 : decode cX5_timeOf 27 = .ok (.invokestatic 60, 3) := by decide +kernel
theorem dX5_timeOf_30 : decode cX5_timeOf 30 = .ok (.istore_n 3, 1) := by decide +kernel
theorem dX5_timeOf_31 : decode cX5_timeOf 31 = .ok (.sipush 248, 3) := by decide +kernel
theorem dX5_timeOf_34 : decode cX5_timeOf 34 = .ok (.aload_n 0, 1) := by decide +kernel
theorem dX5_timeOf_35 : decode cX5_timeOf 35 = .ok (.iload_n 1, 1) := by decide +kernel
theorem dX5_timeOf_36 : decode cX5_timeOf 36 = .ok (.invokevirtual 66, 3) := by decide +kernel
theorem dX5_timeOf_39 : decode cX5_timeOf 39 = .ok (.invokestatic 57, 3) := by decide +kernel
theorem dX5_timeOf_42 : decode cX5_timeOf 42 = .ok (.imul, 1) := by decide +kernel
theorem dX5_timeOf_43 : decode cX5_timeOf 43 = .ok (.sipush 1000, 3) := by decide +kernel
theorem dX5_timeOf_46 : decode cX5_timeOf 46 = .ok (.invokestatic 60, 3) := by decide +kernel
theorem dX5_timeOf_49 : decode cX5_timeOf 49 = .ok (.istore 4, 2) := by decide +kernel
theorem dX5_timeOf_51 : decode cX5_timeOf 51 = .ok (.iload_n 2, 1) := by decide +kernel
theorem dX5_timeOf_52 : decode cX5_timeOf 52 = .ok (.iload_n 3, 1) := by decide +kernel
theorem dX5_timeOf_53 : decode cX5_timeOf 53 = .ok (.isub, 1) := by decide +kernel
theorem dX5_timeOf_54 : decode cX5_timeOf 54 = .ok (.iload 4, 2) := by decide +kernel
theorem dX5_timeOf_56 : decode cX5_timeOf 56 = .ok (.iadd, 1) := by decide +kernel
theorem dX5_timeOf_57 : decode cX5_timeOf 57 = .ok (.sipush 1000, 3) := by decide +kernel
theorem dX5_timeOf_60 : decode cX5_timeOf 60 = .ok (.iadd, 1) := by decide +kernel
theorem dX5_timeOf_61 : decode cX5_timeOf 61 = .ok (.ireturn, 1) := by decide +kernel
theorem dX5_waveOf_0 : decode cX5_waveOf 0 = .ok (.iload_n 0, 1) := by decide +kernel
theorem dX5_waveOf_1 : decode cX5_waveOf 1 = .ok (.sipush 18000, 3) := by decide +kernel
theorem dX5_waveOf_4 : decode cX5_waveOf 4 = .ok (.if_icmp .le 15, 3) := by decide +kernel
theorem dX5_waveOf_7 : decode cX5_waveOf 7 = .ok (.iload_n 0, 1) := by decide +kernel
theorem dX5_waveOf_8 : decode cX5_waveOf 8 = .ok (.sipush 18000, 3) := by decide +kernel
theorem dX5_waveOf_11 : decode cX5_waveOf 11 = .ok (.isub, 1) := by decide +kernel
theorem dX5_waveOf_12 : decode cX5_waveOf 12 = .ok (.invokestatic 69, 3) := by decide +kernel
theorem dX5_waveOf_15 : decode cX5_waveOf 15 = .ok (.ineg, 1) := by decide +kernel
theorem dX5_waveOf_16 : decode cX5_waveOf 16 = .ok (.goto 7, 3) := by decide +kernel
theorem dX5_waveOf_19 : decode cX5_waveOf 19 = .ok (.iload_n 0, 1) := by decide +kernel
theorem dX5_waveOf_20 : decode cX5_waveOf 20 = .ok (.invokestatic 69, 3) := by decide +kernel
theorem dX5_waveOf_23 : decode cX5_waveOf 23 = .ok (.ireturn, 1) := by decide +kernel
theorem dX5_halfWave_0 : decode cX5_halfWave 0 = .ok (.iload_n 0, 1) := by decide +kernel
theorem dX5_halfWave_1 : decode cX5_halfWave 1 = .ok (.sipush 9000, 3) := by decide +kernel
theorem dX5_halfWave_4 : decode cX5_halfWave 4 = .ok (.if_icmp .le 11, 3) := by decide +kernel
theorem dX5_halfWave_7 : decode cX5_halfWave 7 = .ok (.sipush 18000, 3) := by decide +kernel
theorem dX5_halfWave_10 : decode cX5_halfWave 10 = .ok (.iload_n 0, 1) := by decide +kernel
theorem dX5_halfWave_11 : decode cX5_halfWave 11 = .ok (.isub, 1) := by decide +kernel
theorem dX5_halfWave_12 : decode cX5_halfWave 12 = .ok (.goto 4, 3) := by decide +kernel
theorem dX5_halfWave_15 : decode cX5_halfWave 15 = .ok (.iload_n 0, 1) := by decide +kernel
theorem dX5_halfWave_16 : decode cX5_halfWave 16 = .ok (.istore_n 1, 1) := by decide +kernel
theorem dX5_halfWave_17 : decode cX5_halfWave 17 = .ok (.iload_n 1, 1) := by decide +kernel
theorem dX5_halfWave_18 : decode cX5_halfWave 18 = .ok (.sipush 1000, 3) := by decide +kernel
theorem dX5_halfWave_21 : decode cX5_halfWave 21 = .ok (.idiv, 1) := by decide +kernel
theorem dX5_halfWave_22 : decode cX5_halfWave 22 = .ok (.istore_n 2, 1) := by decide +kernel
theorem dX5_halfWave_23 : decode cX5_halfWave 23 = .ok (.iload_n 2, 1) := by decide +kernel
theorem dX5_halfWave_24 : decode cX5_halfWave 24 = .ok (.ifCond .lt 13, 3) := by decide +kernel
theorem dX5_halfWave_27 : decode cX5_halfWave 27 = .ok (.iload_n 2, 1) := by decide +kernel
theorem dX5_halfWave_28 : decode cX5_halfWave 28 = .ok (.getstatic 72, 3) := by decide +kernel
theorem dX5_halfWave_31 : decode cX5_halfWave 31 = .ok (.arraylength, 1) := by decide +kernel
theorem dX5_halfWave_32 : decode cX5_halfWave 32 = .ok (.iconst 1, 1) := by decide +kernel
theorem dX5_halfWave_33 : decode cX5_halfWave 33 = .ok (.isub, 1) := by decide +kernel
theorem dX5_halfWave_34 : decode cX5_halfWave 34 = .ok (.if_icmp .lt 14, 3) := by decide +kernel
theorem dX5_halfWave_37 : decode cX5_halfWave 37 = .ok (.getstatic 72, 3) := by decide +kernel
theorem dX5_halfWave_40 : decode cX5_halfWave 40 = .ok (.getstatic 72, 3) := by decide +kernel
theorem dX5_halfWave_43 : decode cX5_halfWave 43 = .ok (.arraylength, 1) := by decide +kernel
theorem dX5_halfWave_44 : decode cX5_halfWave 44 = .ok (.iconst 1, 1) := by decide +kernel
theorem dX5_halfWave_45 : decode cX5_halfWave 45 = .ok (.isub, 1) := by decide +kernel
theorem dX5_halfWave_46 : decode cX5_halfWave 46 = .ok (.iaload, 1) := by decide +kernel
theorem dX5_halfWave_47 : decode cX5_halfWave 47 = .ok (.ireturn, 1) := by decide +kernel
theorem dX5_halfWave_48 : decode cX5_halfWave 48 = .ok (.getstatic 72, 3) := by decide +kernel
theorem dX5_halfWave_51 : decode cX5_halfWave 51 = .ok (.iload_n 2, 1) := by decide +kernel
theorem dX5_halfWave_52 : decode cX5_halfWave 52 = .ok (.iaload, 1) := by decide +kernel
theorem dX5_halfWave_53 : decode cX5_halfWave 53 = .ok (.getstatic 72, 3) := by decide +kernel
theorem dX5_halfWave_56 : decode cX5_halfWave 56 = .ok (.iload_n 2, 1) := by decide +kernel
theorem dX5_halfWave_57 : decode cX5_halfWave 57 = .ok (.iconst 1, 1) := by decide +kernel
theorem dX5_halfWave_58 : decode cX5_halfWave 58 = .ok (.iadd, 1) := by decide +kernel
theorem dX5_halfWave_59 : decode cX5_halfWave 59 = .ok (.iaload, 1) := by decide +kernel
theorem dX5_halfWave_60 : decode cX5_halfWave 60 = .ok (.getstatic 72, 3) := by decide +kernel
theorem dX5_halfWave_63 : decode cX5_halfWave 63 = .ok (.iload_n 2, 1) := by decide +kernel
theorem dX5_halfWave_64 : decode cX5_halfWave 64 = .ok (.iaload, 1) := by decide +kernel
theorem dX5_halfWave_65 : decode cX5_halfWave 65 = .ok (.isub, 1) := by decide +kernel
theorem dX5_halfWave_66 : decode cX5_halfWave 66 = .ok (.iload_n 1, 1) := by decide +kernel
theorem dX5_halfWave_67 : decode cX5_halfWave 67 = .ok (.sipush 1000, 3) := by decide +kernel
theorem dX5_halfWave_70 : decode cX5_halfWave 70 = .ok (.irem, 1) := by decide +kernel
theorem dX5_halfWave_71 : decode cX5_halfWave 71 = .ok (.imul, 1) := by decide +kernel
theorem dX5_halfWave_72 : decode cX5_halfWave 72 = .ok (.sipush 1000, 3) := by decide +kernel
theorem dX5_halfWave_75 : decode cX5_halfWave 75 = .ok (.idiv, 1) := by decide +kernel
theorem dX5_halfWave_76 : decode cX5_halfWave 76 = .ok (.iadd, 1) := by decide +kernel
theorem dX5_halfWave_77 : decode cX5_halfWave 77 = .ok (.ireturn, 1) := by decide +kernel
theorem dX5_kindOf_0 : decode cX5_kindOf 0 = .ok (.aload_n 0, 1) := by decide +kernel
theorem dX5_kindOf_1 : decode cX5_kindOf 1 = .ok (.iload_n 1, 1) := by decide +kernel
theorem dX5_kindOf_2 : decode cX5_kindOf 2 = .ok (.invokevirtual 75, 3) := by decide +kernel
theorem dX5_kindOf_5 : decode cX5_kindOf 5 = .ok (.sipush 18000, 3) := by decide +kernel
theorem dX5_kindOf_8 : decode cX5_kindOf 8 = .ok (.irem, 1) := by decide +kernel
theorem dX5_kindOf_9 : decode cX5_kindOf 9 = .ok (.istore_n 2, 1) := by decide +kernel
theorem dX5_kindOf_10 : decode cX5_kindOf 10 = .ok (.iload_n 2, 1) := by decide +kernel
theorem dX5_kindOf_11 : decode cX5_kindOf 11 = .ok (.sipush 18000, 3) := by decide +kernel
theorem dX5_kindOf_14 : decode cX5_kindOf 14 = .ok (.iload_n 2, 1) := by decide +kernel
theorem dX5_kindOf_15 : decode cX5_kindOf 15 = .ok (.isub, 1) := by decide +kernel
theorem dX5_kindOf_16 : decode cX5_kindOf 16 = .ok (.invokestatic 78, 3) := by decide +kernel
theorem dX5_kindOf_19 : decode cX5_kindOf 19 = .ok (.istore_n 3, 1) := by decide +kernel
theorem dX5_kindOf_20 : decode cX5_kindOf 20 = .ok (.iload_n 1, 1) := by decide +kernel
theorem dX5_kindOf_21 : decode cX5_kindOf 21 = .ok (.iconst 2, 1) := by decide +kernel
theorem dX5_kindOf_22 : decode cX5_kindOf 22 = .ok (.irem, 1) := by decide +kernel
theorem dX5_kindOf_23 : decode cX5_kindOf 23 = .ok (.ifCond .ne 12, 3) := by decide +kernel
theorem dX5_kindOf_26 : decode cX5_kindOf 26 = .ok (.aload_n 0, 1) := by decide +kernel
theorem dX5_kindOf_27 : decode cX5_kindOf 27 = .ok (.iload_n 3, 1) := by decide +kernel
theorem dX5_kindOf_28 : decode cX5_kindOf 28 = .ok (.iload_n 1, 1) := by decide +kernel
theorem dX5_kindOf_29 : decode cX5_kindOf 29 = .ok (.invokevirtual 81, 3) := by decide +kernel
theorem dX5_kindOf_32 : decode cX5_kindOf 32 = .ok (.goto 7, 3) := by decide +kernel
theorem dX5_kindOf_35 : decode cX5_kindOf 35 = .ok (.iload_n 3, 1) := by decide +kernel
theorem dX5_kindOf_36 : decode cX5_kindOf 36 = .ok (.invokestatic 84, 3) := by decide +kernel
theorem dX5_kindOf_39 : decode cX5_kindOf 39 = .ok (.ireturn, 1) := by decide +kernel
theorem dX5_sunKind_0 : decode cX5_sunKind 0 = .ok (.iload_n 1, 1) := by decide +kernel
theorem dX5_sunKind_1 : decode cX5_sunKind 1 = .ok (.sipush 1000, 3) := by decide +kernel
theorem dX5_sunKind_4 : decode cX5_sunKind 4 = .ok (.if_icmp .le 16, 3) := by decide +kernel
theorem dX5_sunKind_7 : decode cX5_sunKind 7 = .ok (.iload_n 1, 1) := by decide +kernel
theorem dX5_sunKind_8 : decode cX5_sunKind 8 = .ok (.sipush 1550, 3) := by decide +kernel
theorem dX5_sunKind_11 : decode cX5_sunKind 11 = .ok (.if_icmp .gt 7, 3) := by decide +kernel
theorem dX5_sunKind_14 : decode cX5_sunKind 14 = .ok (.iconst 3, 1) := by decide +kernel
theorem dX5_sunKind_15 : decode cX5_sunKind 15 = .ok (.goto 4, 3) := by decide +kernel
theorem dX5_sunKind_18 : decode cX5_sunKind 18 = .ok (.iconst 0, 1) := by decide +kernel
theorem dX5_sunKind_19 : decode cX5_sunKind 19 = .ok (.ireturn, 1) := by decide +kernel
theorem dX5_sunKind_20 : decode cX5_sunKind 20 = .ok (.aload_n 0, 1) := by decide +kernel
theorem dX5_sunKind_21 : decode cX5_sunKind 21 = .ok (.iload_n 2, 1) := by decide +kernel
theorem dX5_sunKind_22 : decode cX5_sunKind 22 = .ok (.invokevirtual 53, 3) := by decide +kernel
theorem dX5_sunKind_25 : decode cX5_sunKind 25 = .ok (.istore_n 3, 1) := by decide +kernel
theorem dX5_sunKind_26 : decode cX5_sunKind 26 = .ok (.iload_n 3, 1) := by decide +kernel
theorem dX5_sunKind_27 : decode cX5_sunKind 27 = .ok (.sipush 9000, 3) := by decide +kernel
theorem dX5_sunKind_30 : decode cX5_sunKind 30 = .ok (.if_icmp .lt 10, 3) := by decide +kernel
theorem dX5_sunKind_33 : decode cX5_sunKind 33 = .ok (.iload_n 3, 1) := by decide +kernel
theorem dX5_sunKind_34 : decode cX5_sunKind 34 = .ok (.sipush 27000, 3) := by decide +kernel
theorem dX5_sunKind_37 : decode cX5_sunKind 37 = .ok (.if_icmp .lt 7, 3) := by decide +kernel
theorem dX5_sunKind_40 : decode cX5_sunKind 40 = .ok (.iconst 1, 1) := by decide +kernel
theorem dX5_sunKind_41 : decode cX5_sunKind 41 = .ok (.goto 4, 3) := by decide +kernel
theorem dX5_sunKind_44 : decode cX5_sunKind 44 = .ok (.iconst 2, 1) := by decide +kernel
theorem dX5_sunKind_45 : decode cX5_sunKind 45 = .ok (.ireturn, 1) := by decide +kernel
theorem dX5_moonKind_0 : decode cX5_moonKind 0 = .ok (.iload_n 0, 1) := by decide +kernel
theorem dX5_moonKind_1 : decode cX5_moonKind 1 = .ok (.sipush 480, 3) := by decide +kernel
theorem dX5_moonKind_4 : decode cX5_moonKind 4 = .ok (.if_icmp .gt 5, 3) := by decide +kernel
theorem dX5_moonKind_7 : decode cX5_moonKind 7 = .ok (.iconst 4, 1) := by decide +kernel
theorem dX5_moonKind_8 : decode cX5_moonKind 8 = .ok (.ireturn, 1) := by decide +kernel
theorem dX5_moonKind_9 : decode cX5_moonKind 9 = .ok (.iload_n 0, 1) := by decide +kernel
theorem dX5_moonKind_10 : decode cX5_moonKind 10 = .ok (.sipush 1080, 3) := by decide +kernel
theorem dX5_moonKind_13 : decode cX5_moonKind 13 = .ok (.if_icmp .gt 7, 3) := by decide +kernel
theorem dX5_moonKind_16 : decode cX5_moonKind 16 = .ok (.iconst 5, 1) := by decide +kernel
theorem dX5_moonKind_17 : decode cX5_moonKind 17 = .ok (.goto 4, 3) := by decide +kernel
theorem dX5_moonKind_20 : decode cX5_moonKind 20 = .ok (.iconst 0, 1) := by decide +kernel
theorem dX5_moonKind_21 : decode cX5_moonKind 21 = .ok (.ireturn, 1) := by decide +kernel
theorem dX5_firstOfRound_0 : decode cX5_firstOfRound 0 = .ok (.iload_n 1, 1) := by decide +kernel
theorem dX5_firstOfRound_1 : decode cX5_firstOfRound 1 = .ok (.istore_n 2, 1) := by decide +kernel
theorem dX5_firstOfRound_2 : decode cX5_firstOfRound 2 = .ok (.iload_n 2, 1) := by decide +kernel
theorem dX5_firstOfRound_3 : decode cX5_firstOfRound 3 = .ok (.sipush 446, 3) := by decide +kernel
theorem dX5_firstOfRound_6 : decode cX5_firstOfRound 6 = .ok (.if_icmp .lt 24, 3) := by decide +kernel
theorem dX5_firstOfRound_9 : decode cX5_firstOfRound 9 = .ok (.aload_n 0, 1) := by decide +kernel
theorem dX5_firstOfRound_10 : decode cX5_firstOfRound 10 = .ok (.iload_n 2, 1) := by decide +kernel
theorem dX5_firstOfRound_11 : decode cX5_firstOfRound 11 = .ok (.sipush 446, 3) := by decide +kernel
theorem dX5_firstOfRound_14 : decode cX5_firstOfRound 14 = .ok (.isub, 1) := by decide +kernel
theorem dX5_firstOfRound_15 : decode cX5_firstOfRound 15 = .ok (.invokevirtual 87, 3) := by decide +kernel
theorem dX5_firstOfRound_18 : decode cX5_firstOfRound 18 = .ok (.ifCond .eq 12, 3) := by decide +kernel
theorem dX5_firstOfRound_21 : decode cX5_firstOfRound 21 = .ok (.iinc 2 (-446), 6) := by decide +kernel
theorem dX5_firstOfRound_27 : decode cX5_firstOfRound 27 = .ok (.goto (-25), 3) := by decide +kernel
theorem dX5_firstOfRound_30 : decode cX5_firstOfRound 30 = .ok (.iload_n 2, 1) := by decide +kernel
theorem dX5_firstOfRound_31 : decode cX5_firstOfRound 31 = .ok (.ireturn, 1) := by decide +kernel
theorem dX5_lastOfRound_0 : decode cX5_lastOfRound 0 = .ok (.iload_n 1, 1) := by decide +kernel
theorem dX5_lastOfRound_1 : decode cX5_lastOfRound 1 = .ok (.istore_n 2, 1) := by decide +kernel
theorem dX5_lastOfRound_2 : decode cX5_lastOfRound 2 = .ok (.iload_n 2, 1) := by decide +kernel
theorem dX5_lastOfRound_3 : decode cX5_lastOfRound 3 = .ok (.sipush 446, 3) := by decide +kernel
theorem dX5_lastOfRound_6 : decode cX5_lastOfRound 6 = .ok (.iadd, 1) := by decide +kernel
theorem dX5_lastOfRound_7 : decode cX5_lastOfRound 7 = .ok (.sipush 12000, 3) := by decide +kernel
theorem dX5_lastOfRound_10 : decode cX5_lastOfRound 10 = .ok (.if_icmp .gt 24, 3) := by decide +kernel
theorem dX5_lastOfRound_13 : decode cX5_lastOfRound 13 = .ok (.aload_n 0, 1) := by decide +kernel
theorem dX5_lastOfRound_14 : decode cX5_lastOfRound 14 = .ok (.iload_n 2, 1) := by decide +kernel
theorem dX5_lastOfRound_15 : decode cX5_lastOfRound 15 = .ok (.sipush 446, 3) := by decide +kernel
theorem dX5_lastOfRound_18 : decode cX5_lastOfRound 18 = .ok (.iadd, 1) := by decide +kernel
theorem dX5_lastOfRound_19 : decode cX5_lastOfRound 19 = .ok (.invokevirtual 87, 3) := by decide +kernel
theorem dX5_lastOfRound_22 : decode cX5_lastOfRound 22 = .ok (.ifCond .eq 12, 3) := by decide +kernel
theorem dX5_lastOfRound_25 : decode cX5_lastOfRound 25 = .ok (.iinc 2 446, 6) := by decide +kernel
theorem dX5_lastOfRound_31 : decode cX5_lastOfRound 31 = .ok (.goto (-29), 3) := by decide +kernel
theorem dX5_lastOfRound_34 : decode cX5_lastOfRound 34 = .ok (.iload_n 2, 1) := by decide +kernel
theorem dX5_lastOfRound_35 : decode cX5_lastOfRound 35 = .ok (.ireturn, 1) := by decide +kernel
theorem dX5_minuteSeen_0 : decode cX5_minuteSeen 0 = .ok (.iload_n 0, 1) := by decide +kernel
theorem dX5_minuteSeen_1 : decode cX5_minuteSeen 1 = .ok (.ldc 90, 2) := by decide +kernel
theorem dX5_minuteSeen_3 : decode cX5_minuteSeen 3 = .ok (.idiv, 1) := by decide +kernel
theorem dX5_minuteSeen_4 : decode cX5_minuteSeen 4 = .ok (.istore_n 3, 1) := by decide +kernel
theorem dX5_minuteSeen_5 : decode cX5_minuteSeen 5 = .ok (.iload_n 0, 1) := by decide +kernel
theorem dX5_minuteSeen_6 : decode cX5_minuteSeen 6 = .ok (.iload_n 1, 1) := by decide +kernel
theorem dX5_minuteSeen_7 : decode cX5_minuteSeen 7 = .ok (.iadd, 1) := by decide +kernel
theorem dX5_minuteSeen_8 : decode cX5_minuteSeen 8 = .ok (.iload_n 2, 1) := by decide +kernel
theorem dX5_minuteSeen_9 : decode cX5_minuteSeen 9 = .ok (.iload_n 3, 1) := by decide +kernel
theorem dX5_minuteSeen_10 : decode cX5_minuteSeen 10 = .ok (.imul, 1) := by decide +kernel
theorem dX5_minuteSeen_11 : decode cX5_minuteSeen 11 = .ok (.iload_n 3, 1) := by decide +kernel
theorem dX5_minuteSeen_12 : decode cX5_minuteSeen 12 = .ok (.imul, 1) := by decide +kernel
theorem dX5_minuteSeen_13 : decode cX5_minuteSeen 13 = .ok (.sipush 10000, 3) := by decide +kernel
theorem dX5_minuteSeen_16 : decode cX5_minuteSeen 16 = .ok (.idiv, 1) := by decide +kernel
theorem dX5_minuteSeen_17 : decode cX5_minuteSeen 17 = .ok (.iadd, 1) := by decide +kernel
theorem dX5_minuteSeen_18 : decode cX5_minuteSeen 18 = .ok (.ireturn, 1) := by decide +kernel
theorem dX5_listEclipses_0 : decode cX5_listEclipses 0 = .ok (.aload_n 0, 1) := by decide +kernel
theorem dX5_listEclipses_1 : decode cX5_listEclipses 1 = .ok (.getfield 39, 3) := by decide +kernel
theorem dX5_listEclipses_4 : decode cX5_listEclipses 4 = .ok (.ifCond .eq 8, 3) := by decide +kernel
theorem dX5_listEclipses_7 : decode cX5_listEclipses 7 = .ok (.aload_n 0, 1) := by decide +kernel
theorem dX5_listEclipses_8 : decode cX5_listEclipses 8 = .ok (.getfield 91, 3) := by decide +kernel
theorem dX5_listEclipses_11 : decode cX5_listEclipses 11 = .ok (.ireturn, 1) := by decide +kernel
theorem dX5_listEclipses_12 : decode cX5_listEclipses 12 = .ok (.aload_n 0, 1) := by decide +kernel
theorem dX5_listEclipses_13 : decode cX5_listEclipses 13 = .ok (.iconst 0, 1) := by decide +kernel
theorem dX5_listEclipses_14 : decode cX5_listEclipses 14 = .ok (.putfield 91, 3) := by decide +kernel
theorem dX5_listEclipses_17 : decode cX5_listEclipses 17 = .ok (.iconst 0, 1) := by decide +kernel
theorem dX5_listEclipses_18 : decode cX5_listEclipses 18 = .ok (.istore_n 1, 1) := by decide +kernel
theorem dX5_listEclipses_19 : decode cX5_listEclipses 19 = .ok (.iload_n 1, 1) := by decide +kernel
theorem dX5_listEclipses_20 : decode cX5_listEclipses 20 = .ok (.sipush 12000, 3) := by decide +kernel
theorem dX5_listEclipses_23 : decode cX5_listEclipses 23 = .ok (.if_icmp .gt 73, 3) := by decide +kernel
theorem dX5_listEclipses_26 : decode cX5_listEclipses 26 = .ok (.aload_n 0, 1) := by decide +kernel
theorem dX5_listEclipses_27 : decode cX5_listEclipses 27 = .ok (.getfield 91, 3) := by decide +kernel
theorem dX5_listEclipses_30 : decode cX5_listEclipses 30 = .ok (.sipush 1800, 3) := by decide +kernel
theorem dX5_listEclipses_33 : decode cX5_listEclipses 33 = .ok (.if_icmp .ge 63, 3) := by decide +kernel
theorem dX5_listEclipses_36 : decode cX5_listEclipses 36 = .ok (.aload_n 0, 1) := by decide +kernel
theorem dX5_listEclipses_37 : decode cX5_listEclipses 37 = .ok (.iload_n 1, 1) := by decide +kernel
theorem dX5_listEclipses_38 : decode cX5_listEclipses 38 = .ok (.invokevirtual 87, 3) := by decide +kernel
theorem dX5_listEclipses_41 : decode cX5_listEclipses 41 = .ok (.istore_n 2, 1) := by decide +kernel
theorem dX5_listEclipses_42 : decode cX5_listEclipses 42 = .ok (.iload_n 2, 1) := by decide +kernel
theorem dX5_listEclipses_43 : decode cX5_listEclipses 43 = .ok (.ifCond .eq 47, 3) := by decide +kernel
theorem dX5_listEclipses_46 : decode cX5_listEclipses 46 = .ok (.aload_n 0, 1) := by decide +kernel
theorem dX5_listEclipses_47 : decode cX5_listEclipses 47 = .ok (.getfield 24, 3) := by decide +kernel
theorem dX5_listEclipses_50 : decode cX5_listEclipses 50 = .ok (.aload_n 0, 1) := by decide +kernel
theorem dX5_listEclipses_51 : decode cX5_listEclipses 51 = .ok (.getfield 91, 3) := by decide +kernel
theorem dX5_listEclipses_54 : decode cX5_listEclipses 54 = .ok (.iload_n 1, 1) := by decide +kernel
theorem dX5_listEclipses_55 : decode cX5_listEclipses 55 = .ok (.iastore, 1) := by decide +kernel
theorem dX5_listEclipses_56 : decode cX5_listEclipses 56 = .ok (.aload_n 0, 1) := by decide +kernel
theorem dX5_listEclipses_57 : decode cX5_listEclipses 57 = .ok (.getfield 28, 3) := by decide +kernel
theorem dX5_listEclipses_60 : decode cX5_listEclipses 60 = .ok (.aload_n 0, 1) := by decide +kernel
theorem dX5_listEclipses_61 : decode cX5_listEclipses 61 = .ok (.getfield 91, 3) := by decide +kernel
theorem dX5_listEclipses_64 : decode cX5_listEclipses 64 = .ok (.iload_n 2, 1) := by decide +kernel
theorem dX5_listEclipses_65 : decode cX5_listEclipses 65 = .ok (.iastore, 1) := by decide +kernel
theorem dX5_listEclipses_66 : decode cX5_listEclipses 66 = .ok (.aload_n 0, 1) := by decide +kernel
theorem dX5_listEclipses_67 : decode cX5_listEclipses 67 = .ok (.getfield 31, 3) := by decide +kernel
theorem dX5_listEclipses_70 : decode cX5_listEclipses 70 = .ok (.aload_n 0, 1) := by decide +kernel
theorem dX5_listEclipses_71 : decode cX5_listEclipses 71 = .ok (.getfield 91, 3) := by decide +kernel
theorem dX5_listEclipses_74 : decode cX5_listEclipses 74 = .ok (.aload_n 0, 1) := by decide +kernel
theorem dX5_listEclipses_75 : decode cX5_listEclipses 75 = .ok (.iload_n 1, 1) := by decide +kernel
theorem dX5_listEclipses_76 : decode cX5_listEclipses 76 = .ok (.invokevirtual 94, 3) := by decide +kernel
theorem dX5_listEclipses_79 : decode cX5_listEclipses 79 = .ok (.iastore, 1) := by decide +kernel
theorem dX5_listEclipses_80 : decode cX5_listEclipses 80 = .ok (.aload_n 0, 1) := by decide +kernel
theorem dX5_listEclipses_81 : decode cX5_listEclipses 81 = .ok (.dup, 1) := by decide +kernel
theorem dX5_listEclipses_82 : decode cX5_listEclipses 82 = .ok (.getfield 91, 3) := by decide +kernel
theorem dX5_listEclipses_85 : decode cX5_listEclipses 85 = .ok (.iconst 1, 1) := by decide +kernel
theorem dX5_listEclipses_86 : decode cX5_listEclipses 86 = .ok (.iadd, 1) := by decide +kernel
theorem dX5_listEclipses_87 : decode cX5_listEclipses 87 = .ok (.putfield 91, 3) := by decide +kernel
theorem dX5_listEclipses_90 : decode cX5_listEclipses 90 = .ok (.iinc 1 1, 3) := by decide +kernel
theorem dX5_listEclipses_93 : decode cX5_listEclipses 93 = .ok (.goto (-74), 3) := by decide +kernel
theorem dX5_listEclipses_96 : decode cX5_listEclipses 96 = .ok (.aload_n 0, 1) := by decide +kernel
theorem dX5_listEclipses_97 : decode cX5_listEclipses 97 = .ok (.iconst 1, 1) := by decide +kernel
theorem dX5_listEclipses_98 : decode cX5_listEclipses 98 = .ok (.putfield 39, 3) := by decide +kernel
theorem dX5_listEclipses_101 : decode cX5_listEclipses 101 = .ok (.aload_n 0, 1) := by decide +kernel
theorem dX5_listEclipses_102 : decode cX5_listEclipses 102 = .ok (.getfield 91, 3) := by decide +kernel
theorem dX5_listEclipses_105 : decode cX5_listEclipses 105 = .ok (.ireturn, 1) := by decide +kernel
theorem dX5_isListed_0 : decode cX5_isListed 0 = .ok (.iload_n 1, 1) := by decide +kernel
theorem dX5_isListed_1 : decode cX5_isListed 1 = .ok (.ifCond .lt 15, 3) := by decide +kernel
theorem dX5_isListed_4 : decode cX5_isListed 4 = .ok (.iload_n 1, 1) := by decide +kernel
theorem dX5_isListed_5 : decode cX5_isListed 5 = .ok (.aload_n 0, 1) := by decide +kernel
theorem dX5_isListed_6 : decode cX5_isListed 6 = .ok (.getfield 91, 3) := by decide +kernel
theorem dX5_isListed_9 : decode cX5_isListed 9 = .ok (.if_icmp .ge 7, 3) := by decide +kernel
theorem dX5_isListed_12 : decode cX5_isListed 12 = .ok (.iconst 1, 1) := by decide +kernel
theorem dX5_isListed_13 : decode cX5_isListed 13 = .ok (.goto 4, 3) := by decide +kernel
theorem dX5_isListed_16 : decode cX5_isListed 16 = .ok (.iconst 0, 1) := by decide +kernel
theorem dX5_isListed_17 : decode cX5_isListed 17 = .ok (.ireturn, 1) := by decide +kernel
theorem dX5_moonAt_0 : decode cX5_moonAt 0 = .ok (.aload_n 0, 1) := by decide +kernel
theorem dX5_moonAt_1 : decode cX5_moonAt 1 = .ok (.iload_n 1, 1) := by decide +kernel
theorem dX5_moonAt_2 : decode cX5_moonAt 2 = .ok (.invokevirtual 97, 3) := by decide +kernel
theorem dX5_moonAt_5 : decode cX5_moonAt 5 = .ok (.ifCond .eq 12, 3) := by decide +kernel
theorem dX5_moonAt_8 : decode cX5_moonAt 8 = .ok (.aload_n 0, 1) := by decide +kernel
theorem dX5_moonAt_9 : decode cX5_moonAt 9 = .ok (.getfield 24, 3) := by decide +kernel
theorem dX5_moonAt_12 : decode cX5_moonAt 12 = .ok (.iload_n 1, 1) := by decide +kernel
theorem dX5_moonAt_13 : decode cX5_moonAt 13 = .ok (.iaload, 1) := by decide +kernel
theorem dX5_moonAt_14 : decode cX5_moonAt 14 = .ok (.goto 4, 3) := by decide +kernel
theorem dX5_moonAt_17 : decode cX5_moonAt 17 = .ok (.iconst (-1), 1) := by decide +kernel
theorem dX5_moonAt_18 : decode cX5_moonAt 18 = .ok (.ireturn, 1) := by decide +kernel
theorem dX5_kindAt_0 : decode cX5_kindAt 0 = .ok (.aload_n 0, 1) := by decide +kernel
theorem dX5_kindAt_1 : decode cX5_kindAt 1 = .ok (.iload_n 1, 1) := by decide +kernel
theorem dX5_kindAt_2 : decode cX5_kindAt 2 = .ok (.invokevirtual 97, 3) := by decide +kernel
theorem dX5_kindAt_5 : decode cX5_kindAt 5 = .ok (.ifCond .eq 12, 3) := by decide +kernel
theorem dX5_kindAt_8 : decode cX5_kindAt 8 = .ok (.aload_n 0, 1) := by decide +kernel
theorem dX5_kindAt_9 : decode cX5_kindAt 9 = .ok (.getfield 28, 3) := by decide +kernel
theorem dX5_kindAt_12 : decode cX5_kindAt 12 = .ok (.iload_n 1, 1) := by decide +kernel
theorem dX5_kindAt_13 : decode cX5_kindAt 13 = .ok (.iaload, 1) := by decide +kernel
theorem dX5_kindAt_14 : decode cX5_kindAt 14 = .ok (.goto 4, 3) := by decide +kernel
theorem dX5_kindAt_17 : decode cX5_kindAt 17 = .ok (.iconst 0, 1) := by decide +kernel
theorem dX5_kindAt_18 : decode cX5_kindAt 18 = .ok (.ireturn, 1) := by decide +kernel
theorem dX5_isOfSunAt_0 : decode cX5_isOfSunAt 0 = .ok (.aload_n 0, 1) := by decide +kernel
theorem dX5_isOfSunAt_1 : decode cX5_isOfSunAt 1 = .ok (.iload_n 1, 1) := by decide +kernel
theorem dX5_isOfSunAt_2 : decode cX5_isOfSunAt 2 = .ok (.invokevirtual 100, 3) := by decide +kernel
theorem dX5_isOfSunAt_5 : decode cX5_isOfSunAt 5 = .ok (.iconst 2, 1) := by decide +kernel
theorem dX5_isOfSunAt_6 : decode cX5_isOfSunAt 6 = .ok (.irem, 1) := by decide +kernel
theorem dX5_isOfSunAt_7 : decode cX5_isOfSunAt 7 = .ok (.ifCond .ne 7, 3) := by decide +kernel
theorem dX5_isOfSunAt_10 : decode cX5_isOfSunAt 10 = .ok (.iconst 1, 1) := by decide +kernel
theorem dX5_isOfSunAt_11 : decode cX5_isOfSunAt 11 = .ok (.goto 4, 3) := by decide +kernel
theorem dX5_isOfSunAt_14 : decode cX5_isOfSunAt 14 = .ok (.iconst 0, 1) := by decide +kernel
theorem dX5_isOfSunAt_15 : decode cX5_isOfSunAt 15 = .ok (.ireturn, 1) := by decide +kernel
theorem dX5_timeAt_0 : decode cX5_timeAt 0 = .ok (.aload_n 0, 1) := by decide +kernel
theorem dX5_timeAt_1 : decode cX5_timeAt 1 = .ok (.iload_n 1, 1) := by decide +kernel
theorem dX5_timeAt_2 : decode cX5_timeAt 2 = .ok (.invokevirtual 97, 3) := by decide +kernel
theorem dX5_timeAt_5 : decode cX5_timeAt 5 = .ok (.ifCond .eq 12, 3) := by decide +kernel
theorem dX5_timeAt_8 : decode cX5_timeAt 8 = .ok (.aload_n 0, 1) := by decide +kernel
theorem dX5_timeAt_9 : decode cX5_timeAt 9 = .ok (.getfield 31, 3) := by decide +kernel
theorem dX5_timeAt_12 : decode cX5_timeAt 12 = .ok (.iload_n 1, 1) := by decide +kernel
theorem dX5_timeAt_13 : decode cX5_timeAt 13 = .ok (.iaload, 1) := by decide +kernel
theorem dX5_timeAt_14 : decode cX5_timeAt 14 = .ok (.goto 4, 3) := by decide +kernel
theorem dX5_timeAt_17 : decode cX5_timeAt 17 = .ok (.iconst 0, 1) := by decide +kernel
theorem dX5_timeAt_18 : decode cX5_timeAt 18 = .ok (.ireturn, 1) := by decide +kernel
theorem dX5_isAsked_0 : decode cX5_isAsked 0 = .ok (.iload_n 2, 1) := by decide +kernel
theorem dX5_isAsked_1 : decode cX5_isAsked 1 = .ok (.aload_n 0, 1) := by decide +kernel
theorem dX5_isAsked_2 : decode cX5_isAsked 2 = .ok (.getfield 28, 3) := by decide +kernel
theorem dX5_isAsked_5 : decode cX5_isAsked 5 = .ok (.iload_n 1, 1) := by decide +kernel
theorem dX5_isAsked_6 : decode cX5_isAsked 6 = .ok (.iaload, 1) := by decide +kernel
theorem dX5_isAsked_7 : decode cX5_isAsked 7 = .ok (.ishr, 1) := by decide +kernel
theorem dX5_isAsked_8 : decode cX5_isAsked 8 = .ok (.iconst 1, 1) := by decide +kernel
theorem dX5_isAsked_9 : decode cX5_isAsked 9 = .ok (.iand, 1) := by decide +kernel
theorem dX5_isAsked_10 : decode cX5_isAsked 10 = .ok (.ifCond .eq 7, 3) := by decide +kernel
theorem dX5_isAsked_13 : decode cX5_isAsked 13 = .ok (.iconst 1, 1) := by decide +kernel
theorem dX5_isAsked_14 : decode cX5_isAsked 14 = .ok (.goto 4, 3) := by decide +kernel
theorem dX5_isAsked_17 : decode cX5_isAsked 17 = .ok (.iconst 0, 1) := by decide +kernel
theorem dX5_isAsked_18 : decode cX5_isAsked 18 = .ok (.ireturn, 1) := by decide +kernel
theorem dX5_findEclipse_0 : decode cX5_findEclipse 0 = .ok (.aload_n 0, 1) := by decide +kernel
theorem dX5_findEclipse_1 : decode cX5_findEclipse 1 = .ok (.invokevirtual 103, 3) := by decide +kernel
theorem dX5_findEclipse_4 : decode cX5_findEclipse 4 = .ok (.istore 4, 2) := by decide +kernel
theorem dX5_findEclipse_6 : decode cX5_findEclipse 6 = .ok (.iload_n 2, 1) := by decide +kernel
theorem dX5_findEclipse_7 : decode cX5_findEclipse 7 = .ok (.istore 5, 2) := by decide +kernel
theorem dX5_findEclipse_9 : decode cX5_findEclipse 9 = .ok (.iconst 0, 1) := by decide +kernel
theorem dX5_findEclipse_10 : decode cX5_findEclipse 10 = .ok (.istore 6, 2) := by decide +kernel
theorem dX5_findEclipse_12 : decode cX5_findEclipse 12 = .ok (.iload 6, 2) := by decide +kernel
theorem dX5_findEclipse_14 : decode cX5_findEclipse 14 = .ok (.iload 4, 2) := by decide +kernel
theorem dX5_findEclipse_16 : decode cX5_findEclipse 16 = .ok (.if_icmp .ge 46, 3) := by decide +kernel
theorem dX5_findEclipse_19 : decode cX5_findEclipse 19 = .ok (.aload_n 0, 1) := by decide +kernel
theorem dX5_findEclipse_20 : decode cX5_findEclipse 20 = .ok (.getfield 24, 3) := by decide +kernel
theorem dX5_findEclipse_23 : decode cX5_findEclipse 23 = .ok (.iload 6, 2) := by decide +kernel
theorem dX5_findEclipse_25 : decode cX5_findEclipse 25 = .ok (.iaload, 1) := by decide +kernel
theorem dX5_findEclipse_26 : decode cX5_findEclipse 26 = .ok (.iload_n 1, 1) := by decide +kernel
theorem dX5_findEclipse_27 : decode cX5_findEclipse 27 = .ok (.if_icmp .lt 29, 3) := by decide +kernel
theorem dX5_findEclipse_30 : decode cX5_findEclipse 30 = .ok (.aload_n 0, 1) := by decide +kernel
theorem dX5_findEclipse_31 : decode cX5_findEclipse 31 = .ok (.iload 6, 2) := by decide +kernel
theorem dX5_findEclipse_33 : decode cX5_findEclipse 33 = .ok (.iload_n 3, 1) := by decide +kernel
theorem dX5_findEclipse_34 : decode cX5_findEclipse 34 = .ok (.invokevirtual 107, 3) := by decide +kernel
theorem dX5_findEclipse_37 : decode cX5_findEclipse 37 = .ok (.ifCond .eq 19, 3) := by decide +kernel
theorem dX5_findEclipse_40 : decode cX5_findEclipse 40 = .ok (.iinc 5 (-1), 3) := by decide +kernel
theorem dX5_findEclipse_43 : decode cX5_findEclipse 43 = .ok (.iload 5, 2) := by decide +kernel
theorem dX5_findEclipse_45 : decode cX5_findEclipse 45 = .ok (.ifCond .ne 11, 3) := by decide +kernel
theorem dX5_findEclipse_48 : decode cX5_findEclipse 48 = .ok (.aload_n 0, 1) := by decide +kernel
theorem dX5_findEclipse_49 : decode cX5_findEclipse 49 = .ok (.getfield 24, 3) := by decide +kernel
theorem dX5_findEclipse_52 : decode cX5_findEclipse 52 = .ok (.iload 6, 2) := by decide +kernel
theorem dX5_findEclipse_54 : decode cX5_findEclipse 54 = .ok (.iaload, 1) := by decide +kernel
theorem dX5_findEclipse_55 : decode cX5_findEclipse 55 = .ok (.ireturn, 1) := by decide +kernel
theorem dX5_findEclipse_56 : decode cX5_findEclipse 56 = .ok (.iinc 6 1, 3) := by decide +kernel
theorem dX5_findEclipse_59 : decode cX5_findEclipse 59 = .ok (.goto (-47), 3) := by decide +kernel
theorem dX5_findEclipse_62 : decode cX5_findEclipse 62 = .ok (.iconst (-1), 1) := by decide +kernel
theorem dX5_findEclipse_63 : decode cX5_findEclipse 63 = .ok (.ireturn, 1) := by decide +kernel
theorem dX5_countEclipses_0 : decode cX5_countEclipses 0 = .ok (.aload_n 0, 1) := by decide +kernel
theorem dX5_countEclipses_1 : decode cX5_countEclipses 1 = .ok (.invokevirtual 103, 3) := by decide +kernel
theorem dX5_countEclipses_4 : decode cX5_countEclipses 4 = .ok (.istore 4, 2) := by decide +kernel
theorem dX5_countEclipses_6 : decode cX5_countEclipses 6 = .ok (.iconst 0, 1) := by decide +kernel
theorem dX5_countEclipses_7 : decode cX5_countEclipses 7 = .ok (.istore 5, 2) := by decide +kernel
theorem dX5_countEclipses_9 : decode cX5_countEclipses 9 = .ok (.iconst 0, 1) := by decide +kernel
theorem dX5_countEclipses_10 : decode cX5_countEclipses 10 = .ok (.istore 6, 2) := by decide +kernel
theorem dX5_countEclipses_12 : decode cX5_countEclipses 12 = .ok (.iload 6, 2) := by decide +kernel
theorem dX5_countEclipses_14 : decode cX5_countEclipses 14 = .ok (.iload 4, 2) := by decide +kernel
theorem dX5_countEclipses_16 : decode cX5_countEclipses 16 = .ok (.if_icmp .ge 44, 3) := by decide +kernel
theorem dX5_countEclipses_19 : decode cX5_countEclipses 19 = .ok (.aload_n 0, 1) := by decide +kernel
theorem dX5_countEclipses_20 : decode cX5_countEclipses 20 = .ok (.getfield 24, 3) := by decide +kernel
theorem dX5_countEclipses_23 : decode cX5_countEclipses 23 = .ok (.iload 6, 2) := by decide +kernel
theorem dX5_countEclipses_25 : decode cX5_countEclipses 25 = .ok (.iaload, 1) := by decide +kernel
theorem dX5_countEclipses_26 : decode cX5_countEclipses 26 = .ok (.iload_n 2, 1) := by decide +kernel
theorem dX5_countEclipses_27 : decode cX5_countEclipses 27 = .ok (.if_icmp .gt 33, 3) := by decide +kernel
theorem dX5_countEclipses_30 : decode cX5_countEclipses 30 = .ok (.aload_n 0, 1) := by decide +kernel
theorem dX5_countEclipses_31 : decode cX5_countEclipses 31 = .ok (.getfield 24, 3) := by decide +kernel
theorem dX5_countEclipses_34 : decode cX5_countEclipses 34 = .ok (.iload 6, 2) := by decide +kernel
theorem dX5_countEclipses_36 : decode cX5_countEclipses 36 = .ok (.iaload, 1) := by decide +kernel
theorem dX5_countEclipses_37 : decode cX5_countEclipses 37 = .ok (.iload_n 1, 1) := by decide +kernel
theorem dX5_countEclipses_38 : decode cX5_countEclipses 38 = .ok (.if_icmp .lt 16, 3) := by decide +kernel
theorem dX5_countEclipses_41 : decode cX5_countEclipses 41 = .ok (.aload_n 0, 1) := by decide +kernel
theorem dX5_countEclipses_42 : decode cX5_countEclipses 42 = .ok (.iload 6, 2) := by decide +kernel
theorem dX5_countEclipses_44 : decode cX5_countEclipses 44 = .ok (.iload_n 3, 1) := by decide +kernel
theorem dX5_countEclipses_45 : decode cX5_countEclipses 45 = .ok (.invokevirtual 107, 3) := by decide +kernel
theorem dX5_countEclipses_48 : decode cX5_countEclipses 48 = .ok (.ifCond .eq 6, 3) := by decide +kernel
theorem dX5_countEclipses_51 : decode cX5_countEclipses 51 = .ok (.iinc 5 1, 3) := by decide +kernel
theorem dX5_countEclipses_54 : decode cX5_countEclipses 54 = .ok (.iinc 6 1, 3) := by decide +kernel
theorem dX5_countEclipses_57 : decode cX5_countEclipses 57 = .ok (.goto (-45), 3) := by decide +kernel
theorem dX5_countEclipses_60 : decode cX5_countEclipses 60 = .ok (.iload 5, 2) := by decide +kernel
theorem dX5_countEclipses_62 : decode cX5_countEclipses 62 = .ok (.ireturn, 1) := by decide +kernel
theorem dX6_init_0 : decode cX6_init 0 = .ok (.aload_n 0, 1) := by decide +kernel
theorem dX6_init_1 : decode cX6_init 1 = .ok (.invokespecial 3, 3) := by decide +kernel
theorem dX6_init_4 : decode cX6_init 4 = .ok (.aload_n 0, 1) := by decide +kernel
theorem dX6_init_5 : decode cX6_init 5 = .ok (.sipush 200, 3) := by decide +kernel
theorem dX6_init_8 : decode cX6_init 8 = .ok (.newarray .int, 2) := by decide +kernel
theorem dX6_init_10 : decode cX6_init 10 = .ok (.putfield 11, 3) := by decide +kernel
theorem dX6_init_13 : decode cX6_init 13 = .ok (.return_, 1) := by decide +kernel
theorem dX6_size_0 : decode cX6_size 0 = .ok (.aload_n 0, 1) := by decide +kernel
theorem dX6_size_1 : decode cX6_size 1 = .ok (.getfield 15, 3) := by decide +kernel
theorem dX6_size_4 : decode cX6_size 4 = .ok (.ireturn, 1) := by decide +kernel
theorem dX6_hasRoom_0 : decode cX6_hasRoom 0 = .ok (.aload_n 0, 1) := by decide +kernel
theorem dX6_hasRoom_1 : decode cX6_hasRoom 1 = .ok (.getfield 15, 3) := by decide +kernel
theorem dX6_hasRoom_4 : decode cX6_hasRoom 4 = .ok (.bipush 20, 2) := by decide +kernel
theorem dX6_hasRoom_6 : decode cX6_hasRoom 6 = .ok (.iadd, 1) := by decide +kernel
theorem dX6_hasRoom_7 : decode cX6_hasRoom 7 = .ok (.sipush 200, 3) := by decide +kernel
theorem dX6_hasRoom_10 : decode cX6_hasRoom 10 = .ok (.if_icmp .gt 7, 3) := by decide +kernel
theorem dX6_hasRoom_13 : decode cX6_hasRoom 13 = .ok (.iconst 1, 1) := by decide +kernel
theorem dX6_hasRoom_14 : decode cX6_hasRoom 14 = .ok (.goto 4, 3) := by decide +kernel
theorem dX6_hasRoom_17 : decode cX6_hasRoom 17 = .ok (.iconst 0, 1) := by decide +kernel
theorem dX6_hasRoom_18 : decode cX6_hasRoom 18 = .ok (.ireturn, 1) := by decide +kernel
theorem dX6_addNumber_0 : decode cX6_addNumber 0 = .ok (.bipush 24, 2) := by decide +kernel
theorem dX6_addNumber_2 : decode cX6_addNumber 2 = .ok (.istore_n 2, 1) := by decide +kernel
theorem dX6_addNumber_3 : decode cX6_addNumber 3 = .ok (.iload_n 2, 1) := by decide +kernel
theorem dX6_addNumber_4 : decode cX6_addNumber 4 = .ok (.ifCond .lt 45, 3) := by decide +kernel
theorem dX6_addNumber_7 : decode cX6_addNumber 7 = .ok (.aload_n 0, 1) := by decide +kernel
theorem dX6_addNumber_8 : decode cX6_addNumber 8 = .ok (.getfield 15, 3) := by decide +kernel
theorem dX6_addNumber_11 : decode cX6_addNumber 11 = .ok (.sipush 200, 3) := by decide +kernel
theorem dX6_addNumber_14 : decode cX6_addNumber 14 = .ok (.if_icmp .ge 35, 3) := by decide +kernel
theorem dX6_addNumber_17 : decode cX6_addNumber 17 = .ok (.aload_n 0, 1) := by decide +kernel
theorem dX6_addNumber_18 : decode cX6_addNumber 18 = .ok (.getfield 11, 3) := by decide +kernel
theorem dX6_addNumber_21 : decode cX6_addNumber 21 = .ok (.aload_n 0, 1) := by decide +kernel
theorem dX6_addNumber_22 : decode cX6_addNumber 22 = .ok (.getfield 15, 3) := by decide +kernel
theorem dX6_addNumber_25 : decode cX6_addNumber 25 = .ok (.iload_n 1, 1) := by decide +kernel
theorem dX6_addNumber_26 : decode cX6_addNumber 26 = .ok (.iload_n 2, 1) := by decide +kernel
theorem dX6_addNumber_27 : decode cX6_addNumber 27 = .ok (.ishr, 1) := by decide +kernel
theorem dX6_addNumber_28 : decode cX6_addNumber 28 = .ok (.sipush 255, 3) := by decide +kernel
theorem dX6_addNumber_31 : decode cX6_addNumber 31 = .ok (.iand, 1) := by decide +kernel
theorem dX6_addNumber_32 : decode cX6_addNumber 32 = .ok (.iastore, 1) := by decide +kernel
theorem dX6_addNumber_33 : decode cX6_addNumber 33 = .ok (.aload_n 0, 1) := by decide +kernel
theorem dX6_addNumber_34 : decode cX6_addNumber 34 = .ok (.dup, 1) := by decide +kernel
theorem dX6_addNumber_35 : decode cX6_addNumber 35 = .ok (.getfield 15, 3) := by decide +kernel
theorem dX6_addNumber_38 : decode cX6_addNumber 38 = .ok (.iconst 1, 1) := by decide +kernel
theorem dX6_addNumber_39 : decode cX6_addNumber 39 = .ok (.iadd, 1) := by decide +kernel
theorem dX6_addNumber_40 : decode cX6_addNumber 40 = .ok (.putfield 15, 3) := by decide +kernel
theorem dX6_addNumber_43 : decode cX6_addNumber 43 = .ok (.iinc 2 (-8), 3) := by decide +kernel
theorem dX6_addNumber_46 : decode cX6_addNumber 46 = .ok (.goto (-43), 3) := by decide +kernel
theorem dX6_addNumber_49 : decode cX6_addNumber 49 = .ok (.return_, 1) := by decide +kernel
theorem dX6_cutTo_0 : decode cX6_cutTo 0 = .ok (.iload_n 1, 1) := by decide +kernel
theorem dX6_cutTo_1 : decode cX6_cutTo 1 = .ok (.ifCond .lt 11, 3) := by decide +kernel
theorem dX6_cutTo_4 : decode cX6_cutTo 4 = .ok (.iload_n 1, 1) := by decide +kernel
theorem dX6_cutTo_5 : decode cX6_cutTo 5 = .ok (.aload_n 0, 1) := by decide +kernel
theorem dX6_cutTo_6 : decode cX6_cutTo 6 = .ok (.getfield 15, 3) := by decide +kernel
theorem dX6_cutTo_9 : decode cX6_cutTo 9 = .ok (.if_icmp .le 5, 3) := by decide +kernel
theorem dX6_cutTo_12 : decode cX6_cutTo 12 = .ok (.iconst 0, 1) := by decide +kernel
theorem dX6_cutTo_13 : decode cX6_cutTo 13 = .ok (.ireturn, 1) := by decide +kernel
theorem dX6_cutTo_14 : decode cX6_cutTo 14 = .ok (.aload_n 0, 1) := by decide +kernel
theorem dX6_cutTo_15 : decode cX6_cutTo 15 = .ok (.iload_n 1, 1) := by decide +kernel
theorem dX6_cutTo_16 : decode cX6_cutTo 16 = .ok (.putfield 15, 3) := by decide +kernel
theorem dX6_cutTo_19 : decode cX6_cutTo 19 = .ok (.iconst 1, 1) := by decide +kernel
theorem dX6_cutTo_20 : decode cX6_cutTo 20 = .ok (.ireturn, 1) := by decide +kernel
theorem dX6_clear_0 : decode cX6_clear 0 = .ok (.aload_n 0, 1) := by decide +kernel
theorem dX6_clear_1 : decode cX6_clear 1 = .ok (.iconst 0, 1) := by decide +kernel
theorem dX6_clear_2 : decode cX6_clear 2 = .ok (.putfield 15, 3) := by decide +kernel
theorem dX6_clear_5 : decode cX6_clear 5 = .ok (.return_, 1) := by decide +kernel
theorem dX6_byteAt_0 : decode cX6_byteAt 0 = .ok (.iload_n 1, 1) := by decide +kernel
theorem dX6_byteAt_1 : decode cX6_byteAt 1 = .ok (.ifCond .lt 20, 3) := by decide +kernel
theorem dX6_byteAt_4 : decode cX6_byteAt 4 = .ok (.iload_n 1, 1) := by decide +kernel
theorem dX6_byteAt_5 : decode cX6_byteAt 5 = .ok (.aload_n 0, 1) := by decide +kernel
theorem dX6_byteAt_6 : decode cX6_byteAt 6 = .ok (.getfield 15, 3) := by decide +kernel
theorem dX6_byteAt_9 : decode cX6_byteAt 9 = .ok (.if_icmp .ge 12, 3) := by decide +kernel
theorem dX6_byteAt_12 : decode cX6_byteAt 12 = .ok (.aload_n 0, 1) := by decide +kernel
theorem dX6_byteAt_13 : decode cX6_byteAt 13 = .ok (.getfield 11, 3) := by decide +kernel
theorem dX6_byteAt_16 : decode cX6_byteAt 16 = .ok (.iload_n 1, 1) := by decide +kernel
theorem dX6_byteAt_17 : decode cX6_byteAt 17 = .ok (.iaload, 1) := by decide +kernel
theorem dX6_byteAt_18 : decode cX6_byteAt 18 = .ok (.goto 4, 3) := by decide +kernel
theorem dX6_byteAt_21 : decode cX6_byteAt 21 = .ok (.iconst (-1), 1) := by decide +kernel
theorem dX6_byteAt_22 : decode cX6_byteAt 22 = .ok (.ireturn, 1) := by decide +kernel
theorem dX6_isLetter_0 : decode cX6_isLetter 0 = .ok (.iload_n 0, 1) := by decide +kernel
theorem dX6_isLetter_1 : decode cX6_isLetter 1 = .ok (.bipush 97, 2) := by decide +kernel
theorem dX6_isLetter_3 : decode cX6_isLetter 3 = .ok (.if_icmp .lt 13, 3) := by decide +kernel
theorem dX6_isLetter_6 : decode cX6_isLetter 6 = .ok (.iload_n 0, 1) := by decide +kernel
theorem dX6_isLetter_7 : decode cX6_isLetter 7 = .ok (.bipush 122, 2) := by decide +kernel
theorem dX6_isLetter_9 : decode cX6_isLetter 9 = .ok (.if_icmp .gt 7, 3) := by decide +kernel
theorem dX6_isLetter_12 : decode cX6_isLetter 12 = .ok (.iconst 1, 1) := by decide +kernel
theorem dX6_isLetter_13 : decode cX6_isLetter 13 = .ok (.goto 4, 3) := by decide +kernel
theorem dX6_isLetter_16 : decode cX6_isLetter 16 = .ok (.iconst 0, 1) := by decide +kernel
theorem dX6_isLetter_17 : decode cX6_isLetter 17 = .ok (.ireturn, 1) := by decide +kernel
theorem dX6_isDigit_0 : decode cX6_isDigit 0 = .ok (.iload_n 0, 1) := by decide +kernel
theorem dX6_isDigit_1 : decode cX6_isDigit 1 = .ok (.bipush 48, 2) := by decide +kernel
theorem dX6_isDigit_3 : decode cX6_isDigit 3 = .ok (.if_icmp .lt 13, 3) := by decide +kernel
theorem dX6_isDigit_6 : decode cX6_isDigit 6 = .ok (.iload_n 0, 1) := by decide +kernel
theorem dX6_isDigit_7 : decode cX6_isDigit 7 = .ok (.bipush 57, 2) := by decide +kernel
theorem dX6_isDigit_9 : decode cX6_isDigit 9 = .ok (.if_icmp .gt 7, 3) := by decide +kernel
theorem dX6_isDigit_12 : decode cX6_isDigit 12 = .ok (.iconst 1, 1) := by decide +kernel
theorem dX6_isDigit_13 : decode cX6_isDigit 13 = .ok (.goto 4, 3) := by decide +kernel
theorem dX6_isDigit_16 : decode cX6_isDigit 16 = .ok (.iconst 0, 1) := by decide +kernel
theorem dX6_isDigit_17 : decode cX6_isDigit 17 = .ok (.ireturn, 1) := by decide +kernel
theorem dX6_isBlank_0 : decode cX6_isBlank 0 = .ok (.iload_n 0, 1) := by decide +kernel
theorem dX6_isBlank_1 : decode cX6_isBlank 1 = .ok (.bipush 10, 2) := by decide +kernel
theorem dX6_isBlank_3 : decode cX6_isBlank 3 = .ok (.if_icmp .eq 9, 3) := by decide +kernel
theorem dX6_isBlank_6 : decode cX6_isBlank 6 = .ok (.iload_n 0, 1) := by decide +kernel
theorem dX6_isBlank_7 : decode cX6_isBlank 7 = .ok (.bipush 32, 2) := by decide +kernel
theorem dX6_isBlank_9 : decode cX6_isBlank 9 = .ok (.if_icmp .ne 7, 3) := by decide +kernel
theorem dX6_isBlank_12 : decode cX6_isBlank 12 = .ok (.iconst 1, 1) := by decide +kernel
theorem dX6_isBlank_13 : decode cX6_isBlank 13 = .ok (.goto 4, 3) := by decide +kernel
theorem dX6_isBlank_16 : decode cX6_isBlank 16 = .ok (.iconst 0, 1) := by decide +kernel
theorem dX6_isBlank_17 : decode cX6_isBlank 17 = .ok (.ireturn, 1) := by decide +kernel
theorem dX6_nameBetween_0 : decode cX6_nameBetween 0 = .ok (.iload_n 2, 1) := by decide +kernel
theorem dX6_nameBetween_1 : decode cX6_nameBetween 1 = .ok (.iload_n 1, 1) := by decide +kernel
theorem dX6_nameBetween_2 : decode cX6_nameBetween 2 = .ok (.if_icmp .le 11, 3) := by decide +kernel
theorem dX6_nameBetween_5 : decode cX6_nameBetween 5 = .ok (.iload_n 2, 1) := by decide +kernel
theorem dX6_nameBetween_6 : decode cX6_nameBetween 6 = .ok (.iload_n 1, 1) := by decide +kernel
theorem dX6_nameBetween_7 : decode cX6_nameBetween 7 = .ok (.isub, 1) := by decide +kernel
theorem dX6_nameBetween_8 : decode cX6_nameBetween 8 = .ok (.bipush 6, 2) := by decide +kernel
theorem dX6_nameBetween_10 : decode cX6_nameBetween 10 = .ok (.if_icmp .le 5, 3) := by decide +kernel
theorem dX6_nameBetween_13 : decode cX6_nameBetween 13 = .ok (.iconst (-1), 1) := by decide +kernel
theorem dX6_nameBetween_14 : decode cX6_nameBetween 14 = .ok (.ireturn, 1) := by decide +kernel
theorem dX6_nameBetween_15 : decode cX6_nameBetween 15 = .ok (.iconst 0, 1) := by decide +kernel
theorem dX6_nameBetween_16 : decode cX6_nameBetween 16 = .ok (.istore_n 3, 1) := by decide +kernel
theorem dX6_nameBetween_17 : decode cX6_nameBetween 17 = .ok (.iload_n 1, 1) := by decide +kernel
theorem dX6_nameBetween_18 : decode cX6_nameBetween 18 = .ok (.istore 4, 2) := by decide +kernel
theorem dX6_nameBetween_20 : decode cX6_nameBetween 20 = .ok (.iload 4, 2) := by decide +kernel
theorem dX6_nameBetween_22 : decode cX6_nameBetween 22 = .ok (.iload_n 2, 1) := by decide +kernel
theorem dX6_nameBetween_23 : decode cX6_nameBetween 23 = .ok (.if_icmp .ge 39, 3) := by decide +kernel
theorem dX6_nameBetween_26 : decode cX6_nameBetween 26 = .ok (.aload_n 0, 1) := by decide +kernel
theorem dX6_nameBetween_27 : decode cX6_nameBetween 27 = .ok (.iload 4, 2) := by decide +kernel
theorem dX6_nameBetween_29 : decode cX6_nameBetween 29 = .ok (.invokevirtual 19, 3) := by decide +kernel
theorem dX6_nameBetween_32 : decode cX6_nameBetween 32 = .ok (.istore 5, 2) := by decide +kernel
theorem dX6_nameBetween_34 : decode cX6_nameBetween 34 = .ok (.iload 5, 2) := by decide +kernel
theorem dX6_nameBetween_36 : decode cX6_nameBetween 36 = .ok (.invokestatic 23, 3) := by decide +kernel
theorem dX6_nameBetween_39 : decode cX6_nameBetween 39 = .ok (.ifCond .ne 5, 3) := by decide +kernel
theorem dX6_nameBetween_42 : decode cX6_nameBetween 42 = .ok (.iconst (-1), 1) := by decide +kernel
theorem dX6_nameBetween_43 : decode cX6_nameBetween 43 = .ok (.ireturn, 1) := by decide +kernel
theorem dX6_nameBetween_44 : decode cX6_nameBetween 44 = .ok (.iload_n 3, 1) := by decide +kernel
theorem dX6_nameBetween_45 : decode cX6_nameBetween 45 = .ok (.iconst 5, 1) := by decide +kernel
theorem dX6_nameBetween_46 : decode cX6_nameBetween 46 = .ok (.ishl, 1) := by decide +kernel
theorem dX6_nameBetween_47 : decode cX6_nameBetween 47 = .ok (.iload 5, 2) := by decide +kernel
theorem dX6_nameBetween_49 : decode cX6_nameBetween 49 = .ok (.bipush 97, 2) := by decide +kernel
theorem dX6_nameBetween_51 : decode cX6_nameBetween 51 = .ok (.isub, 1) := by decide +kernel
theorem dX6_nameBetween_52 : decode cX6_nameBetween 52 = .ok (.iconst 1, 1) := by decide +kernel
theorem dX6_nameBetween_53 : decode cX6_nameBetween 53 = .ok (.iadd, 1) := by decide +kernel
theorem dX6_nameBetween_54 : decode cX6_nameBetween 54 = .ok (.ior, 1) := by decide +kernel
theorem dX6_nameBetween_55 : decode cX6_nameBetween 55 = .ok (.istore_n 3, 1) := by decide +kernel
theorem dX6_nameBetween_56 : decode cX6_nameBetween 56 = .ok (.iinc 4 1, 3) := by decide +kernel
theorem dX6_nameBetween_59 : decode cX6_nameBetween 59 = .ok (.goto (-39), 3) := by decide +kernel
theorem dX6_nameBetween_62 : decode cX6_nameBetween 62 = .ok (.iload_n 3, 1) := by decide +kernel
theorem dX6_nameBetween_63 : decode cX6_nameBetween 63 = .ok (.ireturn, 1) := by decide +kernel
theorem dX7_init_0 : decode cX7_init 0 = .ok (.aload_n 0, 1) := by decide +kernel
theorem dX7_init_1 : decode cX7_init 1 = .ok (.invokespecial 3, 3) := by decide +kernel
theorem dX7_init_4 : decode cX7_init 4 = .ok (.aload_n 0, 1) := by decide +kernel
theorem dX7_init_5 : decode cX7_init 5 = .ok (.new 9, 3) := by decide +kernel
theorem dX7_init_8 : decode cX7_init 8 = .ok (.dup, 1) := by decide +kernel
theorem dX7_init_9 : decode cX7_init 9 = .ok (.invokespecial 11, 3) := by decide +kernel
theorem dX7_init_12 : decode cX7_init 12 = .ok (.putfield 12, 3) := by decide +kernel
theorem dX7_init_15 : decode cX7_init 15 = .ok (.aload_n 0, 1) := by decide +kernel
theorem dX7_init_16 : decode cX7_init 16 = .ok (.new 16, 3) := by decide +kernel
theorem dX7_init_19 : decode cX7_init 19 = .ok (.dup, 1) := by decide +kernel
theorem dX7_init_20 : decode cX7_init 20 = .ok (.invokespecial 18, 3) := by decide +kernel
theorem dX7_init_23 : decode cX7_init 23 = .ok (.putfield 19, 3) := by decide +kernel
theorem dX7_init_26 : decode cX7_init 26 = .ok (.aload_n 0, 1) := by decide +kernel
theorem dX7_init_27 : decode cX7_init 27 = .ok (.new 23, 3) := by decide +kernel
theorem dX7_init_30 : decode cX7_init 30 = .ok (.dup, 1) := by decide +kernel
theorem dX7_init_31 : decode cX7_init 31 = .ok (.invokespecial 25, 3) := by decide +kernel
theorem dX7_init_34 : decode cX7_init 34 = .ok (.putfield 26, 3) := by decide +kernel
theorem dX7_init_37 : decode cX7_init 37 = .ok (.aload_n 0, 1) := by decide +kernel
theorem dX7_init_38 : decode cX7_init 38 = .ok (.new 30, 3) := by decide +kernel
theorem dX7_init_41 : decode cX7_init 41 = .ok (.dup, 1) := by decide +kernel
theorem dX7_init_42 : decode cX7_init 42 = .ok (.invokespecial 32, 3) := by decide +kernel
theorem dX7_init_45 : decode cX7_init 45 = .ok (.putfield 33, 3) := by decide +kernel
theorem dX7_init_48 : decode cX7_init 48 = .ok (.aload_n 0, 1) := by decide +kernel
theorem dX7_init_49 : decode cX7_init 49 = .ok (.new 37, 3) := by decide +kernel
theorem dX7_init_52 : decode cX7_init 52 = .ok (.dup, 1) := by decide +kernel
theorem dX7_init_53 : decode cX7_init 53 = .ok (.aload_n 0, 1) := by decide +kernel
theorem dX7_init_54 : decode cX7_init 54 = .ok (.getfield 19, 3) := by decide +kernel
theorem dX7_init_57 : decode cX7_init 57 = .ok (.aload_n 0, 1) := by decide +kernel
theorem dX7_init_58 : decode cX7_init 58 = .ok (.getfield 26, 3) := by decide +kernel
theorem dX7_init_61 : decode cX7_init 61 = .ok (.invokespecial 39, 3) := by decide +kernel
theorem dX7_init_64 : decode cX7_init 64 = .ok (.putfield 42, 3) := by decide +kernel
theorem dX7_init_67 : decode cX7_init 67 = .ok (.return_, 1) := by decide +kernel
theorem dX7_tables_0 : decode cX7_tables 0 = .ok (.aload_n 0, 1) := by decide +kernel
theorem dX7_tables_1 : decode cX7_tables 1 = .ok (.getfield 12, 3) := by decide +kernel
theorem dX7_tables_4 : decode cX7_tables 4 = .ok (.iload_n 1, 1) := by decide +kernel
theorem dX7_tables_5 : decode cX7_tables 5 = .ok (.iload_n 2, 1) := by decide +kernel
theorem dX7_tables_6 : decode cX7_tables 6 = .ok (.iload_n 3, 1) := by decide +kernel
theorem dX7_tables_7 : decode cX7_tables 7 = .ok (.invokevirtual 46, 3) := by decide +kernel
theorem dX7_tables_10 : decode cX7_tables 10 = .ok (.ireturn, 1) := by decide +kernel
theorem dX7_moon_0 : decode cX7_moon 0 = .ok (.iload_n 1, 1) := by decide +kernel
theorem dX7_moon_1 : decode cX7_moon 1 = .ok (.invokestatic 50, 3) := by decide +kernel
theorem dX7_moon_4 : decode cX7_moon 4 = .ok (.ifCond .ne 5, 3) := by decide +kernel
theorem dX7_moon_7 : decode cX7_moon 7 = .ok (.iconst (-1), 1) := by decide +kernel
theorem dX7_moon_8 : decode cX7_moon 8 = .ok (.ireturn, 1) := by decide +kernel
theorem dX7_moon_9 : decode cX7_moon 9 = .ok (.iload_n 2, 1) := by decide +kernel
theorem dX7_moon_10 : decode cX7_moon 10 = .ok (.tableswitch 79 0 4 #[34, 43, 52, 61, 70], 34) := by decide +kernel
theorem dX7_moon_44 : decode cX7_moon 44 = .ok (.aload_n 0, 1) := by decide +kernel
theorem dX7_moon_45 : decode cX7_moon 45 = .ok (.getfield 12, 3) := by decide +kernel
theorem dX7_moon_48 : decode cX7_moon 48 = .ok (.iload_n 1, 1) := by decide +kernel
theorem dX7_moon_49 : decode cX7_moon 49 = .ok (.invokevirtual 54, 3) := by decide +kernel
theorem dX7_moon_52 : decode cX7_moon 52 = .ok (.ireturn, 1) := by decide +kernel
theorem dX7_moon_53 : decode cX7_moon 53 = .ok (.aload_n 0, 1) := by decide +kernel
theorem dX7_moon_54 : decode cX7_moon 54 = .ok (.getfield 12, 3) := by decide +kernel
theorem dX7_moon_57 : decode cX7_moon 57 = .ok (.iload_n 1, 1) := by decide +kernel
theorem dX7_moon_58 : decode cX7_moon 58 = .ok (.invokevirtual 58, 3) := by decide +kernel
theorem dX7_moon_61 : decode cX7_moon 61 = .ok (.ireturn, 1) := by decide +kernel
theorem dX7_moon_62 : decode cX7_moon 62 = .ok (.aload_n 0, 1) := by decide +kernel
theorem dX7_moon_63 : decode cX7_moon 63 = .ok (.getfield 12, 3) := by decide +kernel
theorem dX7_moon_66 : decode cX7_moon 66 = .ok (.iload_n 1, 1) := by decide +kernel
theorem dX7_moon_67 : decode cX7_moon 67 = .ok (.invokevirtual 61, 3) := by decide +kernel
theorem dX7_moon_70 : decode cX7_moon 70 = .ok (.ireturn, 1) := by decide +kernel
theorem dX7_moon_71 : decode cX7_moon 71 = .ok (.aload_n 0, 1) := by decide +kernel
theorem dX7_moon_72 : decode cX7_moon 72 = .ok (.getfield 12, 3) := by decide +kernel
theorem dX7_moon_75 : decode cX7_moon 75 = .ok (.iload_n 1, 1) := by decide +kernel
theorem dX7_moon_76 : decode cX7_moon 76 = .ok (.invokevirtual 64, 3) := by decide +kernel
theorem dX7_moon_79 : decode cX7_moon 79 = .ok (.ireturn, 1) := by decide +kernel
theorem dX7_moon_80 : decode cX7_moon 80 = .ok (.aload_n 0, 1) := by decide +kernel
theorem dX7_moon_81 : decode cX7_moon 81 = .ok (.getfield 12, 3) := by decide +kernel
theorem dX7_moon_84 : decode cX7_moon 84 = .ok (.iload_n 1, 1) := by decide +kernel
theorem dX7_moon_85 : decode cX7_moon 85 = .ok (.invokevirtual 67, 3) := by decide +kernel
theorem dX7_moon_88 : decode cX7_moon 88 = .ok (.ireturn, 1) := by decide +kernel
theorem dX7_moon_89 : decode cX7_moon 89 = .ok (.iconst (-1), 1) := by decide +kernel
theorem dX7_moon_90 : decode cX7_moon 90 = .ok (.ireturn, 1) := by decide +kernel
theorem dX7_next_0 : decode cX7_next 0 = .ok (.iload_n 1, 1) := by decide +kernel
theorem dX7_next_1 : decode cX7_next 1 = .ok (.invokestatic 50, 3) := by decide +kernel
theorem dX7_next_4 : decode cX7_next 4 = .ok (.ifCond .eq 8, 3) := by decide +kernel
theorem dX7_next_7 : decode cX7_next 7 = .ok (.iload_n 2, 1) := by decide +kernel
theorem dX7_next_8 : decode cX7_next 8 = .ok (.iconst 1, 1) := by decide +kernel
theorem dX7_next_9 : decode cX7_next 9 = .ok (.if_icmp .ge 5, 3) := by decide +kernel
theorem dX7_next_12 : decode cX7_next 12 = .ok (.iconst (-1), 1) := by decide +kernel
theorem dX7_next_13 : decode cX7_next 13 = .ok (.ireturn, 1) := by decide +kernel
theorem dX7_next_14 : decode cX7_next 14 = .ok (.aload_n 0, 1) := by decide +kernel
theorem dX7_next_15 : decode cX7_next 15 = .ok (.getfield 12, 3) := by decide +kernel
theorem dX7_next_18 : decode cX7_next 18 = .ok (.iload_n 1, 1) := by decide +kernel
theorem dX7_next_19 : decode cX7_next 19 = .ok (.iload_n 2, 1) := by decide +kernel
theorem dX7_next_20 : decode cX7_next 20 = .ok (.iload_n 3, 1) := by decide +kernel
theorem dX7_next_21 : decode cX7_next 21 = .ok (.invokevirtual 70, 3) := by decide +kernel
theorem dX7_next_24 : decode cX7_next 24 = .ok (.ireturn, 1) := by decide +kernel
theorem dX7_round_0 : decode cX7_round 0 = .ok (.iload_n 1, 1) := by decide +kernel
theorem dX7_round_1 : decode cX7_round 1 = .ok (.invokestatic 50, 3) := by decide +kernel
theorem dX7_round_4 : decode cX7_round 4 = .ok (.ifCond .eq 14, 3) := by decide +kernel
theorem dX7_round_7 : decode cX7_round 7 = .ok (.aload_n 0, 1) := by decide +kernel
theorem dX7_round_8 : decode cX7_round 8 = .ok (.getfield 12, 3) := by decide +kernel
theorem dX7_round_11 : decode cX7_round 11 = .ok (.iload_n 1, 1) := by decide +kernel
theorem dX7_round_12 : decode cX7_round 12 = .ok (.invokevirtual 67, 3) := by decide +kernel
theorem dX7_round_15 : decode cX7_round 15 = .ok (.ifCond .ne 5, 3) := by decide +kernel
theorem dX7_round_18 : decode cX7_round 18 = .ok (.iconst (-1), 1) := by decide +kernel
theorem dX7_round_19 : decode cX7_round 19 = .ok (.ireturn, 1) := by decide +kernel
theorem dX7_round_20 : decode cX7_round 20 = .ok (.aload_n 0, 1) := by decide +kernel
theorem dX7_round_21 : decode cX7_round 21 = .ok (.getfield 12, 3) := by decide +kernel
theorem dX7_round_24 : decode cX7_round 24 = .ok (.iload_n 1, 1) := by decide +kernel
theorem dX7_round_25 : decode cX7_round 25 = .ok (.invokevirtual 74, 3) := by decide +kernel
theorem dX7_round_28 : decode cX7_round 28 = .ok (.istore_n 3, 1) := by decide +kernel
theorem dX7_round_29 : decode cX7_round 29 = .ok (.aload_n 0, 1) := by decide +kernel
theorem dX7_round_30 : decode cX7_round 30 = .ok (.getfield 12, 3) := by decide +kernel
theorem dX7_round_33 : decode cX7_round 33 = .ok (.iload_n 1, 1) := by decide +kernel
theorem dX7_round_34 : decode cX7_round 34 = .ok (.invokevirtual 77, 3) := by decide +kernel
theorem dX7_round_37 : decode cX7_round 37 = .ok (.istore 4, 2) := by decide +kernel
theorem dX7_round_39 : decode cX7_round 39 = .ok (.iload_n 2, 1) := by decide +kernel
theorem dX7_round_40 : decode cX7_round 40 = .ok (.tableswitch 58 0 3 #[32, 34, 37, 48], 32) := by decide +kernel
theorem dX7_round_72 : decode cX7_round 72 = .ok (.iload_n 3, 1) := by decide +kernel
theorem dX7_round_73 : decode cX7_round 73 = .ok (.ireturn, 1) := by decide +kernel
theorem dX7_round_74 : decode cX7_round 74 = .ok (.iload 4, 2) := by decide +kernel
theorem dX7_round_76 : decode cX7_round 76 = .ok (.ireturn, 1) := by decide +kernel
theorem dX7_round_77 : decode cX7_round 77 = .ok (.iload 4, 2) := by decide +kernel
theorem dX7_round_79 : decode cX7_round 79 = .ok (.iload_n 3, 1) := by decide +kernel
theorem dX7_round_80 : decode cX7_round 80 = .ok (.isub, 1) := by decide +kernel
theorem dX7_round_81 : decode cX7_round 81 = .ok (.sipush 446, 3) := by decide +kernel
theorem dX7_round_84 : decode cX7_round 84 = .ok (.idiv, 1) := by decide +kernel
theorem dX7_round_85 : decode cX7_round 85 = .ok (.iconst 1, 1) := by decide +kernel
theorem dX7_round_86 : decode cX7_round 86 = .ok (.iadd, 1) := by decide +kernel
theorem dX7_round_87 : decode cX7_round 87 = .ok (.ireturn, 1) := by decide +kernel
theorem dX7_round_88 : decode cX7_round 88 = .ok (.iload_n 1, 1) := by decide +kernel
theorem dX7_round_89 : decode cX7_round 89 = .ok (.iload_n 3, 1) := by decide +kernel
theorem dX7_round_90 : decode cX7_round 90 = .ok (.isub, 1) := by decide +kernel
theorem dX7_round_91 : decode cX7_round 91 = .ok (.sipush 446, 3) := by decide +kernel
theorem dX7_round_94 : decode cX7_round 94 = .ok (.idiv, 1) := by decide +kernel
theorem dX7_round_95 : decode cX7_round 95 = .ok (.iconst 1, 1) := by decide +kernel
theorem dX7_round_96 : decode cX7_round 96 = .ok (.iadd, 1) := by decide +kernel
theorem dX7_round_97 : decode cX7_round 97 = .ok (.ireturn, 1) := by decide +kernel
theorem dX7_round_98 : decode cX7_round 98 = .ok (.iconst (-1), 1) := by decide +kernel
theorem dX7_round_99 : decode cX7_round 99 = .ok (.ireturn, 1) := by decide +kernel
theorem dX7_many_0 : decode cX7_many 0 = .ok (.iload_n 1, 1) := by decide +kernel
theorem dX7_many_1 : decode cX7_many 1 = .ok (.invokestatic 50, 3) := by decide +kernel
theorem dX7_many_4 : decode cX7_many 4 = .ok (.ifCond .eq 15, 3) := by decide +kernel
theorem dX7_many_7 : decode cX7_many 7 = .ok (.iload_n 2, 1) := by decide +kernel
theorem dX7_many_8 : decode cX7_many 8 = .ok (.invokestatic 50, 3) := by decide +kernel
theorem dX7_many_11 : decode cX7_many 11 = .ok (.ifCond .eq 8, 3) := by decide +kernel
theorem dX7_many_14 : decode cX7_many 14 = .ok (.iload_n 1, 1) := by decide +kernel
theorem dX7_many_15 : decode cX7_many 15 = .ok (.iload_n 2, 1) := by decide +kernel
theorem dX7_many_16 : decode cX7_many 16 = .ok (.if_icmp .le 5, 3) := by decide +kernel
theorem dX7_many_19 : decode cX7_many 19 = .ok (.iconst (-1), 1) := by decide +kernel
theorem dX7_many_20 : decode cX7_many 20 = .ok (.ireturn, 1) := by decide +kernel
theorem dX7_many_21 : decode cX7_many 21 = .ok (.aload_n 0, 1) := by decide +kernel
theorem dX7_many_22 : decode cX7_many 22 = .ok (.getfield 12, 3) := by decide +kernel
theorem dX7_many_25 : decode cX7_many 25 = .ok (.iload_n 1, 1) := by decide +kernel
theorem dX7_many_26 : decode cX7_many 26 = .ok (.iload_n 2, 1) := by decide +kernel
theorem dX7_many_27 : decode cX7_many 27 = .ok (.iload_n 3, 1) := by decide +kernel
theorem dX7_many_28 : decode cX7_many 28 = .ok (.invokevirtual 80, 3) := by decide +kernel
theorem dX7_many_31 : decode cX7_many 31 = .ok (.ireturn, 1) := by decide +kernel
theorem dX7_date_0 : decode cX7_date 0 = .ok (.iload_n 1, 1) := by decide +kernel
theorem dX7_date_1 : decode cX7_date 1 = .ok (.ifCond .lt 16, 3) := by decide +kernel
theorem dX7_date_4 : decode cX7_date 4 = .ok (.iload_n 1, 1) := by decide +kernel
theorem dX7_date_5 : decode cX7_date 5 = .ok (.ldc 83, 2) := by decide +kernel
theorem dX7_date_7 : decode cX7_date 7 = .ok (.if_icmp .gt 10, 3) := by decide +kernel
theorem dX7_date_10 : decode cX7_date 10 = .ok (.iload_n 2, 1) := by decide +kernel
theorem dX7_date_11 : decode cX7_date 11 = .ok (.invokestatic 84, 3) := by decide +kernel
theorem dX7_date_14 : decode cX7_date 14 = .ok (.ifCond .ne 5, 3) := by decide +kernel
theorem dX7_date_17 : decode cX7_date 17 = .ok (.iconst (-1), 1) := by decide +kernel
theorem dX7_date_18 : decode cX7_date 18 = .ok (.ireturn, 1) := by decide +kernel
theorem dX7_date_19 : decode cX7_date 19 = .ok (.iload_n 2, 1) := by decide +kernel
theorem dX7_date_20 : decode cX7_date 20 = .ok (.iload_n 1, 1) := by decide +kernel
theorem dX7_date_21 : decode cX7_date 21 = .ok (.invokestatic 89, 3) := by decide +kernel
theorem dX7_date_24 : decode cX7_date 24 = .ok (.istore 4, 2) := by decide +kernel
theorem dX7_date_26 : decode cX7_date 26 = .ok (.iload_n 2, 1) := by decide +kernel
theorem dX7_date_27 : decode cX7_date 27 = .ok (.iload 4, 2) := by decide +kernel
theorem dX7_date_29 : decode cX7_date 29 = .ok (.iload_n 1, 1) := by decide +kernel
theorem dX7_date_30 : decode cX7_date 30 = .ok (.invokestatic 93, 3) := by decide +kernel
theorem dX7_date_33 : decode cX7_date 33 = .ok (.istore 5, 2) := by decide +kernel
theorem dX7_date_35 : decode cX7_date 35 = .ok (.iload_n 3, 1) := by decide +kernel
theorem dX7_date_36 : decode cX7_date 36 = .ok (.tableswitch 43 0 2 #[28, 31, 37], 28) := by decide +kernel
theorem dX7_date_64 : decode cX7_date 64 = .ok (.iload 4, 2) := by decide +kernel
theorem dX7_date_66 : decode cX7_date 66 = .ok (.ireturn, 1) := by decide +kernel
theorem dX7_date_67 : decode cX7_date 67 = .ok (.iload 5, 2) := by decide +kernel
theorem dX7_date_69 : decode cX7_date 69 = .ok (.invokestatic 96, 3) := by decide +kernel
theorem dX7_date_72 : decode cX7_date 72 = .ok (.ireturn, 1) := by decide +kernel
theorem dX7_date_73 : decode cX7_date 73 = .ok (.iload 5, 2) := by decide +kernel
theorem dX7_date_75 : decode cX7_date 75 = .ok (.invokestatic 99, 3) := by decide +kernel
theorem dX7_date_78 : decode cX7_date 78 = .ok (.ireturn, 1) := by decide +kernel
theorem dX7_date_79 : decode cX7_date 79 = .ok (.iconst (-1), 1) := by decide +kernel
theorem dX7_date_80 : decode cX7_date 80 = .ok (.ireturn, 1) := by decide +kernel
theorem dX7_day_0 : decode cX7_day 0 = .ok (.iload_n 1, 1) := by decide +kernel
theorem dX7_day_1 : decode cX7_day 1 = .ok (.invokestatic 84, 3) := by decide +kernel
theorem dX7_day_4 : decode cX7_day 4 = .ok (.ifCond .eq 14, 3) := by decide +kernel
theorem dX7_day_7 : decode cX7_day 7 = .ok (.iload_n 2, 1) := by decide +kernel
theorem dX7_day_8 : decode cX7_day 8 = .ok (.ifCond .lt 10, 3) := by decide +kernel
theorem dX7_day_11 : decode cX7_day 11 = .ok (.iload_n 2, 1) := by decide +kernel
theorem dX7_day_12 : decode cX7_day 12 = .ok (.sipush 1100, 3) := by decide +kernel
theorem dX7_day_15 : decode cX7_day 15 = .ok (.if_icmp .le 5, 3) := by decide +kernel
theorem dX7_day_18 : decode cX7_day 18 = .ok (.iconst (-1), 1) := by decide +kernel
theorem dX7_day_19 : decode cX7_day 19 = .ok (.ireturn, 1) := by decide +kernel
theorem dX7_day_20 : decode cX7_day 20 = .ok (.iload_n 1, 1) := by decide +kernel
theorem dX7_day_21 : decode cX7_day 21 = .ok (.iload_n 2, 1) := by decide +kernel
theorem dX7_day_22 : decode cX7_day 22 = .ok (.iload_n 3, 1) := by decide +kernel
theorem dX7_day_23 : decode cX7_day 23 = .ok (.iload 4, 2) := by decide +kernel
theorem dX7_day_25 : decode cX7_day 25 = .ok (.invokestatic 102, 3) := by decide +kernel
theorem dX7_day_28 : decode cX7_day 28 = .ok (.ireturn, 1) := by decide +kernel
theorem dX7_seen_0 : decode cX7_seen 0 = .ok (.iload_n 1, 1) := by decide +kernel
theorem dX7_seen_1 : decode cX7_seen 1 = .ok (.invokestatic 50, 3) := by decide +kernel
theorem dX7_seen_4 : decode cX7_seen 4 = .ok (.ifCond .eq 17, 3) := by decide +kernel
theorem dX7_seen_7 : decode cX7_seen 7 = .ok (.iload_n 2, 1) := by decide +kernel
theorem dX7_seen_8 : decode cX7_seen 8 = .ok (.invokestatic 106, 3) := by decide +kernel
theorem dX7_seen_11 : decode cX7_seen 11 = .ok (.ifCond .eq 10, 3) := by decide +kernel
theorem dX7_seen_14 : decode cX7_seen 14 = .ok (.iload_n 3, 1) := by decide +kernel
theorem dX7_seen_15 : decode cX7_seen 15 = .ok (.invokestatic 109, 3) := by decide +kernel
theorem dX7_seen_18 : decode cX7_seen 18 = .ok (.ifCond .ne 6, 3) := by decide +kernel
theorem dX7_seen_21 : decode cX7_seen 21 = .ok (.ldc 112, 2) := by decide +kernel
theorem dX7_seen_23 : decode cX7_seen 23 = .ok (.ireturn, 1) := by decide +kernel
theorem dX7_seen_24 : decode cX7_seen 24 = .ok (.aload_n 0, 1) := by decide +kernel
theorem dX7_seen_25 : decode cX7_seen 25 = .ok (.getfield 12, 3) := by decide +kernel
theorem dX7_seen_28 : decode cX7_seen 28 = .ok (.iload_n 1, 1) := by decide +kernel
theorem dX7_seen_29 : decode cX7_seen 29 = .ok (.invokevirtual 64, 3) := by decide +kernel
theorem dX7_seen_32 : decode cX7_seen 32 = .ok (.iload_n 2, 1) := by decide +kernel
theorem dX7_seen_33 : decode cX7_seen 33 = .ok (.iload_n 3, 1) := by decide +kernel
theorem dX7_seen_34 : decode cX7_seen 34 = .ok (.invokestatic 113, 3) := by decide +kernel
theorem dX7_seen_37 : decode cX7_seen 37 = .ok (.ireturn, 1) := by decide +kernel
theorem dX7_feed_0 : decode cX7_feed 0 = .ok (.aload_n 0, 1) := by decide +kernel
theorem dX7_feed_1 : decode cX7_feed 1 = .ok (.getfield 19, 3) := by decide +kernel
theorem dX7_feed_4 : decode cX7_feed 4 = .ok (.invokevirtual 116, 3) := by decide +kernel
theorem dX7_feed_7 : decode cX7_feed 7 = .ok (.ifCond .ne 5, 3) := by decide +kernel
theorem dX7_feed_10 : decode cX7_feed 10 = .ok (.iconst (-1), 1) := by decide +kernel
theorem dX7_feed_11 : decode cX7_feed 11 = .ok (.ireturn, 1) := by decide +kernel
theorem dX7_feed_12 : decode cX7_feed 12 = .ok (.aload_n 0, 1) := by decide +kernel
theorem dX7_feed_13 : decode cX7_feed 13 = .ok (.getfield 19, 3) := by decide +kernel
theorem dX7_feed_16 : decode cX7_feed 16 = .ok (.iload_n 1, 1) := by decide +kernel
theorem dX7_feed_17 : decode cX7_feed 17 = .ok (.invokevirtual 120, 3) := by decide +kernel
theorem dX7_feed_20 : decode cX7_feed 20 = .ok (.aload_n 0, 1) := by decide +kernel
theorem dX7_feed_21 : decode cX7_feed 21 = .ok (.getfield 19, 3) := by decide +kernel
theorem dX7_feed_24 : decode cX7_feed 24 = .ok (.iload_n 2, 1) := by decide +kernel
theorem dX7_feed_25 : decode cX7_feed 25 = .ok (.invokevirtual 120, 3) := by decide +kernel
theorem dX7_feed_28 : decode cX7_feed 28 = .ok (.aload_n 0, 1) := by decide +kernel
theorem dX7_feed_29 : decode cX7_feed 29 = .ok (.getfield 19, 3) := by decide +kernel
theorem dX7_feed_32 : decode cX7_feed 32 = .ok (.iload_n 3, 1) := by decide +kernel
theorem dX7_feed_33 : decode cX7_feed 33 = .ok (.invokevirtual 120, 3) := by decide +kernel
theorem dX7_feed_36 : decode cX7_feed 36 = .ok (.aload_n 0, 1) := by decide +kernel
theorem dX7_feed_37 : decode cX7_feed 37 = .ok (.getfield 19, 3) := by decide +kernel
theorem dX7_feed_40 : decode cX7_feed 40 = .ok (.iload 4, 2) := by decide +kernel
theorem dX7_feed_42 : decode cX7_feed 42 = .ok (.invokevirtual 120, 3) := by decide +kernel
theorem dX7_feed_45 : decode cX7_feed 45 = .ok (.aload_n 0, 1) := by decide +kernel
theorem dX7_feed_46 : decode cX7_feed 46 = .ok (.getfield 19, 3) := by decide +kernel
theorem dX7_feed_49 : decode cX7_feed 49 = .ok (.iload 5, 2) := by decide +kernel
theorem dX7_feed_51 : decode cX7_feed 51 = .ok (.invokevirtual 120, 3) := by decide +kernel
theorem dX7_feed_54 : decode cX7_feed 54 = .ok (.aload_n 0, 1) := by decide +kernel
theorem dX7_feed_55 : decode cX7_feed 55 = .ok (.getfield 19, 3) := by decide +kernel
theorem dX7_feed_58 : decode cX7_feed 58 = .ok (.invokevirtual 124, 3) := by decide +kernel
theorem dX7_feed_61 : decode cX7_feed 61 = .ok (.ireturn, 1) := by decide +kernel
theorem dX7_end_0 : decode cX7_end 0 = .ok (.aload_n 0, 1) := by decide +kernel
theorem dX7_end_1 : decode cX7_end 1 = .ok (.getfield 19, 3) := by decide +kernel
theorem dX7_end_4 : decode cX7_end 4 = .ok (.iload_n 1, 1) := by decide +kernel
theorem dX7_end_5 : decode cX7_end 5 = .ok (.invokevirtual 128, 3) := by decide +kernel
theorem dX7_end_8 : decode cX7_end 8 = .ok (.ireturn, 1) := by decide +kernel
theorem dX7_reign_0 : decode cX7_reign 0 = .ok (.aload_n 0, 1) := by decide +kernel
theorem dX7_reign_1 : decode cX7_reign 1 = .ok (.getfield 19, 3) := by decide +kernel
theorem dX7_reign_4 : decode cX7_reign 4 = .ok (.iconst 0, 1) := by decide +kernel
theorem dX7_reign_5 : decode cX7_reign 5 = .ok (.aload_n 0, 1) := by decide +kernel
theorem dX7_reign_6 : decode cX7_reign 6 = .ok (.getfield 19, 3) := by decide +kernel
theorem dX7_reign_9 : decode cX7_reign 9 = .ok (.invokevirtual 124, 3) := by decide +kernel
theorem dX7_reign_12 : decode cX7_reign 12 = .ok (.invokevirtual 131, 3) := by decide +kernel
theorem dX7_reign_15 : decode cX7_reign 15 = .ok (.istore_n 3, 1) := by decide +kernel
theorem dX7_reign_16 : decode cX7_reign 16 = .ok (.aload_n 0, 1) := by decide +kernel
theorem dX7_reign_17 : decode cX7_reign 17 = .ok (.getfield 19, 3) := by decide +kernel
theorem dX7_reign_20 : decode cX7_reign 20 = .ok (.invokevirtual 134, 3) := by decide +kernel
theorem dX7_reign_23 : decode cX7_reign 23 = .ok (.aload_n 0, 1) := by decide +kernel
theorem dX7_reign_24 : decode cX7_reign 24 = .ok (.getfield 26, 3) := by decide +kernel
theorem dX7_reign_27 : decode cX7_reign 27 = .ok (.iload_n 3, 1) := by decide +kernel
theorem dX7_reign_28 : decode cX7_reign 28 = .ok (.iload_n 1, 1) := by decide +kernel
theorem dX7_reign_29 : decode cX7_reign 29 = .ok (.iload_n 2, 1) := by decide +kernel
theorem dX7_reign_30 : decode cX7_reign 30 = .ok (.invokevirtual 137, 3) := by decide +kernel
theorem dX7_reign_33 : decode cX7_reign 33 = .ok (.ireturn, 1) := by decide +kernel
theorem dX7_record_0 : decode cX7_record 0 = .ok (.iload_n 1, 1) := by decide +kernel
theorem dX7_record_1 : decode cX7_record 1 = .ok (.invokestatic 106, 3) := by decide +kernel
theorem dX7_record_4 : decode cX7_record 4 = .ok (.ifCond .eq 13, 3) := by decide +kernel
theorem dX7_record_7 : decode cX7_record 7 = .ok (.aload_n 0, 1) := by decide +kernel
theorem dX7_record_8 : decode cX7_record 8 = .ok (.getfield 33, 3) := by decide +kernel
theorem dX7_record_11 : decode cX7_record 11 = .ok (.invokevirtual 140, 3) := by decide +kernel
theorem dX7_record_14 : decode cX7_record 14 = .ok (.ifCond .ne 13, 3) := by decide +kernel
theorem dX7_record_17 : decode cX7_record 17 = .ok (.aload_n 0, 1) := by decide +kernel
theorem dX7_record_18 : decode cX7_record 18 = .ok (.getfield 19, 3) := by decide +kernel
theorem dX7_record_21 : decode cX7_record 21 = .ok (.invokevirtual 134, 3) := by decide +kernel
theorem dX7_record_24 : decode cX7_record 24 = .ok (.bipush (-2), 2) := by decide +kernel
theorem dX7_record_26 : decode cX7_record 26 = .ok (.ireturn, 1) := by decide +kernel
theorem dX7_record_27 : decode cX7_record 27 = .ok (.aload_n 0, 1) := by decide +kernel
theorem dX7_record_28 : decode cX7_record 28 = .ok (.getfield 33, 3) := by decide +kernel
theorem dX7_record_31 : decode cX7_record 31 = .ok (.invokevirtual 141, 3) := by decide +kernel
theorem dX7_record_34 : decode cX7_record 34 = .ok (.astore_n 2, 1) := by decide +kernel
theorem dX7_record_35 : decode cX7_record 35 = .ok (.aload_n 2, 1) := by decide +kernel
theorem dX7_record_36 : decode cX7_record 36 = .ok (.ifnull 19, 3) := by decide +kernel
theorem dX7_record_39 : decode cX7_record 39 = .ok (.aload_n 0, 1) := by decide +kernel
theorem dX7_record_40 : decode cX7_record 40 = .ok (.getfield 42, 3) := by decide +kernel
theorem dX7_record_43 : decode cX7_record 43 = .ok (.aload_n 2, 1) := by decide +kernel
theorem dX7_record_44 : decode cX7_record 44 = .ok (.iload_n 1, 1) := by decide +kernel
theorem dX7_record_45 : decode cX7_record 45 = .ok (.invokevirtual 145, 3) := by decide +kernel
theorem dX7_record_48 : decode cX7_record 48 = .ok (.ifCond .eq 7, 3) := by decide +kernel
theorem dX7_record_51 : decode cX7_record 51 = .ok (.iconst 1, 1) := by decide +kernel
theorem dX7_record_52 : decode cX7_record 52 = .ok (.goto 4, 3) := by decide +kernel
theorem dX7_record_55 : decode cX7_record 55 = .ok (.iconst 0, 1) := by decide +kernel
theorem dX7_record_56 : decode cX7_record 56 = .ok (.istore_n 3, 1) := by decide +kernel
theorem dX7_record_57 : decode cX7_record 57 = .ok (.aload_n 0, 1) := by decide +kernel
theorem dX7_record_58 : decode cX7_record 58 = .ok (.getfield 19, 3) := by decide +kernel
theorem dX7_record_61 : decode cX7_record 61 = .ok (.invokevirtual 134, 3) := by decide +kernel
theorem dX7_record_64 : decode cX7_record 64 = .ok (.iload_n 3, 1) := by decide +kernel
theorem dX7_record_65 : decode cX7_record 65 = .ok (.ifCond .eq 13, 3) := by decide +kernel
theorem dX7_record_68 : decode cX7_record 68 = .ok (.aload_n 0, 1) := by decide +kernel
theorem dX7_record_69 : decode cX7_record 69 = .ok (.getfield 33, 3) := by decide +kernel
theorem dX7_record_72 : decode cX7_record 72 = .ok (.invokevirtual 149, 3) := by decide +kernel
theorem dX7_record_75 : decode cX7_record 75 = .ok (.goto 4, 3) := by decide +kernel
theorem dX7_record_78 : decode cX7_record 78 = .ok (.iconst (-1), 1) := by decide +kernel
theorem dX7_record_79 : decode cX7_record 79 = .ok (.ireturn, 1) := by decide +kernel
theorem dX7_fault_0 : decode cX7_fault 0 = .ok (.iload_n 1, 1) := by decide +kernel
theorem dX7_fault_1 : decode cX7_fault 1 = .ok (.lookupswitch 43 #[(0, 27), (1, 35)], 27) := by decide +kernel
theorem dX7_fault_28 : decode cX7_fault 28 = .ok (.aload_n 0, 1) := by decide +kernel
theorem dX7_fault_29 : decode cX7_fault 29 = .ok (.getfield 42, 3) := by decide +kernel
theorem dX7_fault_32 : decode cX7_fault 32 = .ok (.invokevirtual 152, 3) := by decide +kernel
theorem dX7_fault_35 : decode cX7_fault 35 = .ok (.ireturn, 1) := by decide +kernel
theorem dX7_fault_36 : decode cX7_fault 36 = .ok (.aload_n 0, 1) := by decide +kernel
theorem dX7_fault_37 : decode cX7_fault 37 = .ok (.getfield 42, 3) := by decide +kernel
theorem dX7_fault_40 : decode cX7_fault 40 = .ok (.invokevirtual 155, 3) := by decide +kernel
theorem dX7_fault_43 : decode cX7_fault 43 = .ok (.ireturn, 1) := by decide +kernel
theorem dX7_fault_44 : decode cX7_fault 44 = .ok (.iconst (-1), 1) := by decide +kernel
theorem dX7_fault_45 : decode cX7_fault 45 = .ok (.ireturn, 1) := by decide +kernel
theorem dX7_means_0 : decode cX7_means 0 = .ok (.aload_n 0, 1) := by decide +kernel
theorem dX7_means_1 : decode cX7_means 1 = .ok (.getfield 33, 3) := by decide +kernel
theorem dX7_means_4 : decode cX7_means 4 = .ok (.iload_n 1, 1) := by decide +kernel
theorem dX7_means_5 : decode cX7_means 5 = .ok (.invokevirtual 158, 3) := by decide +kernel
theorem dX7_means_8 : decode cX7_means 8 = .ok (.astore_n 3, 1) := by decide +kernel
theorem dX7_means_9 : decode cX7_means 9 = .ok (.aload_n 3, 1) := by decide +kernel
theorem dX7_means_10 : decode cX7_means 10 = .ok (.ifnull 10, 3) := by decide +kernel
theorem dX7_means_13 : decode cX7_means 13 = .ok (.iload_n 2, 1) := by decide +kernel
theorem dX7_means_14 : decode cX7_means 14 = .ok (.invokestatic 109, 3) := by decide +kernel
theorem dX7_means_17 : decode cX7_means 17 = .ok (.ifCond .ne 5, 3) := by decide +kernel
theorem dX7_means_20 : decode cX7_means 20 = .ok (.iconst (-1), 1) := by decide +kernel
theorem dX7_means_21 : decode cX7_means 21 = .ok (.ireturn, 1) := by decide +kernel
theorem dX7_means_22 : decode cX7_means 22 = .ok (.aload_n 3, 1) := by decide +kernel
theorem dX7_means_23 : decode cX7_means 23 = .ok (.aload_n 0, 1) := by decide +kernel
theorem dX7_means_24 : decode cX7_means 24 = .ok (.getfield 12, 3) := by decide +kernel
theorem dX7_means_27 : decode cX7_means 27 = .ok (.iload_n 2, 1) := by decide +kernel
theorem dX7_means_28 : decode cX7_means 28 = .ok (.invokevirtual 162, 3) := by decide +kernel
theorem dX7_means_31 : decode cX7_means 31 = .ok (.ireturn, 1) := by decide +kernel
theorem dX7_meant_0 : decode cX7_meant 0 = .ok (.aload_n 0, 1) := by decide +kernel
theorem dX7_meant_1 : decode cX7_meant 1 = .ok (.getfield 33, 3) := by decide +kernel
theorem dX7_meant_4 : decode cX7_meant 4 = .ok (.iload_n 1, 1) := by decide +kernel
theorem dX7_meant_5 : decode cX7_meant 5 = .ok (.invokevirtual 158, 3) := by decide +kernel
theorem dX7_meant_8 : decode cX7_meant 8 = .ok (.astore 4, 2) := by decide +kernel
theorem dX7_meant_10 : decode cX7_meant 10 = .ok (.aload 4, 2) := by decide +kernel
theorem dX7_meant_12 : decode cX7_meant 12 = .ok (.ifnull 14, 3) := by decide +kernel
theorem dX7_meant_15 : decode cX7_meant 15 = .ok (.iload_n 2, 1) := by decide +kernel
theorem dX7_meant_16 : decode cX7_meant 16 = .ok (.invokestatic 109, 3) := by decide +kernel
theorem dX7_meant_19 : decode cX7_meant 19 = .ok (.ifCond .eq 7, 3) := by decide +kernel
theorem dX7_meant_22 : decode cX7_meant 22 = .ok (.iload_n 3, 1) := by decide +kernel
theorem dX7_meant_23 : decode cX7_meant 23 = .ok (.ifCond .ge 5, 3) := by decide +kernel
theorem dX7_meant_26 : decode cX7_meant 26 = .ok (.iconst (-1), 1) := by decide +kernel
theorem dX7_meant_27 : decode cX7_meant 27 = .ok (.ireturn, 1) := by decide +kernel
theorem dX7_meant_28 : decode cX7_meant 28 = .ok (.aload 4, 2) := by decide +kernel
theorem dX7_meant_30 : decode cX7_meant 30 = .ok (.aload_n 0, 1) := by decide +kernel
theorem dX7_meant_31 : decode cX7_meant 31 = .ok (.getfield 12, 3) := by decide +kernel
theorem dX7_meant_34 : decode cX7_meant 34 = .ok (.iload_n 2, 1) := by decide +kernel
theorem dX7_meant_35 : decode cX7_meant 35 = .ok (.iload_n 3, 1) := by decide +kernel
theorem dX7_meant_36 : decode cX7_meant 36 = .ok (.invokevirtual 168, 3) := by decide +kernel
theorem dX7_meant_39 : decode cX7_meant 39 = .ok (.ireturn, 1) := by decide +kernel
theorem dX7_slips_0 : decode cX7_slips 0 = .ok (.aload_n 0, 1) := by decide +kernel
theorem dX7_slips_1 : decode cX7_slips 1 = .ok (.getfield 33, 3) := by decide +kernel
theorem dX7_slips_4 : decode cX7_slips 4 = .ok (.iload_n 1, 1) := by decide +kernel
theorem dX7_slips_5 : decode cX7_slips 5 = .ok (.invokevirtual 158, 3) := by decide +kernel
theorem dX7_slips_8 : decode cX7_slips 8 = .ok (.astore_n 3, 1) := by decide +kernel
theorem dX7_slips_9 : decode cX7_slips 9 = .ok (.aload_n 3, 1) := by decide +kernel
theorem dX7_slips_10 : decode cX7_slips 10 = .ok (.ifnull 10, 3) := by decide +kernel
theorem dX7_slips_13 : decode cX7_slips 13 = .ok (.iload_n 2, 1) := by decide +kernel
theorem dX7_slips_14 : decode cX7_slips 14 = .ok (.invokestatic 109, 3) := by decide +kernel
theorem dX7_slips_17 : decode cX7_slips 17 = .ok (.ifCond .ne 5, 3) := by decide +kernel
theorem dX7_slips_20 : decode cX7_slips 20 = .ok (.iconst (-1), 1) := by decide +kernel
theorem dX7_slips_21 : decode cX7_slips 21 = .ok (.ireturn, 1) := by decide +kernel
theorem dX7_slips_22 : decode cX7_slips 22 = .ok (.aload_n 3, 1) := by decide +kernel
theorem dX7_slips_23 : decode cX7_slips 23 = .ok (.aload_n 0, 1) := by decide +kernel
theorem dX7_slips_24 : decode cX7_slips 24 = .ok (.getfield 12, 3) := by decide +kernel
theorem dX7_slips_27 : decode cX7_slips 27 = .ok (.iload_n 2, 1) := by decide +kernel
theorem dX7_slips_28 : decode cX7_slips 28 = .ok (.invokevirtual 172, 3) := by decide +kernel
theorem dX7_slips_31 : decode cX7_slips 31 = .ok (.ireturn, 1) := by decide +kernel
theorem dX7_lets_0 : decode cX7_lets 0 = .ok (.aload_n 0, 1) := by decide +kernel
theorem dX7_lets_1 : decode cX7_lets 1 = .ok (.getfield 33, 3) := by decide +kernel
theorem dX7_lets_4 : decode cX7_lets 4 = .ok (.iload_n 1, 1) := by decide +kernel
theorem dX7_lets_5 : decode cX7_lets 5 = .ok (.invokevirtual 158, 3) := by decide +kernel
theorem dX7_lets_8 : decode cX7_lets 8 = .ok (.astore_n 2, 1) := by decide +kernel
theorem dX7_lets_9 : decode cX7_lets 9 = .ok (.aload_n 2, 1) := by decide +kernel
theorem dX7_lets_10 : decode cX7_lets 10 = .ok (.ifnonnull 5, 3) := by decide +kernel
theorem dX7_lets_13 : decode cX7_lets 13 = .ok (.iconst (-1), 1) := by decide +kernel
theorem dX7_lets_14 : decode cX7_lets 14 = .ok (.ireturn, 1) := by decide +kernel
theorem dX7_lets_15 : decode cX7_lets 15 = .ok (.aload_n 2, 1) := by decide +kernel
theorem dX7_lets_16 : decode cX7_lets 16 = .ok (.aload_n 0, 1) := by decide +kernel
theorem dX7_lets_17 : decode cX7_lets 17 = .ok (.getfield 12, 3) := by decide +kernel
theorem dX7_lets_20 : decode cX7_lets 20 = .ok (.invokevirtual 175, 3) := by decide +kernel
theorem dX7_lets_23 : decode cX7_lets 23 = .ok (.invokestatic 179, 3) := by decide +kernel
theorem dX7_lets_26 : decode cX7_lets 26 = .ok (.ireturn, 1) := by decide +kernel
theorem dX7_slow_0 : decode cX7_slow 0 = .ok (.aload_n 0, 1) := by decide +kernel
theorem dX7_slow_1 : decode cX7_slow 1 = .ok (.getfield 33, 3) := by decide +kernel
theorem dX7_slow_4 : decode cX7_slow 4 = .ok (.aload_n 0, 1) := by decide +kernel
theorem dX7_slow_5 : decode cX7_slow 5 = .ok (.getfield 12, 3) := by decide +kernel
theorem dX7_slow_8 : decode cX7_slow 8 = .ok (.invokevirtual 185, 3) := by decide +kernel
theorem dX7_slow_11 : decode cX7_slow 11 = .ok (.lstore_n 2, 1) := by decide +kernel
theorem dX7_slow_12 : decode cX7_slow 12 = .ok (.lload_n 2, 1) := by decide +kernel
theorem dX7_slow_13 : decode cX7_slow 13 = .ok (.lconst 0, 1) := by decide +kernel
theorem dX7_slow_14 : decode cX7_slow 14 = .ok (.lcmp, 1) := by decide +kernel
theorem dX7_slow_15 : decode cX7_slow 15 = .ok (.ifCond .ne 5, 3) := by decide +kernel
theorem dX7_slow_18 : decode cX7_slow 18 = .ok (.iconst (-1), 1) := by decide +kernel
theorem dX7_slow_19 : decode cX7_slow 19 = .ok (.ireturn, 1) := by decide +kernel
theorem dX7_slow_20 : decode cX7_slow 20 = .ok (.iload_n 1, 1) := by decide +kernel
theorem dX7_slow_21 : decode cX7_slow 21 = .ok (.tableswitch 45 0 2 #[27, 32, 40], 27) := by decide +kernel
theorem dX7_slow_48 : decode cX7_slow 48 = .ok (.lload_n 2, 1) := by decide +kernel
theorem dX7_slow_49 : decode cX7_slow 49 = .ok (.invokestatic 188, 3) := by decide +kernel
theorem dX7_slow_52 : decode cX7_slow 52 = .ok (.ireturn, 1) := by decide +kernel
theorem dX7_slow_53 : decode cX7_slow 53 = .ok (.bipush 63, 2) := by decide +kernel
theorem dX7_slow_55 : decode cX7_slow 55 = .ok (.lload_n 2, 1) := by decide +kernel
theorem dX7_slow_56 : decode cX7_slow 56 = .ok (.invokestatic 191, 3) := by decide +kernel
theorem dX7_slow_59 : decode cX7_slow 59 = .ok (.isub, 1) := by decide +kernel
theorem dX7_slow_60 : decode cX7_slow 60 = .ok (.ireturn, 1) := by decide +kernel
theorem dX7_slow_61 : decode cX7_slow 61 = .ok (.lload_n 2, 1) := by decide +kernel
theorem dX7_slow_62 : decode cX7_slow 62 = .ok (.invokestatic 179, 3) := by decide +kernel
theorem dX7_slow_65 : decode cX7_slow 65 = .ok (.ireturn, 1) := by decide +kernel
theorem dX7_slow_66 : decode cX7_slow 66 = .ok (.iconst (-1), 1) := by decide +kernel
theorem dX7_slow_67 : decode cX7_slow 67 = .ok (.ireturn, 1) := by decide +kernel
theorem dX7_drop_0 : decode cX7_drop 0 = .ok (.aload_n 0, 1) := by decide +kernel
theorem dX7_drop_1 : decode cX7_drop 1 = .ok (.getfield 33, 3) := by decide +kernel
theorem dX7_drop_4 : decode cX7_drop 4 = .ok (.iload_n 1, 1) := by decide +kernel
theorem dX7_drop_5 : decode cX7_drop 5 = .ok (.invokevirtual 194, 3) := by decide +kernel
theorem dX7_drop_8 : decode cX7_drop 8 = .ok (.ireturn, 1) := by decide +kernel
theorem dX7_isEast_0 : decode cX7_isEast 0 = .ok (.iload_n 0, 1) := by decide +kernel
theorem dX7_isEast_1 : decode cX7_isEast 1 = .ok (.sipush (-720), 3) := by decide +kernel
theorem dX7_isEast_4 : decode cX7_isEast 4 = .ok (.if_icmp .lt 14, 3) := by decide +kernel
theorem dX7_isEast_7 : decode cX7_isEast 7 = .ok (.iload_n 0, 1) := by decide +kernel
theorem dX7_isEast_8 : decode cX7_isEast 8 = .ok (.sipush 720, 3) := by decide +kernel
theorem dX7_isEast_11 : decode cX7_isEast 11 = .ok (.if_icmp .gt 7, 3) := by decide +kernel
theorem dX7_isEast_14 : decode cX7_isEast 14 = .ok (.iconst 1, 1) := by decide +kernel
theorem dX7_isEast_15 : decode cX7_isEast 15 = .ok (.goto 4, 3) := by decide +kernel
theorem dX7_isEast_18 : decode cX7_isEast 18 = .ok (.iconst 0, 1) := by decide +kernel
theorem dX7_isEast_19 : decode cX7_isEast 19 = .ok (.ireturn, 1) := by decide +kernel
theorem dX7_isSlow_0 : decode cX7_isSlow 0 = .ok (.iload_n 0, 1) := by decide +kernel
theorem dX7_isSlow_1 : decode cX7_isSlow 1 = .ok (.ifCond .lt 13, 3) := by decide +kernel
theorem dX7_isSlow_4 : decode cX7_isSlow 4 = .ok (.iload_n 0, 1) := by decide +kernel
theorem dX7_isSlow_5 : decode cX7_isSlow 5 = .ok (.bipush 60, 2) := by decide +kernel
theorem dX7_isSlow_7 : decode cX7_isSlow 7 = .ok (.if_icmp .gt 7, 3) := by decide +kernel
theorem dX7_isSlow_10 : decode cX7_isSlow 10 = .ok (.iconst 1, 1) := by decide +kernel
theorem dX7_isSlow_11 : decode cX7_isSlow 11 = .ok (.goto 4, 3) := by decide +kernel
theorem dX7_isSlow_14 : decode cX7_isSlow 14 = .ok (.iconst 0, 1) := by decide +kernel
theorem dX7_isSlow_15 : decode cX7_isSlow 15 = .ok (.ireturn, 1) := by decide +kernel
theorem dX8_init_0 : decode cX8_init 0 = .ok (.aload_n 0, 1) := by decide +kernel
theorem dX8_init_1 : decode cX8_init 1 = .ok (.invokespecial 1, 3) := by decide +kernel
theorem dX8_init_4 : decode cX8_init 4 = .ok (.aload_n 0, 1) := by decide +kernel
theorem dX8_init_5 : decode cX8_init 5 = .ok (.sipush 9000, 3) := by decide +kernel
theorem dX8_init_8 : decode cX8_init 8 = .ok (.putfield 7, 3) := by decide +kernel
theorem dX8_init_11 : decode cX8_init 11 = .ok (.aload_n 0, 1) := by decide +kernel
theorem dX8_init_12 : decode cX8_init 12 = .ok (.sipush 400, 3) := by decide +kernel
theorem dX8_init_15 : decode cX8_init 15 = .ok (.putfield 13, 3) := by decide +kernel
theorem dX8_init_18 : decode cX8_init 18 = .ok (.aload_n 0, 1) := by decide +kernel
theorem dX8_init_19 : decode cX8_init 19 = .ok (.sipush 12001, 3) := by decide +kernel
theorem dX8_init_22 : decode cX8_init 22 = .ok (.newarray .int, 2) := by decide +kernel
theorem dX8_init_24 : decode cX8_init 24 = .ok (.putfield 16, 3) := by decide +kernel
theorem dX8_init_27 : decode cX8_init 27 = .ok (.aload_n 0, 1) := by decide +kernel
theorem dX8_init_28 : decode cX8_init 28 = .ok (.sipush 12001, 3) := by decide +kernel
theorem dX8_init_31 : decode cX8_init 31 = .ok (.newarray .int, 2) := by decide +kernel
theorem dX8_init_33 : decode cX8_init 33 = .ok (.putfield 20, 3) := by decide +kernel
theorem dX8_init_36 : decode cX8_init 36 = .ok (.aload_n 0, 1) := by decide +kernel
theorem dX8_init_37 : decode cX8_init 37 = .ok (.sipush 12001, 3) := by decide +kernel
theorem dX8_init_40 : decode cX8_init 40 = .ok (.newarray .int, 2) := by decide +kernel
theorem dX8_init_42 : decode cX8_init 42 = .ok (.putfield 23, 3) := by decide +kernel
theorem dX8_init_45 : decode cX8_init 45 = .ok (.aload_n 0, 1) := by decide +kernel
theorem dX8_init_46 : decode cX8_init 46 = .ok (.bipush 10, 2) := by decide +kernel
theorem dX8_init_48 : decode cX8_init 48 = .ok (.newarray .int, 2) := by decide +kernel
theorem dX8_init_50 : decode cX8_init 50 = .ok (.dup, 1) := by decide +kernel
theorem dX8_init_51 : decode cX8_init 51 = .ok (.iconst 0, 1) := by decide +kernel
theorem dX8_init_52 : decode cX8_init 52 = .ok (.iconst 0, 1) := by decide +kernel
theorem dX8_init_53 : decode cX8_init 53 = .ok (.iastore, 1) := by decide +kernel
theorem dX8_init_54 : decode cX8_init 54 = .ok (.dup, 1) := by decide +kernel
theorem dX8_init_55 : decode cX8_init 55 = .ok (.iconst 1, 1) := by decide +kernel
theorem dX8_init_56 : decode cX8_init 56 = .ok (.sipush 174, 3) := by decide +kernel
theorem dX8_init_59 : decode cX8_init 59 = .ok (.iastore, 1) := by decide +kernel
theorem dX8_init_60 : decode cX8_init 60 = .ok (.dup, 1) := by decide +kernel
theorem dX8_init_61 : decode cX8_init 61 = .ok (.iconst 2, 1) := by decide +kernel
theorem dX8_init_62 : decode cX8_init 62 = .ok (.sipush 342, 3) := by decide +kernel
theorem dX8_init_65 : decode cX8_init 65 = .ok (.iastore, 1) := by decide +kernel
theorem dX8_init_66 : decode cX8_init 66 = .ok (.dup, 1) := by decide +kernel
theorem dX8_init_67 : decode cX8_init 67 = .ok (.iconst 3, 1) := by decide +kernel
theorem dX8_init_68 : decode cX8_init 68 = .ok (.sipush 500, 3) := by decide +kernel
theorem dX8_init_71 : decode cX8_init 71 = .ok (.iastore, 1) := by decide +kernel
theorem dX8_init_72 : decode cX8_init 72 = .ok (.dup, 1) := by decide +kernel
theorem dX8_init_73 : decode cX8_init 73 = .ok (.iconst 4, 1) := by decide +kernel
theorem dX8_init_74 : decode cX8_init 74 = .ok (.sipush 643, 3) := by decide +kernel
theorem dX8_init_77 : decode cX8_init 77 = .ok (.iastore, 1) := by decide +kernel
theorem dX8_init_78 : decode cX8_init 78 = .ok (.dup, 1) := by decide +kernel
theorem dX8_init_79 : decode cX8_init 79 = .ok (.iconst 5, 1) := by decide +kernel
theorem dX8_init_80 : decode cX8_init 80 = .ok (.sipush 766, 3) := by decide +kernel
theorem dX8_init_83 : decode cX8_init 83 = .ok (.iastore, 1) := by decide +kernel
theorem dX8_init_84 : decode cX8_init 84 = .ok (.dup, 1) := by decide +kernel
theorem dX8_init_85 : decode cX8_init 85 = .ok (.bipush 6, 2) := by decide +kernel
theorem dX8_init_87 : decode cX8_init 87 = .ok (.sipush 866, 3) := by decide +kernel
theorem dX8_init_90 : decode cX8_init 90 = .ok (.iastore, 1) := by decide +kernel
theorem dX8_init_91 : decode cX8_init 91 = .ok (.dup, 1) := by decide +kernel
theorem dX8_init_92 : decode cX8_init 92 = .ok (.bipush 7, 2) := by decide +kernel
theorem dX8_init_94 : decode cX8_init 94 = .ok (.sipush 940, 3) := by decide +kernel
theorem dX8_init_97 : decode cX8_init 97 = .ok (.iastore, 1) := by decide +kernel
theorem dX8_init_98 : decode cX8_init 98 = .ok (.dup, 1) := by decide +kernel
theorem dX8_init_99 : decode cX8_init 99 = .ok (.bipush 8, 2) := by decide +kernel
theorem dX8_init_101 : decode cX8_init 101 = .ok (.sipush 985, 3) := by decide +kernel
theorem dX8_init_104 : decode cX8_init 104 = .ok (.iastore, 1) := by decide +kernel
theorem dX8_init_105 : decode cX8_init 105 = .ok (.dup, 1) := by decide +kernel
theorem dX8_init_106 : decode cX8_init 106 = .ok (.bipush 9, 2) := by decide +kernel
theorem dX8_init_108 : decode cX8_init 108 = .ok (.sipush 1000, 3) := by decide +kernel
theorem dX8_init_111 : decode cX8_init 111 = .ok (.iastore, 1) := by decide +kernel
theorem dX8_init_112 : decode cX8_init 112 = .ok (.putfield 26, 3) := by decide +kernel
theorem dX8_init_115 : decode cX8_init 115 = .ok (.aload_n 0, 1) := by decide +kernel
theorem dX8_init_116 : decode cX8_init 116 = .ok (.bipush 12, 2) := by decide +kernel
theorem dX8_init_118 : decode cX8_init 118 = .ok (.newarray .int, 2) := by decide +kernel
theorem dX8_init_120 : decode cX8_init 120 = .ok (.dup, 1) := by decide +kernel
theorem dX8_init_121 : decode cX8_init 121 = .ok (.iconst 0, 1) := by decide +kernel
theorem dX8_init_122 : decode cX8_init 122 = .ok (.bipush 31, 2) := by decide +kernel
theorem dX8_init_124 : decode cX8_init 124 = .ok (.iastore, 1) := by decide +kernel
theorem dX8_init_125 : decode cX8_init 125 = .ok (.dup, 1) := by decide +kernel
theorem dX8_init_126 : decode cX8_init 126 = .ok (.iconst 1, 1) := by decide +kernel
theorem dX8_init_127 : decode cX8_init 127 = .ok (.bipush 28, 2) := by decide +kernel
theorem dX8_init_129 : decode cX8_init 129 = .ok (.iastore, 1) := by decide +kernel
theorem dX8_init_130 : decode cX8_init 130 = .ok (.dup, 1) := by decide +kernel
theorem dX8_init_131 : decode cX8_init 131 = .ok (.iconst 2, 1) := by decide +kernel
theorem dX8_init_132 : decode cX8_init 132 = .ok (.bipush 31, 2) := by decide +kernel
theorem dX8_init_134 : decode cX8_init 134 = .ok (.iastore, 1) := by decide +kernel
theorem dX8_init_135 : decode cX8_init 135 = .ok (.dup, 1) := by decide +kernel
theorem dX8_init_136 : decode cX8_init 136 = .ok (.iconst 3, 1) := by decide +kernel
theorem dX8_init_137 : decode cX8_init 137 = .ok (.bipush 30, 2) := by decide +kernel
theorem dX8_init_139 : decode cX8_init 139 = .ok (.iastore, 1) := by decide +kernel
theorem dX8_init_140 : decode cX8_init 140 = .ok (.dup, 1) := by decide +kernel
theorem dX8_init_141 : decode cX8_init 141 = .ok (.iconst 4, 1) := by decide +kernel
theorem dX8_init_142 : decode cX8_init 142 = .ok (.bipush 31, 2) := by decide +kernel
theorem dX8_init_144 : decode cX8_init 144 = .ok (.iastore, 1) := by decide +kernel
theorem dX8_init_145 : decode cX8_init 145 = .ok (.dup, 1) := by decide +kernel
theorem dX8_init_146 : decode cX8_init 146 = .ok (.iconst 5, 1) := by decide +kernel
theorem dX8_init_147 : decode cX8_init 147 = .ok (.bipush 30, 2) := by decide +kernel
theorem dX8_init_149 : decode cX8_init 149 = .ok (.iastore, 1) := by decide +kernel
theorem dX8_init_150 : decode cX8_init 150 = .ok (.dup, 1) := by decide +kernel
theorem dX8_init_151 : decode cX8_init 151 = .ok (.bipush 6, 2) := by decide +kernel
theorem dX8_init_153 : decode cX8_init 153 = .ok (.bipush 31, 2) := by decide +kernel
theorem dX8_init_155 : decode cX8_init 155 = .ok (.iastore, 1) := by decide +kernel
theorem dX8_init_156 : decode cX8_init 156 = .ok (.dup, 1) := by decide +kernel
theorem dX8_init_157 : decode cX8_init 157 = .ok (.bipush 7, 2) := by decide +kernel
theorem dX8_init_159 : decode cX8_init 159 = .ok (.bipush 31, 2) := by decide +kernel
theorem dX8_init_161 : decode cX8_init 161 = .ok (.iastore, 1) := by decide +kernel
theorem dX8_init_162 : decode cX8_init 162 = .ok (.dup, 1) := by decide +kernel
theorem dX8_init_163 : decode cX8_init 163 = .ok (.bipush 8, 2) := by decide +kernel
theorem dX8_init_165 : decode cX8_init 165 = .ok (.bipush 30, 2) := by decide +kernel
theorem dX8_init_167 : decode cX8_init 167 = .ok (.iastore, 1) := by decide +kernel
theorem dX8_init_168 : decode cX8_init 168 = .ok (.dup, 1) := by decide +kernel
theorem dX8_init_169 : decode cX8_init 169 = .ok (.bipush 9, 2) := by decide +kernel
theorem dX8_init_171 : decode cX8_init 171 = .ok (.bipush 31, 2) := by decide +kernel
theorem dX8_init_173 : decode cX8_init 173 = .ok (.iastore, 1) := by decide +kernel
theorem dX8_init_174 : decode cX8_init 174 = .ok (.dup, 1) := by decide +kernel
theorem dX8_init_175 : decode cX8_init 175 = .ok (.bipush 10, 2) := by decide +kernel
theorem dX8_init_177 : decode cX8_init 177 = .ok (.bipush 30, 2) := by decide +kernel
theorem dX8_init_179 : decode cX8_init 179 = .ok (.iastore, 1) := by decide +kernel
theorem dX8_init_180 : decode cX8_init 180 = .ok (.dup, 1) := by decide +kernel
theorem dX8_init_181 : decode cX8_init 181 = .ok (.bipush 11, 2) := by decide +kernel
theorem dX8_init_183 : decode cX8_init 183 = .ok (.bipush 31, 2) := by decide +kernel
theorem dX8_init_185 : decode cX8_init 185 = .ok (.iastore, 1) := by decide +kernel
theorem dX8_init_186 : decode cX8_init 186 = .ok (.putfield 29, 3) := by decide +kernel
theorem dX8_init_189 : decode cX8_init 189 = .ok (.aload_n 0, 1) := by decide +kernel
theorem dX8_init_190 : decode cX8_init 190 = .ok (.sipush 200, 3) := by decide +kernel
theorem dX8_init_193 : decode cX8_init 193 = .ok (.newarray .int, 2) := by decide +kernel
theorem dX8_init_195 : decode cX8_init 195 = .ok (.putfield 32, 3) := by decide +kernel
theorem dX8_init_198 : decode cX8_init 198 = .ok (.aload_n 0, 1) := by decide +kernel
theorem dX8_init_199 : decode cX8_init 199 = .ok (.iconst (-1), 1) := by decide +kernel
theorem dX8_init_200 : decode cX8_init 200 = .ok (.putfield 35, 3) := by decide +kernel
theorem dX8_init_203 : decode cX8_init 203 = .ok (.aload_n 0, 1) := by decide +kernel
theorem dX8_init_204 : decode cX8_init 204 = .ok (.bipush 12, 2) := by decide +kernel
theorem dX8_init_206 : decode cX8_init 206 = .ok (.newarray .long, 2) := by decide +kernel
theorem dX8_init_208 : decode cX8_init 208 = .ok (.putfield 38, 3) := by decide +kernel
theorem dX8_init_211 : decode cX8_init 211 = .ok (.aload_n 0, 1) := by decide +kernel
theorem dX8_init_212 : decode cX8_init 212 = .ok (.bipush 12, 2) := by decide +kernel
theorem dX8_init_214 : decode cX8_init 214 = .ok (.newarray .int, 2) := by decide +kernel
theorem dX8_init_216 : decode cX8_init 216 = .ok (.putfield 42, 3) := by decide +kernel
theorem dX8_init_219 : decode cX8_init 219 = .ok (.aload_n 0, 1) := by decide +kernel
theorem dX8_init_220 : decode cX8_init 220 = .ok (.bipush 12, 2) := by decide +kernel
theorem dX8_init_222 : decode cX8_init 222 = .ok (.newarray .int, 2) := by decide +kernel
theorem dX8_init_224 : decode cX8_init 224 = .ok (.putfield 45, 3) := by decide +kernel
theorem dX8_init_227 : decode cX8_init 227 = .ok (.aload_n 0, 1) := by decide +kernel
theorem dX8_init_228 : decode cX8_init 228 = .ok (.bipush 9, 2) := by decide +kernel
theorem dX8_init_230 : decode cX8_init 230 = .ok (.newarray .int, 2) := by decide +kernel
theorem dX8_init_232 : decode cX8_init 232 = .ok (.putfield 48, 3) := by decide +kernel
theorem dX8_init_235 : decode cX8_init 235 = .ok (.aload_n 0, 1) := by decide +kernel
theorem dX8_init_236 : decode cX8_init 236 = .ok (.bipush 36, 2) := by decide +kernel
theorem dX8_init_238 : decode cX8_init 238 = .ok (.newarray .int, 2) := by decide +kernel
theorem dX8_init_240 : decode cX8_init 240 = .ok (.putfield 51, 3) := by decide +kernel
theorem dX8_init_243 : decode cX8_init 243 = .ok (.aload_n 0, 1) := by decide +kernel
theorem dX8_init_244 : decode cX8_init 244 = .ok (.bipush 9, 2) := by decide +kernel
theorem dX8_init_246 : decode cX8_init 246 = .ok (.newarray .int, 2) := by decide +kernel
theorem dX8_init_248 : decode cX8_init 248 = .ok (.putfield 54, 3) := by decide +kernel
theorem dX8_init_251 : decode cX8_init 251 = .ok (.aload_n 0, 1) := by decide +kernel
theorem dX8_init_252 : decode cX8_init 252 = .ok (.bipush 9, 2) := by decide +kernel
theorem dX8_init_254 : decode cX8_init 254 = .ok (.newarray .int, 2) := by decide +kernel
theorem dX8_init_256 : decode cX8_init 256 = .ok (.putfield 57, 3) := by decide +kernel
theorem dX8_init_259 : decode cX8_init 259 = .ok (.aload_n 0, 1) := by decide +kernel
theorem dX8_init_260 : decode cX8_init 260 = .ok (.bipush 9, 2) := by decide +kernel
theorem dX8_init_262 : decode cX8_init 262 = .ok (.newarray .int, 2) := by decide +kernel
theorem dX8_init_264 : decode cX8_init 264 = .ok (.putfield 60, 3) := by decide +kernel
theorem dX8_init_267 : decode cX8_init 267 = .ok (.aload_n 0, 1) := by decide +kernel
theorem dX8_init_268 : decode cX8_init 268 = .ok (.iconst 3, 1) := by decide +kernel
theorem dX8_init_269 : decode cX8_init 269 = .ok (.newarray .char, 2) := by decide +kernel
theorem dX8_init_271 : decode cX8_init 271 = .ok (.dup, 1) := by decide +kernel
theorem dX8_init_272 : decode cX8_init 272 = .ok (.iconst 0, 1) := by decide +kernel
theorem dX8_init_273 : decode cX8_init 273 = .ok (.bipush 115, 2) := by decide +kernel
theorem dX8_init_275 : decode cX8_init 275 = .ok (.castore, 1) := by decide +kernel
theorem dX8_init_276 : decode cX8_init 276 = .ok (.dup, 1) := by decide +kernel
theorem dX8_init_277 : decode cX8_init 277 = .ok (.iconst 1, 1) := by decide +kernel
theorem dX8_init_278 : decode cX8_init 278 = .ok (.bipush 117, 2) := by decide +kernel
theorem dX8_init_280 : decode cX8_init 280 = .ok (.castore, 1) := by decide +kernel
theorem dX8_init_281 : decode cX8_init 281 = .ok (.dup, 1) := by decide +kernel
theorem dX8_init_282 : decode cX8_init 282 = .ok (.iconst 2, 1) := by decide +kernel
theorem dX8_init_283 : decode cX8_init 283 = .ok (.bipush 110, 2) := by decide +kernel
theorem dX8_init_285 : decode cX8_init 285 = .ok (.castore, 1) := by decide +kernel
theorem dX8_init_286 : decode cX8_init 286 = .ok (.putfield 63, 3) := by decide +kernel
theorem dX8_init_289 : decode cX8_init 289 = .ok (.aload_n 0, 1) := by decide +kernel
theorem dX8_init_290 : decode cX8_init 290 = .ok (.iconst 4, 1) := by decide +kernel
theorem dX8_init_291 : decode cX8_init 291 = .ok (.newarray .char, 2) := by decide +kernel
theorem dX8_init_293 : decode cX8_init 293 = .ok (.dup, 1) := by decide +kernel
theorem dX8_init_294 : decode cX8_init 294 = .ok (.iconst 0, 1) := by decide +kernel
theorem dX8_init_295 : decode cX8_init 295 = .ok (.bipush 109, 2) := by decide +kernel
theorem dX8_init_297 : decode cX8_init 297 = .ok (.castore, 1) := by decide +kernel
theorem dX8_init_298 : decode cX8_init 298 = .ok (.dup, 1) := by decide +kernel
theorem dX8_init_299 : decode cX8_init 299 = .ok (.iconst 1, 1) := by decide +kernel
theorem dX8_init_300 : decode cX8_init 300 = .ok (.bipush 111, 2) := by decide +kernel
theorem dX8_init_302 : decode cX8_init 302 = .ok (.castore, 1) := by decide +kernel
theorem dX8_init_303 : decode cX8_init 303 = .ok (.dup, 1) := by decide +kernel
theorem dX8_init_304 : decode cX8_init 304 = .ok (.iconst 2, 1) := by decide +kernel
theorem dX8_init_305 : decode cX8_init 305 = .ok (.bipush 111, 2) := by decide +kernel
theorem dX8_init_307 : decode cX8_init 307 = .ok (.castore, 1) := by decide +kernel
theorem dX8_init_308 : decode cX8_init 308 = .ok (.dup, 1) := by decide +kernel
theorem dX8_init_309 : decode cX8_init 309 = .ok (.iconst 3, 1) := by decide +kernel
theorem dX8_init_310 : decode cX8_init 310 = .ok (.bipush 110, 2) := by decide +kernel
theorem dX8_init_312 : decode cX8_init 312 = .ok (.castore, 1) := by decide +kernel
theorem dX8_init_313 : decode cX8_init 313 = .ok (.putfield 67, 3) := by decide +kernel
theorem dX8_init_316 : decode cX8_init 316 = .ok (.aload_n 0, 1) := by decide +kernel
theorem dX8_init_317 : decode cX8_init 317 = .ok (.iconst 5, 1) := by decide +kernel
theorem dX8_init_318 : decode cX8_init 318 = .ok (.newarray .char, 2) := by decide +kernel
theorem dX8_init_320 : decode cX8_init 320 = .ok (.dup, 1) := by decide +kernel
theorem dX8_init_321 : decode cX8_init 321 = .ok (.iconst 0, 1) := by decide +kernel
theorem dX8_init_322 : decode cX8_init 322 = .ok (.bipush 116, 2) := by decide +kernel
theorem dX8_init_324 : decode cX8_init 324 = .ok (.castore, 1) := by decide +kernel
theorem dX8_init_325 : decode cX8_init 325 = .ok (.dup, 1) := by decide +kernel
theorem dX8_init_326 : decode cX8_init 326 = .ok (.iconst 1, 1) := by decide +kernel
theorem dX8_init_327 : decode cX8_init 327 = .ok (.bipush 111, 2) := by decide +kernel
theorem dX8_init_329 : decode cX8_init 329 = .ok (.castore, 1) := by decide +kernel
theorem dX8_init_330 : decode cX8_init 330 = .ok (.dup, 1) := by decide +kernel
theorem dX8_init_331 : decode cX8_init 331 = .ok (.iconst 2, 1) := by decide +kernel
theorem dX8_init_332 : decode cX8_init 332 = .ok (.bipush 116, 2) := by decide +kernel
theorem dX8_init_334 : decode cX8_init 334 = .ok (.castore, 1) := by decide +kernel
theorem dX8_init_335 : decode cX8_init 335 = .ok (.dup, 1) := by decide +kernel
theorem dX8_init_336 : decode cX8_init 336 = .ok (.iconst 3, 1) := by decide +kernel
theorem dX8_init_337 : decode cX8_init 337 = .ok (.bipush 97, 2) := by decide +kernel
theorem dX8_init_339 : decode cX8_init 339 = .ok (.castore, 1) := by decide +kernel
theorem dX8_init_340 : decode cX8_init 340 = .ok (.dup, 1) := by decide +kernel
theorem dX8_init_341 : decode cX8_init 341 = .ok (.iconst 4, 1) := by decide +kernel
theorem dX8_init_342 : decode cX8_init 342 = .ok (.bipush 108, 2) := by decide +kernel
theorem dX8_init_344 : decode cX8_init 344 = .ok (.castore, 1) := by decide +kernel
theorem dX8_init_345 : decode cX8_init 345 = .ok (.putfield 70, 3) := by decide +kernel
theorem dX8_init_348 : decode cX8_init 348 = .ok (.aload_n 0, 1) := by decide +kernel
theorem dX8_init_349 : decode cX8_init 349 = .ok (.iconst 4, 1) := by decide +kernel
theorem dX8_init_350 : decode cX8_init 350 = .ok (.newarray .char, 2) := by decide +kernel
theorem dX8_init_352 : decode cX8_init 352 = .ok (.dup, 1) := by decide +kernel
theorem dX8_init_353 : decode cX8_init 353 = .ok (.iconst 0, 1) := by decide +kernel
theorem dX8_init_354 : decode cX8_init 354 = .ok (.bipush 114, 2) := by decide +kernel
theorem dX8_init_356 : decode cX8_init 356 = .ok (.castore, 1) := by decide +kernel
theorem dX8_init_357 : decode cX8_init 357 = .ok (.dup, 1) := by decide +kernel
theorem dX8_init_358 : decode cX8_init 358 = .ok (.iconst 1, 1) := by decide +kernel
theorem dX8_init_359 : decode cX8_init 359 = .ok (.bipush 105, 2) := by decide +kernel
theorem dX8_init_361 : decode cX8_init 361 = .ok (.castore, 1) := by decide +kernel
theorem dX8_init_362 : decode cX8_init 362 = .ok (.dup, 1) := by decide +kernel
theorem dX8_init_363 : decode cX8_init 363 = .ok (.iconst 2, 1) := by decide +kernel
theorem dX8_init_364 : decode cX8_init 364 = .ok (.bipush 110, 2) := by decide +kernel
theorem dX8_init_366 : decode cX8_init 366 = .ok (.castore, 1) := by decide +kernel
theorem dX8_init_367 : decode cX8_init 367 = .ok (.dup, 1) := by decide +kernel
theorem dX8_init_368 : decode cX8_init 368 = .ok (.iconst 3, 1) := by decide +kernel
theorem dX8_init_369 : decode cX8_init 369 = .ok (.bipush 103, 2) := by decide +kernel
theorem dX8_init_371 : decode cX8_init 371 = .ok (.castore, 1) := by decide +kernel
theorem dX8_init_372 : decode cX8_init 372 = .ok (.putfield 73, 3) := by decide +kernel
theorem dX8_init_375 : decode cX8_init 375 = .ok (.aload_n 0, 1) := by decide +kernel
theorem dX8_init_376 : decode cX8_init 376 = .ok (.iconst 4, 1) := by decide +kernel
theorem dX8_init_377 : decode cX8_init 377 = .ok (.newarray .char, 2) := by decide +kernel
theorem dX8_init_379 : decode cX8_init 379 = .ok (.dup, 1) := by decide +kernel
theorem dX8_init_380 : decode cX8_init 380 = .ok (.iconst 0, 1) := by decide +kernel
theorem dX8_init_381 : decode cX8_init 381 = .ok (.bipush 112, 2) := by decide +kernel
theorem dX8_init_383 : decode cX8_init 383 = .ok (.castore, 1) := by decide +kernel
theorem dX8_init_384 : decode cX8_init 384 = .ok (.dup, 1) := by decide +kernel
theorem dX8_init_385 : decode cX8_init 385 = .ok (.iconst 1, 1) := by decide +kernel
theorem dX8_init_386 : decode cX8_init 386 = .ok (.bipush 97, 2) := by decide +kernel
theorem dX8_init_388 : decode cX8_init 388 = .ok (.castore, 1) := by decide +kernel
theorem dX8_init_389 : decode cX8_init 389 = .ok (.dup, 1) := by decide +kernel
theorem dX8_init_390 : decode cX8_init 390 = .ok (.iconst 2, 1) := by decide +kernel
theorem dX8_init_391 : decode cX8_init 391 = .ok (.bipush 114, 2) := by decide +kernel
theorem dX8_init_393 : decode cX8_init 393 = .ok (.castore, 1) := by decide +kernel
theorem dX8_init_394 : decode cX8_init 394 = .ok (.dup, 1) := by decide +kernel
theorem dX8_init_395 : decode cX8_init 395 = .ok (.iconst 3, 1) := by decide +kernel
theorem dX8_init_396 : decode cX8_init 396 = .ok (.bipush 116, 2) := by decide +kernel
theorem dX8_init_398 : decode cX8_init 398 = .ok (.castore, 1) := by decide +kernel
theorem dX8_init_399 : decode cX8_init 399 = .ok (.putfield 76, 3) := by decide +kernel
theorem dX8_init_402 : decode cX8_init 402 = .ok (.aload_n 0, 1) := by decide +kernel
theorem dX8_init_403 : decode cX8_init 403 = .ok (.iconst 5, 1) := by decide +kernel
theorem dX8_init_404 : decode cX8_init 404 = .ok (.newarray .char, 2) := by decide +kernel
theorem dX8_init_406 : decode cX8_init 406 = .ok (.dup, 1) := by decide +kernel
theorem dX8_init_407 : decode cX8_init 407 = .ok (.iconst 0, 1) := by decide +kernel
theorem dX8_init_408 : decode cX8_init 408 = .ok (.bipush 119, 2) := by decide +kernel
theorem dX8_init_410 : decode cX8_init 410 = .ok (.castore, 1) := by decide +kernel
theorem dX8_init_411 : decode cX8_init 411 = .ok (.dup, 1) := by decide +kernel
theorem dX8_init_412 : decode cX8_init 412 = .ok (.iconst 1, 1) := by decide +kernel
theorem dX8_init_413 : decode cX8_init 413 = .ok (.bipush 104, 2) := by decide +kernel
theorem dX8_init_415 : decode cX8_init 415 = .ok (.castore, 1) := by decide +kernel
theorem dX8_init_416 : decode cX8_init 416 = .ok (.dup, 1) := by decide +kernel
theorem dX8_init_417 : decode cX8_init 417 = .ok (.iconst 2, 1) := by decide +kernel
theorem dX8_init_418 : decode cX8_init 418 = .ok (.bipush 111, 2) := by decide +kernel
theorem dX8_init_420 : decode cX8_init 420 = .ok (.castore, 1) := by decide +kernel
theorem dX8_init_421 : decode cX8_init 421 = .ok (.dup, 1) := by decide +kernel
theorem dX8_init_422 : decode cX8_init 422 = .ok (.iconst 3, 1) := by decide +kernel
theorem dX8_init_423 : decode cX8_init 423 = .ok (.bipush 108, 2) := by decide +kernel
theorem dX8_init_425 : decode cX8_init 425 = .ok (.castore, 1) := by decide +kernel
theorem dX8_init_426 : decode cX8_init 426 = .ok (.dup, 1) := by decide +kernel
theorem dX8_init_427 : decode cX8_init 427 = .ok (.iconst 4, 1) := by decide +kernel
theorem dX8_init_428 : decode cX8_init 428 = .ok (.bipush 101, 2) := by decide +kernel
theorem dX8_init_430 : decode cX8_init 430 = .ok (.castore, 1) := by decide +kernel
theorem dX8_init_431 : decode cX8_init 431 = .ok (.putfield 79, 3) := by decide +kernel
theorem dX8_init_434 : decode cX8_init 434 = .ok (.aload_n 0, 1) := by decide +kernel
theorem dX8_init_435 : decode cX8_init 435 = .ok (.iconst 4, 1) := by decide +kernel
theorem dX8_init_436 : decode cX8_init 436 = .ok (.newarray .char, 2) := by decide +kernel
theorem dX8_init_438 : decode cX8_init 438 = .ok (.dup, 1) := by decide +kernel
theorem dX8_init_439 : decode cX8_init 439 = .ok (.iconst 0, 1) := by decide +kernel
theorem dX8_init_440 : decode cX8_init 440 = .ok (.bipush 104, 2) := by decide +kernel
theorem dX8_init_442 : decode cX8_init 442 = .ok (.castore, 1) := by decide +kernel
theorem dX8_init_443 : decode cX8_init 443 = .ok (.dup, 1) := by decide +kernel
theorem dX8_init_444 : decode cX8_init 444 = .ok (.iconst 1, 1) := by decide +kernel
theorem dX8_init_445 : decode cX8_init 445 = .ok (.bipush 97, 2) := by decide +kernel
theorem dX8_init_447 : decode cX8_init 447 = .ok (.castore, 1) := by decide +kernel
theorem dX8_init_448 : decode cX8_init 448 = .ok (.dup, 1) := by decide +kernel
theorem dX8_init_449 : decode cX8_init 449 = .ok (.iconst 2, 1) := by decide +kernel
theorem dX8_init_450 : decode cX8_init 450 = .ok (.bipush 108, 2) := by decide +kernel
theorem dX8_init_452 : decode cX8_init 452 = .ok (.castore, 1) := by decide +kernel
theorem dX8_init_453 : decode cX8_init 453 = .ok (.dup, 1) := by decide +kernel
theorem dX8_init_454 : decode cX8_init 454 = .ok (.iconst 3, 1) := by decide +kernel
theorem dX8_init_455 : decode cX8_init 455 = .ok (.bipush 102, 2) := by decide +kernel
theorem dX8_init_457 : decode cX8_init 457 = .ok (.castore, 1) := by decide +kernel
theorem dX8_init_458 : decode cX8_init 458 = .ok (.putfield 82, 3) := by decide +kernel
theorem dX8_init_461 : decode cX8_init 461 = .ok (.aload_n 0, 1) := by decide +kernel
theorem dX8_init_462 : decode cX8_init 462 = .ok (.iconst 4, 1) := by decide +kernel
theorem dX8_init_463 : decode cX8_init 463 = .ok (.newarray .char, 2) := by decide +kernel
theorem dX8_init_465 : decode cX8_init 465 = .ok (.dup, 1) := by decide +kernel
theorem dX8_init_466 : decode cX8_init 466 = .ok (.iconst 0, 1) := by decide +kernel
theorem dX8_init_467 : decode cX8_init 467 = .ok (.bipush 121, 2) := by decide +kernel
theorem dX8_init_469 : decode cX8_init 469 = .ok (.castore, 1) := by decide +kernel
theorem dX8_init_470 : decode cX8_init 470 = .ok (.dup, 1) := by decide +kernel
theorem dX8_init_471 : decode cX8_init 471 = .ok (.iconst 1, 1) := by decide +kernel
theorem dX8_init_472 : decode cX8_init 472 = .ok (.bipush 101, 2) := by decide +kernel
theorem dX8_init_474 : decode cX8_init 474 = .ok (.castore, 1) := by decide +kernel
theorem dX8_init_475 : decode cX8_init 475 = .ok (.dup, 1) := by decide +kernel
theorem dX8_init_476 : decode cX8_init 476 = .ok (.iconst 2, 1) := by decide +kernel
theorem dX8_init_477 : decode cX8_init 477 = .ok (.bipush 97, 2) := by decide +kernel
theorem dX8_init_479 : decode cX8_init 479 = .ok (.castore, 1) := by decide +kernel
theorem dX8_init_480 : decode cX8_init 480 = .ok (.dup, 1) := by decide +kernel
theorem dX8_init_481 : decode cX8_init 481 = .ok (.iconst 3, 1) := by decide +kernel
theorem dX8_init_482 : decode cX8_init 482 = .ok (.bipush 114, 2) := by decide +kernel
theorem dX8_init_484 : decode cX8_init 484 = .ok (.castore, 1) := by decide +kernel
theorem dX8_init_485 : decode cX8_init 485 = .ok (.putfield 85, 3) := by decide +kernel
theorem dX8_init_488 : decode cX8_init 488 = .ok (.aload_n 0, 1) := by decide +kernel
theorem dX8_init_489 : decode cX8_init 489 = .ok (.iconst 5, 1) := by decide +kernel
theorem dX8_init_490 : decode cX8_init 490 = .ok (.newarray .char, 2) := by decide +kernel
theorem dX8_init_492 : decode cX8_init 492 = .ok (.dup, 1) := by decide +kernel
theorem dX8_init_493 : decode cX8_init 493 = .ok (.iconst 0, 1) := by decide +kernel
theorem dX8_init_494 : decode cX8_init 494 = .ok (.bipush 109, 2) := by decide +kernel
theorem dX8_init_496 : decode cX8_init 496 = .ok (.castore, 1) := by decide +kernel
theorem dX8_init_497 : decode cX8_init 497 = .ok (.dup, 1) := by decide +kernel
theorem dX8_init_498 : decode cX8_init 498 = .ok (.iconst 1, 1) := by decide +kernel
theorem dX8_init_499 : decode cX8_init 499 = .ok (.bipush 111, 2) := by decide +kernel
theorem dX8_init_501 : decode cX8_init 501 = .ok (.castore, 1) := by decide +kernel
theorem dX8_init_502 : decode cX8_init 502 = .ok (.dup, 1) := by decide +kernel
theorem dX8_init_503 : decode cX8_init 503 = .ok (.iconst 2, 1) := by decide +kernel
theorem dX8_init_504 : decode cX8_init 504 = .ok (.bipush 110, 2) := by decide +kernel
theorem dX8_init_506 : decode cX8_init 506 = .ok (.castore, 1) := by decide +kernel
theorem dX8_init_507 : decode cX8_init 507 = .ok (.dup, 1) := by decide +kernel
theorem dX8_init_508 : decode cX8_init 508 = .ok (.iconst 3, 1) := by decide +kernel
theorem dX8_init_509 : decode cX8_init 509 = .ok (.bipush 116, 2) := by decide +kernel
theorem dX8_init_511 : decode cX8_init 511 = .ok (.castore, 1) := by decide +kernel
theorem dX8_init_512 : decode cX8_init 512 = .ok (.dup, 1) := by decide +kernel
theorem dX8_init_513 : decode cX8_init 513 = .ok (.iconst 4, 1) := by decide +kernel
theorem dX8_init_514 : decode cX8_init 514 = .ok (.bipush 104, 2) := by decide +kernel
theorem dX8_init_516 : decode cX8_init 516 = .ok (.castore, 1) := by decide +kernel
theorem dX8_init_517 : decode cX8_init 517 = .ok (.putfield 88, 3) := by decide +kernel
theorem dX8_init_520 : decode cX8_init 520 = .ok (.aload_n 0, 1) := by decide +kernel
theorem dX8_init_521 : decode cX8_init 521 = .ok (.iconst 3, 1) := by decide +kernel
theorem dX8_init_522 : decode cX8_init 522 = .ok (.newarray .char, 2) := by decide +kernel
theorem dX8_init_524 : decode cX8_init 524 = .ok (.dup, 1) := by decide +kernel
theorem dX8_init_525 : decode cX8_init 525 = .ok (.iconst 0, 1) := by decide +kernel
theorem dX8_init_526 : decode cX8_init 526 = .ok (.bipush 100, 2) := by decide +kernel
theorem dX8_init_528 : decode cX8_init 528 = .ok (.castore, 1) := by decide +kernel
theorem dX8_init_529 : decode cX8_init 529 = .ok (.dup, 1) := by decide +kernel
theorem dX8_init_530 : decode cX8_init 530 = .ok (.iconst 1, 1) := by decide +kernel
theorem dX8_init_531 : decode cX8_init 531 = .ok (.bipush 97, 2) := by decide +kernel
theorem dX8_init_533 : decode cX8_init 533 = .ok (.castore, 1) := by decide +kernel
theorem dX8_init_534 : decode cX8_init 534 = .ok (.dup, 1) := by decide +kernel
theorem dX8_init_535 : decode cX8_init 535 = .ok (.iconst 2, 1) := by decide +kernel
theorem dX8_init_536 : decode cX8_init 536 = .ok (.bipush 121, 2) := by decide +kernel
theorem dX8_init_538 : decode cX8_init 538 = .ok (.castore, 1) := by decide +kernel
theorem dX8_init_539 : decode cX8_init 539 = .ok (.putfield 91, 3) := by decide +kernel
theorem dX8_init_542 : decode cX8_init 542 = .ok (.aload_n 0, 1) := by decide +kernel
theorem dX8_init_543 : decode cX8_init 543 = .ok (.iconst 4, 1) := by decide +kernel
theorem dX8_init_544 : decode cX8_init 544 = .ok (.newarray .char, 2) := by decide +kernel
theorem dX8_init_546 : decode cX8_init 546 = .ok (.dup, 1) := by decide +kernel
theorem dX8_init_547 : decode cX8_init 547 = .ok (.iconst 0, 1) := by decide +kernel
theorem dX8_init_548 : decode cX8_init 548 = .ok (.bipush 104, 2) := by decide +kernel
theorem dX8_init_550 : decode cX8_init 550 = .ok (.castore, 1) := by decide +kernel
theorem dX8_init_551 : decode cX8_init 551 = .ok (.dup, 1) := by decide +kernel
theorem dX8_init_552 : decode cX8_init 552 = .ok (.iconst 1, 1) := by decide +kernel
theorem dX8_init_553 : decode cX8_init 553 = .ok (.bipush 111, 2) := by decide +kernel
theorem dX8_init_555 : decode cX8_init 555 = .ok (.castore, 1) := by decide +kernel
theorem dX8_init_556 : decode cX8_init 556 = .ok (.dup, 1) := by decide +kernel
theorem dX8_init_557 : decode cX8_init 557 = .ok (.iconst 2, 1) := by decide +kernel
theorem dX8_init_558 : decode cX8_init 558 = .ok (.bipush 117, 2) := by decide +kernel
theorem dX8_init_560 : decode cX8_init 560 = .ok (.castore, 1) := by decide +kernel
theorem dX8_init_561 : decode cX8_init 561 = .ok (.dup, 1) := by decide +kernel
theorem dX8_init_562 : decode cX8_init 562 = .ok (.iconst 3, 1) := by decide +kernel
theorem dX8_init_563 : decode cX8_init 563 = .ok (.bipush 114, 2) := by decide +kernel
theorem dX8_init_565 : decode cX8_init 565 = .ok (.castore, 1) := by decide +kernel
theorem dX8_init_566 : decode cX8_init 566 = .ok (.putfield 94, 3) := by decide +kernel
theorem dX8_init_569 : decode cX8_init 569 = .ok (.aload_n 0, 1) := by decide +kernel
theorem dX8_init_570 : decode cX8_init 570 = .ok (.iconst 2, 1) := by decide +kernel
theorem dX8_init_571 : decode cX8_init 571 = .ok (.newarray .char, 2) := by decide +kernel
theorem dX8_init_573 : decode cX8_init 573 = .ok (.dup, 1) := by decide +kernel
theorem dX8_init_574 : decode cX8_init 574 = .ok (.iconst 0, 1) := by decide +kernel
theorem dX8_init_575 : decode cX8_init 575 = .ok (.bipush 111, 2) := by decide +kernel
theorem dX8_init_577 : decode cX8_init 577 = .ok (.castore, 1) := by decide +kernel
theorem dX8_init_578 : decode cX8_init 578 = .ok (.dup, 1) := by decide +kernel
theorem dX8_init_579 : decode cX8_init 579 = .ok (.iconst 1, 1) := by decide +kernel
theorem dX8_init_580 : decode cX8_init 580 = .ok (.bipush 102, 2) := by decide +kernel
theorem dX8_init_582 : decode cX8_init 582 = .ok (.castore, 1) := by decide +kernel
theorem dX8_init_583 : decode cX8_init 583 = .ok (.putfield 97, 3) := by decide +kernel
theorem dX8_init_586 : decode cX8_init 586 = .ok (.aload_n 0, 1) := by decide +kernel
theorem dX8_init_587 : decode cX8_init 587 = .ok (.iconst 2, 1) := by decide +kernel
theorem dX8_init_588 : decode cX8_init 588 = .ok (.newarray .char, 2) := by decide +kernel
theorem dX8_init_590 : decode cX8_init 590 = .ok (.dup, 1) := by decide +kernel
theorem dX8_init_591 : decode cX8_init 591 = .ok (.iconst 0, 1) := by decide +kernel
theorem dX8_init_592 : decode cX8_init 592 = .ok (.bipush 105, 2) := by decide +kernel
theorem dX8_init_594 : decode cX8_init 594 = .ok (.castore, 1) := by decide +kernel
theorem dX8_init_595 : decode cX8_init 595 = .ok (.dup, 1) := by decide +kernel
theorem dX8_init_596 : decode cX8_init 596 = .ok (.iconst 1, 1) := by decide +kernel
theorem dX8_init_597 : decode cX8_init 597 = .ok (.bipush 110, 2) := by decide +kernel
theorem dX8_init_599 : decode cX8_init 599 = .ok (.castore, 1) := by decide +kernel
theorem dX8_init_600 : decode cX8_init 600 = .ok (.putfield 100, 3) := by decide +kernel
theorem dX8_init_603 : decode cX8_init 603 = .ok (.aload_n 0, 1) := by decide +kernel
theorem dX8_init_604 : decode cX8_init 604 = .ok (.iconst 4, 1) := by decide +kernel
theorem dX8_init_605 : decode cX8_init 605 = .ok (.newarray .char, 2) := by decide +kernel
theorem dX8_init_607 : decode cX8_init 607 = .ok (.dup, 1) := by decide +kernel
theorem dX8_init_608 : decode cX8_init 608 = .ok (.iconst 0, 1) := by decide +kernel
theorem dX8_init_609 : decode cX8_init 609 = .ok (.bipush 101, 2) := by decide +kernel
theorem dX8_init_611 : decode cX8_init 611 = .ok (.castore, 1) := by decide +kernel
theorem dX8_init_612 : decode cX8_init 612 = .ok (.dup, 1) := by decide +kernel
theorem dX8_init_613 : decode cX8_init 613 = .ok (.iconst 1, 1) := by decide +kernel
theorem dX8_init_614 : decode cX8_init 614 = .ok (.bipush 118, 2) := by decide +kernel
theorem dX8_init_616 : decode cX8_init 616 = .ok (.castore, 1) := by decide +kernel
theorem dX8_init_617 : decode cX8_init 617 = .ok (.dup, 1) := by decide +kernel
theorem dX8_init_618 : decode cX8_init 618 = .ok (.iconst 2, 1) := by decide +kernel
theorem dX8_init_619 : decode cX8_init 619 = .ok (.bipush 101, 2) := by decide +kernel
theorem dX8_init_621 : decode cX8_init 621 = .ok (.castore, 1) := by decide +kernel
theorem dX8_init_622 : decode cX8_init 622 = .ok (.dup, 1) := by decide +kernel
theorem dX8_init_623 : decode cX8_init 623 = .ok (.iconst 3, 1) := by decide +kernel
theorem dX8_init_624 : decode cX8_init 624 = .ok (.bipush 110, 2) := by decide +kernel
theorem dX8_init_626 : decode cX8_init 626 = .ok (.castore, 1) := by decide +kernel
theorem dX8_init_627 : decode cX8_init 627 = .ok (.putfield 103, 3) := by decide +kernel
theorem dX8_init_630 : decode cX8_init 630 = .ok (.aload_n 0, 1) := by decide +kernel
theorem dX8_init_631 : decode cX8_init 631 = .ok (.iconst 4, 1) := by decide +kernel
theorem dX8_init_632 : decode cX8_init 632 = .ok (.newarray .char, 2) := by decide +kernel
theorem dX8_init_634 : decode cX8_init 634 = .ok (.dup, 1) := by decide +kernel
theorem dX8_init_635 : decode cX8_init 635 = .ok (.iconst 0, 1) := by decide +kernel
theorem dX8_init_636 : decode cX8_init 636 = .ok (.bipush 108, 2) := by decide +kernel
theorem dX8_init_638 : decode cX8_init 638 = .ok (.castore, 1) := by decide +kernel
theorem dX8_init_639 : decode cX8_init 639 = .ok (.dup, 1) := by decide +kernel
theorem dX8_init_640 : decode cX8_init 640 = .ok (.iconst 1, 1) := by decide +kernel
theorem dX8_init_641 : decode cX8_init 641 = .ok (.bipush 101, 2) := by decide +kernel
theorem dX8_init_643 : decode cX8_init 643 = .ok (.castore, 1) := by decide +kernel
theorem dX8_init_644 : decode cX8_init 644 = .ok (.dup, 1) := by decide +kernel
theorem dX8_init_645 : decode cX8_init 645 = .ok (.iconst 2, 1) := by decide +kernel
theorem dX8_init_646 : decode cX8_init 646 = .ok (.bipush 97, 2) := by decide +kernel
theorem dX8_init_648 : decode cX8_init 648 = .ok (.castore, 1) := by decide +kernel
theorem dX8_init_649 : decode cX8_init 649 = .ok (.dup, 1) := by decide +kernel
theorem dX8_init_650 : decode cX8_init 650 = .ok (.iconst 3, 1) := by decide +kernel
theorem dX8_init_651 : decode cX8_init 651 = .ok (.bipush 112, 2) := by decide +kernel
theorem dX8_init_653 : decode cX8_init 653 = .ok (.castore, 1) := by decide +kernel
theorem dX8_init_654 : decode cX8_init 654 = .ok (.putfield 106, 3) := by decide +kernel
theorem dX8_init_657 : decode cX8_init 657 = .ok (.aload_n 0, 1) := by decide +kernel
theorem dX8_init_658 : decode cX8_init 658 = .ok (.iconst 5, 1) := by decide +kernel
theorem dX8_init_659 : decode cX8_init 659 = .ok (.newarray .char, 2) := by decide +kernel
theorem dX8_init_661 : decode cX8_init 661 = .ok (.dup, 1) := by decide +kernel
theorem dX8_init_662 : decode cX8_init 662 = .ok (.iconst 0, 1) := by decide +kernel
theorem dX8_init_663 : decode cX8_init 663 = .ok (.bipush 109, 2) := by decide +kernel
theorem dX8_init_665 : decode cX8_init 665 = .ok (.castore, 1) := by decide +kernel
theorem dX8_init_666 : decode cX8_init 666 = .ok (.dup, 1) := by decide +kernel
theorem dX8_init_667 : decode cX8_init 667 = .ok (.iconst 1, 1) := by decide +kernel
theorem dX8_init_668 : decode cX8_init 668 = .ok (.bipush 111, 2) := by decide +kernel
theorem dX8_init_670 : decode cX8_init 670 = .ok (.castore, 1) := by decide +kernel
theorem dX8_init_671 : decode cX8_init 671 = .ok (.dup, 1) := by decide +kernel
theorem dX8_init_672 : decode cX8_init 672 = .ok (.iconst 2, 1) := by decide +kernel
theorem dX8_init_673 : decode cX8_init 673 = .ok (.bipush 111, 2) := by decide +kernel
theorem dX8_init_675 : decode cX8_init 675 = .ok (.castore, 1) := by decide +kernel
theorem dX8_init_676 : decode cX8_init 676 = .ok (.dup, 1) := by decide +kernel
theorem dX8_init_677 : decode cX8_init 677 = .ok (.iconst 3, 1) := by decide +kernel
theorem dX8_init_678 : decode cX8_init 678 = .ok (.bipush 110, 2) := by decide +kernel
theorem dX8_init_680 : decode cX8_init 680 = .ok (.castore, 1) := by decide +kernel
theorem dX8_init_681 : decode cX8_init 681 = .ok (.dup, 1) := by decide +kernel
theorem dX8_init_682 : decode cX8_init 682 = .ok (.iconst 4, 1) := by decide +kernel
theorem dX8_init_683 : decode cX8_init 683 = .ok (.bipush 115, 2) := by decide +kernel
theorem dX8_init_685 : decode cX8_init 685 = .ok (.castore, 1) := by decide +kernel
theorem dX8_init_686 : decode cX8_init 686 = .ok (.putfield 109, 3) := by decide +kernel
theorem dX8_init_689 : decode cX8_init 689 = .ok (.return_, 1) := by decide +kernel
theorem dX8_isIn_0 : decode cX8_isIn 0 = .ok (.iload_n 0, 1) := by decide +kernel
theorem dX8_isIn_1 : decode cX8_isIn 1 = .ok (.iload_n 1, 1) := by decide +kernel
theorem dX8_isIn_2 : decode cX8_isIn 2 = .ok (.if_icmp .lt 12, 3) := by decide +kernel
theorem dX8_isIn_5 : decode cX8_isIn 5 = .ok (.iload_n 0, 1) := by decide +kernel
theorem dX8_isIn_6 : decode cX8_isIn 6 = .ok (.iload_n 2, 1) := by decide +kernel
theorem dX8_isIn_7 : decode cX8_isIn 7 = .ok (.if_icmp .gt 7, 3) := by decide +kernel
theorem dX8_isIn_10 : decode cX8_isIn 10 = .ok (.iconst 1, 1) := by decide +kernel
theorem dX8_isIn_11 : decode cX8_isIn 11 = .ok (.goto 4, 3) := by decide +kernel
theorem dX8_isIn_14 : decode cX8_isIn 14 = .ok (.iconst 0, 1) := by decide +kernel
theorem dX8_isIn_15 : decode cX8_isIn 15 = .ok (.ireturn, 1) := by decide +kernel
theorem dX8_floor_0 : decode cX8_floor 0 = .ok (.lload_n 0, 1) := by decide +kernel
theorem dX8_floor_1 : decode cX8_floor 1 = .ok (.lload_n 2, 1) := by decide +kernel
theorem dX8_floor_2 : decode cX8_floor 2 = .ok (.ldiv, 1) := by decide +kernel
theorem dX8_floor_3 : decode cX8_floor 3 = .ok (.lstore 4, 2) := by decide +kernel
theorem dX8_floor_5 : decode cX8_floor 5 = .ok (.lload_n 0, 1) := by decide +kernel
theorem dX8_floor_6 : decode cX8_floor 6 = .ok (.lload_n 2, 1) := by decide +kernel
theorem dX8_floor_7 : decode cX8_floor 7 = .ok (.lrem, 1) := by decide +kernel
theorem dX8_floor_8 : decode cX8_floor 8 = .ok (.lconst 0, 1) := by decide +kernel
theorem dX8_floor_9 : decode cX8_floor 9 = .ok (.lcmp, 1) := by decide +kernel
theorem dX8_floor_10 : decode cX8_floor 10 = .ok (.ifCond .ge 10, 3) := by decide +kernel
end
section
theorem dX8_floor_13 : decode cX8_floor 13 = .ok (.lload 4, 2) := by decide +kernel
theorem dX8_floor_15 : decode cX8_floor 15 = .ok (.lconst 1, 1) := by decide +kernel
theorem dX8_floor_16 : decode cX8_floor 16 = .ok (.lsub, 1) := by decide +kernel
theorem dX8_floor_17 : decode cX8_floor 17 = .ok (.goto 5, 3) := by decide +kernel
theorem dX8_floor_20 : decode cX8_floor 20 = .ok (.lload 4, 2) := by decide +kernel
theorem dX8_floor_22 : decode cX8_floor 22 = .ok (.lreturn, 1) := by decide +kernel
theorem dX8_tables_0 : decode cX8_tables 0 = .ok (.iload_n 1, 1) := by decide +kernel
theorem dX8_tables_1 : decode cX8_tables 1 = .ok (.iconst 0, 1) := by decide +kernel
theorem dX8_tables_2 : decode cX8_tables 2 = .ok (.ldc 112, 2) := by decide +kernel
theorem dX8_tables_4 : decode cX8_tables 4 = .ok (.invokestatic 113, 3) := by decide +kernel
theorem dX8_tables_7 : decode cX8_tables 7 = .ok (.ifCond .eq 23, 3) := by decide +kernel
theorem dX8_tables_10 : decode cX8_tables 10 = .ok (.iload_n 2, 1) := by decide +kernel
theorem dX8_tables_11 : decode cX8_tables 11 = .ok (.iconst 0, 1) := by decide +kernel
theorem dX8_tables_12 : decode cX8_tables 12 = .ok (.ldc 112, 2) := by decide +kernel
theorem dX8_tables_14 : decode cX8_tables 14 = .ok (.invokestatic 113, 3) := by decide +kernel
theorem dX8_tables_17 : decode cX8_tables 17 = .ok (.ifCond .eq 13, 3) := by decide +kernel
theorem dX8_tables_20 : decode cX8_tables 20 = .ok (.iload_n 3, 1) := by decide +kernel
theorem dX8_tables_21 : decode cX8_tables 21 = .ok (.iconst 0, 1) := by decide +kernel
theorem dX8_tables_22 : decode cX8_tables 22 = .ok (.ldc 112, 2) := by decide +kernel
theorem dX8_tables_24 : decode cX8_tables 24 = .ok (.invokestatic 113, 3) := by decide +kernel
theorem dX8_tables_27 : decode cX8_tables 27 = .ok (.ifCond .ne 5, 3) := by decide +kernel
theorem dX8_tables_30 : decode cX8_tables 30 = .ok (.iconst 0, 1) := by decide +kernel
theorem dX8_tables_31 : decode cX8_tables 31 = .ok (.ireturn, 1) := by decide +kernel
theorem dX8_tables_32 : decode cX8_tables 32 = .ok (.aload_n 0, 1) := by decide +kernel
theorem dX8_tables_33 : decode cX8_tables 33 = .ok (.iload_n 1, 1) := by decide +kernel
theorem dX8_tables_34 : decode cX8_tables 34 = .ok (.putfield 7, 3) := by decide +kernel
theorem dX8_tables_37 : decode cX8_tables 37 = .ok (.aload_n 0, 1) := by decide +kernel
theorem dX8_tables_38 : decode cX8_tables 38 = .ok (.iload_n 2, 1) := by decide +kernel
theorem dX8_tables_39 : decode cX8_tables 39 = .ok (.putfield 117, 3) := by decide +kernel
theorem dX8_tables_42 : decode cX8_tables 42 = .ok (.aload_n 0, 1) := by decide +kernel
theorem dX8_tables_43 : decode cX8_tables 43 = .ok (.iload_n 3, 1) := by decide +kernel
theorem dX8_tables_44 : decode cX8_tables 44 = .ok (.putfield 13, 3) := by decide +kernel
theorem dX8_tables_47 : decode cX8_tables 47 = .ok (.aload_n 0, 1) := by decide +kernel
theorem dX8_tables_48 : decode cX8_tables 48 = .ok (.iconst 0, 1) := by decide +kernel
theorem dX8_tables_49 : decode cX8_tables 49 = .ok (.putfield 120, 3) := by decide +kernel
theorem dX8_tables_52 : decode cX8_tables 52 = .ok (.iconst 1, 1) := by decide +kernel
theorem dX8_tables_53 : decode cX8_tables 53 = .ok (.ireturn, 1) := by decide +kernel
theorem dX8_moonAt_0 : decode cX8_moonAt 0 = .ok (.ldc2_w 124, 3) := by decide +kernel
theorem dX8_moonAt_3 : decode cX8_moonAt 3 = .ok (.iload_n 1, 1) := by decide +kernel
theorem dX8_moonAt_4 : decode cX8_moonAt 4 = .ok (.i2l, 1) := by decide +kernel
theorem dX8_moonAt_5 : decode cX8_moonAt 5 = .ok (.lmul, 1) := by decide +kernel
theorem dX8_moonAt_6 : decode cX8_moonAt 6 = .ok (.aload_n 0, 1) := by decide +kernel
theorem dX8_moonAt_7 : decode cX8_moonAt 7 = .ok (.getfield 7, 3) := by decide +kernel
theorem dX8_moonAt_10 : decode cX8_moonAt 10 = .ok (.i2l, 1) := by decide +kernel
theorem dX8_moonAt_11 : decode cX8_moonAt 11 = .ok (.ladd, 1) := by decide +kernel
theorem dX8_moonAt_12 : decode cX8_moonAt 12 = .ok (.ldc2_w 126, 3) := by decide +kernel
theorem dX8_moonAt_15 : decode cX8_moonAt 15 = .ok (.lrem, 1) := by decide +kernel
theorem dX8_moonAt_16 : decode cX8_moonAt 16 = .ok (.l2i, 1) := by decide +kernel
theorem dX8_moonAt_17 : decode cX8_moonAt 17 = .ok (.ireturn, 1) := by decide +kernel
theorem dX8_sunAt_0 : decode cX8_sunAt 0 = .ok (.ldc2_w 128, 3) := by decide +kernel
theorem dX8_sunAt_3 : decode cX8_sunAt 3 = .ok (.iload_n 1, 1) := by decide +kernel
theorem dX8_sunAt_4 : decode cX8_sunAt 4 = .ok (.i2l, 1) := by decide +kernel
theorem dX8_sunAt_5 : decode cX8_sunAt 5 = .ok (.lmul, 1) := by decide +kernel
theorem dX8_sunAt_6 : decode cX8_sunAt 6 = .ok (.aload_n 0, 1) := by decide +kernel
theorem dX8_sunAt_7 : decode cX8_sunAt 7 = .ok (.getfield 117, 3) := by decide +kernel
theorem dX8_sunAt_10 : decode cX8_sunAt 10 = .ok (.i2l, 1) := by decide +kernel
theorem dX8_sunAt_11 : decode cX8_sunAt 11 = .ok (.ladd, 1) := by decide +kernel
theorem dX8_sunAt_12 : decode cX8_sunAt 12 = .ok (.ldc2_w 126, 3) := by decide +kernel
theorem dX8_sunAt_15 : decode cX8_sunAt 15 = .ok (.lrem, 1) := by decide +kernel
theorem dX8_sunAt_16 : decode cX8_sunAt 16 = .ok (.l2i, 1) := by decide +kernel
theorem dX8_sunAt_17 : decode cX8_sunAt 17 = .ok (.ireturn, 1) := by decide +kernel
theorem dX8_nodeAt_0 : decode cX8_nodeAt 0 = .ok (.ldc2_w 130, 3) := by decide +kernel
theorem dX8_nodeAt_3 : decode cX8_nodeAt 3 = .ok (.iload_n 1, 1) := by decide +kernel
theorem dX8_nodeAt_4 : decode cX8_nodeAt 4 = .ok (.i2l, 1) := by decide +kernel
theorem dX8_nodeAt_5 : decode cX8_nodeAt 5 = .ok (.lmul, 1) := by decide +kernel
theorem dX8_nodeAt_6 : decode cX8_nodeAt 6 = .ok (.ldc2_w 132, 3) := by decide +kernel
theorem dX8_nodeAt_9 : decode cX8_nodeAt 9 = .ok (.ldiv, 1) := by decide +kernel
theorem dX8_nodeAt_10 : decode cX8_nodeAt 10 = .ok (.aload_n 0, 1) := by decide +kernel
theorem dX8_nodeAt_11 : decode cX8_nodeAt 11 = .ok (.getfield 13, 3) := by decide +kernel
theorem dX8_nodeAt_14 : decode cX8_nodeAt 14 = .ok (.i2l, 1) := by decide +kernel
theorem dX8_nodeAt_15 : decode cX8_nodeAt 15 = .ok (.ladd, 1) := by decide +kernel
theorem dX8_nodeAt_16 : decode cX8_nodeAt 16 = .ok (.ldc2_w 126, 3) := by decide +kernel
theorem dX8_nodeAt_19 : decode cX8_nodeAt 19 = .ok (.lrem, 1) := by decide +kernel
theorem dX8_nodeAt_20 : decode cX8_nodeAt 20 = .ok (.l2i, 1) := by decide +kernel
theorem dX8_nodeAt_21 : decode cX8_nodeAt 21 = .ok (.ireturn, 1) := by decide +kernel
theorem dX8_quarter_0 : decode cX8_quarter 0 = .ok (.iload_n 1, 1) := by decide +kernel
theorem dX8_quarter_1 : decode cX8_quarter 1 = .ok (.sipush 1000, 3) := by decide +kernel
theorem dX8_quarter_4 : decode cX8_quarter 4 = .ok (.idiv, 1) := by decide +kernel
theorem dX8_quarter_5 : decode cX8_quarter 5 = .ok (.istore_n 2, 1) := by decide +kernel
theorem dX8_quarter_6 : decode cX8_quarter 6 = .ok (.iload_n 2, 1) := by decide +kernel
theorem dX8_quarter_7 : decode cX8_quarter 7 = .ok (.bipush 9, 2) := by decide +kernel
theorem dX8_quarter_9 : decode cX8_quarter 9 = .ok (.if_icmp .ne 13, 3) := by decide +kernel
theorem dX8_quarter_12 : decode cX8_quarter 12 = .ok (.aload_n 0, 1) := by decide +kernel
theorem dX8_quarter_13 : decode cX8_quarter 13 = .ok (.getfield 26, 3) := by decide +kernel
theorem dX8_quarter_16 : decode cX8_quarter 16 = .ok (.bipush 9, 2) := by decide +kernel
theorem dX8_quarter_18 : decode cX8_quarter 18 = .ok (.iaload, 1) := by decide +kernel
theorem dX8_quarter_19 : decode cX8_quarter 19 = .ok (.goto 35, 3) := by decide +kernel
theorem dX8_quarter_22 : decode cX8_quarter 22 = .ok (.aload_n 0, 1) := by decide +kernel
theorem dX8_quarter_23 : decode cX8_quarter 23 = .ok (.getfield 26, 3) := by decide +kernel
theorem dX8_quarter_26 : decode cX8_quarter 26 = .ok (.iload_n 2, 1) := by decide +kernel
theorem dX8_quarter_27 : decode cX8_quarter 27 = .ok (.iaload, 1) := by decide +kernel
theorem dX8_quarter_28 : decode cX8_quarter 28 = .ok (.aload_n 0, 1) := by decide +kernel
theorem dX8_quarter_29 : decode cX8_quarter 29 = .ok (.getfield 26, 3) := by decide +kernel
theorem dX8_quarter_32 : decode cX8_quarter 32 = .ok (.iload_n 2, 1) := by decide +kernel
theorem dX8_quarter_33 : decode cX8_quarter 33 = .ok (.iconst 1, 1) := by decide +kernel
theorem dX8_quarter_34 : decode cX8_quarter 34 = .ok (.iadd, 1) := by decide +kernel
theorem dX8_quarter_35 : decode cX8_quarter 35 = .ok (.iaload, 1) := by decide +kernel
theorem dX8_quarter_36 : decode cX8_quarter 36 = .ok (.aload_n 0, 1) := by decide +kernel
theorem dX8_quarter_37 : decode cX8_quarter 37 = .ok (.getfield 26, 3) := by decide +kernel
theorem dX8_quarter_40 : decode cX8_quarter 40 = .ok (.iload_n 2, 1) := by decide +kernel
theorem dX8_quarter_41 : decode cX8_quarter 41 = .ok (.iaload, 1) := by decide +kernel
theorem dX8_quarter_42 : decode cX8_quarter 42 = .ok (.isub, 1) := by decide +kernel
theorem dX8_quarter_43 : decode cX8_quarter 43 = .ok (.iload_n 1, 1) := by decide +kernel
theorem dX8_quarter_44 : decode cX8_quarter 44 = .ok (.sipush 1000, 3) := by decide +kernel
theorem dX8_quarter_47 : decode cX8_quarter 47 = .ok (.irem, 1) := by decide +kernel
theorem dX8_quarter_48 : decode cX8_quarter 48 = .ok (.imul, 1) := by decide +kernel
theorem dX8_quarter_49 : decode cX8_quarter 49 = .ok (.sipush 1000, 3) := by decide +kernel
theorem dX8_quarter_52 : decode cX8_quarter 52 = .ok (.idiv, 1) := by decide +kernel
theorem dX8_quarter_53 : decode cX8_quarter 53 = .ok (.iadd, 1) := by decide +kernel
theorem dX8_quarter_54 : decode cX8_quarter 54 = .ok (.ireturn, 1) := by decide +kernel
theorem dX8_wave_0 : decode cX8_wave 0 = .ok (.iload_n 1, 1) := by decide +kernel
theorem dX8_wave_1 : decode cX8_wave 1 = .ok (.sipush 18000, 3) := by decide +kernel
theorem dX8_wave_4 : decode cX8_wave 4 = .ok (.if_icmp .le 11, 3) := by decide +kernel
theorem dX8_wave_7 : decode cX8_wave 7 = .ok (.iload_n 1, 1) := by decide +kernel
theorem dX8_wave_8 : decode cX8_wave 8 = .ok (.sipush 18000, 3) := by decide +kernel
theorem dX8_wave_11 : decode cX8_wave 11 = .ok (.isub, 1) := by decide +kernel
theorem dX8_wave_12 : decode cX8_wave 12 = .ok (.goto 4, 3) := by decide +kernel
theorem dX8_wave_15 : decode cX8_wave 15 = .ok (.iload_n 1, 1) := by decide +kernel
theorem dX8_wave_16 : decode cX8_wave 16 = .ok (.istore_n 2, 1) := by decide +kernel
theorem dX8_wave_17 : decode cX8_wave 17 = .ok (.aload_n 0, 1) := by decide +kernel
theorem dX8_wave_18 : decode cX8_wave 18 = .ok (.iload_n 2, 1) := by decide +kernel
theorem dX8_wave_19 : decode cX8_wave 19 = .ok (.sipush 9000, 3) := by decide +kernel
theorem dX8_wave_22 : decode cX8_wave 22 = .ok (.if_icmp .le 11, 3) := by decide +kernel
theorem dX8_wave_25 : decode cX8_wave 25 = .ok (.sipush 18000, 3) := by decide +kernel
theorem dX8_wave_28 : decode cX8_wave 28 = .ok (.iload_n 2, 1) := by decide +kernel
theorem dX8_wave_29 : decode cX8_wave 29 = .ok (.isub, 1) := by decide +kernel
theorem dX8_wave_30 : decode cX8_wave 30 = .ok (.goto 4, 3) := by decide +kernel
theorem dX8_wave_33 : decode cX8_wave 33 = .ok (.iload_n 2, 1) := by decide +kernel
theorem dX8_wave_34 : decode cX8_wave 34 = .ok (.invokevirtual 134, 3) := by decide +kernel
theorem dX8_wave_37 : decode cX8_wave 37 = .ok (.istore_n 3, 1) := by decide +kernel
theorem dX8_wave_38 : decode cX8_wave 38 = .ok (.iload_n 1, 1) := by decide +kernel
theorem dX8_wave_39 : decode cX8_wave 39 = .ok (.sipush 18000, 3) := by decide +kernel
theorem dX8_wave_42 : decode cX8_wave 42 = .ok (.if_icmp .le 8, 3) := by decide +kernel
theorem dX8_wave_45 : decode cX8_wave 45 = .ok (.iload_n 3, 1) := by decide +kernel
theorem dX8_wave_46 : decode cX8_wave 46 = .ok (.ineg, 1) := by decide +kernel
theorem dX8_wave_47 : decode cX8_wave 47 = .ok (.goto 4, 3) := by decide +kernel
theorem dX8_wave_50 : decode cX8_wave 50 = .ok (.iload_n 3, 1) := by decide +kernel
theorem dX8_wave_51 : decode cX8_wave 51 = .ok (.ireturn, 1) := by decide +kernel
theorem dX8_timeOf_0 : decode cX8_timeOf 0 = .ok (.ldc2_w 138, 3) := by decide +kernel
theorem dX8_timeOf_3 : decode cX8_timeOf 3 = .ok (.iload_n 1, 1) := by decide +kernel
theorem dX8_timeOf_4 : decode cX8_timeOf 4 = .ok (.i2l, 1) := by decide +kernel
theorem dX8_timeOf_5 : decode cX8_timeOf 5 = .ok (.lmul, 1) := by decide +kernel
theorem dX8_timeOf_6 : decode cX8_timeOf 6 = .ok (.ldc2_w 140, 3) := by decide +kernel
theorem dX8_timeOf_9 : decode cX8_timeOf 9 = .ok (.ldiv, 1) := by decide +kernel
theorem dX8_timeOf_10 : decode cX8_timeOf 10 = .ok (.ldc2_w 142, 3) := by decide +kernel
theorem dX8_timeOf_13 : decode cX8_timeOf 13 = .ok (.aload_n 0, 1) := by decide +kernel
theorem dX8_timeOf_14 : decode cX8_timeOf 14 = .ok (.aload_n 0, 1) := by decide +kernel
theorem dX8_timeOf_15 : decode cX8_timeOf 15 = .ok (.iload_n 1, 1) := by decide +kernel
theorem dX8_timeOf_16 : decode cX8_timeOf 16 = .ok (.invokevirtual 144, 3) := by decide +kernel
theorem dX8_timeOf_19 : decode cX8_timeOf 19 = .ok (.invokevirtual 147, 3) := by decide +kernel
theorem dX8_timeOf_22 : decode cX8_timeOf 22 = .ok (.i2l, 1) := by decide +kernel
theorem dX8_timeOf_23 : decode cX8_timeOf 23 = .ok (.lmul, 1) := by decide +kernel
theorem dX8_timeOf_24 : decode cX8_timeOf 24 = .ok (.ldc2_w 150, 3) := by decide +kernel
theorem dX8_timeOf_27 : decode cX8_timeOf 27 = .ok (.invokestatic 152, 3) := by decide +kernel
theorem dX8_timeOf_30 : decode cX8_timeOf 30 = .ok (.lsub, 1) := by decide +kernel
theorem dX8_timeOf_31 : decode cX8_timeOf 31 = .ok (.ldc2_w 156, 3) := by decide +kernel
theorem dX8_timeOf_34 : decode cX8_timeOf 34 = .ok (.aload_n 0, 1) := by decide +kernel
theorem dX8_timeOf_35 : decode cX8_timeOf 35 = .ok (.aload_n 0, 1) := by decide +kernel
theorem dX8_timeOf_36 : decode cX8_timeOf 36 = .ok (.iload_n 1, 1) := by decide +kernel
theorem dX8_timeOf_37 : decode cX8_timeOf 37 = .ok (.invokevirtual 158, 3) := by decide +kernel
theorem dX8_timeOf_40 : decode cX8_timeOf 40 = .ok (.invokevirtual 147, 3) := by decide +kernel
theorem dX8_timeOf_43 : decode cX8_timeOf 43 = .ok (.i2l, 1) := by decide +kernel
theorem dX8_timeOf_44 : decode cX8_timeOf 44 = .ok (.lmul, 1) := by decide +kernel
theorem dX8_timeOf_45 : decode cX8_timeOf 45 = .ok (.ldc2_w 150, 3) := by decide +kernel
theorem dX8_timeOf_48 : decode cX8_timeOf 48 = .ok (.invokestatic 152, 3) := by decide +kernel
theorem dX8_timeOf_51 : decode cX8_timeOf 51 = .ok (.ladd, 1) := by decide +kernel
theorem dX8_timeOf_52 : decode cX8_timeOf 52 = .ok (.ldc2_w 150, 3) := by decide +kernel
theorem dX8_timeOf_55 : decode cX8_timeOf 55 = .ok (.ladd, 1) := by decide +kernel
theorem dX8_timeOf_56 : decode cX8_timeOf 56 = .ok (.l2i, 1) := by decide +kernel
theorem dX8_timeOf_57 : decode cX8_timeOf 57 = .ok (.ireturn, 1) := by decide +kernel
theorem dX8_sortOf_0 : decode cX8_sortOf 0 = .ok (.aload_n 0, 1) := by decide +kernel
theorem dX8_sortOf_1 : decode cX8_sortOf 1 = .ok (.iload_n 1, 1) := by decide +kernel
theorem dX8_sortOf_2 : decode cX8_sortOf 2 = .ok (.invokevirtual 161, 3) := by decide +kernel
theorem dX8_sortOf_5 : decode cX8_sortOf 5 = .ok (.istore_n 2, 1) := by decide +kernel
theorem dX8_sortOf_6 : decode cX8_sortOf 6 = .ok (.iload_n 2, 1) := by decide +kernel
theorem dX8_sortOf_7 : decode cX8_sortOf 7 = .ok (.sipush 18000, 3) := by decide +kernel
theorem dX8_sortOf_10 : decode cX8_sortOf 10 = .ok (.irem, 1) := by decide +kernel
theorem dX8_sortOf_11 : decode cX8_sortOf 11 = .ok (.istore_n 3, 1) := by decide +kernel
theorem dX8_sortOf_12 : decode cX8_sortOf 12 = .ok (.iload_n 3, 1) := by decide +kernel
theorem dX8_sortOf_13 : decode cX8_sortOf 13 = .ok (.sipush 9000, 3) := by decide +kernel
theorem dX8_sortOf_16 : decode cX8_sortOf 16 = .ok (.if_icmp .le 9, 3) := by decide +kernel
theorem dX8_sortOf_19 : decode cX8_sortOf 19 = .ok (.sipush 18000, 3) := by decide +kernel
theorem dX8_sortOf_22 : decode cX8_sortOf 22 = .ok (.iload_n 3, 1) := by decide +kernel
theorem dX8_sortOf_23 : decode cX8_sortOf 23 = .ok (.isub, 1) := by decide +kernel
theorem dX8_sortOf_24 : decode cX8_sortOf 24 = .ok (.istore_n 3, 1) := by decide +kernel
theorem dX8_sortOf_25 : decode cX8_sortOf 25 = .ok (.iload_n 1, 1) := by decide +kernel
theorem dX8_sortOf_26 : decode cX8_sortOf 26 = .ok (.iconst 2, 1) := by decide +kernel
theorem dX8_sortOf_27 : decode cX8_sortOf 27 = .ok (.irem, 1) := by decide +kernel
theorem dX8_sortOf_28 : decode cX8_sortOf 28 = .ok (.iconst 1, 1) := by decide +kernel
theorem dX8_sortOf_29 : decode cX8_sortOf 29 = .ok (.if_icmp .ne 27, 3) := by decide +kernel
theorem dX8_sortOf_32 : decode cX8_sortOf 32 = .ok (.iload_n 3, 1) := by decide +kernel
theorem dX8_sortOf_33 : decode cX8_sortOf 33 = .ok (.sipush 480, 3) := by decide +kernel
theorem dX8_sortOf_36 : decode cX8_sortOf 36 = .ok (.if_icmp .gt 7, 3) := by decide +kernel
theorem dX8_sortOf_39 : decode cX8_sortOf 39 = .ok (.iconst 4, 1) := by decide +kernel
theorem dX8_sortOf_40 : decode cX8_sortOf 40 = .ok (.goto 15, 3) := by decide +kernel
theorem dX8_sortOf_43 : decode cX8_sortOf 43 = .ok (.iload_n 3, 1) := by decide +kernel
theorem dX8_sortOf_44 : decode cX8_sortOf 44 = .ok (.sipush 1080, 3) := by decide +kernel
theorem dX8_sortOf_47 : decode cX8_sortOf 47 = .ok (.if_icmp .gt 7, 3) := by decide +kernel
theorem dX8_sortOf_50 : decode cX8_sortOf 50 = .ok (.iconst 5, 1) := by decide +kernel
theorem dX8_sortOf_51 : decode cX8_sortOf 51 = .ok (.goto 4, 3) := by decide +kernel
theorem dX8_sortOf_54 : decode cX8_sortOf 54 = .ok (.iconst 0, 1) := by decide +kernel
theorem dX8_sortOf_55 : decode cX8_sortOf 55 = .ok (.ireturn, 1) := by decide +kernel
theorem dX8_sortOf_56 : decode cX8_sortOf 56 = .ok (.aload_n 0, 1) := by decide +kernel
theorem dX8_sortOf_57 : decode cX8_sortOf 57 = .ok (.iload_n 1, 1) := by decide +kernel
theorem dX8_sortOf_58 : decode cX8_sortOf 58 = .ok (.invokevirtual 144, 3) := by decide +kernel
theorem dX8_sortOf_61 : decode cX8_sortOf 61 = .ok (.istore 4, 2) := by decide +kernel
theorem dX8_sortOf_63 : decode cX8_sortOf 63 = .ok (.iload_n 3, 1) := by decide +kernel
theorem dX8_sortOf_64 : decode cX8_sortOf 64 = .ok (.sipush 1000, 3) := by decide +kernel
theorem dX8_sortOf_67 : decode cX8_sortOf 67 = .ok (.if_icmp .gt 27, 3) := by decide +kernel
theorem dX8_sortOf_70 : decode cX8_sortOf 70 = .ok (.iload 4, 2) := by decide +kernel
theorem dX8_sortOf_72 : decode cX8_sortOf 72 = .ok (.sipush 9000, 3) := by decide +kernel
theorem dX8_sortOf_75 : decode cX8_sortOf 75 = .ok (.if_icmp .lt 11, 3) := by decide +kernel
theorem dX8_sortOf_78 : decode cX8_sortOf 78 = .ok (.iload 4, 2) := by decide +kernel
theorem dX8_sortOf_80 : decode cX8_sortOf 80 = .ok (.sipush 27000, 3) := by decide +kernel
theorem dX8_sortOf_83 : decode cX8_sortOf 83 = .ok (.if_icmp .lt 7, 3) := by decide +kernel
theorem dX8_sortOf_86 : decode cX8_sortOf 86 = .ok (.iconst 1, 1) := by decide +kernel
theorem dX8_sortOf_87 : decode cX8_sortOf 87 = .ok (.goto 19, 3) := by decide +kernel
theorem dX8_sortOf_90 : decode cX8_sortOf 90 = .ok (.iconst 2, 1) := by decide +kernel
theorem dX8_sortOf_91 : decode cX8_sortOf 91 = .ok (.goto 15, 3) := by decide +kernel
theorem dX8_sortOf_94 : decode cX8_sortOf 94 = .ok (.iload_n 3, 1) := by decide +kernel
theorem dX8_sortOf_95 : decode cX8_sortOf 95 = .ok (.sipush 1550, 3) := by decide +kernel
theorem dX8_sortOf_98 : decode cX8_sortOf 98 = .ok (.if_icmp .gt 7, 3) := by decide +kernel
theorem dX8_sortOf_101 : decode cX8_sortOf 101 = .ok (.iconst 3, 1) := by decide +kernel
theorem dX8_sortOf_102 : decode cX8_sortOf 102 = .ok (.goto 4, 3) := by decide +kernel
theorem dX8_sortOf_105 : decode cX8_sortOf 105 = .ok (.iconst 0, 1) := by decide +kernel
theorem dX8_sortOf_106 : decode cX8_sortOf 106 = .ok (.ireturn, 1) := by decide +kernel
theorem dX8_isMoon_0 : decode cX8_isMoon 0 = .ok (.iload_n 0, 1) := by decide +kernel
theorem dX8_isMoon_1 : decode cX8_isMoon 1 = .ok (.ifCond .lt 14, 3) := by decide +kernel
theorem dX8_isMoon_4 : decode cX8_isMoon 4 = .ok (.iload_n 0, 1) := by decide +kernel
theorem dX8_isMoon_5 : decode cX8_isMoon 5 = .ok (.sipush 12000, 3) := by decide +kernel
theorem dX8_isMoon_8 : decode cX8_isMoon 8 = .ok (.if_icmp .gt 7, 3) := by decide +kernel
theorem dX8_isMoon_11 : decode cX8_isMoon 11 = .ok (.iconst 1, 1) := by decide +kernel
theorem dX8_isMoon_12 : decode cX8_isMoon 12 = .ok (.goto 4, 3) := by decide +kernel
theorem dX8_isMoon_15 : decode cX8_isMoon 15 = .ok (.iconst 0, 1) := by decide +kernel
theorem dX8_isMoon_16 : decode cX8_isMoon 16 = .ok (.ireturn, 1) := by decide +kernel
theorem dX8_moon_0 : decode cX8_moon 0 = .ok (.iload_n 1, 1) := by decide +kernel
theorem dX8_moon_1 : decode cX8_moon 1 = .ok (.invokestatic 164, 3) := by decide +kernel
theorem dX8_moon_4 : decode cX8_moon 4 = .ok (.ifCond .ne 5, 3) := by decide +kernel
theorem dX8_moon_7 : decode cX8_moon 7 = .ok (.iconst (-1), 1) := by decide +kernel
theorem dX8_moon_8 : decode cX8_moon 8 = .ok (.ireturn, 1) := by decide +kernel
theorem dX8_moon_9 : decode cX8_moon 9 = .ok (.iload_n 2, 1) := by decide +kernel
theorem dX8_moon_10 : decode cX8_moon 10 = .ok (.tableswitch 64 0 4 #[34, 40, 46, 52, 58], 34) := by decide +kernel
theorem dX8_moon_44 : decode cX8_moon 44 = .ok (.aload_n 0, 1) := by decide +kernel
theorem dX8_moon_45 : decode cX8_moon 45 = .ok (.iload_n 1, 1) := by decide +kernel
theorem dX8_moon_46 : decode cX8_moon 46 = .ok (.invokevirtual 144, 3) := by decide +kernel
theorem dX8_moon_49 : decode cX8_moon 49 = .ok (.ireturn, 1) := by decide +kernel
theorem dX8_moon_50 : decode cX8_moon 50 = .ok (.aload_n 0, 1) := by decide +kernel
theorem dX8_moon_51 : decode cX8_moon 51 = .ok (.iload_n 1, 1) := by decide +kernel
theorem dX8_moon_52 : decode cX8_moon 52 = .ok (.invokevirtual 158, 3) := by decide +kernel
theorem dX8_moon_55 : decode cX8_moon 55 = .ok (.ireturn, 1) := by decide +kernel
theorem dX8_moon_56 : decode cX8_moon 56 = .ok (.aload_n 0, 1) := by decide +kernel
theorem dX8_moon_57 : decode cX8_moon 57 = .ok (.iload_n 1, 1) := by decide +kernel
theorem dX8_moon_58 : decode cX8_moon 58 = .ok (.invokevirtual 161, 3) := by decide +kernel
theorem dX8_moon_61 : decode cX8_moon 61 = .ok (.ireturn, 1) := by decide +kernel
theorem dX8_moon_62 : decode cX8_moon 62 = .ok (.aload_n 0, 1) := by decide +kernel
theorem dX8_moon_63 : decode cX8_moon 63 = .ok (.iload_n 1, 1) := by decide +kernel
theorem dX8_moon_64 : decode cX8_moon 64 = .ok (.invokevirtual 168, 3) := by decide +kernel
theorem dX8_moon_67 : decode cX8_moon 67 = .ok (.ireturn, 1) := by decide +kernel
theorem dX8_moon_68 : decode cX8_moon 68 = .ok (.aload_n 0, 1) := by decide +kernel
theorem dX8_moon_69 : decode cX8_moon 69 = .ok (.iload_n 1, 1) := by decide +kernel
theorem dX8_moon_70 : decode cX8_moon 70 = .ok (.invokevirtual 171, 3) := by decide +kernel
theorem dX8_moon_73 : decode cX8_moon 73 = .ok (.ireturn, 1) := by decide +kernel
theorem dX8_moon_74 : decode cX8_moon 74 = .ok (.iconst (-1), 1) := by decide +kernel
theorem dX8_moon_75 : decode cX8_moon 75 = .ok (.ireturn, 1) := by decide +kernel
theorem dX8_notes_0 : decode cX8_notes 0 = .ok (.aload_n 0, 1) := by decide +kernel
theorem dX8_notes_1 : decode cX8_notes 1 = .ok (.getfield 120, 3) := by decide +kernel
theorem dX8_notes_4 : decode cX8_notes 4 = .ok (.ifCond .eq 4, 3) := by decide +kernel
theorem dX8_notes_7 : decode cX8_notes 7 = .ok (.return_, 1) := by decide +kernel
theorem dX8_notes_8 : decode cX8_notes 8 = .ok (.aload_n 0, 1) := by decide +kernel
theorem dX8_notes_9 : decode cX8_notes 9 = .ok (.iconst 1, 1) := by decide +kernel
theorem dX8_notes_10 : decode cX8_notes 10 = .ok (.putfield 120, 3) := by decide +kernel
theorem dX8_notes_13 : decode cX8_notes 13 = .ok (.aload_n 0, 1) := by decide +kernel
theorem dX8_notes_14 : decode cX8_notes 14 = .ok (.iconst 0, 1) := by decide +kernel
theorem dX8_notes_15 : decode cX8_notes 15 = .ok (.putfield 174, 3) := by decide +kernel
theorem dX8_notes_18 : decode cX8_notes 18 = .ok (.iconst 0, 1) := by decide +kernel
theorem dX8_notes_19 : decode cX8_notes 19 = .ok (.istore_n 1, 1) := by decide +kernel
theorem dX8_notes_20 : decode cX8_notes 20 = .ok (.iload_n 1, 1) := by decide +kernel
theorem dX8_notes_21 : decode cX8_notes 21 = .ok (.sipush 12000, 3) := by decide +kernel
theorem dX8_notes_24 : decode cX8_notes 24 = .ok (.if_icmp .gt 66, 3) := by decide +kernel
theorem dX8_notes_27 : decode cX8_notes 27 = .ok (.aload_n 0, 1) := by decide +kernel
theorem dX8_notes_28 : decode cX8_notes 28 = .ok (.iload_n 1, 1) := by decide +kernel
theorem dX8_notes_29 : decode cX8_notes 29 = .ok (.invokevirtual 171, 3) := by decide +kernel
theorem dX8_notes_32 : decode cX8_notes 32 = .ok (.istore_n 2, 1) := by decide +kernel
theorem dX8_notes_33 : decode cX8_notes 33 = .ok (.iload_n 2, 1) := by decide +kernel
theorem dX8_notes_34 : decode cX8_notes 34 = .ok (.ifCond .ne 6, 3) := by decide +kernel
theorem dX8_notes_37 : decode cX8_notes 37 = .ok (.goto 47, 3) := by decide +kernel
theorem dX8_notes_40 : decode cX8_notes 40 = .ok (.aload_n 0, 1) := by decide +kernel
theorem dX8_notes_41 : decode cX8_notes 41 = .ok (.getfield 16, 3) := by decide +kernel
theorem dX8_notes_44 : decode cX8_notes 44 = .ok (.aload_n 0, 1) := by decide +kernel
theorem dX8_notes_45 : decode cX8_notes 45 = .ok (.getfield 174, 3) := by decide +kernel
theorem dX8_notes_48 : decode cX8_notes 48 = .ok (.iload_n 1, 1) := by decide +kernel
theorem dX8_notes_49 : decode cX8_notes 49 = .ok (.iastore, 1) := by decide +kernel
theorem dX8_notes_50 : decode cX8_notes 50 = .ok (.aload_n 0, 1) := by decide +kernel
theorem dX8_notes_51 : decode cX8_notes 51 = .ok (.getfield 20, 3) := by decide +kernel
theorem dX8_notes_54 : decode cX8_notes 54 = .ok (.aload_n 0, 1) := by decide +kernel
theorem dX8_notes_55 : decode cX8_notes 55 = .ok (.getfield 174, 3) := by decide +kernel
theorem dX8_notes_58 : decode cX8_notes 58 = .ok (.iload_n 2, 1) := by decide +kernel
theorem dX8_notes_59 : decode cX8_notes 59 = .ok (.iastore, 1) := by decide +kernel
theorem dX8_notes_60 : decode cX8_notes 60 = .ok (.aload_n 0, 1) := by decide +kernel
theorem dX8_notes_61 : decode cX8_notes 61 = .ok (.getfield 23, 3) := by decide +kernel
theorem dX8_notes_64 : decode cX8_notes 64 = .ok (.aload_n 0, 1) := by decide +kernel
theorem dX8_notes_65 : decode cX8_notes 65 = .ok (.getfield 174, 3) := by decide +kernel
theorem dX8_notes_68 : decode cX8_notes 68 = .ok (.aload_n 0, 1) := by decide +kernel
theorem dX8_notes_69 : decode cX8_notes 69 = .ok (.iload_n 1, 1) := by decide +kernel
theorem dX8_notes_70 : decode cX8_notes 70 = .ok (.invokevirtual 168, 3) := by decide +kernel
theorem dX8_notes_73 : decode cX8_notes 73 = .ok (.iastore, 1) := by decide +kernel
theorem dX8_notes_74 : decode cX8_notes 74 = .ok (.aload_n 0, 1) := by decide +kernel
theorem dX8_notes_75 : decode cX8_notes 75 = .ok (.dup, 1) := by decide +kernel
theorem dX8_notes_76 : decode cX8_notes 76 = .ok (.getfield 174, 3) := by decide +kernel
theorem dX8_notes_79 : decode cX8_notes 79 = .ok (.iconst 1, 1) := by decide +kernel
theorem dX8_notes_80 : decode cX8_notes 80 = .ok (.iadd, 1) := by decide +kernel
theorem dX8_notes_81 : decode cX8_notes 81 = .ok (.putfield 174, 3) := by decide +kernel
theorem dX8_notes_84 : decode cX8_notes 84 = .ok (.iinc 1 1, 3) := by decide +kernel
theorem dX8_notes_87 : decode cX8_notes 87 = .ok (.goto (-67), 3) := by decide +kernel
theorem dX8_notes_90 : decode cX8_notes 90 = .ok (.return_, 1) := by decide +kernel
theorem dX8_next_0 : decode cX8_next 0 = .ok (.iload_n 1, 1) := by decide +kernel
theorem dX8_next_1 : decode cX8_next 1 = .ok (.invokestatic 164, 3) := by decide +kernel
theorem dX8_next_4 : decode cX8_next 4 = .ok (.ifCond .eq 8, 3) := by decide +kernel
theorem dX8_next_7 : decode cX8_next 7 = .ok (.iload_n 2, 1) := by decide +kernel
theorem dX8_next_8 : decode cX8_next 8 = .ok (.iconst 1, 1) := by decide +kernel
theorem dX8_next_9 : decode cX8_next 9 = .ok (.if_icmp .ge 5, 3) := by decide +kernel
theorem dX8_next_12 : decode cX8_next 12 = .ok (.iconst (-1), 1) := by decide +kernel
theorem dX8_next_13 : decode cX8_next 13 = .ok (.ireturn, 1) := by decide +kernel
theorem dX8_next_14 : decode cX8_next 14 = .ok (.aload_n 0, 1) := by decide +kernel
theorem dX8_next_15 : decode cX8_next 15 = .ok (.invokevirtual 177, 3) := by decide +kernel
theorem dX8_next_18 : decode cX8_next 18 = .ok (.iload_n 2, 1) := by decide +kernel
theorem dX8_next_19 : decode cX8_next 19 = .ok (.istore 4, 2) := by decide +kernel
theorem dX8_next_21 : decode cX8_next 21 = .ok (.iconst 0, 1) := by decide +kernel
theorem dX8_next_22 : decode cX8_next 22 = .ok (.istore 5, 2) := by decide +kernel
theorem dX8_next_24 : decode cX8_next 24 = .ok (.iload 5, 2) := by decide +kernel
theorem dX8_next_26 : decode cX8_next 26 = .ok (.aload_n 0, 1) := by decide +kernel
theorem dX8_next_27 : decode cX8_next 27 = .ok (.getfield 174, 3) := by decide +kernel
theorem dX8_next_30 : decode cX8_next 30 = .ok (.if_icmp .ge 53, 3) := by decide +kernel
theorem dX8_next_33 : decode cX8_next 33 = .ok (.aload_n 0, 1) := by decide +kernel
theorem dX8_next_34 : decode cX8_next 34 = .ok (.getfield 16, 3) := by decide +kernel
theorem dX8_next_37 : decode cX8_next 37 = .ok (.iload 5, 2) := by decide +kernel
theorem dX8_next_39 : decode cX8_next 39 = .ok (.iaload, 1) := by decide +kernel
theorem dX8_next_40 : decode cX8_next 40 = .ok (.iload_n 1, 1) := by decide +kernel
theorem dX8_next_41 : decode cX8_next 41 = .ok (.if_icmp .lt 36, 3) := by decide +kernel
theorem dX8_next_44 : decode cX8_next 44 = .ok (.iload_n 3, 1) := by decide +kernel
theorem dX8_next_45 : decode cX8_next 45 = .ok (.aload_n 0, 1) := by decide +kernel
theorem dX8_next_46 : decode cX8_next 46 = .ok (.getfield 20, 3) := by decide +kernel
theorem dX8_next_49 : decode cX8_next 49 = .ok (.iload 5, 2) := by decide +kernel
theorem dX8_next_51 : decode cX8_next 51 = .ok (.iaload, 1) := by decide +kernel
theorem dX8_next_52 : decode cX8_next 52 = .ok (.ishr, 1) := by decide +kernel
theorem dX8_next_53 : decode cX8_next 53 = .ok (.iconst 1, 1) := by decide +kernel
theorem dX8_next_54 : decode cX8_next 54 = .ok (.iand, 1) := by decide +kernel
theorem dX8_next_55 : decode cX8_next 55 = .ok (.ifCond .ne 6, 3) := by decide +kernel
theorem dX8_next_58 : decode cX8_next 58 = .ok (.goto 19, 3) := by decide +kernel
theorem dX8_next_61 : decode cX8_next 61 = .ok (.iinc 4 (-1), 3) := by decide +kernel
theorem dX8_next_64 : decode cX8_next 64 = .ok (.iload 4, 2) := by decide +kernel
theorem dX8_next_66 : decode cX8_next 66 = .ok (.ifCond .ne 11, 3) := by decide +kernel
theorem dX8_next_69 : decode cX8_next 69 = .ok (.aload_n 0, 1) := by decide +kernel
theorem dX8_next_70 : decode cX8_next 70 = .ok (.getfield 16, 3) := by decide +kernel
theorem dX8_next_73 : decode cX8_next 73 = .ok (.iload 5, 2) := by decide +kernel
theorem dX8_next_75 : decode cX8_next 75 = .ok (.iaload, 1) := by decide +kernel
theorem dX8_next_76 : decode cX8_next 76 = .ok (.ireturn, 1) := by decide +kernel
theorem dX8_next_77 : decode cX8_next 77 = .ok (.iinc 5 1, 3) := by decide +kernel
theorem dX8_next_80 : decode cX8_next 80 = .ok (.goto (-56), 3) := by decide +kernel
theorem dX8_next_83 : decode cX8_next 83 = .ok (.iconst (-1), 1) := by decide +kernel
theorem dX8_next_84 : decode cX8_next 84 = .ok (.ireturn, 1) := by decide +kernel
theorem dX8_many_0 : decode cX8_many 0 = .ok (.iload_n 1, 1) := by decide +kernel
theorem dX8_many_1 : decode cX8_many 1 = .ok (.invokestatic 164, 3) := by decide +kernel
theorem dX8_many_4 : decode cX8_many 4 = .ok (.ifCond .eq 15, 3) := by decide +kernel
theorem dX8_many_7 : decode cX8_many 7 = .ok (.iload_n 2, 1) := by decide +kernel
theorem dX8_many_8 : decode cX8_many 8 = .ok (.invokestatic 164, 3) := by decide +kernel
theorem dX8_many_11 : decode cX8_many 11 = .ok (.ifCond .eq 8, 3) := by decide +kernel
theorem dX8_many_14 : decode cX8_many 14 = .ok (.iload_n 1, 1) := by decide +kernel
theorem dX8_many_15 : decode cX8_many 15 = .ok (.iload_n 2, 1) := by decide +kernel
theorem dX8_many_16 : decode cX8_many 16 = .ok (.if_icmp .le 5, 3) := by decide +kernel
theorem dX8_many_19 : decode cX8_many 19 = .ok (.iconst (-1), 1) := by decide +kernel
theorem dX8_many_20 : decode cX8_many 20 = .ok (.ireturn, 1) := by decide +kernel
theorem dX8_many_21 : decode cX8_many 21 = .ok (.aload_n 0, 1) := by decide +kernel
theorem dX8_many_22 : decode cX8_many 22 = .ok (.invokevirtual 177, 3) := by decide +kernel
theorem dX8_many_25 : decode cX8_many 25 = .ok (.iconst 0, 1) := by decide +kernel
theorem dX8_many_26 : decode cX8_many 26 = .ok (.istore 4, 2) := by decide +kernel
theorem dX8_many_28 : decode cX8_many 28 = .ok (.iconst 0, 1) := by decide +kernel
theorem dX8_many_29 : decode cX8_many 29 = .ok (.istore 5, 2) := by decide +kernel
theorem dX8_many_31 : decode cX8_many 31 = .ok (.iload 5, 2) := by decide +kernel
theorem dX8_many_33 : decode cX8_many 33 = .ok (.aload_n 0, 1) := by decide +kernel
theorem dX8_many_34 : decode cX8_many 34 = .ok (.getfield 174, 3) := by decide +kernel
theorem dX8_many_37 : decode cX8_many 37 = .ok (.if_icmp .ge 49, 3) := by decide +kernel
theorem dX8_many_40 : decode cX8_many 40 = .ok (.aload_n 0, 1) := by decide +kernel
theorem dX8_many_41 : decode cX8_many 41 = .ok (.getfield 16, 3) := by decide +kernel
theorem dX8_many_44 : decode cX8_many 44 = .ok (.iload 5, 2) := by decide +kernel
theorem dX8_many_46 : decode cX8_many 46 = .ok (.iaload, 1) := by decide +kernel
theorem dX8_many_47 : decode cX8_many 47 = .ok (.iload_n 1, 1) := by decide +kernel
theorem dX8_many_48 : decode cX8_many 48 = .ok (.if_icmp .lt 32, 3) := by decide +kernel
theorem dX8_many_51 : decode cX8_many 51 = .ok (.aload_n 0, 1) := by decide +kernel
theorem dX8_many_52 : decode cX8_many 52 = .ok (.getfield 16, 3) := by decide +kernel
theorem dX8_many_55 : decode cX8_many 55 = .ok (.iload 5, 2) := by decide +kernel
theorem dX8_many_57 : decode cX8_many 57 = .ok (.iaload, 1) := by decide +kernel
theorem dX8_many_58 : decode cX8_many 58 = .ok (.iload_n 2, 1) := by decide +kernel
theorem dX8_many_59 : decode cX8_many 59 = .ok (.if_icmp .gt 21, 3) := by decide +kernel
theorem dX8_many_62 : decode cX8_many 62 = .ok (.iload_n 3, 1) := by decide +kernel
theorem dX8_many_63 : decode cX8_many 63 = .ok (.aload_n 0, 1) := by decide +kernel
theorem dX8_many_64 : decode cX8_many 64 = .ok (.getfield 20, 3) := by decide +kernel
theorem dX8_many_67 : decode cX8_many 67 = .ok (.iload 5, 2) := by decide +kernel
theorem dX8_many_69 : decode cX8_many 69 = .ok (.iaload, 1) := by decide +kernel
theorem dX8_many_70 : decode cX8_many 70 = .ok (.ishr, 1) := by decide +kernel
theorem dX8_many_71 : decode cX8_many 71 = .ok (.iconst 1, 1) := by decide +kernel
theorem dX8_many_72 : decode cX8_many 72 = .ok (.iand, 1) := by decide +kernel
theorem dX8_many_73 : decode cX8_many 73 = .ok (.iconst 1, 1) := by decide +kernel
theorem dX8_many_74 : decode cX8_many 74 = .ok (.if_icmp .ne 6, 3) := by decide +kernel
theorem dX8_many_77 : decode cX8_many 77 = .ok (.iinc 4 1, 3) := by decide +kernel
theorem dX8_many_80 : decode cX8_many 80 = .ok (.iinc 5 1, 3) := by decide +kernel
theorem dX8_many_83 : decode cX8_many 83 = .ok (.goto (-52), 3) := by decide +kernel
theorem dX8_many_86 : decode cX8_many 86 = .ok (.iload 4, 2) := by decide +kernel
theorem dX8_many_88 : decode cX8_many 88 = .ok (.ireturn, 1) := by decide +kernel
theorem dX8_round_0 : decode cX8_round 0 = .ok (.iload_n 1, 1) := by decide +kernel
theorem dX8_round_1 : decode cX8_round 1 = .ok (.invokestatic 164, 3) := by decide +kernel
theorem dX8_round_4 : decode cX8_round 4 = .ok (.ifCond .eq 11, 3) := by decide +kernel
theorem dX8_round_7 : decode cX8_round 7 = .ok (.aload_n 0, 1) := by decide +kernel
theorem dX8_round_8 : decode cX8_round 8 = .ok (.iload_n 1, 1) := by decide +kernel
theorem dX8_round_9 : decode cX8_round 9 = .ok (.invokevirtual 171, 3) := by decide +kernel
theorem dX8_round_12 : decode cX8_round 12 = .ok (.ifCond .ne 5, 3) := by decide +kernel
theorem dX8_round_15 : decode cX8_round 15 = .ok (.iconst (-1), 1) := by decide +kernel
theorem dX8_round_16 : decode cX8_round 16 = .ok (.ireturn, 1) := by decide +kernel
theorem dX8_round_17 : decode cX8_round 17 = .ok (.iload_n 1, 1) := by decide +kernel
theorem dX8_round_18 : decode cX8_round 18 = .ok (.istore_n 3, 1) := by decide +kernel
theorem dX8_round_19 : decode cX8_round 19 = .ok (.iload_n 3, 1) := by decide +kernel
theorem dX8_round_20 : decode cX8_round 20 = .ok (.sipush 446, 3) := by decide +kernel
theorem dX8_round_23 : decode cX8_round 23 = .ok (.if_icmp .lt 24, 3) := by decide +kernel
theorem dX8_round_26 : decode cX8_round 26 = .ok (.aload_n 0, 1) := by decide +kernel
theorem dX8_round_27 : decode cX8_round 27 = .ok (.iload_n 3, 1) := by decide +kernel
theorem dX8_round_28 : decode cX8_round 28 = .ok (.sipush 446, 3) := by decide +kernel
theorem dX8_round_31 : decode cX8_round 31 = .ok (.isub, 1) := by decide +kernel
theorem dX8_round_32 : decode cX8_round 32 = .ok (.invokevirtual 171, 3) := by decide +kernel
theorem dX8_round_35 : decode cX8_round 35 = .ok (.ifCond .eq 12, 3) := by decide +kernel
theorem dX8_round_38 : decode cX8_round 38 = .ok (.iinc 3 (-446), 6) := by decide +kernel
theorem dX8_round_44 : decode cX8_round 44 = .ok (.goto (-25), 3) := by decide +kernel
theorem dX8_round_47 : decode cX8_round 47 = .ok (.iload_n 1, 1) := by decide +kernel
theorem dX8_round_48 : decode cX8_round 48 = .ok (.istore 4, 2) := by decide +kernel
theorem dX8_round_50 : decode cX8_round 50 = .ok (.iload 4, 2) := by decide +kernel
theorem dX8_round_52 : decode cX8_round 52 = .ok (.sipush 446, 3) := by decide +kernel
theorem dX8_round_55 : decode cX8_round 55 = .ok (.iadd, 1) := by decide +kernel
theorem dX8_round_56 : decode cX8_round 56 = .ok (.sipush 12000, 3) := by decide +kernel
theorem dX8_round_59 : decode cX8_round 59 = .ok (.if_icmp .gt 25, 3) := by decide +kernel
theorem dX8_round_62 : decode cX8_round 62 = .ok (.aload_n 0, 1) := by decide +kernel
theorem dX8_round_63 : decode cX8_round 63 = .ok (.iload 4, 2) := by decide +kernel
theorem dX8_round_65 : decode cX8_round 65 = .ok (.sipush 446, 3) := by decide +kernel
theorem dX8_round_68 : decode cX8_round 68 = .ok (.iadd, 1) := by decide +kernel
theorem dX8_round_69 : decode cX8_round 69 = .ok (.invokevirtual 171, 3) := by decide +kernel
theorem dX8_round_72 : decode cX8_round 72 = .ok (.ifCond .eq 12, 3) := by decide +kernel
theorem dX8_round_75 : decode cX8_round 75 = .ok (.iinc 4 446, 6) := by decide +kernel
theorem dX8_round_81 : decode cX8_round 81 = .ok (.goto (-31), 3) := by decide +kernel
theorem dX8_round_84 : decode cX8_round 84 = .ok (.iload_n 2, 1) := by decide +kernel
theorem dX8_round_85 : decode cX8_round 85 = .ok (.tableswitch 57 0 3 #[31, 33, 36, 47], 31) := by decide +kernel
theorem dX8_round_116 : decode cX8_round 116 = .ok (.iload_n 3, 1) := by decide +kernel
theorem dX8_round_117 : decode cX8_round 117 = .ok (.ireturn, 1) := by decide +kernel
theorem dX8_round_118 : decode cX8_round 118 = .ok (.iload 4, 2) := by decide +kernel
theorem dX8_round_120 : decode cX8_round 120 = .ok (.ireturn, 1) := by decide +kernel
theorem dX8_round_121 : decode cX8_round 121 = .ok (.iload 4, 2) := by decide +kernel
theorem dX8_round_123 : decode cX8_round 123 = .ok (.iload_n 3, 1) := by decide +kernel
theorem dX8_round_124 : decode cX8_round 124 = .ok (.isub, 1) := by decide +kernel
theorem dX8_round_125 : decode cX8_round 125 = .ok (.sipush 446, 3) := by decide +kernel
theorem dX8_round_128 : decode cX8_round 128 = .ok (.idiv, 1) := by decide +kernel
theorem dX8_round_129 : decode cX8_round 129 = .ok (.iconst 1, 1) := by decide +kernel
theorem dX8_round_130 : decode cX8_round 130 = .ok (.iadd, 1) := by decide +kernel
theorem dX8_round_131 : decode cX8_round 131 = .ok (.ireturn, 1) := by decide +kernel
theorem dX8_round_132 : decode cX8_round 132 = .ok (.iload_n 1, 1) := by decide +kernel
theorem dX8_round_133 : decode cX8_round 133 = .ok (.iload_n 3, 1) := by decide +kernel
theorem dX8_round_134 : decode cX8_round 134 = .ok (.isub, 1) := by decide +kernel
theorem dX8_round_135 : decode cX8_round 135 = .ok (.sipush 446, 3) := by decide +kernel
theorem dX8_round_138 : decode cX8_round 138 = .ok (.idiv, 1) := by decide +kernel
theorem dX8_round_139 : decode cX8_round 139 = .ok (.iconst 1, 1) := by decide +kernel
theorem dX8_round_140 : decode cX8_round 140 = .ok (.iadd, 1) := by decide +kernel
theorem dX8_round_141 : decode cX8_round 141 = .ok (.ireturn, 1) := by decide +kernel
theorem dX8_round_142 : decode cX8_round 142 = .ok (.iconst (-1), 1) := by decide +kernel
theorem dX8_round_143 : decode cX8_round 143 = .ok (.ireturn, 1) := by decide +kernel
theorem dX8_isLong_0 : decode cX8_isLong 0 = .ok (.iload_n 0, 1) := by decide +kernel
theorem dX8_isLong_1 : decode cX8_isLong 1 = .ok (.iconst 1, 1) := by decide +kernel
theorem dX8_isLong_2 : decode cX8_isLong 2 = .ok (.if_icmp .ne 17, 3) := by decide +kernel
theorem dX8_isLong_5 : decode cX8_isLong 5 = .ok (.iload_n 1, 1) := by decide +kernel
theorem dX8_isLong_6 : decode cX8_isLong 6 = .ok (.iconst 4, 1) := by decide +kernel
theorem dX8_isLong_7 : decode cX8_isLong 7 = .ok (.irem, 1) := by decide +kernel
theorem dX8_isLong_8 : decode cX8_isLong 8 = .ok (.ifCond .ne 7, 3) := by decide +kernel
theorem dX8_isLong_11 : decode cX8_isLong 11 = .ok (.iconst 1, 1) := by decide +kernel
theorem dX8_isLong_12 : decode cX8_isLong 12 = .ok (.goto 31, 3) := by decide +kernel
theorem dX8_isLong_15 : decode cX8_isLong 15 = .ok (.iconst 0, 1) := by decide +kernel
theorem dX8_isLong_16 : decode cX8_isLong 16 = .ok (.goto 27, 3) := by decide +kernel
theorem dX8_isLong_19 : decode cX8_isLong 19 = .ok (.iload_n 0, 1) := by decide +kernel
theorem dX8_isLong_20 : decode cX8_isLong 20 = .ok (.iconst 2, 1) := by decide +kernel
theorem dX8_isLong_21 : decode cX8_isLong 21 = .ok (.if_icmp .ne 21, 3) := by decide +kernel
theorem dX8_isLong_24 : decode cX8_isLong 24 = .ok (.bipush 7, 2) := by decide +kernel
theorem dX8_isLong_26 : decode cX8_isLong 26 = .ok (.iload_n 1, 1) := by decide +kernel
theorem dX8_isLong_27 : decode cX8_isLong 27 = .ok (.imul, 1) := by decide +kernel
theorem dX8_isLong_28 : decode cX8_isLong 28 = .ok (.iconst 1, 1) := by decide +kernel
theorem dX8_isLong_29 : decode cX8_isLong 29 = .ok (.iadd, 1) := by decide +kernel
theorem dX8_isLong_30 : decode cX8_isLong 30 = .ok (.bipush 19, 2) := by decide +kernel
theorem dX8_isLong_32 : decode cX8_isLong 32 = .ok (.irem, 1) := by decide +kernel
theorem dX8_isLong_33 : decode cX8_isLong 33 = .ok (.bipush 7, 2) := by decide +kernel
theorem dX8_isLong_35 : decode cX8_isLong 35 = .ok (.if_icmp .ge 7, 3) := by decide +kernel
theorem dX8_isLong_38 : decode cX8_isLong 38 = .ok (.iconst 1, 1) := by decide +kernel
theorem dX8_isLong_39 : decode cX8_isLong 39 = .ok (.goto 4, 3) := by decide +kernel
theorem dX8_isLong_42 : decode cX8_isLong 42 = .ok (.iconst 0, 1) := by decide +kernel
theorem dX8_isLong_43 : decode cX8_isLong 43 = .ok (.ireturn, 1) := by decide +kernel
theorem dX8_yearDays_0 : decode cX8_yearDays 0 = .ok (.iload_n 0, 1) := by decide +kernel
theorem dX8_yearDays_1 : decode cX8_yearDays 1 = .ok (.ifCond .ne 7, 3) := by decide +kernel
theorem dX8_yearDays_4 : decode cX8_yearDays 4 = .ok (.sipush 365, 3) := by decide +kernel
theorem dX8_yearDays_7 : decode cX8_yearDays 7 = .ok (.ireturn, 1) := by decide +kernel
theorem dX8_yearDays_8 : decode cX8_yearDays 8 = .ok (.iload_n 0, 1) := by decide +kernel
theorem dX8_yearDays_9 : decode cX8_yearDays 9 = .ok (.iconst 1, 1) := by decide +kernel
theorem dX8_yearDays_10 : decode cX8_yearDays 10 = .ok (.if_icmp .ne 21, 3) := by decide +kernel
theorem dX8_yearDays_13 : decode cX8_yearDays 13 = .ok (.iload_n 0, 1) := by decide +kernel
theorem dX8_yearDays_14 : decode cX8_yearDays 14 = .ok (.iload_n 1, 1) := by decide +kernel
theorem dX8_yearDays_15 : decode cX8_yearDays 15 = .ok (.invokestatic 180, 3) := by decide +kernel
theorem dX8_yearDays_18 : decode cX8_yearDays 18 = .ok (.ifCond .eq 9, 3) := by decide +kernel
theorem dX8_yearDays_21 : decode cX8_yearDays 21 = .ok (.sipush 366, 3) := by decide +kernel
theorem dX8_yearDays_24 : decode cX8_yearDays 24 = .ok (.goto 6, 3) := by decide +kernel
theorem dX8_yearDays_27 : decode cX8_yearDays 27 = .ok (.sipush 365, 3) := by decide +kernel
theorem dX8_yearDays_30 : decode cX8_yearDays 30 = .ok (.ireturn, 1) := by decide +kernel
theorem dX8_yearDays_31 : decode cX8_yearDays 31 = .ok (.iload_n 0, 1) := by decide +kernel
theorem dX8_yearDays_32 : decode cX8_yearDays 32 = .ok (.iload_n 1, 1) := by decide +kernel
theorem dX8_yearDays_33 : decode cX8_yearDays 33 = .ok (.invokestatic 180, 3) := by decide +kernel
theorem dX8_yearDays_36 : decode cX8_yearDays 36 = .ok (.ifCond .eq 9, 3) := by decide +kernel
theorem dX8_yearDays_39 : decode cX8_yearDays 39 = .ok (.sipush 384, 3) := by decide +kernel
theorem dX8_yearDays_42 : decode cX8_yearDays 42 = .ok (.goto 6, 3) := by decide +kernel
theorem dX8_yearDays_45 : decode cX8_yearDays 45 = .ok (.sipush 354, 3) := by decide +kernel
theorem dX8_yearDays_48 : decode cX8_yearDays 48 = .ok (.ireturn, 1) := by decide +kernel
theorem dX8_monthDays_0 : decode cX8_monthDays 0 = .ok (.iload_n 3, 1) := by decide +kernel
theorem dX8_monthDays_1 : decode cX8_monthDays 1 = .ok (.iconst 1, 1) := by decide +kernel
theorem dX8_monthDays_2 : decode cX8_monthDays 2 = .ok (.if_icmp .lt 9, 3) := by decide +kernel
theorem dX8_monthDays_5 : decode cX8_monthDays 5 = .ok (.iload_n 3, 1) := by decide +kernel
theorem dX8_monthDays_6 : decode cX8_monthDays 6 = .ok (.bipush 13, 2) := by decide +kernel
theorem dX8_monthDays_8 : decode cX8_monthDays 8 = .ok (.if_icmp .le 5, 3) := by decide +kernel
theorem dX8_monthDays_11 : decode cX8_monthDays 11 = .ok (.iconst 0, 1) := by decide +kernel
theorem dX8_monthDays_12 : decode cX8_monthDays 12 = .ok (.ireturn, 1) := by decide +kernel
theorem dX8_monthDays_13 : decode cX8_monthDays 13 = .ok (.iload_n 1, 1) := by decide +kernel
theorem dX8_monthDays_14 : decode cX8_monthDays 14 = .ok (.ifCond .ne 16, 3) := by decide +kernel
theorem dX8_monthDays_17 : decode cX8_monthDays 17 = .ok (.iload_n 3, 1) := by decide +kernel
theorem dX8_monthDays_18 : decode cX8_monthDays 18 = .ok (.bipush 13, 2) := by decide +kernel
theorem dX8_monthDays_20 : decode cX8_monthDays 20 = .ok (.if_icmp .ne 7, 3) := by decide +kernel
theorem dX8_monthDays_23 : decode cX8_monthDays 23 = .ok (.iconst 5, 1) := by decide +kernel
theorem dX8_monthDays_24 : decode cX8_monthDays 24 = .ok (.goto 5, 3) := by decide +kernel
theorem dX8_monthDays_27 : decode cX8_monthDays 27 = .ok (.bipush 30, 2) := by decide +kernel
theorem dX8_monthDays_29 : decode cX8_monthDays 29 = .ok (.ireturn, 1) := by decide +kernel
theorem dX8_monthDays_30 : decode cX8_monthDays 30 = .ok (.iload_n 1, 1) := by decide +kernel
theorem dX8_monthDays_31 : decode cX8_monthDays 31 = .ok (.iconst 1, 1) := by decide +kernel
theorem dX8_monthDays_32 : decode cX8_monthDays 32 = .ok (.if_icmp .ne 40, 3) := by decide +kernel
theorem dX8_monthDays_35 : decode cX8_monthDays 35 = .ok (.iload_n 3, 1) := by decide +kernel
theorem dX8_monthDays_36 : decode cX8_monthDays 36 = .ok (.bipush 13, 2) := by decide +kernel
theorem dX8_monthDays_38 : decode cX8_monthDays 38 = .ok (.if_icmp .ne 7, 3) := by decide +kernel
theorem dX8_monthDays_41 : decode cX8_monthDays 41 = .ok (.iconst 0, 1) := by decide +kernel
theorem dX8_monthDays_42 : decode cX8_monthDays 42 = .ok (.goto 29, 3) := by decide +kernel
theorem dX8_monthDays_45 : decode cX8_monthDays 45 = .ok (.iload_n 3, 1) := by decide +kernel
theorem dX8_monthDays_46 : decode cX8_monthDays 46 = .ok (.iconst 2, 1) := by decide +kernel
theorem dX8_monthDays_47 : decode cX8_monthDays 47 = .ok (.if_icmp .ne 16, 3) := by decide +kernel
theorem dX8_monthDays_50 : decode cX8_monthDays 50 = .ok (.iload_n 1, 1) := by decide +kernel
theorem dX8_monthDays_51 : decode cX8_monthDays 51 = .ok (.iload_n 2, 1) := by decide +kernel
theorem dX8_monthDays_52 : decode cX8_monthDays 52 = .ok (.invokestatic 180, 3) := by decide +kernel
theorem dX8_monthDays_55 : decode cX8_monthDays 55 = .ok (.ifCond .eq 8, 3) := by decide +kernel
theorem dX8_monthDays_58 : decode cX8_monthDays 58 = .ok (.bipush 29, 2) := by decide +kernel
theorem dX8_monthDays_60 : decode cX8_monthDays 60 = .ok (.goto 11, 3) := by decide +kernel
theorem dX8_monthDays_63 : decode cX8_monthDays 63 = .ok (.aload_n 0, 1) := by decide +kernel
theorem dX8_monthDays_64 : decode cX8_monthDays 64 = .ok (.getfield 29, 3) := by decide +kernel
theorem dX8_monthDays_67 : decode cX8_monthDays 67 = .ok (.iload_n 3, 1) := by decide +kernel
theorem dX8_monthDays_68 : decode cX8_monthDays 68 = .ok (.iconst 1, 1) := by decide +kernel
theorem dX8_monthDays_69 : decode cX8_monthDays 69 = .ok (.isub, 1) := by decide +kernel
theorem dX8_monthDays_70 : decode cX8_monthDays 70 = .ok (.iaload, 1) := by decide +kernel
theorem dX8_monthDays_71 : decode cX8_monthDays 71 = .ok (.ireturn, 1) := by decide +kernel
theorem dX8_monthDays_72 : decode cX8_monthDays 72 = .ok (.iload_n 3, 1) := by decide +kernel
theorem dX8_monthDays_73 : decode cX8_monthDays 73 = .ok (.bipush 13, 2) := by decide +kernel
theorem dX8_monthDays_75 : decode cX8_monthDays 75 = .ok (.if_icmp .ne 20, 3) := by decide +kernel
theorem dX8_monthDays_78 : decode cX8_monthDays 78 = .ok (.iload_n 1, 1) := by decide +kernel
theorem dX8_monthDays_79 : decode cX8_monthDays 79 = .ok (.iload_n 2, 1) := by decide +kernel
theorem dX8_monthDays_80 : decode cX8_monthDays 80 = .ok (.invokestatic 180, 3) := by decide +kernel
theorem dX8_monthDays_83 : decode cX8_monthDays 83 = .ok (.ifCond .eq 8, 3) := by decide +kernel
theorem dX8_monthDays_86 : decode cX8_monthDays 86 = .ok (.bipush 30, 2) := by decide +kernel
theorem dX8_monthDays_88 : decode cX8_monthDays 88 = .ok (.goto 21, 3) := by decide +kernel
theorem dX8_monthDays_91 : decode cX8_monthDays 91 = .ok (.iconst 0, 1) := by decide +kernel
theorem dX8_monthDays_92 : decode cX8_monthDays 92 = .ok (.goto 17, 3) := by decide +kernel
theorem dX8_monthDays_95 : decode cX8_monthDays 95 = .ok (.iload_n 3, 1) := by decide +kernel
theorem dX8_monthDays_96 : decode cX8_monthDays 96 = .ok (.iconst 2, 1) := by decide +kernel
theorem dX8_monthDays_97 : decode cX8_monthDays 97 = .ok (.irem, 1) := by decide +kernel
theorem dX8_monthDays_98 : decode cX8_monthDays 98 = .ok (.iconst 1, 1) := by decide +kernel
theorem dX8_monthDays_99 : decode cX8_monthDays 99 = .ok (.if_icmp .ne 8, 3) := by decide +kernel
theorem dX8_monthDays_102 : decode cX8_monthDays 102 = .ok (.bipush 30, 2) := by decide +kernel
theorem dX8_monthDays_104 : decode cX8_monthDays 104 = .ok (.goto 5, 3) := by decide +kernel
theorem dX8_monthDays_107 : decode cX8_monthDays 107 = .ok (.bipush 29, 2) := by decide +kernel
theorem dX8_monthDays_109 : decode cX8_monthDays 109 = .ok (.ireturn, 1) := by decide +kernel
theorem dX8_dates_0 : decode cX8_dates 0 = .ok (.iload_n 2, 1) := by decide +kernel
theorem dX8_dates_1 : decode cX8_dates 1 = .ok (.ifCond .ne 7, 3) := by decide +kernel
theorem dX8_dates_4 : decode cX8_dates 4 = .ok (.iconst 1, 1) := by decide +kernel
theorem dX8_dates_5 : decode cX8_dates 5 = .ok (.goto 14, 3) := by decide +kernel
theorem dX8_dates_8 : decode cX8_dates 8 = .ok (.iload_n 2, 1) := by decide +kernel
theorem dX8_dates_9 : decode cX8_dates 9 = .ok (.iconst 1, 1) := by decide +kernel
theorem dX8_dates_10 : decode cX8_dates 10 = .ok (.if_icmp .ne 7, 3) := by decide +kernel
theorem dX8_dates_13 : decode cX8_dates 13 = .ok (.iconst 4, 1) := by decide +kernel
theorem dX8_dates_14 : decode cX8_dates 14 = .ok (.goto 5, 3) := by decide +kernel
theorem dX8_dates_17 : decode cX8_dates 17 = .ok (.bipush 19, 2) := by decide +kernel
theorem dX8_dates_19 : decode cX8_dates 19 = .ok (.istore_n 3, 1) := by decide +kernel
theorem dX8_dates_20 : decode cX8_dates 20 = .ok (.iload_n 2, 1) := by decide +kernel
theorem dX8_dates_21 : decode cX8_dates 21 = .ok (.ifCond .ne 9, 3) := by decide +kernel
theorem dX8_dates_24 : decode cX8_dates 24 = .ok (.sipush 365, 3) := by decide +kernel
theorem dX8_dates_27 : decode cX8_dates 27 = .ok (.goto 17, 3) := by decide +kernel
theorem dX8_dates_30 : decode cX8_dates 30 = .ok (.iload_n 2, 1) := by decide +kernel
theorem dX8_dates_31 : decode cX8_dates 31 = .ok (.iconst 1, 1) := by decide +kernel
theorem dX8_dates_32 : decode cX8_dates 32 = .ok (.if_icmp .ne 9, 3) := by decide +kernel
theorem dX8_dates_35 : decode cX8_dates 35 = .ok (.sipush 1461, 3) := by decide +kernel
theorem dX8_dates_38 : decode cX8_dates 38 = .ok (.goto 6, 3) := by decide +kernel
theorem dX8_dates_41 : decode cX8_dates 41 = .ok (.sipush 6936, 3) := by decide +kernel
theorem dX8_dates_44 : decode cX8_dates 44 = .ok (.istore 4, 2) := by decide +kernel
theorem dX8_dates_46 : decode cX8_dates 46 = .ok (.aload_n 0, 1) := by decide +kernel
theorem dX8_dates_47 : decode cX8_dates 47 = .ok (.iload_n 1, 1) := by decide +kernel
theorem dX8_dates_48 : decode cX8_dates 48 = .ok (.iload 4, 2) := by decide +kernel
theorem dX8_dates_50 : decode cX8_dates 50 = .ok (.idiv, 1) := by decide +kernel
theorem dX8_dates_51 : decode cX8_dates 51 = .ok (.iload_n 3, 1) := by decide +kernel
theorem dX8_dates_52 : decode cX8_dates 52 = .ok (.imul, 1) := by decide +kernel
theorem dX8_dates_53 : decode cX8_dates 53 = .ok (.putfield 184, 3) := by decide +kernel
theorem dX8_dates_56 : decode cX8_dates 56 = .ok (.iload_n 1, 1) := by decide +kernel
theorem dX8_dates_57 : decode cX8_dates 57 = .ok (.iload 4, 2) := by decide +kernel
theorem dX8_dates_59 : decode cX8_dates 59 = .ok (.irem, 1) := by decide +kernel
theorem dX8_dates_60 : decode cX8_dates 60 = .ok (.istore 5, 2) := by decide +kernel
theorem dX8_dates_62 : decode cX8_dates 62 = .ok (.iload 5, 2) := by decide +kernel
theorem dX8_dates_64 : decode cX8_dates 64 = .ok (.iload_n 2, 1) := by decide +kernel
theorem dX8_dates_65 : decode cX8_dates 65 = .ok (.aload_n 0, 1) := by decide +kernel
theorem dX8_dates_66 : decode cX8_dates 66 = .ok (.getfield 184, 3) := by decide +kernel
theorem dX8_dates_69 : decode cX8_dates 69 = .ok (.invokestatic 187, 3) := by decide +kernel
theorem dX8_dates_72 : decode cX8_dates 72 = .ok (.if_icmp .lt 29, 3) := by decide +kernel
theorem dX8_dates_75 : decode cX8_dates 75 = .ok (.iload 5, 2) := by decide +kernel
theorem dX8_dates_77 : decode cX8_dates 77 = .ok (.iload_n 2, 1) := by decide +kernel
theorem dX8_dates_78 : decode cX8_dates 78 = .ok (.aload_n 0, 1) := by decide +kernel
theorem dX8_dates_79 : decode cX8_dates 79 = .ok (.getfield 184, 3) := by decide +kernel
theorem dX8_dates_82 : decode cX8_dates 82 = .ok (.invokestatic 187, 3) := by decide +kernel
theorem dX8_dates_85 : decode cX8_dates 85 = .ok (.isub, 1) := by decide +kernel
theorem dX8_dates_86 : decode cX8_dates 86 = .ok (.istore 5, 2) := by decide +kernel
theorem dX8_dates_88 : decode cX8_dates 88 = .ok (.aload_n 0, 1) := by decide +kernel
theorem dX8_dates_89 : decode cX8_dates 89 = .ok (.dup, 1) := by decide +kernel
theorem dX8_dates_90 : decode cX8_dates 90 = .ok (.getfield 184, 3) := by decide +kernel
theorem dX8_dates_93 : decode cX8_dates 93 = .ok (.iconst 1, 1) := by decide +kernel
theorem dX8_dates_94 : decode cX8_dates 94 = .ok (.iadd, 1) := by decide +kernel
theorem dX8_dates_95 : decode cX8_dates 95 = .ok (.putfield 184, 3) := by decide +kernel
theorem dX8_dates_98 : decode cX8_dates 98 = .ok (.goto (-36), 3) := by decide +kernel
theorem dX8_dates_101 : decode cX8_dates 101 = .ok (.aload_n 0, 1) := by decide +kernel
theorem dX8_dates_102 : decode cX8_dates 102 = .ok (.iconst 1, 1) := by decide +kernel
theorem dX8_dates_103 : decode cX8_dates 103 = .ok (.putfield 191, 3) := by decide +kernel
theorem dX8_dates_106 : decode cX8_dates 106 = .ok (.iload 5, 2) := by decide +kernel
theorem dX8_dates_108 : decode cX8_dates 108 = .ok (.aload_n 0, 1) := by decide +kernel
theorem dX8_dates_109 : decode cX8_dates 109 = .ok (.iload_n 2, 1) := by decide +kernel
theorem dX8_dates_110 : decode cX8_dates 110 = .ok (.aload_n 0, 1) := by decide +kernel
theorem dX8_dates_111 : decode cX8_dates 111 = .ok (.getfield 184, 3) := by decide +kernel
theorem dX8_dates_114 : decode cX8_dates 114 = .ok (.aload_n 0, 1) := by decide +kernel
theorem dX8_dates_115 : decode cX8_dates 115 = .ok (.getfield 191, 3) := by decide +kernel
theorem dX8_dates_118 : decode cX8_dates 118 = .ok (.invokevirtual 194, 3) := by decide +kernel
theorem dX8_dates_121 : decode cX8_dates 121 = .ok (.if_icmp .lt 34, 3) := by decide +kernel
theorem dX8_dates_124 : decode cX8_dates 124 = .ok (.iload 5, 2) := by decide +kernel
theorem dX8_dates_126 : decode cX8_dates 126 = .ok (.aload_n 0, 1) := by decide +kernel
theorem dX8_dates_127 : decode cX8_dates 127 = .ok (.iload_n 2, 1) := by decide +kernel
theorem dX8_dates_128 : decode cX8_dates 128 = .ok (.aload_n 0, 1) := by decide +kernel
theorem dX8_dates_129 : decode cX8_dates 129 = .ok (.getfield 184, 3) := by decide +kernel
theorem dX8_dates_132 : decode cX8_dates 132 = .ok (.aload_n 0, 1) := by decide +kernel
theorem dX8_dates_133 : decode cX8_dates 133 = .ok (.getfield 191, 3) := by decide +kernel
theorem dX8_dates_136 : decode cX8_dates 136 = .ok (.invokevirtual 194, 3) := by decide +kernel
theorem dX8_dates_139 : decode cX8_dates 139 = .ok (.isub, 1) := by decide +kernel
theorem dX8_dates_140 : decode cX8_dates 140 = .ok (.istore 5, 2) := by decide +kernel
theorem dX8_dates_142 : decode cX8_dates 142 = .ok (.aload_n 0, 1) := by decide +kernel
theorem dX8_dates_143 : decode cX8_dates 143 = .ok (.dup, 1) := by decide +kernel
theorem dX8_dates_144 : decode cX8_dates 144 = .ok (.getfield 191, 3) := by decide +kernel
theorem dX8_dates_147 : decode cX8_dates 147 = .ok (.iconst 1, 1) := by decide +kernel
theorem dX8_dates_148 : decode cX8_dates 148 = .ok (.iadd, 1) := by decide +kernel
theorem dX8_dates_149 : decode cX8_dates 149 = .ok (.putfield 191, 3) := by decide +kernel
theorem dX8_dates_152 : decode cX8_dates 152 = .ok (.goto (-46), 3) := by decide +kernel
theorem dX8_dates_155 : decode cX8_dates 155 = .ok (.aload_n 0, 1) := by decide +kernel
theorem dX8_dates_156 : decode cX8_dates 156 = .ok (.iload 5, 2) := by decide +kernel
theorem dX8_dates_158 : decode cX8_dates 158 = .ok (.iconst 1, 1) := by decide +kernel
theorem dX8_dates_159 : decode cX8_dates 159 = .ok (.iadd, 1) := by decide +kernel
theorem dX8_dates_160 : decode cX8_dates 160 = .ok (.putfield 198, 3) := by decide +kernel
theorem dX8_dates_163 : decode cX8_dates 163 = .ok (.return_, 1) := by decide +kernel
theorem dX8_date_0 : decode cX8_date 0 = .ok (.iload_n 1, 1) := by decide +kernel
theorem dX8_date_1 : decode cX8_date 1 = .ok (.iconst 0, 1) := by decide +kernel
theorem dX8_date_2 : decode cX8_date 2 = .ok (.ldc 201, 2) := by decide +kernel
theorem dX8_date_4 : decode cX8_date 4 = .ok (.invokestatic 113, 3) := by decide +kernel
theorem dX8_date_7 : decode cX8_date 7 = .ok (.ifCond .eq 12, 3) := by decide +kernel
theorem dX8_date_10 : decode cX8_date 10 = .ok (.iload_n 2, 1) := by decide +kernel
theorem dX8_date_11 : decode cX8_date 11 = .ok (.iconst 0, 1) := by decide +kernel
theorem dX8_date_12 : decode cX8_date 12 = .ok (.iconst 2, 1) := by decide +kernel
theorem dX8_date_13 : decode cX8_date 13 = .ok (.invokestatic 113, 3) := by decide +kernel
theorem dX8_date_16 : decode cX8_date 16 = .ok (.ifCond .ne 5, 3) := by decide +kernel
theorem dX8_date_19 : decode cX8_date 19 = .ok (.iconst (-1), 1) := by decide +kernel
theorem dX8_date_20 : decode cX8_date 20 = .ok (.ireturn, 1) := by decide +kernel
theorem dX8_date_21 : decode cX8_date 21 = .ok (.aload_n 0, 1) := by decide +kernel
theorem dX8_date_22 : decode cX8_date 22 = .ok (.iload_n 1, 1) := by decide +kernel
theorem dX8_date_23 : decode cX8_date 23 = .ok (.iload_n 2, 1) := by decide +kernel
theorem dX8_date_24 : decode cX8_date 24 = .ok (.invokevirtual 202, 3) := by decide +kernel
theorem dX8_date_27 : decode cX8_date 27 = .ok (.iload_n 3, 1) := by decide +kernel
theorem dX8_date_28 : decode cX8_date 28 = .ok (.ifCond .ne 10, 3) := by decide +kernel
theorem dX8_date_31 : decode cX8_date 31 = .ok (.aload_n 0, 1) := by decide +kernel
theorem dX8_date_32 : decode cX8_date 32 = .ok (.getfield 184, 3) := by decide +kernel
theorem dX8_date_35 : decode cX8_date 35 = .ok (.goto 28, 3) := by decide +kernel
theorem dX8_date_38 : decode cX8_date 38 = .ok (.iload_n 3, 1) := by decide +kernel
theorem dX8_date_39 : decode cX8_date 39 = .ok (.iconst 1, 1) := by decide +kernel
theorem dX8_date_40 : decode cX8_date 40 = .ok (.if_icmp .ne 10, 3) := by decide +kernel
theorem dX8_date_43 : decode cX8_date 43 = .ok (.aload_n 0, 1) := by decide +kernel
theorem dX8_date_44 : decode cX8_date 44 = .ok (.getfield 191, 3) := by decide +kernel
theorem dX8_date_47 : decode cX8_date 47 = .ok (.goto 16, 3) := by decide +kernel
theorem dX8_date_50 : decode cX8_date 50 = .ok (.iload_n 3, 1) := by decide +kernel
theorem dX8_date_51 : decode cX8_date 51 = .ok (.iconst 2, 1) := by decide +kernel
theorem dX8_date_52 : decode cX8_date 52 = .ok (.if_icmp .ne 10, 3) := by decide +kernel
theorem dX8_date_55 : decode cX8_date 55 = .ok (.aload_n 0, 1) := by decide +kernel
theorem dX8_date_56 : decode cX8_date 56 = .ok (.getfield 198, 3) := by decide +kernel
theorem dX8_date_59 : decode cX8_date 59 = .ok (.goto 4, 3) := by decide +kernel
theorem dX8_date_62 : decode cX8_date 62 = .ok (.iconst (-1), 1) := by decide +kernel
theorem dX8_date_63 : decode cX8_date 63 = .ok (.ireturn, 1) := by decide +kernel
theorem dX8_day_0 : decode cX8_day 0 = .ok (.iload_n 1, 1) := by decide +kernel
theorem dX8_day_1 : decode cX8_day 1 = .ok (.iconst 0, 1) := by decide +kernel
theorem dX8_day_2 : decode cX8_day 2 = .ok (.iconst 2, 1) := by decide +kernel
theorem dX8_day_3 : decode cX8_day 3 = .ok (.invokestatic 113, 3) := by decide +kernel
theorem dX8_day_6 : decode cX8_day 6 = .ok (.ifCond .eq 32, 3) := by decide +kernel
theorem dX8_day_9 : decode cX8_day 9 = .ok (.iload_n 2, 1) := by decide +kernel
theorem dX8_day_10 : decode cX8_day 10 = .ok (.iconst 0, 1) := by decide +kernel
theorem dX8_day_11 : decode cX8_day 11 = .ok (.sipush 1100, 3) := by decide +kernel
theorem dX8_day_14 : decode cX8_day 14 = .ok (.invokestatic 113, 3) := by decide +kernel
theorem dX8_day_17 : decode cX8_day 17 = .ok (.ifCond .eq 21, 3) := by decide +kernel
theorem dX8_day_20 : decode cX8_day 20 = .ok (.iload 4, 2) := by decide +kernel
theorem dX8_day_22 : decode cX8_day 22 = .ok (.iconst 1, 1) := by decide +kernel
theorem dX8_day_23 : decode cX8_day 23 = .ok (.if_icmp .lt 15, 3) := by decide +kernel
theorem dX8_day_26 : decode cX8_day 26 = .ok (.iload 4, 2) := by decide +kernel
theorem dX8_day_28 : decode cX8_day 28 = .ok (.aload_n 0, 1) := by decide +kernel
theorem dX8_day_29 : decode cX8_day 29 = .ok (.iload_n 1, 1) := by decide +kernel
theorem dX8_day_30 : decode cX8_day 30 = .ok (.iload_n 2, 1) := by decide +kernel
theorem dX8_day_31 : decode cX8_day 31 = .ok (.iload_n 3, 1) := by decide +kernel
theorem dX8_day_32 : decode cX8_day 32 = .ok (.invokevirtual 194, 3) := by decide +kernel
theorem dX8_day_35 : decode cX8_day 35 = .ok (.if_icmp .le 5, 3) := by decide +kernel
theorem dX8_day_38 : decode cX8_day 38 = .ok (.iconst (-1), 1) := by decide +kernel
theorem dX8_day_39 : decode cX8_day 39 = .ok (.ireturn, 1) := by decide +kernel
theorem dX8_day_40 : decode cX8_day 40 = .ok (.iload 4, 2) := by decide +kernel
theorem dX8_day_42 : decode cX8_day 42 = .ok (.iconst 1, 1) := by decide +kernel
theorem dX8_day_43 : decode cX8_day 43 = .ok (.isub, 1) := by decide +kernel
theorem dX8_day_44 : decode cX8_day 44 = .ok (.istore 5, 2) := by decide +kernel
theorem dX8_day_46 : decode cX8_day 46 = .ok (.iconst 0, 1) := by decide +kernel
theorem dX8_day_47 : decode cX8_day 47 = .ok (.istore 6, 2) := by decide +kernel
theorem dX8_day_49 : decode cX8_day 49 = .ok (.iload 6, 2) := by decide +kernel
theorem dX8_day_51 : decode cX8_day 51 = .ok (.iload_n 2, 1) := by decide +kernel
theorem dX8_day_52 : decode cX8_day 52 = .ok (.if_icmp .ge 20, 3) := by decide +kernel
theorem dX8_day_55 : decode cX8_day 55 = .ok (.iload 5, 2) := by decide +kernel
theorem dX8_day_57 : decode cX8_day 57 = .ok (.iload_n 1, 1) := by decide +kernel
theorem dX8_day_58 : decode cX8_day 58 = .ok (.iload 6, 2) := by decide +kernel
theorem dX8_day_60 : decode cX8_day 60 = .ok (.invokestatic 187, 3) := by decide +kernel
theorem dX8_day_63 : decode cX8_day 63 = .ok (.iadd, 1) := by decide +kernel
theorem dX8_day_64 : decode cX8_day 64 = .ok (.istore 5, 2) := by decide +kernel
theorem dX8_day_66 : decode cX8_day 66 = .ok (.iinc 6 1, 3) := by decide +kernel
theorem dX8_day_69 : decode cX8_day 69 = .ok (.goto (-20), 3) := by decide +kernel
theorem dX8_day_72 : decode cX8_day 72 = .ok (.iconst 1, 1) := by decide +kernel
theorem dX8_day_73 : decode cX8_day 73 = .ok (.istore 6, 2) := by decide +kernel
theorem dX8_day_75 : decode cX8_day 75 = .ok (.iload 6, 2) := by decide +kernel
theorem dX8_day_77 : decode cX8_day 77 = .ok (.iload_n 3, 1) := by decide +kernel
theorem dX8_day_78 : decode cX8_day 78 = .ok (.if_icmp .ge 22, 3) := by decide +kernel
theorem dX8_day_81 : decode cX8_day 81 = .ok (.iload 5, 2) := by decide +kernel
theorem dX8_day_83 : decode cX8_day 83 = .ok (.aload_n 0, 1) := by decide +kernel
theorem dX8_day_84 : decode cX8_day 84 = .ok (.iload_n 1, 1) := by decide +kernel
theorem dX8_day_85 : decode cX8_day 85 = .ok (.iload_n 2, 1) := by decide +kernel
theorem dX8_day_86 : decode cX8_day 86 = .ok (.iload 6, 2) := by decide +kernel
theorem dX8_day_88 : decode cX8_day 88 = .ok (.invokevirtual 194, 3) := by decide +kernel
theorem dX8_day_91 : decode cX8_day 91 = .ok (.iadd, 1) := by decide +kernel
theorem dX8_day_92 : decode cX8_day 92 = .ok (.istore 5, 2) := by decide +kernel
theorem dX8_day_94 : decode cX8_day 94 = .ok (.iinc 6 1, 3) := by decide +kernel
theorem dX8_day_97 : decode cX8_day 97 = .ok (.goto (-22), 3) := by decide +kernel
theorem dX8_day_100 : decode cX8_day 100 = .ok (.iload 5, 2) := by decide +kernel
theorem dX8_day_102 : decode cX8_day 102 = .ok (.ireturn, 1) := by decide +kernel
theorem dX8_seenAt_0 : decode cX8_seenAt 0 = .ok (.iload_n 0, 1) := by decide +kernel
theorem dX8_seenAt_1 : decode cX8_seenAt 1 = .ok (.ldc 206, 2) := by decide +kernel
theorem dX8_seenAt_3 : decode cX8_seenAt 3 = .ok (.idiv, 1) := by decide +kernel
theorem dX8_seenAt_4 : decode cX8_seenAt 4 = .ok (.istore_n 3, 1) := by decide +kernel
theorem dX8_seenAt_5 : decode cX8_seenAt 5 = .ok (.iload_n 0, 1) := by decide +kernel
theorem dX8_seenAt_6 : decode cX8_seenAt 6 = .ok (.iload_n 1, 1) := by decide +kernel
theorem dX8_seenAt_7 : decode cX8_seenAt 7 = .ok (.iadd, 1) := by decide +kernel
theorem dX8_seenAt_8 : decode cX8_seenAt 8 = .ok (.iload_n 2, 1) := by decide +kernel
theorem dX8_seenAt_9 : decode cX8_seenAt 9 = .ok (.iload_n 3, 1) := by decide +kernel
theorem dX8_seenAt_10 : decode cX8_seenAt 10 = .ok (.imul, 1) := by decide +kernel
theorem dX8_seenAt_11 : decode cX8_seenAt 11 = .ok (.iload_n 3, 1) := by decide +kernel
theorem dX8_seenAt_12 : decode cX8_seenAt 12 = .ok (.imul, 1) := by decide +kernel
theorem dX8_seenAt_13 : decode cX8_seenAt 13 = .ok (.sipush 10000, 3) := by decide +kernel
theorem dX8_seenAt_16 : decode cX8_seenAt 16 = .ok (.idiv, 1) := by decide +kernel
theorem dX8_seenAt_17 : decode cX8_seenAt 17 = .ok (.iadd, 1) := by decide +kernel
theorem dX8_seenAt_18 : decode cX8_seenAt 18 = .ok (.ireturn, 1) := by decide +kernel
theorem dX8_seen_0 : decode cX8_seen 0 = .ok (.iload_n 1, 1) := by decide +kernel
theorem dX8_seen_1 : decode cX8_seen 1 = .ok (.invokestatic 164, 3) := by decide +kernel
theorem dX8_seen_4 : decode cX8_seen 4 = .ok (.ifCond .eq 39, 3) := by decide +kernel
theorem dX8_seen_7 : decode cX8_seen 7 = .ok (.iload_n 2, 1) := by decide +kernel
theorem dX8_seen_8 : decode cX8_seen 8 = .ok (.sipush (-720), 3) := by decide +kernel
theorem dX8_seen_11 : decode cX8_seen 11 = .ok (.sipush 720, 3) := by decide +kernel
theorem dX8_seen_14 : decode cX8_seen 14 = .ok (.invokestatic 113, 3) := by decide +kernel
theorem dX8_seen_17 : decode cX8_seen 17 = .ok (.ifCond .eq 26, 3) := by decide +kernel
theorem dX8_seen_20 : decode cX8_seen 20 = .ok (.iload_n 3, 1) := by decide +kernel
theorem dX8_seen_21 : decode cX8_seen 21 = .ok (.iconst 0, 1) := by decide +kernel
theorem dX8_seen_22 : decode cX8_seen 22 = .ok (.bipush 60, 2) := by decide +kernel
theorem dX8_seen_24 : decode cX8_seen 24 = .ok (.invokestatic 113, 3) := by decide +kernel
theorem dX8_seen_27 : decode cX8_seen 27 = .ok (.ifCond .eq 16, 3) := by decide +kernel
theorem dX8_seen_30 : decode cX8_seen 30 = .ok (.aload_n 0, 1) := by decide +kernel
theorem dX8_seen_31 : decode cX8_seen 31 = .ok (.iload_n 1, 1) := by decide +kernel
theorem dX8_seen_32 : decode cX8_seen 32 = .ok (.invokevirtual 168, 3) := by decide +kernel
theorem dX8_seen_35 : decode cX8_seen 35 = .ok (.iload_n 2, 1) := by decide +kernel
theorem dX8_seen_36 : decode cX8_seen 36 = .ok (.iload_n 3, 1) := by decide +kernel
theorem dX8_seen_37 : decode cX8_seen 37 = .ok (.invokestatic 207, 3) := by decide +kernel
theorem dX8_seen_40 : decode cX8_seen 40 = .ok (.goto 5, 3) := by decide +kernel
theorem dX8_seen_43 : decode cX8_seen 43 = .ok (.ldc 210, 2) := by decide +kernel
theorem dX8_seen_45 : decode cX8_seen 45 = .ok (.ireturn, 1) := by decide +kernel
theorem dX8_feed_0 : decode cX8_feed 0 = .ok (.aload_n 0, 1) := by decide +kernel
theorem dX8_feed_1 : decode cX8_feed 1 = .ok (.getfield 211, 3) := by decide +kernel
theorem dX8_feed_4 : decode cX8_feed 4 = .ok (.bipush 20, 2) := by decide +kernel
theorem dX8_feed_6 : decode cX8_feed 6 = .ok (.iadd, 1) := by decide +kernel
theorem dX8_feed_7 : decode cX8_feed 7 = .ok (.sipush 200, 3) := by decide +kernel
theorem dX8_feed_10 : decode cX8_feed 10 = .ok (.if_icmp .le 5, 3) := by decide +kernel
theorem dX8_feed_13 : decode cX8_feed 13 = .ok (.iconst (-1), 1) := by decide +kernel
theorem dX8_feed_14 : decode cX8_feed 14 = .ok (.ireturn, 1) := by decide +kernel
theorem dX8_feed_15 : decode cX8_feed 15 = .ok (.iconst 0, 1) := by decide +kernel
theorem dX8_feed_16 : decode cX8_feed 16 = .ok (.istore 6, 2) := by decide +kernel
theorem dX8_feed_18 : decode cX8_feed 18 = .ok (.iload 6, 2) := by decide +kernel
theorem dX8_feed_20 : decode cX8_feed 20 = .ok (.bipush 20, 2) := by decide +kernel
theorem dX8_feed_22 : decode cX8_feed 22 = .ok (.if_icmp .ge 92, 3) := by decide +kernel
theorem dX8_feed_25 : decode cX8_feed 25 = .ok (.iload 6, 2) := by decide +kernel
theorem dX8_feed_27 : decode cX8_feed 27 = .ok (.iconst 4, 1) := by decide +kernel
theorem dX8_feed_28 : decode cX8_feed 28 = .ok (.if_icmp .ge 7, 3) := by decide +kernel
theorem dX8_feed_31 : decode cX8_feed 31 = .ok (.iload_n 1, 1) := by decide +kernel
theorem dX8_feed_32 : decode cX8_feed 32 = .ok (.goto 39, 3) := by decide +kernel
theorem dX8_feed_35 : decode cX8_feed 35 = .ok (.iload 6, 2) := by decide +kernel
theorem dX8_feed_37 : decode cX8_feed 37 = .ok (.bipush 8, 2) := by decide +kernel
theorem dX8_feed_39 : decode cX8_feed 39 = .ok (.if_icmp .ge 7, 3) := by decide +kernel
theorem dX8_feed_42 : decode cX8_feed 42 = .ok (.iload_n 2, 1) := by decide +kernel
theorem dX8_feed_43 : decode cX8_feed 43 = .ok (.goto 28, 3) := by decide +kernel
theorem dX8_feed_46 : decode cX8_feed 46 = .ok (.iload 6, 2) := by decide +kernel
theorem dX8_feed_48 : decode cX8_feed 48 = .ok (.bipush 12, 2) := by decide +kernel
theorem dX8_feed_50 : decode cX8_feed 50 = .ok (.if_icmp .ge 7, 3) := by decide +kernel
theorem dX8_feed_53 : decode cX8_feed 53 = .ok (.iload_n 3, 1) := by decide +kernel
theorem dX8_feed_54 : decode cX8_feed 54 = .ok (.goto 17, 3) := by decide +kernel
theorem dX8_feed_57 : decode cX8_feed 57 = .ok (.iload 6, 2) := by decide +kernel
theorem dX8_feed_59 : decode cX8_feed 59 = .ok (.bipush 16, 2) := by decide +kernel
theorem dX8_feed_61 : decode cX8_feed 61 = .ok (.if_icmp .ge 8, 3) := by decide +kernel
theorem dX8_feed_64 : decode cX8_feed 64 = .ok (.iload 4, 2) := by decide +kernel
theorem dX8_feed_66 : decode cX8_feed 66 = .ok (.goto 5, 3) := by decide +kernel
theorem dX8_feed_69 : decode cX8_feed 69 = .ok (.iload 5, 2) := by decide +kernel
theorem dX8_feed_71 : decode cX8_feed 71 = .ok (.istore 7, 2) := by decide +kernel
theorem dX8_feed_73 : decode cX8_feed 73 = .ok (.aload_n 0, 1) := by decide +kernel
theorem dX8_feed_74 : decode cX8_feed 74 = .ok (.getfield 32, 3) := by decide +kernel
theorem dX8_feed_77 : decode cX8_feed 77 = .ok (.aload_n 0, 1) := by decide +kernel
theorem dX8_feed_78 : decode cX8_feed 78 = .ok (.getfield 211, 3) := by decide +kernel
theorem dX8_feed_81 : decode cX8_feed 81 = .ok (.iload 7, 2) := by decide +kernel
theorem dX8_feed_83 : decode cX8_feed 83 = .ok (.bipush 8, 2) := by decide +kernel
theorem dX8_feed_85 : decode cX8_feed 85 = .ok (.iconst 3, 1) := by decide +kernel
theorem dX8_feed_86 : decode cX8_feed 86 = .ok (.iload 6, 2) := by decide +kernel
theorem dX8_feed_88 : decode cX8_feed 88 = .ok (.iconst 4, 1) := by decide +kernel
theorem dX8_feed_89 : decode cX8_feed 89 = .ok (.irem, 1) := by decide +kernel
theorem dX8_feed_90 : decode cX8_feed 90 = .ok (.isub, 1) := by decide +kernel
theorem dX8_feed_91 : decode cX8_feed 91 = .ok (.imul, 1) := by decide +kernel
theorem dX8_feed_92 : decode cX8_feed 92 = .ok (.ishr, 1) := by decide +kernel
theorem dX8_feed_93 : decode cX8_feed 93 = .ok (.sipush 255, 3) := by decide +kernel
theorem dX8_feed_96 : decode cX8_feed 96 = .ok (.iand, 1) := by decide +kernel
theorem dX8_feed_97 : decode cX8_feed 97 = .ok (.iastore, 1) := by decide +kernel
theorem dX8_feed_98 : decode cX8_feed 98 = .ok (.aload_n 0, 1) := by decide +kernel
theorem dX8_feed_99 : decode cX8_feed 99 = .ok (.dup, 1) := by decide +kernel
theorem dX8_feed_100 : decode cX8_feed 100 = .ok (.getfield 211, 3) := by decide +kernel
theorem dX8_feed_103 : decode cX8_feed 103 = .ok (.iconst 1, 1) := by decide +kernel
theorem dX8_feed_104 : decode cX8_feed 104 = .ok (.iadd, 1) := by decide +kernel
theorem dX8_feed_105 : decode cX8_feed 105 = .ok (.putfield 211, 3) := by decide +kernel
theorem dX8_feed_108 : decode cX8_feed 108 = .ok (.iinc 6 1, 3) := by decide +kernel
theorem dX8_feed_111 : decode cX8_feed 111 = .ok (.goto (-93), 3) := by decide +kernel
theorem dX8_feed_114 : decode cX8_feed 114 = .ok (.aload_n 0, 1) := by decide +kernel
theorem dX8_feed_115 : decode cX8_feed 115 = .ok (.getfield 211, 3) := by decide +kernel
theorem dX8_feed_118 : decode cX8_feed 118 = .ok (.ireturn, 1) := by decide +kernel
theorem dX8_end_0 : decode cX8_end 0 = .ok (.iload_n 1, 1) := by decide +kernel
theorem dX8_end_1 : decode cX8_end 1 = .ok (.ifCond .lt 11, 3) := by decide +kernel
theorem dX8_end_4 : decode cX8_end 4 = .ok (.iload_n 1, 1) := by decide +kernel
theorem dX8_end_5 : decode cX8_end 5 = .ok (.aload_n 0, 1) := by decide +kernel
theorem dX8_end_6 : decode cX8_end 6 = .ok (.getfield 211, 3) := by decide +kernel
theorem dX8_end_9 : decode cX8_end 9 = .ok (.if_icmp .le 5, 3) := by decide +kernel
theorem dX8_end_12 : decode cX8_end 12 = .ok (.iconst 0, 1) := by decide +kernel
theorem dX8_end_13 : decode cX8_end 13 = .ok (.ireturn, 1) := by decide +kernel
theorem dX8_end_14 : decode cX8_end 14 = .ok (.aload_n 0, 1) := by decide +kernel
theorem dX8_end_15 : decode cX8_end 15 = .ok (.iload_n 1, 1) := by decide +kernel
theorem dX8_end_16 : decode cX8_end 16 = .ok (.putfield 211, 3) := by decide +kernel
theorem dX8_end_19 : decode cX8_end 19 = .ok (.iconst 1, 1) := by decide +kernel
theorem dX8_end_20 : decode cX8_end 20 = .ok (.ireturn, 1) := by decide +kernel
theorem dX8_fail_0 : decode cX8_fail 0 = .ok (.aload_n 0, 1) := by decide +kernel
theorem dX8_fail_1 : decode cX8_fail 1 = .ok (.getfield 214, 3) := by decide +kernel
theorem dX8_fail_4 : decode cX8_fail 4 = .ok (.ifCond .eq 4, 3) := by decide +kernel
theorem dX8_fail_7 : decode cX8_fail 7 = .ok (.return_, 1) := by decide +kernel
theorem dX8_fail_8 : decode cX8_fail 8 = .ok (.aload_n 0, 1) := by decide +kernel
theorem dX8_fail_9 : decode cX8_fail 9 = .ok (.iload_n 1, 1) := by decide +kernel
theorem dX8_fail_10 : decode cX8_fail 10 = .ok (.putfield 214, 3) := by decide +kernel
theorem dX8_fail_13 : decode cX8_fail 13 = .ok (.aload_n 0, 1) := by decide +kernel
theorem dX8_fail_14 : decode cX8_fail 14 = .ok (.iload_n 2, 1) := by decide +kernel
theorem dX8_fail_15 : decode cX8_fail 15 = .ok (.putfield 217, 3) := by decide +kernel
theorem dX8_fail_18 : decode cX8_fail 18 = .ok (.return_, 1) := by decide +kernel
theorem dX8_isLetter_0 : decode cX8_isLetter 0 = .ok (.iload_n 0, 1) := by decide +kernel
theorem dX8_isLetter_1 : decode cX8_isLetter 1 = .ok (.bipush 97, 2) := by decide +kernel
theorem dX8_isLetter_3 : decode cX8_isLetter 3 = .ok (.if_icmp .lt 13, 3) := by decide +kernel
theorem dX8_isLetter_6 : decode cX8_isLetter 6 = .ok (.iload_n 0, 1) := by decide +kernel
theorem dX8_isLetter_7 : decode cX8_isLetter 7 = .ok (.bipush 122, 2) := by decide +kernel
theorem dX8_isLetter_9 : decode cX8_isLetter 9 = .ok (.if_icmp .gt 7, 3) := by decide +kernel
theorem dX8_isLetter_12 : decode cX8_isLetter 12 = .ok (.iconst 1, 1) := by decide +kernel
theorem dX8_isLetter_13 : decode cX8_isLetter 13 = .ok (.goto 4, 3) := by decide +kernel
theorem dX8_isLetter_16 : decode cX8_isLetter 16 = .ok (.iconst 0, 1) := by decide +kernel
theorem dX8_isLetter_17 : decode cX8_isLetter 17 = .ok (.ireturn, 1) := by decide +kernel
theorem dX8_isDigit_0 : decode cX8_isDigit 0 = .ok (.iload_n 0, 1) := by decide +kernel
theorem dX8_isDigit_1 : decode cX8_isDigit 1 = .ok (.bipush 48, 2) := by decide +kernel
theorem dX8_isDigit_3 : decode cX8_isDigit 3 = .ok (.if_icmp .lt 13, 3) := by decide +kernel
theorem dX8_isDigit_6 : decode cX8_isDigit 6 = .ok (.iload_n 0, 1) := by decide +kernel
theorem dX8_isDigit_7 : decode cX8_isDigit 7 = .ok (.bipush 57, 2) := by decide +kernel
theorem dX8_isDigit_9 : decode cX8_isDigit 9 = .ok (.if_icmp .gt 7, 3) := by decide +kernel
theorem dX8_isDigit_12 : decode cX8_isDigit 12 = .ok (.iconst 1, 1) := by decide +kernel
theorem dX8_isDigit_13 : decode cX8_isDigit 13 = .ok (.goto 4, 3) := by decide +kernel
theorem dX8_isDigit_16 : decode cX8_isDigit 16 = .ok (.iconst 0, 1) := by decide +kernel
theorem dX8_isDigit_17 : decode cX8_isDigit 17 = .ok (.ireturn, 1) := by decide +kernel
theorem dX8_next__0 : decode cX8_next_ 0 = .ok (.aload_n 0, 1) := by decide +kernel
theorem dX8_next__1 : decode cX8_next_ 1 = .ok (.getfield 220, 3) := by decide +kernel
theorem dX8_next__4 : decode cX8_next_ 4 = .ok (.aload_n 0, 1) := by decide +kernel
theorem dX8_next__5 : decode cX8_next_ 5 = .ok (.getfield 223, 3) := by decide +kernel
theorem dX8_next__8 : decode cX8_next_ 8 = .ok (.if_icmp .ge 44, 3) := by decide +kernel
theorem dX8_next__11 : decode cX8_next_ 11 = .ok (.aload_n 0, 1) := by decide +kernel
theorem dX8_next__12 : decode cX8_next_ 12 = .ok (.getfield 32, 3) := by decide +kernel
theorem dX8_next__15 : decode cX8_next_ 15 = .ok (.aload_n 0, 1) := by decide +kernel
theorem dX8_next__16 : decode cX8_next_ 16 = .ok (.getfield 220, 3) := by decide +kernel
theorem dX8_next__19 : decode cX8_next_ 19 = .ok (.iaload, 1) := by decide +kernel
theorem dX8_next__20 : decode cX8_next_ 20 = .ok (.bipush 10, 2) := by decide +kernel
theorem dX8_next__22 : decode cX8_next_ 22 = .ok (.if_icmp .eq 17, 3) := by decide +kernel
theorem dX8_next__25 : decode cX8_next_ 25 = .ok (.aload_n 0, 1) := by decide +kernel
theorem dX8_next__26 : decode cX8_next_ 26 = .ok (.getfield 32, 3) := by decide +kernel
theorem dX8_next__29 : decode cX8_next_ 29 = .ok (.aload_n 0, 1) := by decide +kernel
theorem dX8_next__30 : decode cX8_next_ 30 = .ok (.getfield 220, 3) := by decide +kernel
theorem dX8_next__33 : decode cX8_next_ 33 = .ok (.iaload, 1) := by decide +kernel
theorem dX8_next__34 : decode cX8_next_ 34 = .ok (.bipush 32, 2) := by decide +kernel
theorem dX8_next__36 : decode cX8_next_ 36 = .ok (.if_icmp .ne 16, 3) := by decide +kernel
theorem dX8_next__39 : decode cX8_next_ 39 = .ok (.aload_n 0, 1) := by decide +kernel
theorem dX8_next__40 : decode cX8_next_ 40 = .ok (.dup, 1) := by decide +kernel
theorem dX8_next__41 : decode cX8_next_ 41 = .ok (.getfield 220, 3) := by decide +kernel
theorem dX8_next__44 : decode cX8_next_ 44 = .ok (.iconst 1, 1) := by decide +kernel
theorem dX8_next__45 : decode cX8_next_ 45 = .ok (.iadd, 1) := by decide +kernel
theorem dX8_next__46 : decode cX8_next_ 46 = .ok (.putfield 220, 3) := by decide +kernel
theorem dX8_next__49 : decode cX8_next_ 49 = .ok (.goto (-49), 3) := by decide +kernel
theorem dX8_next__52 : decode cX8_next_ 52 = .ok (.aload_n 0, 1) := by decide +kernel
theorem dX8_next__53 : decode cX8_next_ 53 = .ok (.getfield 220, 3) := by decide +kernel
theorem dX8_next__56 : decode cX8_next_ 56 = .ok (.aload_n 0, 1) := by decide +kernel
theorem dX8_next__57 : decode cX8_next_ 57 = .ok (.getfield 223, 3) := by decide +kernel
theorem dX8_next__60 : decode cX8_next_ 60 = .ok (.if_icmp .ge 15, 3) := by decide +kernel
theorem dX8_next__63 : decode cX8_next_ 63 = .ok (.aload_n 0, 1) := by decide +kernel
theorem dX8_next__64 : decode cX8_next_ 64 = .ok (.getfield 32, 3) := by decide +kernel
theorem dX8_next__67 : decode cX8_next_ 67 = .ok (.aload_n 0, 1) := by decide +kernel
theorem dX8_next__68 : decode cX8_next_ 68 = .ok (.getfield 220, 3) := by decide +kernel
theorem dX8_next__71 : decode cX8_next_ 71 = .ok (.iaload, 1) := by decide +kernel
theorem dX8_next__72 : decode cX8_next_ 72 = .ok (.goto 4, 3) := by decide +kernel
theorem dX8_next__75 : decode cX8_next_ 75 = .ok (.iconst (-1), 1) := by decide +kernel
theorem dX8_next__76 : decode cX8_next_ 76 = .ok (.ireturn, 1) := by decide +kernel
theorem dX8_wordEnd_0 : decode cX8_wordEnd 0 = .ok (.aload_n 0, 1) := by decide +kernel
theorem dX8_wordEnd_1 : decode cX8_wordEnd 1 = .ok (.getfield 220, 3) := by decide +kernel
theorem dX8_wordEnd_4 : decode cX8_wordEnd 4 = .ok (.istore_n 1, 1) := by decide +kernel
theorem dX8_wordEnd_5 : decode cX8_wordEnd 5 = .ok (.iload_n 1, 1) := by decide +kernel
theorem dX8_wordEnd_6 : decode cX8_wordEnd 6 = .ok (.aload_n 0, 1) := by decide +kernel
theorem dX8_wordEnd_7 : decode cX8_wordEnd 7 = .ok (.getfield 223, 3) := by decide +kernel
theorem dX8_wordEnd_10 : decode cX8_wordEnd 10 = .ok (.if_icmp .ge 21, 3) := by decide +kernel
theorem dX8_wordEnd_13 : decode cX8_wordEnd 13 = .ok (.aload_n 0, 1) := by decide +kernel
theorem dX8_wordEnd_14 : decode cX8_wordEnd 14 = .ok (.getfield 32, 3) := by decide +kernel
theorem dX8_wordEnd_17 : decode cX8_wordEnd 17 = .ok (.iload_n 1, 1) := by decide +kernel
theorem dX8_wordEnd_18 : decode cX8_wordEnd 18 = .ok (.iaload, 1) := by decide +kernel
theorem dX8_wordEnd_19 : decode cX8_wordEnd 19 = .ok (.invokestatic 226, 3) := by decide +kernel
theorem dX8_wordEnd_22 : decode cX8_wordEnd 22 = .ok (.ifCond .eq 9, 3) := by decide +kernel
theorem dX8_wordEnd_25 : decode cX8_wordEnd 25 = .ok (.iinc 1 1, 3) := by decide +kernel
theorem dX8_wordEnd_28 : decode cX8_wordEnd 28 = .ok (.goto (-23), 3) := by decide +kernel
theorem dX8_wordEnd_31 : decode cX8_wordEnd 31 = .ok (.iload_n 1, 1) := by decide +kernel
theorem dX8_wordEnd_32 : decode cX8_wordEnd 32 = .ok (.ireturn, 1) := by decide +kernel
theorem dX8_takes_0 : decode cX8_takes 0 = .ok (.aload_n 0, 1) := by decide +kernel
theorem dX8_takes_1 : decode cX8_takes 1 = .ok (.invokevirtual 229, 3) := by decide +kernel
theorem dX8_takes_4 : decode cX8_takes 4 = .ok (.pop, 1) := by decide +kernel
theorem dX8_takes_5 : decode cX8_takes 5 = .ok (.aload_n 0, 1) := by decide +kernel
theorem dX8_takes_6 : decode cX8_takes 6 = .ok (.getfield 220, 3) := by decide +kernel
theorem dX8_takes_9 : decode cX8_takes 9 = .ok (.aload_n 0, 1) := by decide +kernel
theorem dX8_takes_10 : decode cX8_takes 10 = .ok (.getfield 233, 3) := by decide +kernel
theorem dX8_takes_13 : decode cX8_takes 13 = .ok (.if_icmp .eq 17, 3) := by decide +kernel
theorem dX8_takes_16 : decode cX8_takes 16 = .ok (.aload_n 0, 1) := by decide +kernel
theorem dX8_takes_17 : decode cX8_takes 17 = .ok (.invokevirtual 236, 3) := by decide +kernel
theorem dX8_takes_20 : decode cX8_takes 20 = .ok (.aload_n 0, 1) := by decide +kernel
theorem dX8_takes_21 : decode cX8_takes 21 = .ok (.getfield 220, 3) := by decide +kernel
theorem dX8_takes_24 : decode cX8_takes 24 = .ok (.isub, 1) := by decide +kernel
theorem dX8_takes_25 : decode cX8_takes 25 = .ok (.aload_n 1, 1) := by decide +kernel
theorem dX8_takes_26 : decode cX8_takes 26 = .ok (.arraylength, 1) := by decide +kernel
theorem dX8_takes_27 : decode cX8_takes 27 = .ok (.if_icmp .eq 5, 3) := by decide +kernel
theorem dX8_takes_30 : decode cX8_takes 30 = .ok (.iconst 0, 1) := by decide +kernel
theorem dX8_takes_31 : decode cX8_takes 31 = .ok (.ireturn, 1) := by decide +kernel
theorem dX8_takes_32 : decode cX8_takes 32 = .ok (.iconst 0, 1) := by decide +kernel
theorem dX8_takes_33 : decode cX8_takes 33 = .ok (.istore_n 2, 1) := by decide +kernel
theorem dX8_takes_34 : decode cX8_takes 34 = .ok (.iload_n 2, 1) := by decide +kernel
theorem dX8_takes_35 : decode cX8_takes 35 = .ok (.aload_n 1, 1) := by decide +kernel
theorem dX8_takes_36 : decode cX8_takes 36 = .ok (.arraylength, 1) := by decide +kernel
theorem dX8_takes_37 : decode cX8_takes 37 = .ok (.if_icmp .ge 28, 3) := by decide +kernel
theorem dX8_takes_40 : decode cX8_takes 40 = .ok (.aload_n 0, 1) := by decide +kernel
theorem dX8_takes_41 : decode cX8_takes 41 = .ok (.getfield 32, 3) := by decide +kernel
theorem dX8_takes_44 : decode cX8_takes 44 = .ok (.aload_n 0, 1) := by decide +kernel
theorem dX8_takes_45 : decode cX8_takes 45 = .ok (.getfield 220, 3) := by decide +kernel
theorem dX8_takes_48 : decode cX8_takes 48 = .ok (.iload_n 2, 1) := by decide +kernel
theorem dX8_takes_49 : decode cX8_takes 49 = .ok (.iadd, 1) := by decide +kernel
theorem dX8_takes_50 : decode cX8_takes 50 = .ok (.iaload, 1) := by decide +kernel
theorem dX8_takes_51 : decode cX8_takes 51 = .ok (.aload_n 1, 1) := by decide +kernel
theorem dX8_takes_52 : decode cX8_takes 52 = .ok (.iload_n 2, 1) := by decide +kernel
theorem dX8_takes_53 : decode cX8_takes 53 = .ok (.caload, 1) := by decide +kernel
theorem dX8_takes_54 : decode cX8_takes 54 = .ok (.if_icmp .eq 5, 3) := by decide +kernel
theorem dX8_takes_57 : decode cX8_takes 57 = .ok (.iconst 0, 1) := by decide +kernel
theorem dX8_takes_58 : decode cX8_takes 58 = .ok (.ireturn, 1) := by decide +kernel
theorem dX8_takes_59 : decode cX8_takes 59 = .ok (.iinc 2 1, 3) := by decide +kernel
theorem dX8_takes_62 : decode cX8_takes 62 = .ok (.goto (-28), 3) := by decide +kernel
theorem dX8_takes_65 : decode cX8_takes 65 = .ok (.aload_n 0, 1) := by decide +kernel
theorem dX8_takes_66 : decode cX8_takes 66 = .ok (.dup, 1) := by decide +kernel
theorem dX8_takes_67 : decode cX8_takes 67 = .ok (.getfield 220, 3) := by decide +kernel
theorem dX8_takes_70 : decode cX8_takes 70 = .ok (.aload_n 1, 1) := by decide +kernel
theorem dX8_takes_71 : decode cX8_takes 71 = .ok (.arraylength, 1) := by decide +kernel
theorem dX8_takes_72 : decode cX8_takes 72 = .ok (.iadd, 1) := by decide +kernel
theorem dX8_takes_73 : decode cX8_takes 73 = .ok (.putfield 220, 3) := by decide +kernel
theorem dX8_takes_76 : decode cX8_takes 76 = .ok (.aload_n 0, 1) := by decide +kernel
theorem dX8_takes_77 : decode cX8_takes 77 = .ok (.aload_n 0, 1) := by decide +kernel
theorem dX8_takes_78 : decode cX8_takes 78 = .ok (.getfield 220, 3) := by decide +kernel
theorem dX8_takes_81 : decode cX8_takes 81 = .ok (.putfield 233, 3) := by decide +kernel
theorem dX8_takes_84 : decode cX8_takes 84 = .ok (.iconst 1, 1) := by decide +kernel
theorem dX8_takes_85 : decode cX8_takes 85 = .ok (.ireturn, 1) := by decide +kernel
theorem dX8_number_0 : decode cX8_number 0 = .ok (.aload_n 0, 1) := by decide +kernel
theorem dX8_number_1 : decode cX8_number 1 = .ok (.invokevirtual 229, 3) := by decide +kernel
theorem dX8_number_4 : decode cX8_number 4 = .ok (.invokestatic 239, 3) := by decide +kernel
theorem dX8_number_7 : decode cX8_number 7 = .ok (.ifCond .eq 14, 3) := by decide +kernel
theorem dX8_number_10 : decode cX8_number 10 = .ok (.aload_n 0, 1) := by decide +kernel
theorem dX8_number_11 : decode cX8_number 11 = .ok (.getfield 220, 3) := by decide +kernel
theorem dX8_number_14 : decode cX8_number 14 = .ok (.aload_n 0, 1) := by decide +kernel
theorem dX8_number_15 : decode cX8_number 15 = .ok (.getfield 233, 3) := by decide +kernel
theorem dX8_number_18 : decode cX8_number 18 = .ok (.if_icmp .ne 14, 3) := by decide +kernel
theorem dX8_number_21 : decode cX8_number 21 = .ok (.aload_n 0, 1) := by decide +kernel
theorem dX8_number_22 : decode cX8_number 22 = .ok (.iconst 1, 1) := by decide +kernel
theorem dX8_number_23 : decode cX8_number 23 = .ok (.aload_n 0, 1) := by decide +kernel
theorem dX8_number_24 : decode cX8_number 24 = .ok (.getfield 220, 3) := by decide +kernel
theorem dX8_number_27 : decode cX8_number 27 = .ok (.invokevirtual 242, 3) := by decide +kernel
theorem dX8_number_30 : decode cX8_number 30 = .ok (.iconst 0, 1) := by decide +kernel
theorem dX8_number_31 : decode cX8_number 31 = .ok (.ireturn, 1) := by decide +kernel
theorem dX8_number_32 : decode cX8_number 32 = .ok (.aload_n 0, 1) := by decide +kernel
theorem dX8_number_33 : decode cX8_number 33 = .ok (.getfield 220, 3) := by decide +kernel
theorem dX8_number_36 : decode cX8_number 36 = .ok (.istore_n 3, 1) := by decide +kernel
theorem dX8_number_37 : decode cX8_number 37 = .ok (.iconst 0, 1) := by decide +kernel
theorem dX8_number_38 : decode cX8_number 38 = .ok (.istore 4, 2) := by decide +kernel
theorem dX8_number_40 : decode cX8_number 40 = .ok (.aload_n 0, 1) := by decide +kernel
theorem dX8_number_41 : decode cX8_number 41 = .ok (.getfield 220, 3) := by decide +kernel
theorem dX8_number_44 : decode cX8_number 44 = .ok (.aload_n 0, 1) := by decide +kernel
theorem dX8_number_45 : decode cX8_number 45 = .ok (.getfield 223, 3) := by decide +kernel
theorem dX8_number_48 : decode cX8_number 48 = .ok (.if_icmp .ge 72, 3) := by decide +kernel
theorem dX8_number_51 : decode cX8_number 51 = .ok (.aload_n 0, 1) := by decide +kernel
theorem dX8_number_52 : decode cX8_number 52 = .ok (.getfield 32, 3) := by decide +kernel
theorem dX8_number_55 : decode cX8_number 55 = .ok (.aload_n 0, 1) := by decide +kernel
theorem dX8_number_56 : decode cX8_number 56 = .ok (.getfield 220, 3) := by decide +kernel
theorem dX8_number_59 : decode cX8_number 59 = .ok (.iaload, 1) := by decide +kernel
theorem dX8_number_60 : decode cX8_number 60 = .ok (.invokestatic 239, 3) := by decide +kernel
theorem dX8_number_63 : decode cX8_number 63 = .ok (.ifCond .eq 57, 3) := by decide +kernel
theorem dX8_number_66 : decode cX8_number 66 = .ok (.aload_n 0, 1) := by decide +kernel
theorem dX8_number_67 : decode cX8_number 67 = .ok (.getfield 220, 3) := by decide +kernel
theorem dX8_number_70 : decode cX8_number 70 = .ok (.iload_n 3, 1) := by decide +kernel
theorem dX8_number_71 : decode cX8_number 71 = .ok (.isub, 1) := by decide +kernel
theorem dX8_number_72 : decode cX8_number 72 = .ok (.iconst 3, 1) := by decide +kernel
theorem dX8_number_73 : decode cX8_number 73 = .ok (.if_icmp .ne 14, 3) := by decide +kernel
theorem dX8_number_76 : decode cX8_number 76 = .ok (.aload_n 0, 1) := by decide +kernel
theorem dX8_number_77 : decode cX8_number 77 = .ok (.iconst 1, 1) := by decide +kernel
theorem dX8_number_78 : decode cX8_number 78 = .ok (.aload_n 0, 1) := by decide +kernel
theorem dX8_number_79 : decode cX8_number 79 = .ok (.getfield 220, 3) := by decide +kernel
theorem dX8_number_82 : decode cX8_number 82 = .ok (.invokevirtual 242, 3) := by decide +kernel
theorem dX8_number_85 : decode cX8_number 85 = .ok (.iconst 0, 1) := by decide +kernel
theorem dX8_number_86 : decode cX8_number 86 = .ok (.ireturn, 1) := by decide +kernel
theorem dX8_number_87 : decode cX8_number 87 = .ok (.bipush 10, 2) := by decide +kernel
theorem dX8_number_89 : decode cX8_number 89 = .ok (.iload 4, 2) := by decide +kernel
theorem dX8_number_91 : decode cX8_number 91 = .ok (.imul, 1) := by decide +kernel
theorem dX8_number_92 : decode cX8_number 92 = .ok (.aload_n 0, 1) := by decide +kernel
theorem dX8_number_93 : decode cX8_number 93 = .ok (.getfield 32, 3) := by decide +kernel
theorem dX8_number_96 : decode cX8_number 96 = .ok (.aload_n 0, 1) := by decide +kernel
theorem dX8_number_97 : decode cX8_number 97 = .ok (.getfield 220, 3) := by decide +kernel
theorem dX8_number_100 : decode cX8_number 100 = .ok (.iaload, 1) := by decide +kernel
theorem dX8_number_101 : decode cX8_number 101 = .ok (.iadd, 1) := by decide +kernel
theorem dX8_number_102 : decode cX8_number 102 = .ok (.bipush 48, 2) := by decide +kernel
theorem dX8_number_104 : decode cX8_number 104 = .ok (.isub, 1) := by decide +kernel
theorem dX8_number_105 : decode cX8_number 105 = .ok (.istore 4, 2) := by decide +kernel
theorem dX8_number_107 : decode cX8_number 107 = .ok (.aload_n 0, 1) := by decide +kernel
theorem dX8_number_108 : decode cX8_number 108 = .ok (.dup, 1) := by decide +kernel
theorem dX8_number_109 : decode cX8_number 109 = .ok (.getfield 220, 3) := by decide +kernel
theorem dX8_number_112 : decode cX8_number 112 = .ok (.iconst 1, 1) := by decide +kernel
theorem dX8_number_113 : decode cX8_number 113 = .ok (.iadd, 1) := by decide +kernel
theorem dX8_number_114 : decode cX8_number 114 = .ok (.putfield 220, 3) := by decide +kernel
theorem dX8_number_117 : decode cX8_number 117 = .ok (.goto (-77), 3) := by decide +kernel
theorem dX8_number_120 : decode cX8_number 120 = .ok (.aload_n 0, 1) := by decide +kernel
theorem dX8_number_121 : decode cX8_number 121 = .ok (.aload_n 0, 1) := by decide +kernel
theorem dX8_number_122 : decode cX8_number 122 = .ok (.getfield 220, 3) := by decide +kernel
theorem dX8_number_125 : decode cX8_number 125 = .ok (.putfield 233, 3) := by decide +kernel
theorem dX8_number_128 : decode cX8_number 128 = .ok (.iload 4, 2) := by decide +kernel
theorem dX8_number_130 : decode cX8_number 130 = .ok (.iload_n 1, 1) := by decide +kernel
theorem dX8_number_131 : decode cX8_number 131 = .ok (.iload_n 2, 1) := by decide +kernel
theorem dX8_number_132 : decode cX8_number 132 = .ok (.invokestatic 113, 3) := by decide +kernel
theorem dX8_number_135 : decode cX8_number 135 = .ok (.ifCond .ne 9, 3) := by decide +kernel
theorem dX8_number_138 : decode cX8_number 138 = .ok (.aload_n 0, 1) := by decide +kernel
theorem dX8_number_139 : decode cX8_number 139 = .ok (.iconst 4, 1) := by decide +kernel
theorem dX8_number_140 : decode cX8_number 140 = .ok (.iload_n 3, 1) := by decide +kernel
theorem dX8_number_141 : decode cX8_number 141 = .ok (.invokevirtual 242, 3) := by decide +kernel
theorem dX8_number_144 : decode cX8_number 144 = .ok (.iload 4, 2) := by decide +kernel
theorem dX8_number_146 : decode cX8_number 146 = .ok (.ireturn, 1) := by decide +kernel
theorem dX8_packed_0 : decode cX8_packed 0 = .ok (.lconst 0, 1) := by decide +kernel
theorem dX8_packed_1 : decode cX8_packed 1 = .ok (.lstore_n 3, 1) := by decide +kernel
theorem dX8_packed_2 : decode cX8_packed 2 = .ok (.iload_n 1, 1) := by decide +kernel
theorem dX8_packed_3 : decode cX8_packed 3 = .ok (.istore 5, 2) := by decide +kernel
theorem dX8_packed_5 : decode cX8_packed 5 = .ok (.iload 5, 2) := by decide +kernel
theorem dX8_packed_7 : decode cX8_packed 7 = .ok (.iload_n 2, 1) := by decide +kernel
theorem dX8_packed_8 : decode cX8_packed 8 = .ok (.if_icmp .ge 30, 3) := by decide +kernel
theorem dX8_packed_11 : decode cX8_packed 11 = .ok (.ldc2_w 245, 3) := by decide +kernel
theorem dX8_packed_14 : decode cX8_packed 14 = .ok (.lload_n 3, 1) := by decide +kernel
theorem dX8_packed_15 : decode cX8_packed 15 = .ok (.lmul, 1) := by decide +kernel
theorem dX8_packed_16 : decode cX8_packed 16 = .ok (.aload_n 0, 1) := by decide +kernel
theorem dX8_packed_17 : decode cX8_packed 17 = .ok (.getfield 32, 3) := by decide +kernel
theorem dX8_packed_20 : decode cX8_packed 20 = .ok (.iload 5, 2) := by decide +kernel
theorem dX8_packed_22 : decode cX8_packed 22 = .ok (.iaload, 1) := by decide +kernel
theorem dX8_packed_23 : decode cX8_packed 23 = .ok (.i2l, 1) := by decide +kernel
theorem dX8_packed_24 : decode cX8_packed 24 = .ok (.ladd, 1) := by decide +kernel
theorem dX8_packed_25 : decode cX8_packed 25 = .ok (.ldc2_w 247, 3) := by decide +kernel
theorem dX8_packed_28 : decode cX8_packed 28 = .ok (.lsub, 1) := by decide +kernel
theorem dX8_packed_29 : decode cX8_packed 29 = .ok (.lconst 1, 1) := by decide +kernel
theorem dX8_packed_30 : decode cX8_packed 30 = .ok (.ladd, 1) := by decide +kernel
theorem dX8_packed_31 : decode cX8_packed 31 = .ok (.lstore_n 3, 1) := by decide +kernel
theorem dX8_packed_32 : decode cX8_packed 32 = .ok (.iinc 5 1, 3) := by decide +kernel
theorem dX8_packed_35 : decode cX8_packed 35 = .ok (.goto (-30), 3) := by decide +kernel
theorem dX8_packed_38 : decode cX8_packed 38 = .ok (.lload_n 3, 1) := by decide +kernel
theorem dX8_packed_39 : decode cX8_packed 39 = .ok (.lreturn, 1) := by decide +kernel
theorem dX8_reignOf_0 : decode cX8_reignOf 0 = .ok (.iconst 0, 1) := by decide +kernel
theorem dX8_reignOf_1 : decode cX8_reignOf 1 = .ok (.istore_n 3, 1) := by decide +kernel
theorem dX8_reignOf_2 : decode cX8_reignOf 2 = .ok (.iload_n 3, 1) := by decide +kernel
theorem dX8_reignOf_3 : decode cX8_reignOf 3 = .ok (.aload_n 0, 1) := by decide +kernel
theorem dX8_reignOf_4 : decode cX8_reignOf 4 = .ok (.getfield 249, 3) := by decide +kernel
theorem dX8_reignOf_7 : decode cX8_reignOf 7 = .ok (.if_icmp .ge 22, 3) := by decide +kernel
theorem dX8_reignOf_10 : decode cX8_reignOf 10 = .ok (.aload_n 0, 1) := by decide +kernel
theorem dX8_reignOf_11 : decode cX8_reignOf 11 = .ok (.getfield 38, 3) := by decide +kernel
theorem dX8_reignOf_14 : decode cX8_reignOf 14 = .ok (.iload_n 3, 1) := by decide +kernel
theorem dX8_reignOf_15 : decode cX8_reignOf 15 = .ok (.laload, 1) := by decide +kernel
theorem dX8_reignOf_16 : decode cX8_reignOf 16 = .ok (.lload_n 1, 1) := by decide +kernel
theorem dX8_reignOf_17 : decode cX8_reignOf 17 = .ok (.lcmp, 1) := by decide +kernel
theorem dX8_reignOf_18 : decode cX8_reignOf 18 = .ok (.ifCond .ne 5, 3) := by decide +kernel
theorem dX8_reignOf_21 : decode cX8_reignOf 21 = .ok (.iload_n 3, 1) := by decide +kernel
theorem dX8_reignOf_22 : decode cX8_reignOf 22 = .ok (.ireturn, 1) := by decide +kernel
theorem dX8_reignOf_23 : decode cX8_reignOf 23 = .ok (.iinc 3 1, 3) := by decide +kernel
theorem dX8_reignOf_26 : decode cX8_reignOf 26 = .ok (.goto (-24), 3) := by decide +kernel
theorem dX8_reignOf_29 : decode cX8_reignOf 29 = .ok (.iconst (-1), 1) := by decide +kernel
theorem dX8_reignOf_30 : decode cX8_reignOf 30 = .ok (.ireturn, 1) := by decide +kernel
theorem dX8_reign_0 : decode cX8_reign 0 = .ok (.aload_n 0, 1) := by decide +kernel
theorem dX8_reign_1 : decode cX8_reign 1 = .ok (.getfield 211, 3) := by decide +kernel
theorem dX8_reign_4 : decode cX8_reign 4 = .ok (.istore_n 3, 1) := by decide +kernel
theorem dX8_reign_5 : decode cX8_reign 5 = .ok (.aload_n 0, 1) := by decide +kernel
theorem dX8_reign_6 : decode cX8_reign 6 = .ok (.iconst 0, 1) := by decide +kernel
theorem dX8_reign_7 : decode cX8_reign 7 = .ok (.putfield 211, 3) := by decide +kernel
theorem dX8_reign_10 : decode cX8_reign 10 = .ok (.iload_n 3, 1) := by decide +kernel
theorem dX8_reign_11 : decode cX8_reign 11 = .ok (.ifCond .le 42, 3) := by decide +kernel
theorem dX8_reign_14 : decode cX8_reign 14 = .ok (.iload_n 3, 1) := by decide +kernel
theorem dX8_reign_15 : decode cX8_reign 15 = .ok (.bipush 7, 2) := by decide +kernel
theorem dX8_reign_17 : decode cX8_reign 17 = .ok (.if_icmp .ge 36, 3) := by decide +kernel
theorem dX8_reign_20 : decode cX8_reign 20 = .ok (.iload_n 1, 1) := by decide +kernel
theorem dX8_reign_21 : decode cX8_reign 21 = .ok (.iconst 0, 1) := by decide +kernel
theorem dX8_reign_22 : decode cX8_reign 22 = .ok (.iconst 2, 1) := by decide +kernel
theorem dX8_reign_23 : decode cX8_reign 23 = .ok (.invokestatic 113, 3) := by decide +kernel
theorem dX8_reign_26 : decode cX8_reign 26 = .ok (.ifCond .eq 27, 3) := by decide +kernel
theorem dX8_reign_29 : decode cX8_reign 29 = .ok (.iload_n 2, 1) := by decide +kernel
theorem dX8_reign_30 : decode cX8_reign 30 = .ok (.iconst 0, 1) := by decide +kernel
theorem dX8_reign_31 : decode cX8_reign 31 = .ok (.sipush 600, 3) := by decide +kernel
theorem dX8_reign_34 : decode cX8_reign 34 = .ok (.invokestatic 113, 3) := by decide +kernel
theorem dX8_reign_37 : decode cX8_reign 37 = .ok (.ifCond .eq 16, 3) := by decide +kernel
theorem dX8_reign_40 : decode cX8_reign 40 = .ok (.aload_n 0, 1) := by decide +kernel
theorem dX8_reign_41 : decode cX8_reign 41 = .ok (.getfield 249, 3) := by decide +kernel
theorem dX8_reign_44 : decode cX8_reign 44 = .ok (.bipush 12, 2) := by decide +kernel
theorem dX8_reign_46 : decode cX8_reign 46 = .ok (.if_icmp .ge 7, 3) := by decide +kernel
theorem dX8_reign_49 : decode cX8_reign 49 = .ok (.iconst 1, 1) := by decide +kernel
theorem dX8_reign_50 : decode cX8_reign 50 = .ok (.goto 4, 3) := by decide +kernel
theorem dX8_reign_53 : decode cX8_reign 53 = .ok (.iconst 0, 1) := by decide +kernel
theorem dX8_reign_54 : decode cX8_reign 54 = .ok (.istore 4, 2) := by decide +kernel
theorem dX8_reign_56 : decode cX8_reign 56 = .ok (.iconst 0, 1) := by decide +kernel
theorem dX8_reign_57 : decode cX8_reign 57 = .ok (.istore 5, 2) := by decide +kernel
theorem dX8_reign_59 : decode cX8_reign 59 = .ok (.iload 5, 2) := by decide +kernel
theorem dX8_reign_61 : decode cX8_reign 61 = .ok (.iload_n 3, 1) := by decide +kernel
theorem dX8_reign_62 : decode cX8_reign 62 = .ok (.if_icmp .ge 26, 3) := by decide +kernel
theorem dX8_reign_65 : decode cX8_reign 65 = .ok (.iload 4, 2) := by decide +kernel
theorem dX8_reign_67 : decode cX8_reign 67 = .ok (.ifCond .eq 21, 3) := by decide +kernel
theorem dX8_reign_70 : decode cX8_reign 70 = .ok (.aload_n 0, 1) := by decide +kernel
theorem dX8_reign_71 : decode cX8_reign 71 = .ok (.getfield 32, 3) := by decide +kernel
theorem dX8_reign_74 : decode cX8_reign 74 = .ok (.iload 5, 2) := by decide +kernel
theorem dX8_reign_76 : decode cX8_reign 76 = .ok (.iaload, 1) := by decide +kernel
theorem dX8_reign_77 : decode cX8_reign 77 = .ok (.invokestatic 226, 3) := by decide +kernel
theorem dX8_reign_80 : decode cX8_reign 80 = .ok (.istore 4, 2) := by decide +kernel
theorem dX8_reign_82 : decode cX8_reign 82 = .ok (.iinc 5 1, 3) := by decide +kernel
theorem dX8_reign_85 : decode cX8_reign 85 = .ok (.goto (-26), 3) := by decide +kernel
theorem dX8_reign_88 : decode cX8_reign 88 = .ok (.iload 4, 2) := by decide +kernel
theorem dX8_reign_90 : decode cX8_reign 90 = .ok (.ifCond .eq 17, 3) := by decide +kernel
theorem dX8_reign_93 : decode cX8_reign 93 = .ok (.aload_n 0, 1) := by decide +kernel
theorem dX8_reign_94 : decode cX8_reign 94 = .ok (.aload_n 0, 1) := by decide +kernel
theorem dX8_reign_95 : decode cX8_reign 95 = .ok (.iconst 0, 1) := by decide +kernel
theorem dX8_reign_96 : decode cX8_reign 96 = .ok (.iload_n 3, 1) := by decide +kernel
theorem dX8_reign_97 : decode cX8_reign 97 = .ok (.invokevirtual 252, 3) := by decide +kernel
theorem dX8_reign_100 : decode cX8_reign 100 = .ok (.invokevirtual 256, 3) := by decide +kernel
theorem dX8_reign_103 : decode cX8_reign 103 = .ok (.iconst (-1), 1) := by decide +kernel
theorem dX8_reign_104 : decode cX8_reign 104 = .ok (.if_icmp .eq 5, 3) := by decide +kernel
theorem dX8_reign_107 : decode cX8_reign 107 = .ok (.iconst (-1), 1) := by decide +kernel
theorem dX8_reign_108 : decode cX8_reign 108 = .ok (.ireturn, 1) := by decide +kernel
theorem dX8_reign_109 : decode cX8_reign 109 = .ok (.aload_n 0, 1) := by decide +kernel
theorem dX8_reign_110 : decode cX8_reign 110 = .ok (.getfield 38, 3) := by decide +kernel
theorem dX8_reign_113 : decode cX8_reign 113 = .ok (.aload_n 0, 1) := by decide +kernel
theorem dX8_reign_114 : decode cX8_reign 114 = .ok (.getfield 249, 3) := by decide +kernel
theorem dX8_reign_117 : decode cX8_reign 117 = .ok (.aload_n 0, 1) := by decide +kernel
theorem dX8_reign_118 : decode cX8_reign 118 = .ok (.iconst 0, 1) := by decide +kernel
theorem dX8_reign_119 : decode cX8_reign 119 = .ok (.iload_n 3, 1) := by decide +kernel
theorem dX8_reign_120 : decode cX8_reign 120 = .ok (.invokevirtual 252, 3) := by decide +kernel
theorem dX8_reign_123 : decode cX8_reign 123 = .ok (.lastore, 1) := by decide +kernel
theorem dX8_reign_124 : decode cX8_reign 124 = .ok (.aload_n 0, 1) := by decide +kernel
theorem dX8_reign_125 : decode cX8_reign 125 = .ok (.getfield 42, 3) := by decide +kernel
theorem dX8_reign_128 : decode cX8_reign 128 = .ok (.aload_n 0, 1) := by decide +kernel
theorem dX8_reign_129 : decode cX8_reign 129 = .ok (.getfield 249, 3) := by decide +kernel
theorem dX8_reign_132 : decode cX8_reign 132 = .ok (.iload_n 1, 1) := by decide +kernel
theorem dX8_reign_133 : decode cX8_reign 133 = .ok (.iastore, 1) := by decide +kernel
theorem dX8_reign_134 : decode cX8_reign 134 = .ok (.aload_n 0, 1) := by decide +kernel
theorem dX8_reign_135 : decode cX8_reign 135 = .ok (.getfield 45, 3) := by decide +kernel
theorem dX8_reign_138 : decode cX8_reign 138 = .ok (.aload_n 0, 1) := by decide +kernel
theorem dX8_reign_139 : decode cX8_reign 139 = .ok (.getfield 249, 3) := by decide +kernel
theorem dX8_reign_142 : decode cX8_reign 142 = .ok (.iload_n 2, 1) := by decide +kernel
theorem dX8_reign_143 : decode cX8_reign 143 = .ok (.iastore, 1) := by decide +kernel
theorem dX8_reign_144 : decode cX8_reign 144 = .ok (.aload_n 0, 1) := by decide +kernel
theorem dX8_reign_145 : decode cX8_reign 145 = .ok (.dup, 1) := by decide +kernel
theorem dX8_reign_146 : decode cX8_reign 146 = .ok (.getfield 249, 3) := by decide +kernel
theorem dX8_reign_149 : decode cX8_reign 149 = .ok (.iconst 1, 1) := by decide +kernel
theorem dX8_reign_150 : decode cX8_reign 150 = .ok (.iadd, 1) := by decide +kernel
theorem dX8_reign_151 : decode cX8_reign 151 = .ok (.putfield 249, 3) := by decide +kernel
theorem dX8_reign_154 : decode cX8_reign 154 = .ok (.aload_n 0, 1) := by decide +kernel
theorem dX8_reign_155 : decode cX8_reign 155 = .ok (.getfield 249, 3) := by decide +kernel
theorem dX8_reign_158 : decode cX8_reign 158 = .ok (.ireturn, 1) := by decide +kernel
theorem dX8_whats_0 : decode cX8_whats 0 = .ok (.aload_n 0, 1) := by decide +kernel
theorem dX8_whats_1 : decode cX8_whats 1 = .ok (.aload_n 0, 1) := by decide +kernel
theorem dX8_whats_2 : decode cX8_whats 2 = .ok (.getfield 63, 3) := by decide +kernel
theorem dX8_whats_5 : decode cX8_whats 5 = .ok (.invokevirtual 260, 3) := by decide +kernel
theorem dX8_whats_8 : decode cX8_whats 8 = .ok (.ifCond .eq 52, 3) := by decide +kernel
theorem dX8_whats_11 : decode cX8_whats 11 = .ok (.aload_n 0, 1) := by decide +kernel
theorem dX8_whats_12 : decode cX8_whats 12 = .ok (.aload_n 0, 1) := by decide +kernel
theorem dX8_whats_13 : decode cX8_whats 13 = .ok (.getfield 70, 3) := by decide +kernel
theorem dX8_whats_16 : decode cX8_whats 16 = .ok (.invokevirtual 260, 3) := by decide +kernel
theorem dX8_whats_19 : decode cX8_whats 19 = .ok (.ifCond .eq 7, 3) := by decide +kernel
theorem dX8_whats_22 : decode cX8_whats 22 = .ok (.iconst 2, 1) := by decide +kernel
theorem dX8_whats_23 : decode cX8_whats 23 = .ok (.goto 36, 3) := by decide +kernel
theorem dX8_whats_26 : decode cX8_whats 26 = .ok (.aload_n 0, 1) := by decide +kernel
theorem dX8_whats_27 : decode cX8_whats 27 = .ok (.aload_n 0, 1) := by decide +kernel
theorem dX8_whats_28 : decode cX8_whats 28 = .ok (.getfield 73, 3) := by decide +kernel
theorem dX8_whats_31 : decode cX8_whats 31 = .ok (.invokevirtual 260, 3) := by decide +kernel
theorem dX8_whats_34 : decode cX8_whats 34 = .ok (.ifCond .eq 7, 3) := by decide +kernel
theorem dX8_whats_37 : decode cX8_whats 37 = .ok (.iconst 4, 1) := by decide +kernel
theorem dX8_whats_38 : decode cX8_whats 38 = .ok (.goto 21, 3) := by decide +kernel
theorem dX8_whats_41 : decode cX8_whats 41 = .ok (.aload_n 0, 1) := by decide +kernel
theorem dX8_whats_42 : decode cX8_whats 42 = .ok (.aload_n 0, 1) := by decide +kernel
theorem dX8_whats_43 : decode cX8_whats 43 = .ok (.getfield 76, 3) := by decide +kernel
theorem dX8_whats_46 : decode cX8_whats 46 = .ok (.invokevirtual 260, 3) := by decide +kernel
theorem dX8_whats_49 : decode cX8_whats 49 = .ok (.ifCond .eq 8, 3) := by decide +kernel
theorem dX8_whats_52 : decode cX8_whats 52 = .ok (.bipush 8, 2) := by decide +kernel
theorem dX8_whats_54 : decode cX8_whats 54 = .ok (.goto 5, 3) := by decide +kernel
theorem dX8_whats_57 : decode cX8_whats 57 = .ok (.bipush 14, 2) := by decide +kernel
theorem dX8_whats_59 : decode cX8_whats 59 = .ok (.ireturn, 1) := by decide +kernel
theorem dX8_whats_60 : decode cX8_whats 60 = .ok (.aload_n 0, 1) := by decide +kernel
theorem dX8_whats_61 : decode cX8_whats 61 = .ok (.aload_n 0, 1) := by decide +kernel
theorem dX8_whats_62 : decode cX8_whats 62 = .ok (.getfield 67, 3) := by decide +kernel
theorem dX8_whats_65 : decode cX8_whats 65 = .ok (.invokevirtual 260, 3) := by decide +kernel
theorem dX8_whats_68 : decode cX8_whats 68 = .ok (.ifCond .eq 38, 3) := by decide +kernel
theorem dX8_whats_71 : decode cX8_whats 71 = .ok (.aload_n 0, 1) := by decide +kernel
theorem dX8_whats_72 : decode cX8_whats 72 = .ok (.aload_n 0, 1) := by decide +kernel
theorem dX8_whats_73 : decode cX8_whats 73 = .ok (.getfield 79, 3) := by decide +kernel
theorem dX8_whats_76 : decode cX8_whats 76 = .ok (.invokevirtual 260, 3) := by decide +kernel
theorem dX8_whats_79 : decode cX8_whats 79 = .ok (.ifCond .eq 8, 3) := by decide +kernel
theorem dX8_whats_82 : decode cX8_whats 82 = .ok (.bipush 16, 2) := by decide +kernel
theorem dX8_whats_84 : decode cX8_whats 84 = .ok (.goto 21, 3) := by decide +kernel
theorem dX8_whats_87 : decode cX8_whats 87 = .ok (.aload_n 0, 1) := by decide +kernel
theorem dX8_whats_88 : decode cX8_whats 88 = .ok (.aload_n 0, 1) := by decide +kernel
theorem dX8_whats_89 : decode cX8_whats 89 = .ok (.getfield 82, 3) := by decide +kernel
theorem dX8_whats_92 : decode cX8_whats 92 = .ok (.invokevirtual 260, 3) := by decide +kernel
theorem dX8_whats_95 : decode cX8_whats 95 = .ok (.ifCond .eq 8, 3) := by decide +kernel
theorem dX8_whats_98 : decode cX8_whats 98 = .ok (.bipush 32, 2) := by decide +kernel
theorem dX8_whats_100 : decode cX8_whats 100 = .ok (.goto 5, 3) := by decide +kernel
theorem dX8_whats_103 : decode cX8_whats 103 = .ok (.bipush 48, 2) := by decide +kernel
theorem dX8_whats_105 : decode cX8_whats 105 = .ok (.ireturn, 1) := by decide +kernel
theorem dX8_whats_106 : decode cX8_whats 106 = .ok (.aload_n 0, 1) := by decide +kernel
theorem dX8_whats_107 : decode cX8_whats 107 = .ok (.iconst 1, 1) := by decide +kernel
theorem dX8_whats_108 : decode cX8_whats 108 = .ok (.aload_n 0, 1) := by decide +kernel
theorem dX8_whats_109 : decode cX8_whats 109 = .ok (.getfield 220, 3) := by decide +kernel
theorem dX8_whats_112 : decode cX8_whats 112 = .ok (.invokevirtual 242, 3) := by decide +kernel
theorem dX8_whats_115 : decode cX8_whats 115 = .ok (.iconst 0, 1) := by decide +kernel
theorem dX8_whats_116 : decode cX8_whats 116 = .ok (.ireturn, 1) := by decide +kernel
theorem dX8_partOf_0 : decode cX8_partOf 0 = .ok (.aload_n 0, 1) := by decide +kernel
theorem dX8_partOf_1 : decode cX8_partOf 1 = .ok (.aload_n 0, 1) := by decide +kernel
theorem dX8_partOf_2 : decode cX8_partOf 2 = .ok (.getfield 85, 3) := by decide +kernel
theorem dX8_partOf_5 : decode cX8_partOf 5 = .ok (.invokevirtual 260, 3) := by decide +kernel
theorem dX8_partOf_8 : decode cX8_partOf 8 = .ok (.ifCond .eq 7, 3) := by decide +kernel
theorem dX8_partOf_11 : decode cX8_partOf 11 = .ok (.iconst 0, 1) := by decide +kernel
theorem dX8_partOf_12 : decode cX8_partOf 12 = .ok (.goto 49, 3) := by decide +kernel
theorem dX8_partOf_15 : decode cX8_partOf 15 = .ok (.aload_n 0, 1) := by decide +kernel
theorem dX8_partOf_16 : decode cX8_partOf 16 = .ok (.aload_n 0, 1) := by decide +kernel
theorem dX8_partOf_17 : decode cX8_partOf 17 = .ok (.getfield 88, 3) := by decide +kernel
theorem dX8_partOf_20 : decode cX8_partOf 20 = .ok (.invokevirtual 260, 3) := by decide +kernel
theorem dX8_partOf_23 : decode cX8_partOf 23 = .ok (.ifCond .eq 7, 3) := by decide +kernel
theorem dX8_partOf_26 : decode cX8_partOf 26 = .ok (.iconst 1, 1) := by decide +kernel
theorem dX8_partOf_27 : decode cX8_partOf 27 = .ok (.goto 34, 3) := by decide +kernel
theorem dX8_partOf_30 : decode cX8_partOf 30 = .ok (.aload_n 0, 1) := by decide +kernel
theorem dX8_partOf_31 : decode cX8_partOf 31 = .ok (.aload_n 0, 1) := by decide +kernel
theorem dX8_partOf_32 : decode cX8_partOf 32 = .ok (.getfield 91, 3) := by decide +kernel
theorem dX8_partOf_35 : decode cX8_partOf 35 = .ok (.invokevirtual 260, 3) := by decide +kernel
theorem dX8_partOf_38 : decode cX8_partOf 38 = .ok (.ifCond .eq 7, 3) := by decide +kernel
theorem dX8_partOf_41 : decode cX8_partOf 41 = .ok (.iconst 2, 1) := by decide +kernel
theorem dX8_partOf_42 : decode cX8_partOf 42 = .ok (.goto 19, 3) := by decide +kernel
theorem dX8_partOf_45 : decode cX8_partOf 45 = .ok (.aload_n 0, 1) := by decide +kernel
theorem dX8_partOf_46 : decode cX8_partOf 46 = .ok (.aload_n 0, 1) := by decide +kernel
theorem dX8_partOf_47 : decode cX8_partOf 47 = .ok (.getfield 94, 3) := by decide +kernel
theorem dX8_partOf_50 : decode cX8_partOf 50 = .ok (.invokevirtual 260, 3) := by decide +kernel
theorem dX8_partOf_53 : decode cX8_partOf 53 = .ok (.ifCond .eq 7, 3) := by decide +kernel
theorem dX8_partOf_56 : decode cX8_partOf 56 = .ok (.iconst 3, 1) := by decide +kernel
theorem dX8_partOf_57 : decode cX8_partOf 57 = .ok (.goto 4, 3) := by decide +kernel
theorem dX8_partOf_60 : decode cX8_partOf 60 = .ok (.iconst (-1), 1) := by decide +kernel
theorem dX8_partOf_61 : decode cX8_partOf 61 = .ok (.ireturn, 1) := by decide +kernel
theorem dX8_name_0 : decode cX8_name 0 = .ok (.aload_n 0, 1) := by decide +kernel
theorem dX8_name_1 : decode cX8_name 1 = .ok (.invokevirtual 229, 3) := by decide +kernel
theorem dX8_name_4 : decode cX8_name 4 = .ok (.istore_n 1, 1) := by decide +kernel
theorem dX8_name_5 : decode cX8_name 5 = .ok (.aload_n 0, 1) := by decide +kernel
theorem dX8_name_6 : decode cX8_name 6 = .ok (.aload_n 0, 1) := by decide +kernel
theorem dX8_name_7 : decode cX8_name 7 = .ok (.getfield 220, 3) := by decide +kernel
theorem dX8_name_10 : decode cX8_name 10 = .ok (.putfield 264, 3) := by decide +kernel
theorem dX8_name_13 : decode cX8_name 13 = .ok (.iload_n 1, 1) := by decide +kernel
theorem dX8_name_14 : decode cX8_name 14 = .ok (.invokestatic 226, 3) := by decide +kernel
theorem dX8_name_17 : decode cX8_name 17 = .ok (.ifCond .eq 14, 3) := by decide +kernel
theorem dX8_name_20 : decode cX8_name 20 = .ok (.aload_n 0, 1) := by decide +kernel
theorem dX8_name_21 : decode cX8_name 21 = .ok (.getfield 220, 3) := by decide +kernel
theorem dX8_name_24 : decode cX8_name 24 = .ok (.aload_n 0, 1) := by decide +kernel
theorem dX8_name_25 : decode cX8_name 25 = .ok (.getfield 233, 3) := by decide +kernel
theorem dX8_name_28 : decode cX8_name 28 = .ok (.if_icmp .ne 13, 3) := by decide +kernel
theorem dX8_name_31 : decode cX8_name 31 = .ok (.aload_n 0, 1) := by decide +kernel
theorem dX8_name_32 : decode cX8_name 32 = .ok (.iconst 1, 1) := by decide +kernel
theorem dX8_name_33 : decode cX8_name 33 = .ok (.aload_n 0, 1) := by decide +kernel
theorem dX8_name_34 : decode cX8_name 34 = .ok (.getfield 220, 3) := by decide +kernel
theorem dX8_name_37 : decode cX8_name 37 = .ok (.invokevirtual 242, 3) := by decide +kernel
theorem dX8_name_40 : decode cX8_name 40 = .ok (.return_, 1) := by decide +kernel
theorem dX8_name_41 : decode cX8_name 41 = .ok (.aload_n 0, 1) := by decide +kernel
theorem dX8_name_42 : decode cX8_name 42 = .ok (.invokevirtual 236, 3) := by decide +kernel
theorem dX8_name_45 : decode cX8_name 45 = .ok (.istore_n 2, 1) := by decide +kernel
theorem dX8_name_46 : decode cX8_name 46 = .ok (.aload_n 0, 1) := by decide +kernel
theorem dX8_name_47 : decode cX8_name 47 = .ok (.iload_n 2, 1) := by decide +kernel
theorem dX8_name_48 : decode cX8_name 48 = .ok (.aload_n 0, 1) := by decide +kernel
theorem dX8_name_49 : decode cX8_name 49 = .ok (.getfield 220, 3) := by decide +kernel
theorem dX8_name_52 : decode cX8_name 52 = .ok (.isub, 1) := by decide +kernel
theorem dX8_name_53 : decode cX8_name 53 = .ok (.bipush 6, 2) := by decide +kernel
theorem dX8_name_55 : decode cX8_name 55 = .ok (.if_icmp .le 7, 3) := by decide +kernel
theorem dX8_name_58 : decode cX8_name 58 = .ok (.iconst (-1), 1) := by decide +kernel
theorem dX8_name_59 : decode cX8_name 59 = .ok (.goto 16, 3) := by decide +kernel
theorem dX8_name_62 : decode cX8_name 62 = .ok (.aload_n 0, 1) := by decide +kernel
theorem dX8_name_63 : decode cX8_name 63 = .ok (.aload_n 0, 1) := by decide +kernel
theorem dX8_name_64 : decode cX8_name 64 = .ok (.aload_n 0, 1) := by decide +kernel
theorem dX8_name_65 : decode cX8_name 65 = .ok (.getfield 220, 3) := by decide +kernel
theorem dX8_name_68 : decode cX8_name 68 = .ok (.iload_n 2, 1) := by decide +kernel
theorem dX8_name_69 : decode cX8_name 69 = .ok (.invokevirtual 252, 3) := by decide +kernel
theorem dX8_name_72 : decode cX8_name 72 = .ok (.invokevirtual 256, 3) := by decide +kernel
theorem dX8_name_75 : decode cX8_name 75 = .ok (.putfield 267, 3) := by decide +kernel
theorem dX8_name_78 : decode cX8_name 78 = .ok (.aload_n 0, 1) := by decide +kernel
theorem dX8_name_79 : decode cX8_name 79 = .ok (.getfield 267, 3) := by decide +kernel
theorem dX8_name_82 : decode cX8_name 82 = .ok (.iconst (-1), 1) := by decide +kernel
theorem dX8_name_83 : decode cX8_name 83 = .ok (.if_icmp .ne 12, 3) := by decide +kernel
theorem dX8_name_86 : decode cX8_name 86 = .ok (.aload_n 0, 1) := by decide +kernel
theorem dX8_name_87 : decode cX8_name 87 = .ok (.iconst 3, 1) := by decide +kernel
theorem dX8_name_88 : decode cX8_name 88 = .ok (.aload_n 0, 1) := by decide +kernel
theorem dX8_name_89 : decode cX8_name 89 = .ok (.getfield 220, 3) := by decide +kernel
theorem dX8_name_92 : decode cX8_name 92 = .ok (.invokevirtual 242, 3) := by decide +kernel
theorem dX8_name_95 : decode cX8_name 95 = .ok (.aload_n 0, 1) := by decide +kernel
theorem dX8_name_96 : decode cX8_name 96 = .ok (.iload_n 2, 1) := by decide +kernel
theorem dX8_name_97 : decode cX8_name 97 = .ok (.putfield 220, 3) := by decide +kernel
theorem dX8_name_100 : decode cX8_name 100 = .ok (.aload_n 0, 1) := by decide +kernel
theorem dX8_name_101 : decode cX8_name 101 = .ok (.iload_n 2, 1) := by decide +kernel
theorem dX8_name_102 : decode cX8_name 102 = .ok (.putfield 233, 3) := by decide +kernel
theorem dX8_name_105 : decode cX8_name 105 = .ok (.return_, 1) := by decide +kernel
theorem dX8_reads_0 : decode cX8_reads 0 = .ok (.aload_n 0, 1) := by decide +kernel
theorem dX8_reads_1 : decode cX8_reads 1 = .ok (.getfield 48, 3) := by decide +kernel
theorem dX8_reads_4 : decode cX8_reads 4 = .ok (.iload_n 1, 1) := by decide +kernel
theorem dX8_reads_5 : decode cX8_reads 5 = .ok (.aload_n 0, 1) := by decide +kernel
theorem dX8_reads_6 : decode cX8_reads 6 = .ok (.invokevirtual 270, 3) := by decide +kernel
theorem dX8_reads_9 : decode cX8_reads 9 = .ok (.iastore, 1) := by decide +kernel
theorem dX8_reads_10 : decode cX8_reads 10 = .ok (.iconst 0, 1) := by decide +kernel
theorem dX8_reads_11 : decode cX8_reads 11 = .ok (.istore_n 2, 1) := by decide +kernel
theorem dX8_reads_12 : decode cX8_reads 12 = .ok (.iload_n 2, 1) := by decide +kernel
theorem dX8_reads_13 : decode cX8_reads 13 = .ok (.iconst 4, 1) := by decide +kernel
theorem dX8_reads_14 : decode cX8_reads 14 = .ok (.if_icmp .ge 20, 3) := by decide +kernel
theorem dX8_reads_17 : decode cX8_reads 17 = .ok (.aload_n 0, 1) := by decide +kernel
theorem dX8_reads_18 : decode cX8_reads 18 = .ok (.getfield 51, 3) := by decide +kernel
theorem dX8_reads_21 : decode cX8_reads 21 = .ok (.iconst 4, 1) := by decide +kernel
theorem dX8_reads_22 : decode cX8_reads 22 = .ok (.iload_n 1, 1) := by decide +kernel
theorem dX8_reads_23 : decode cX8_reads 23 = .ok (.imul, 1) := by decide +kernel
theorem dX8_reads_24 : decode cX8_reads 24 = .ok (.iload_n 2, 1) := by decide +kernel
theorem dX8_reads_25 : decode cX8_reads 25 = .ok (.iadd, 1) := by decide +kernel
theorem dX8_reads_26 : decode cX8_reads 26 = .ok (.iconst (-1), 1) := by decide +kernel
theorem dX8_reads_27 : decode cX8_reads 27 = .ok (.iastore, 1) := by decide +kernel
theorem dX8_reads_28 : decode cX8_reads 28 = .ok (.iinc 2 1, 3) := by decide +kernel
theorem dX8_reads_31 : decode cX8_reads 31 = .ok (.goto (-19), 3) := by decide +kernel
theorem dX8_reads_34 : decode cX8_reads 34 = .ok (.aload_n 0, 1) := by decide +kernel
theorem dX8_reads_35 : decode cX8_reads 35 = .ok (.iconst (-1), 1) := by decide +kernel
theorem dX8_reads_36 : decode cX8_reads 36 = .ok (.putfield 267, 3) := by decide +kernel
theorem dX8_reads_39 : decode cX8_reads 39 = .ok (.iconst 1, 1) := by decide +kernel
theorem dX8_reads_40 : decode cX8_reads 40 = .ok (.istore_n 2, 1) := by decide +kernel
theorem dX8_reads_41 : decode cX8_reads 41 = .ok (.iload_n 2, 1) := by decide +kernel
theorem dX8_reads_42 : decode cX8_reads 42 = .ok (.ifCond .eq 163, 3) := by decide +kernel
theorem dX8_reads_45 : decode cX8_reads 45 = .ok (.aload_n 0, 1) := by decide +kernel
theorem dX8_reads_46 : decode cX8_reads 46 = .ok (.getfield 214, 3) := by decide +kernel
theorem dX8_reads_49 : decode cX8_reads 49 = .ok (.ifCond .ne 156, 3) := by decide +kernel
theorem dX8_reads_52 : decode cX8_reads 52 = .ok (.aload_n 0, 1) := by decide +kernel
theorem dX8_reads_53 : decode cX8_reads 53 = .ok (.invokevirtual 229, 3) := by decide +kernel
theorem dX8_reads_56 : decode cX8_reads 56 = .ok (.pop, 1) := by decide +kernel
theorem dX8_reads_57 : decode cX8_reads 57 = .ok (.aload_n 0, 1) := by decide +kernel
theorem dX8_reads_58 : decode cX8_reads 58 = .ok (.getfield 220, 3) := by decide +kernel
theorem dX8_reads_61 : decode cX8_reads 61 = .ok (.istore_n 3, 1) := by decide +kernel
theorem dX8_reads_62 : decode cX8_reads 62 = .ok (.aload_n 0, 1) := by decide +kernel
theorem dX8_reads_63 : decode cX8_reads 63 = .ok (.invokevirtual 273, 3) := by decide +kernel
theorem dX8_reads_66 : decode cX8_reads 66 = .ok (.istore 4, 2) := by decide +kernel
theorem dX8_reads_68 : decode cX8_reads 68 = .ok (.iload 4, 2) := by decide +kernel
theorem dX8_reads_70 : decode cX8_reads 70 = .ok (.iconst (-1), 1) := by decide +kernel
theorem dX8_reads_71 : decode cX8_reads 71 = .ok (.if_icmp .ne 8, 3) := by decide +kernel
theorem dX8_reads_74 : decode cX8_reads 74 = .ok (.iconst 0, 1) := by decide +kernel
theorem dX8_reads_75 : decode cX8_reads 75 = .ok (.istore_n 2, 1) := by decide +kernel
theorem dX8_reads_76 : decode cX8_reads 76 = .ok (.goto (-35), 3) := by decide +kernel
theorem dX8_reads_79 : decode cX8_reads 79 = .ok (.aload_n 0, 1) := by decide +kernel
theorem dX8_reads_80 : decode cX8_reads 80 = .ok (.getfield 51, 3) := by decide +kernel
theorem dX8_reads_83 : decode cX8_reads 83 = .ok (.iconst 4, 1) := by decide +kernel
theorem dX8_reads_84 : decode cX8_reads 84 = .ok (.iload_n 1, 1) := by decide +kernel
theorem dX8_reads_85 : decode cX8_reads 85 = .ok (.imul, 1) := by decide +kernel
theorem dX8_reads_86 : decode cX8_reads 86 = .ok (.iload 4, 2) := by decide +kernel
theorem dX8_reads_88 : decode cX8_reads 88 = .ok (.iadd, 1) := by decide +kernel
theorem dX8_reads_89 : decode cX8_reads 89 = .ok (.iaload, 1) := by decide +kernel
theorem dX8_reads_90 : decode cX8_reads 90 = .ok (.iconst (-1), 1) := by decide +kernel
theorem dX8_reads_91 : decode cX8_reads 91 = .ok (.if_icmp .eq 9, 3) := by decide +kernel
theorem dX8_reads_94 : decode cX8_reads 94 = .ok (.aload_n 0, 1) := by decide +kernel
theorem dX8_reads_95 : decode cX8_reads 95 = .ok (.iconst 2, 1) := by decide +kernel
theorem dX8_reads_96 : decode cX8_reads 96 = .ok (.iload_n 3, 1) := by decide +kernel
theorem dX8_reads_97 : decode cX8_reads 97 = .ok (.invokevirtual 242, 3) := by decide +kernel
theorem dX8_reads_100 : decode cX8_reads 100 = .ok (.aload_n 0, 1) := by decide +kernel
theorem dX8_reads_101 : decode cX8_reads 101 = .ok (.getfield 214, 3) := by decide +kernel
theorem dX8_reads_104 : decode cX8_reads 104 = .ok (.ifCond .eq 4, 3) := by decide +kernel
theorem dX8_reads_107 : decode cX8_reads 107 = .ok (.return_, 1) := by decide +kernel
theorem dX8_reads_108 : decode cX8_reads 108 = .ok (.aload_n 0, 1) := by decide +kernel
theorem dX8_reads_109 : decode cX8_reads 109 = .ok (.getfield 51, 3) := by decide +kernel
theorem dX8_reads_112 : decode cX8_reads 112 = .ok (.iconst 4, 1) := by decide +kernel
theorem dX8_reads_113 : decode cX8_reads 113 = .ok (.iload_n 1, 1) := by decide +kernel
theorem dX8_reads_114 : decode cX8_reads 114 = .ok (.imul, 1) := by decide +kernel
theorem dX8_reads_115 : decode cX8_reads 115 = .ok (.iload 4, 2) := by decide +kernel
theorem dX8_reads_117 : decode cX8_reads 117 = .ok (.iadd, 1) := by decide +kernel
theorem dX8_reads_118 : decode cX8_reads 118 = .ok (.aload_n 0, 1) := by decide +kernel
theorem dX8_reads_119 : decode cX8_reads 119 = .ok (.iload 4, 2) := by decide +kernel
theorem dX8_reads_121 : decode cX8_reads 121 = .ok (.iconst 1, 1) := by decide +kernel
theorem dX8_reads_122 : decode cX8_reads 122 = .ok (.if_icmp .eq 9, 3) := by decide +kernel
theorem dX8_reads_125 : decode cX8_reads 125 = .ok (.iload 4, 2) := by decide +kernel
theorem dX8_reads_127 : decode cX8_reads 127 = .ok (.iconst 2, 1) := by decide +kernel
theorem dX8_reads_128 : decode cX8_reads 128 = .ok (.if_icmp .ne 7, 3) := by decide +kernel
theorem dX8_reads_131 : decode cX8_reads 131 = .ok (.iconst 1, 1) := by decide +kernel
theorem dX8_reads_132 : decode cX8_reads 132 = .ok (.goto 4, 3) := by decide +kernel
theorem dX8_reads_135 : decode cX8_reads 135 = .ok (.iconst 0, 1) := by decide +kernel
theorem dX8_reads_136 : decode cX8_reads 136 = .ok (.iload 4, 2) := by decide +kernel
theorem dX8_reads_138 : decode cX8_reads 138 = .ok (.ifCond .ne 9, 3) := by decide +kernel
theorem dX8_reads_141 : decode cX8_reads 141 = .ok (.sipush 999, 3) := by decide +kernel
theorem dX8_reads_144 : decode cX8_reads 144 = .ok (.goto 27, 3) := by decide +kernel
theorem dX8_reads_147 : decode cX8_reads 147 = .ok (.iload 4, 2) := by decide +kernel
theorem dX8_reads_149 : decode cX8_reads 149 = .ok (.iconst 1, 1) := by decide +kernel
theorem dX8_reads_150 : decode cX8_reads 150 = .ok (.if_icmp .ne 8, 3) := by decide +kernel
theorem dX8_reads_153 : decode cX8_reads 153 = .ok (.bipush 13, 2) := by decide +kernel
theorem dX8_reads_155 : decode cX8_reads 155 = .ok (.goto 16, 3) := by decide +kernel
theorem dX8_reads_158 : decode cX8_reads 158 = .ok (.iload 4, 2) := by decide +kernel
theorem dX8_reads_160 : decode cX8_reads 160 = .ok (.iconst 2, 1) := by decide +kernel
theorem dX8_reads_161 : decode cX8_reads 161 = .ok (.if_icmp .ne 8, 3) := by decide +kernel
theorem dX8_reads_164 : decode cX8_reads 164 = .ok (.bipush 31, 2) := by decide +kernel
theorem dX8_reads_166 : decode cX8_reads 166 = .ok (.goto 5, 3) := by decide +kernel
theorem dX8_reads_169 : decode cX8_reads 169 = .ok (.bipush 23, 2) := by decide +kernel
theorem dX8_reads_171 : decode cX8_reads 171 = .ok (.invokevirtual 276, 3) := by decide +kernel
theorem dX8_reads_174 : decode cX8_reads 174 = .ok (.iastore, 1) := by decide +kernel
theorem dX8_reads_175 : decode cX8_reads 175 = .ok (.aload_n 0, 1) := by decide +kernel
theorem dX8_reads_176 : decode cX8_reads 176 = .ok (.getfield 214, 3) := by decide +kernel
theorem dX8_reads_179 : decode cX8_reads 179 = .ok (.ifCond .ne 23, 3) := by decide +kernel
theorem dX8_reads_182 : decode cX8_reads 182 = .ok (.iload 4, 2) := by decide +kernel
theorem dX8_reads_184 : decode cX8_reads 184 = .ok (.ifCond .ne 18, 3) := by decide +kernel
theorem dX8_reads_187 : decode cX8_reads 187 = .ok (.aload_n 0, 1) := by decide +kernel
theorem dX8_reads_188 : decode cX8_reads 188 = .ok (.aload_n 0, 1) := by decide +kernel
theorem dX8_reads_189 : decode cX8_reads 189 = .ok (.getfield 97, 3) := by decide +kernel
theorem dX8_reads_192 : decode cX8_reads 192 = .ok (.invokevirtual 260, 3) := by decide +kernel
theorem dX8_reads_195 : decode cX8_reads 195 = .ok (.ifCond .eq 7, 3) := by decide +kernel
theorem dX8_reads_198 : decode cX8_reads 198 = .ok (.aload_n 0, 1) := by decide +kernel
theorem dX8_reads_199 : decode cX8_reads 199 = .ok (.invokevirtual 279, 3) := by decide +kernel
theorem dX8_reads_202 : decode cX8_reads 202 = .ok (.goto (-161), 3) := by decide +kernel
theorem dX8_reads_205 : decode cX8_reads 205 = .ok (.aload_n 0, 1) := by decide +kernel
theorem dX8_reads_206 : decode cX8_reads 206 = .ok (.getfield 214, 3) := by decide +kernel
theorem dX8_reads_209 : decode cX8_reads 209 = .ok (.ifCond .ne 23, 3) := by decide +kernel
theorem dX8_reads_212 : decode cX8_reads 212 = .ok (.aload_n 0, 1) := by decide +kernel
theorem dX8_reads_213 : decode cX8_reads 213 = .ok (.aload_n 0, 1) := by decide +kernel
theorem dX8_reads_214 : decode cX8_reads 214 = .ok (.getfield 100, 3) := by decide +kernel
theorem dX8_reads_217 : decode cX8_reads 217 = .ok (.invokevirtual 260, 3) := by decide +kernel
theorem dX8_reads_220 : decode cX8_reads 220 = .ok (.ifCond .ne 12, 3) := by decide +kernel
theorem dX8_reads_223 : decode cX8_reads 223 = .ok (.aload_n 0, 1) := by decide +kernel
theorem dX8_reads_224 : decode cX8_reads 224 = .ok (.iconst 1, 1) := by decide +kernel
theorem dX8_reads_225 : decode cX8_reads 225 = .ok (.aload_n 0, 1) := by decide +kernel
theorem dX8_reads_226 : decode cX8_reads 226 = .ok (.getfield 220, 3) := by decide +kernel
theorem dX8_reads_229 : decode cX8_reads 229 = .ok (.invokevirtual 242, 3) := by decide +kernel
theorem dX8_reads_232 : decode cX8_reads 232 = .ok (.aload_n 0, 1) := by decide +kernel
theorem dX8_reads_233 : decode cX8_reads 233 = .ok (.getfield 214, 3) := by decide +kernel
theorem dX8_reads_236 : decode cX8_reads 236 = .ok (.ifCond .ne 55, 3) := by decide +kernel
theorem dX8_reads_239 : decode cX8_reads 239 = .ok (.aload_n 0, 1) := by decide +kernel
theorem dX8_reads_240 : decode cX8_reads 240 = .ok (.getfield 57, 3) := by decide +kernel
theorem dX8_reads_243 : decode cX8_reads 243 = .ok (.iload_n 1, 1) := by decide +kernel
theorem dX8_reads_244 : decode cX8_reads 244 = .ok (.aload_n 0, 1) := by decide +kernel
theorem dX8_reads_245 : decode cX8_reads 245 = .ok (.aload_n 0, 1) := by decide +kernel
theorem dX8_reads_246 : decode cX8_reads 246 = .ok (.getfield 103, 3) := by decide +kernel
theorem dX8_reads_249 : decode cX8_reads 249 = .ok (.invokevirtual 260, 3) := by decide +kernel
theorem dX8_reads_252 : decode cX8_reads 252 = .ok (.ifCond .eq 7, 3) := by decide +kernel
theorem dX8_reads_255 : decode cX8_reads 255 = .ok (.iconst 0, 1) := by decide +kernel
theorem dX8_reads_256 : decode cX8_reads 256 = .ok (.goto 34, 3) := by decide +kernel
theorem dX8_reads_259 : decode cX8_reads 259 = .ok (.aload_n 0, 1) := by decide +kernel
theorem dX8_reads_260 : decode cX8_reads 260 = .ok (.aload_n 0, 1) := by decide +kernel
theorem dX8_reads_261 : decode cX8_reads 261 = .ok (.getfield 106, 3) := by decide +kernel
theorem dX8_reads_264 : decode cX8_reads 264 = .ok (.invokevirtual 260, 3) := by decide +kernel
theorem dX8_reads_267 : decode cX8_reads 267 = .ok (.ifCond .eq 7, 3) := by decide +kernel
theorem dX8_reads_270 : decode cX8_reads 270 = .ok (.iconst 1, 1) := by decide +kernel
theorem dX8_reads_271 : decode cX8_reads 271 = .ok (.goto 19, 3) := by decide +kernel
theorem dX8_reads_274 : decode cX8_reads 274 = .ok (.aload_n 0, 1) := by decide +kernel
theorem dX8_reads_275 : decode cX8_reads 275 = .ok (.aload_n 0, 1) := by decide +kernel
theorem dX8_reads_276 : decode cX8_reads 276 = .ok (.getfield 109, 3) := by decide +kernel
theorem dX8_reads_279 : decode cX8_reads 279 = .ok (.invokevirtual 260, 3) := by decide +kernel
theorem dX8_reads_282 : decode cX8_reads 282 = .ok (.ifCond .eq 7, 3) := by decide +kernel
theorem dX8_reads_285 : decode cX8_reads 285 = .ok (.iconst 2, 1) := by decide +kernel
theorem dX8_reads_286 : decode cX8_reads 286 = .ok (.goto 4, 3) := by decide +kernel
theorem dX8_reads_289 : decode cX8_reads 289 = .ok (.iconst (-1), 1) := by decide +kernel
theorem dX8_reads_290 : decode cX8_reads 290 = .ok (.iastore, 1) := by decide +kernel
theorem dX8_reads_291 : decode cX8_reads 291 = .ok (.aload_n 0, 1) := by decide +kernel
theorem dX8_reads_292 : decode cX8_reads 292 = .ok (.getfield 214, 3) := by decide +kernel
theorem dX8_reads_295 : decode cX8_reads 295 = .ok (.ifCond .ne 22, 3) := by decide +kernel
theorem dX8_reads_298 : decode cX8_reads 298 = .ok (.aload_n 0, 1) := by decide +kernel
theorem dX8_reads_299 : decode cX8_reads 299 = .ok (.getfield 57, 3) := by decide +kernel
theorem dX8_reads_302 : decode cX8_reads 302 = .ok (.iload_n 1, 1) := by decide +kernel
theorem dX8_reads_303 : decode cX8_reads 303 = .ok (.iaload, 1) := by decide +kernel
theorem dX8_reads_304 : decode cX8_reads 304 = .ok (.iconst (-1), 1) := by decide +kernel
theorem dX8_reads_305 : decode cX8_reads 305 = .ok (.if_icmp .ne 12, 3) := by decide +kernel
theorem dX8_reads_308 : decode cX8_reads 308 = .ok (.aload_n 0, 1) := by decide +kernel
theorem dX8_reads_309 : decode cX8_reads 309 = .ok (.iconst 1, 1) := by decide +kernel
theorem dX8_reads_310 : decode cX8_reads 310 = .ok (.aload_n 0, 1) := by decide +kernel
theorem dX8_reads_311 : decode cX8_reads 311 = .ok (.getfield 220, 3) := by decide +kernel
theorem dX8_reads_314 : decode cX8_reads 314 = .ok (.invokevirtual 242, 3) := by decide +kernel
theorem dX8_reads_317 : decode cX8_reads 317 = .ok (.aload_n 0, 1) := by decide +kernel
theorem dX8_reads_318 : decode cX8_reads 318 = .ok (.getfield 214, 3) := by decide +kernel
theorem dX8_reads_321 : decode cX8_reads 321 = .ok (.ifCond .ne 21, 3) := by decide +kernel
theorem dX8_reads_324 : decode cX8_reads 324 = .ok (.aload_n 0, 1) := by decide +kernel
theorem dX8_reads_325 : decode cX8_reads 325 = .ok (.invokevirtual 229, 3) := by decide +kernel
theorem dX8_reads_328 : decode cX8_reads 328 = .ok (.bipush 59, 2) := by decide +kernel
theorem dX8_reads_330 : decode cX8_reads 330 = .ok (.if_icmp .eq 12, 3) := by decide +kernel
theorem dX8_reads_333 : decode cX8_reads 333 = .ok (.aload_n 0, 1) := by decide +kernel
theorem dX8_reads_334 : decode cX8_reads 334 = .ok (.iconst 1, 1) := by decide +kernel
theorem dX8_reads_335 : decode cX8_reads 335 = .ok (.aload_n 0, 1) := by decide +kernel
theorem dX8_reads_336 : decode cX8_reads 336 = .ok (.getfield 220, 3) := by decide +kernel
theorem dX8_reads_339 : decode cX8_reads 339 = .ok (.invokevirtual 242, 3) := by decide +kernel
theorem dX8_reads_342 : decode cX8_reads 342 = .ok (.aload_n 0, 1) := by decide +kernel
theorem dX8_reads_343 : decode cX8_reads 343 = .ok (.dup, 1) := by decide +kernel
theorem dX8_reads_344 : decode cX8_reads 344 = .ok (.getfield 220, 3) := by decide +kernel
theorem dX8_reads_347 : decode cX8_reads 347 = .ok (.iconst 1, 1) := by decide +kernel
theorem dX8_reads_348 : decode cX8_reads 348 = .ok (.iadd, 1) := by decide +kernel
theorem dX8_reads_349 : decode cX8_reads 349 = .ok (.putfield 220, 3) := by decide +kernel
theorem dX8_reads_352 : decode cX8_reads 352 = .ok (.aload_n 0, 1) := by decide +kernel
theorem dX8_reads_353 : decode cX8_reads 353 = .ok (.getfield 214, 3) := by decide +kernel
theorem dX8_reads_356 : decode cX8_reads 356 = .ok (.ifCond .ne 20, 3) := by decide +kernel
theorem dX8_reads_359 : decode cX8_reads 359 = .ok (.aload_n 0, 1) := by decide +kernel
theorem dX8_reads_360 : decode cX8_reads 360 = .ok (.invokevirtual 229, 3) := by decide +kernel
theorem dX8_reads_363 : decode cX8_reads 363 = .ok (.iconst (-1), 1) := by decide +kernel
theorem dX8_reads_364 : decode cX8_reads 364 = .ok (.if_icmp .eq 12, 3) := by decide +kernel
theorem dX8_reads_367 : decode cX8_reads 367 = .ok (.aload_n 0, 1) := by decide +kernel
theorem dX8_reads_368 : decode cX8_reads 368 = .ok (.iconst 1, 1) := by decide +kernel
theorem dX8_reads_369 : decode cX8_reads 369 = .ok (.aload_n 0, 1) := by decide +kernel
theorem dX8_reads_370 : decode cX8_reads 370 = .ok (.getfield 220, 3) := by decide +kernel
theorem dX8_reads_373 : decode cX8_reads 373 = .ok (.invokevirtual 242, 3) := by decide +kernel
theorem dX8_reads_376 : decode cX8_reads 376 = .ok (.aload_n 0, 1) := by decide +kernel
theorem dX8_reads_377 : decode cX8_reads 377 = .ok (.getfield 214, 3) := by decide +kernel
theorem dX8_reads_380 : decode cX8_reads 380 = .ok (.ifCond .ne 38, 3) := by decide +kernel
theorem dX8_reads_383 : decode cX8_reads 383 = .ok (.aload_n 0, 1) := by decide +kernel
theorem dX8_reads_384 : decode cX8_reads 384 = .ok (.getfield 267, 3) := by decide +kernel
theorem dX8_reads_387 : decode cX8_reads 387 = .ok (.iconst (-1), 1) := by decide +kernel
theorem dX8_reads_388 : decode cX8_reads 388 = .ok (.if_icmp .eq 30, 3) := by decide +kernel
theorem dX8_reads_391 : decode cX8_reads 391 = .ok (.aload_n 0, 1) := by decide +kernel
theorem dX8_reads_392 : decode cX8_reads 392 = .ok (.getfield 42, 3) := by decide +kernel
theorem dX8_reads_395 : decode cX8_reads 395 = .ok (.aload_n 0, 1) := by decide +kernel
theorem dX8_reads_396 : decode cX8_reads 396 = .ok (.getfield 267, 3) := by decide +kernel
theorem dX8_reads_399 : decode cX8_reads 399 = .ok (.iaload, 1) := by decide +kernel
theorem dX8_reads_400 : decode cX8_reads 400 = .ok (.aload_n 0, 1) := by decide +kernel
theorem dX8_reads_401 : decode cX8_reads 401 = .ok (.getfield 57, 3) := by decide +kernel
theorem dX8_reads_404 : decode cX8_reads 404 = .ok (.iload_n 1, 1) := by decide +kernel
theorem dX8_reads_405 : decode cX8_reads 405 = .ok (.iaload, 1) := by decide +kernel
theorem dX8_reads_406 : decode cX8_reads 406 = .ok (.if_icmp .eq 12, 3) := by decide +kernel
theorem dX8_reads_409 : decode cX8_reads 409 = .ok (.aload_n 0, 1) := by decide +kernel
theorem dX8_reads_410 : decode cX8_reads 410 = .ok (.iconst 3, 1) := by decide +kernel
theorem dX8_reads_411 : decode cX8_reads 411 = .ok (.aload_n 0, 1) := by decide +kernel
theorem dX8_reads_412 : decode cX8_reads 412 = .ok (.getfield 264, 3) := by decide +kernel
theorem dX8_reads_415 : decode cX8_reads 415 = .ok (.invokevirtual 242, 3) := by decide +kernel
theorem dX8_reads_418 : decode cX8_reads 418 = .ok (.return_, 1) := by decide +kernel
theorem dX8_record_0 : decode cX8_record 0 = .ok (.aload_n 0, 1) := by decide +kernel
theorem dX8_record_1 : decode cX8_record 1 = .ok (.aload_n 0, 1) := by decide +kernel
theorem dX8_record_2 : decode cX8_record 2 = .ok (.getfield 211, 3) := by decide +kernel
theorem dX8_record_5 : decode cX8_record 5 = .ok (.putfield 223, 3) := by decide +kernel
theorem dX8_record_8 : decode cX8_record 8 = .ok (.aload_n 0, 1) := by decide +kernel
theorem dX8_record_9 : decode cX8_record 9 = .ok (.iconst 0, 1) := by decide +kernel
theorem dX8_record_10 : decode cX8_record 10 = .ok (.putfield 211, 3) := by decide +kernel
theorem dX8_record_13 : decode cX8_record 13 = .ok (.iload_n 1, 1) := by decide +kernel
theorem dX8_record_14 : decode cX8_record 14 = .ok (.sipush (-720), 3) := by decide +kernel
theorem dX8_record_17 : decode cX8_record 17 = .ok (.sipush 720, 3) := by decide +kernel
theorem dX8_record_20 : decode cX8_record 20 = .ok (.invokestatic 113, 3) := by decide +kernel
theorem dX8_record_23 : decode cX8_record 23 = .ok (.ifCond .eq 12, 3) := by decide +kernel
theorem dX8_record_26 : decode cX8_record 26 = .ok (.aload_n 0, 1) := by decide +kernel
theorem dX8_record_27 : decode cX8_record 27 = .ok (.getfield 282, 3) := by decide +kernel
end
section
theorem dX8_record_30 : decode cX8_record 30 = .ok (.bipush 8, 2) := by decide +kernel
theorem dX8_record_32 : decode cX8_record 32 = .ok (.if_icmp .ne 6, 3) := by decide +kernel
theorem dX8_record_35 : decode cX8_record 35 = .ok (.bipush (-2), 2) := by decide +kernel
theorem dX8_record_37 : decode cX8_record 37 = .ok (.ireturn, 1) := by decide +kernel
theorem dX8_record_38 : decode cX8_record 38 = .ok (.aload_n 0, 1) := by decide +kernel
theorem dX8_record_39 : decode cX8_record 39 = .ok (.iconst 0, 1) := by decide +kernel
theorem dX8_record_40 : decode cX8_record 40 = .ok (.putfield 220, 3) := by decide +kernel
theorem dX8_record_43 : decode cX8_record 43 = .ok (.aload_n 0, 1) := by decide +kernel
theorem dX8_record_44 : decode cX8_record 44 = .ok (.iconst (-1), 1) := by decide +kernel
theorem dX8_record_45 : decode cX8_record 45 = .ok (.putfield 233, 3) := by decide +kernel
theorem dX8_record_48 : decode cX8_record 48 = .ok (.aload_n 0, 1) := by decide +kernel
theorem dX8_record_49 : decode cX8_record 49 = .ok (.iconst 0, 1) := by decide +kernel
theorem dX8_record_50 : decode cX8_record 50 = .ok (.putfield 214, 3) := by decide +kernel
theorem dX8_record_53 : decode cX8_record 53 = .ok (.aload_n 0, 1) := by decide +kernel
theorem dX8_record_54 : decode cX8_record 54 = .ok (.iconst (-1), 1) := by decide +kernel
theorem dX8_record_55 : decode cX8_record 55 = .ok (.putfield 217, 3) := by decide +kernel
theorem dX8_record_58 : decode cX8_record 58 = .ok (.aload_n 0, 1) := by decide +kernel
theorem dX8_record_59 : decode cX8_record 59 = .ok (.aload_n 0, 1) := by decide +kernel
theorem dX8_record_60 : decode cX8_record 60 = .ok (.getfield 282, 3) := by decide +kernel
theorem dX8_record_63 : decode cX8_record 63 = .ok (.invokevirtual 285, 3) := by decide +kernel
theorem dX8_record_66 : decode cX8_record 66 = .ok (.aload_n 0, 1) := by decide +kernel
theorem dX8_record_67 : decode cX8_record 67 = .ok (.aload_n 0, 1) := by decide +kernel
theorem dX8_record_68 : decode cX8_record 68 = .ok (.getfield 214, 3) := by decide +kernel
theorem dX8_record_71 : decode cX8_record 71 = .ok (.putfield 289, 3) := by decide +kernel
theorem dX8_record_74 : decode cX8_record 74 = .ok (.aload_n 0, 1) := by decide +kernel
theorem dX8_record_75 : decode cX8_record 75 = .ok (.aload_n 0, 1) := by decide +kernel
theorem dX8_record_76 : decode cX8_record 76 = .ok (.getfield 217, 3) := by decide +kernel
theorem dX8_record_79 : decode cX8_record 79 = .ok (.putfield 35, 3) := by decide +kernel
theorem dX8_record_82 : decode cX8_record 82 = .ok (.aload_n 0, 1) := by decide +kernel
theorem dX8_record_83 : decode cX8_record 83 = .ok (.getfield 214, 3) := by decide +kernel
theorem dX8_record_86 : decode cX8_record 86 = .ok (.ifCond .eq 5, 3) := by decide +kernel
theorem dX8_record_89 : decode cX8_record 89 = .ok (.iconst (-1), 1) := by decide +kernel
theorem dX8_record_90 : decode cX8_record 90 = .ok (.ireturn, 1) := by decide +kernel
theorem dX8_record_91 : decode cX8_record 91 = .ok (.aload_n 0, 1) := by decide +kernel
theorem dX8_record_92 : decode cX8_record 92 = .ok (.getfield 54, 3) := by decide +kernel
theorem dX8_record_95 : decode cX8_record 95 = .ok (.aload_n 0, 1) := by decide +kernel
theorem dX8_record_96 : decode cX8_record 96 = .ok (.getfield 282, 3) := by decide +kernel
theorem dX8_record_99 : decode cX8_record 99 = .ok (.aload_n 0, 1) := by decide +kernel
theorem dX8_record_100 : decode cX8_record 100 = .ok (.getfield 267, 3) := by decide +kernel
theorem dX8_record_103 : decode cX8_record 103 = .ok (.iconst (-1), 1) := by decide +kernel
theorem dX8_record_104 : decode cX8_record 104 = .ok (.if_icmp .ne 7, 3) := by decide +kernel
theorem dX8_record_107 : decode cX8_record 107 = .ok (.iconst 0, 1) := by decide +kernel
theorem dX8_record_108 : decode cX8_record 108 = .ok (.goto 14, 3) := by decide +kernel
theorem dX8_record_111 : decode cX8_record 111 = .ok (.aload_n 0, 1) := by decide +kernel
theorem dX8_record_112 : decode cX8_record 112 = .ok (.getfield 45, 3) := by decide +kernel
theorem dX8_record_115 : decode cX8_record 115 = .ok (.aload_n 0, 1) := by decide +kernel
theorem dX8_record_116 : decode cX8_record 116 = .ok (.getfield 267, 3) := by decide +kernel
theorem dX8_record_119 : decode cX8_record 119 = .ok (.iaload, 1) := by decide +kernel
theorem dX8_record_120 : decode cX8_record 120 = .ok (.iconst 1, 1) := by decide +kernel
theorem dX8_record_121 : decode cX8_record 121 = .ok (.isub, 1) := by decide +kernel
theorem dX8_record_122 : decode cX8_record 122 = .ok (.iastore, 1) := by decide +kernel
theorem dX8_record_123 : decode cX8_record 123 = .ok (.aload_n 0, 1) := by decide +kernel
theorem dX8_record_124 : decode cX8_record 124 = .ok (.getfield 60, 3) := by decide +kernel
theorem dX8_record_127 : decode cX8_record 127 = .ok (.aload_n 0, 1) := by decide +kernel
theorem dX8_record_128 : decode cX8_record 128 = .ok (.getfield 282, 3) := by decide +kernel
theorem dX8_record_131 : decode cX8_record 131 = .ok (.iload_n 1, 1) := by decide +kernel
theorem dX8_record_132 : decode cX8_record 132 = .ok (.iastore, 1) := by decide +kernel
theorem dX8_record_133 : decode cX8_record 133 = .ok (.aload_n 0, 1) := by decide +kernel
theorem dX8_record_134 : decode cX8_record 134 = .ok (.dup, 1) := by decide +kernel
theorem dX8_record_135 : decode cX8_record 135 = .ok (.getfield 282, 3) := by decide +kernel
theorem dX8_record_138 : decode cX8_record 138 = .ok (.iconst 1, 1) := by decide +kernel
theorem dX8_record_139 : decode cX8_record 139 = .ok (.iadd, 1) := by decide +kernel
theorem dX8_record_140 : decode cX8_record 140 = .ok (.putfield 282, 3) := by decide +kernel
theorem dX8_record_143 : decode cX8_record 143 = .ok (.aload_n 0, 1) := by decide +kernel
theorem dX8_record_144 : decode cX8_record 144 = .ok (.getfield 282, 3) := by decide +kernel
theorem dX8_record_147 : decode cX8_record 147 = .ok (.iconst 1, 1) := by decide +kernel
theorem dX8_record_148 : decode cX8_record 148 = .ok (.isub, 1) := by decide +kernel
theorem dX8_record_149 : decode cX8_record 149 = .ok (.ireturn, 1) := by decide +kernel
theorem dX8_fault_0 : decode cX8_fault 0 = .ok (.iload_n 1, 1) := by decide +kernel
theorem dX8_fault_1 : decode cX8_fault 1 = .ok (.ifCond .ne 10, 3) := by decide +kernel
theorem dX8_fault_4 : decode cX8_fault 4 = .ok (.aload_n 0, 1) := by decide +kernel
theorem dX8_fault_5 : decode cX8_fault 5 = .ok (.getfield 289, 3) := by decide +kernel
theorem dX8_fault_8 : decode cX8_fault 8 = .ok (.goto 16, 3) := by decide +kernel
theorem dX8_fault_11 : decode cX8_fault 11 = .ok (.iload_n 1, 1) := by decide +kernel
theorem dX8_fault_12 : decode cX8_fault 12 = .ok (.iconst 1, 1) := by decide +kernel
theorem dX8_fault_13 : decode cX8_fault 13 = .ok (.if_icmp .ne 10, 3) := by decide +kernel
theorem dX8_fault_16 : decode cX8_fault 16 = .ok (.aload_n 0, 1) := by decide +kernel
theorem dX8_fault_17 : decode cX8_fault 17 = .ok (.getfield 35, 3) := by decide +kernel
theorem dX8_fault_20 : decode cX8_fault 20 = .ok (.goto 4, 3) := by decide +kernel
theorem dX8_fault_23 : decode cX8_fault 23 = .ok (.iconst (-1), 1) := by decide +kernel
theorem dX8_fault_24 : decode cX8_fault 24 = .ok (.ireturn, 1) := by decide +kernel
theorem dX8_isRecord_0 : decode cX8_isRecord 0 = .ok (.iload_n 1, 1) := by decide +kernel
theorem dX8_isRecord_1 : decode cX8_isRecord 1 = .ok (.ifCond .lt 15, 3) := by decide +kernel
theorem dX8_isRecord_4 : decode cX8_isRecord 4 = .ok (.iload_n 1, 1) := by decide +kernel
theorem dX8_isRecord_5 : decode cX8_isRecord 5 = .ok (.aload_n 0, 1) := by decide +kernel
theorem dX8_isRecord_6 : decode cX8_isRecord 6 = .ok (.getfield 282, 3) := by decide +kernel
theorem dX8_isRecord_9 : decode cX8_isRecord 9 = .ok (.if_icmp .ge 7, 3) := by decide +kernel
theorem dX8_isRecord_12 : decode cX8_isRecord 12 = .ok (.iconst 1, 1) := by decide +kernel
theorem dX8_isRecord_13 : decode cX8_isRecord 13 = .ok (.goto 4, 3) := by decide +kernel
theorem dX8_isRecord_16 : decode cX8_isRecord 16 = .ok (.iconst 0, 1) := by decide +kernel
theorem dX8_isRecord_17 : decode cX8_isRecord 17 = .ok (.ireturn, 1) := by decide +kernel
theorem dX8_differs_0 : decode cX8_differs 0 = .ok (.aload_n 0, 1) := by decide +kernel
theorem dX8_differs_1 : decode cX8_differs 1 = .ok (.getfield 48, 3) := by decide +kernel
theorem dX8_differs_4 : decode cX8_differs 4 = .ok (.iload_n 1, 1) := by decide +kernel
theorem dX8_differs_5 : decode cX8_differs 5 = .ok (.iaload, 1) := by decide +kernel
theorem dX8_differs_6 : decode cX8_differs 6 = .ok (.aload_n 0, 1) := by decide +kernel
theorem dX8_differs_7 : decode cX8_differs 7 = .ok (.getfield 20, 3) := by decide +kernel
theorem dX8_differs_10 : decode cX8_differs 10 = .ok (.iload_n 2, 1) := by decide +kernel
theorem dX8_differs_11 : decode cX8_differs 11 = .ok (.iaload, 1) := by decide +kernel
theorem dX8_differs_12 : decode cX8_differs 12 = .ok (.ishr, 1) := by decide +kernel
theorem dX8_differs_13 : decode cX8_differs 13 = .ok (.iconst 1, 1) := by decide +kernel
theorem dX8_differs_14 : decode cX8_differs 14 = .ok (.iand, 1) := by decide +kernel
theorem dX8_differs_15 : decode cX8_differs 15 = .ok (.ifCond .ne 5, 3) := by decide +kernel
theorem dX8_differs_18 : decode cX8_differs 18 = .ok (.iconst (-1), 1) := by decide +kernel
theorem dX8_differs_19 : decode cX8_differs 19 = .ok (.ireturn, 1) := by decide +kernel
theorem dX8_differs_20 : decode cX8_differs 20 = .ok (.aload_n 0, 1) := by decide +kernel
theorem dX8_differs_21 : decode cX8_differs 21 = .ok (.getfield 23, 3) := by decide +kernel
theorem dX8_differs_24 : decode cX8_differs 24 = .ok (.iload_n 2, 1) := by decide +kernel
theorem dX8_differs_25 : decode cX8_differs 25 = .ok (.iaload, 1) := by decide +kernel
theorem dX8_differs_26 : decode cX8_differs 26 = .ok (.aload_n 0, 1) := by decide +kernel
theorem dX8_differs_27 : decode cX8_differs 27 = .ok (.getfield 60, 3) := by decide +kernel
theorem dX8_differs_30 : decode cX8_differs 30 = .ok (.iload_n 1, 1) := by decide +kernel
theorem dX8_differs_31 : decode cX8_differs 31 = .ok (.iaload, 1) := by decide +kernel
theorem dX8_differs_32 : decode cX8_differs 32 = .ok (.iload_n 3, 1) := by decide +kernel
theorem dX8_differs_33 : decode cX8_differs 33 = .ok (.invokestatic 207, 3) := by decide +kernel
theorem dX8_differs_36 : decode cX8_differs 36 = .ok (.istore 4, 2) := by decide +kernel
theorem dX8_differs_38 : decode cX8_differs 38 = .ok (.iload 4, 2) := by decide +kernel
theorem dX8_differs_40 : decode cX8_differs 40 = .ok (.ifCond .ge 5, 3) := by decide +kernel
theorem dX8_differs_43 : decode cX8_differs 43 = .ok (.iconst (-1), 1) := by decide +kernel
theorem dX8_differs_44 : decode cX8_differs 44 = .ok (.ireturn, 1) := by decide +kernel
theorem dX8_differs_45 : decode cX8_differs 45 = .ok (.iload 4, 2) := by decide +kernel
theorem dX8_differs_47 : decode cX8_differs 47 = .ok (.sipush 1440, 3) := by decide +kernel
theorem dX8_differs_50 : decode cX8_differs 50 = .ok (.irem, 1) := by decide +kernel
theorem dX8_differs_51 : decode cX8_differs 51 = .ok (.bipush 60, 2) := by decide +kernel
theorem dX8_differs_53 : decode cX8_differs 53 = .ok (.idiv, 1) := by decide +kernel
theorem dX8_differs_54 : decode cX8_differs 54 = .ok (.istore 5, 2) := by decide +kernel
theorem dX8_differs_56 : decode cX8_differs 56 = .ok (.iload 5, 2) := by decide +kernel
theorem dX8_differs_58 : decode cX8_differs 58 = .ok (.iconst 5, 1) := by decide +kernel
theorem dX8_differs_59 : decode cX8_differs 59 = .ok (.if_icmp .le 14, 3) := by decide +kernel
theorem dX8_differs_62 : decode cX8_differs 62 = .ok (.iload 5, 2) := by decide +kernel
theorem dX8_differs_64 : decode cX8_differs 64 = .ok (.bipush 18, 2) := by decide +kernel
theorem dX8_differs_66 : decode cX8_differs 66 = .ok (.if_icmp .ge 7, 3) := by decide +kernel
theorem dX8_differs_69 : decode cX8_differs 69 = .ok (.iconst 1, 1) := by decide +kernel
theorem dX8_differs_70 : decode cX8_differs 70 = .ok (.goto 4, 3) := by decide +kernel
theorem dX8_differs_73 : decode cX8_differs 73 = .ok (.iconst 0, 1) := by decide +kernel
theorem dX8_differs_74 : decode cX8_differs 74 = .ok (.istore 6, 2) := by decide +kernel
theorem dX8_differs_76 : decode cX8_differs 76 = .ok (.iload 6, 2) := by decide +kernel
theorem dX8_differs_78 : decode cX8_differs 78 = .ok (.aload_n 0, 1) := by decide +kernel
theorem dX8_differs_79 : decode cX8_differs 79 = .ok (.getfield 20, 3) := by decide +kernel
theorem dX8_differs_82 : decode cX8_differs 82 = .ok (.iload_n 2, 1) := by decide +kernel
theorem dX8_differs_83 : decode cX8_differs 83 = .ok (.iaload, 1) := by decide +kernel
theorem dX8_differs_84 : decode cX8_differs 84 = .ok (.iconst 4, 1) := by decide +kernel
theorem dX8_differs_85 : decode cX8_differs 85 = .ok (.if_icmp .ge 7, 3) := by decide +kernel
theorem dX8_differs_88 : decode cX8_differs 88 = .ok (.iconst 1, 1) := by decide +kernel
theorem dX8_differs_89 : decode cX8_differs 89 = .ok (.goto 4, 3) := by decide +kernel
theorem dX8_differs_92 : decode cX8_differs 92 = .ok (.iconst 0, 1) := by decide +kernel
theorem dX8_differs_93 : decode cX8_differs 93 = .ok (.if_icmp .eq 5, 3) := by decide +kernel
theorem dX8_differs_96 : decode cX8_differs 96 = .ok (.iconst (-1), 1) := by decide +kernel
theorem dX8_differs_97 : decode cX8_differs 97 = .ok (.ireturn, 1) := by decide +kernel
theorem dX8_differs_98 : decode cX8_differs 98 = .ok (.aload_n 0, 1) := by decide +kernel
theorem dX8_differs_99 : decode cX8_differs 99 = .ok (.iload 4, 2) := by decide +kernel
theorem dX8_differs_101 : decode cX8_differs 101 = .ok (.sipush 1440, 3) := by decide +kernel
theorem dX8_differs_104 : decode cX8_differs 104 = .ok (.idiv, 1) := by decide +kernel
theorem dX8_differs_105 : decode cX8_differs 105 = .ok (.aload_n 0, 1) := by decide +kernel
theorem dX8_differs_106 : decode cX8_differs 106 = .ok (.getfield 57, 3) := by decide +kernel
theorem dX8_differs_109 : decode cX8_differs 109 = .ok (.iload_n 1, 1) := by decide +kernel
theorem dX8_differs_110 : decode cX8_differs 110 = .ok (.iaload, 1) := by decide +kernel
theorem dX8_differs_111 : decode cX8_differs 111 = .ok (.invokevirtual 202, 3) := by decide +kernel
theorem dX8_differs_114 : decode cX8_differs 114 = .ok (.iconst 0, 1) := by decide +kernel
theorem dX8_differs_115 : decode cX8_differs 115 = .ok (.istore 7, 2) := by decide +kernel
theorem dX8_differs_117 : decode cX8_differs 117 = .ok (.iconst 0, 1) := by decide +kernel
theorem dX8_differs_118 : decode cX8_differs 118 = .ok (.istore 8, 2) := by decide +kernel
theorem dX8_differs_120 : decode cX8_differs 120 = .ok (.iload 8, 2) := by decide +kernel
theorem dX8_differs_122 : decode cX8_differs 122 = .ok (.iconst 4, 1) := by decide +kernel
theorem dX8_differs_123 : decode cX8_differs 123 = .ok (.if_icmp .ge 107, 3) := by decide +kernel
theorem dX8_differs_126 : decode cX8_differs 126 = .ok (.aload_n 0, 1) := by decide +kernel
theorem dX8_differs_127 : decode cX8_differs 127 = .ok (.getfield 51, 3) := by decide +kernel
theorem dX8_differs_130 : decode cX8_differs 130 = .ok (.iconst 4, 1) := by decide +kernel
theorem dX8_differs_131 : decode cX8_differs 131 = .ok (.iload_n 1, 1) := by decide +kernel
theorem dX8_differs_132 : decode cX8_differs 132 = .ok (.imul, 1) := by decide +kernel
theorem dX8_differs_133 : decode cX8_differs 133 = .ok (.iload 8, 2) := by decide +kernel
theorem dX8_differs_135 : decode cX8_differs 135 = .ok (.iadd, 1) := by decide +kernel
theorem dX8_differs_136 : decode cX8_differs 136 = .ok (.iaload, 1) := by decide +kernel
theorem dX8_differs_137 : decode cX8_differs 137 = .ok (.istore 9, 2) := by decide +kernel
theorem dX8_differs_139 : decode cX8_differs 139 = .ok (.iload 9, 2) := by decide +kernel
theorem dX8_differs_141 : decode cX8_differs 141 = .ok (.iconst (-1), 1) := by decide +kernel
theorem dX8_differs_142 : decode cX8_differs 142 = .ok (.if_icmp .ne 6, 3) := by decide +kernel
theorem dX8_differs_145 : decode cX8_differs 145 = .ok (.goto 79, 3) := by decide +kernel
theorem dX8_differs_148 : decode cX8_differs 148 = .ok (.iload 8, 2) := by decide +kernel
theorem dX8_differs_150 : decode cX8_differs 150 = .ok (.ifCond .ne 17, 3) := by decide +kernel
theorem dX8_differs_153 : decode cX8_differs 153 = .ok (.aload_n 0, 1) := by decide +kernel
theorem dX8_differs_154 : decode cX8_differs 154 = .ok (.getfield 184, 3) := by decide +kernel
theorem dX8_differs_157 : decode cX8_differs 157 = .ok (.aload_n 0, 1) := by decide +kernel
theorem dX8_differs_158 : decode cX8_differs 158 = .ok (.getfield 54, 3) := by decide +kernel
theorem dX8_differs_161 : decode cX8_differs 161 = .ok (.iload_n 1, 1) := by decide +kernel
theorem dX8_differs_162 : decode cX8_differs 162 = .ok (.iaload, 1) := by decide +kernel
theorem dX8_differs_163 : decode cX8_differs 163 = .ok (.isub, 1) := by decide +kernel
theorem dX8_differs_164 : decode cX8_differs 164 = .ok (.goto 31, 3) := by decide +kernel
theorem dX8_differs_167 : decode cX8_differs 167 = .ok (.iload 8, 2) := by decide +kernel
theorem dX8_differs_169 : decode cX8_differs 169 = .ok (.iconst 1, 1) := by decide +kernel
theorem dX8_differs_170 : decode cX8_differs 170 = .ok (.if_icmp .ne 10, 3) := by decide +kernel
theorem dX8_differs_173 : decode cX8_differs 173 = .ok (.aload_n 0, 1) := by decide +kernel
theorem dX8_differs_174 : decode cX8_differs 174 = .ok (.getfield 191, 3) := by decide +kernel
theorem dX8_differs_177 : decode cX8_differs 177 = .ok (.goto 18, 3) := by decide +kernel
theorem dX8_differs_180 : decode cX8_differs 180 = .ok (.iload 8, 2) := by decide +kernel
theorem dX8_differs_182 : decode cX8_differs 182 = .ok (.iconst 2, 1) := by decide +kernel
theorem dX8_differs_183 : decode cX8_differs 183 = .ok (.if_icmp .ne 10, 3) := by decide +kernel
theorem dX8_differs_186 : decode cX8_differs 186 = .ok (.aload_n 0, 1) := by decide +kernel
theorem dX8_differs_187 : decode cX8_differs 187 = .ok (.getfield 198, 3) := by decide +kernel
theorem dX8_differs_190 : decode cX8_differs 190 = .ok (.goto 5, 3) := by decide +kernel
theorem dX8_differs_193 : decode cX8_differs 193 = .ok (.iload 5, 2) := by decide +kernel
theorem dX8_differs_195 : decode cX8_differs 195 = .ok (.istore 10, 2) := by decide +kernel
theorem dX8_differs_197 : decode cX8_differs 197 = .ok (.iload 9, 2) := by decide +kernel
theorem dX8_differs_199 : decode cX8_differs 199 = .ok (.iload 10, 2) := by decide +kernel
theorem dX8_differs_201 : decode cX8_differs 201 = .ok (.if_icmp .ne 6, 3) := by decide +kernel
theorem dX8_differs_204 : decode cX8_differs 204 = .ok (.goto 20, 3) := by decide +kernel
theorem dX8_differs_207 : decode cX8_differs 207 = .ok (.iload 10, 2) := by decide +kernel
theorem dX8_differs_209 : decode cX8_differs 209 = .ok (.iconst 0, 1) := by decide +kernel
theorem dX8_differs_210 : decode cX8_differs 210 = .ok (.sipush 999, 3) := by decide +kernel
theorem dX8_differs_213 : decode cX8_differs 213 = .ok (.invokestatic 113, 3) := by decide +kernel
theorem dX8_differs_216 : decode cX8_differs 216 = .ok (.ifCond .ne 5, 3) := by decide +kernel
theorem dX8_differs_219 : decode cX8_differs 219 = .ok (.iconst (-1), 1) := by decide +kernel
theorem dX8_differs_220 : decode cX8_differs 220 = .ok (.ireturn, 1) := by decide +kernel
theorem dX8_differs_221 : decode cX8_differs 221 = .ok (.iinc 7 1, 3) := by decide +kernel
theorem dX8_differs_224 : decode cX8_differs 224 = .ok (.iinc 8 1, 3) := by decide +kernel
theorem dX8_differs_227 : decode cX8_differs 227 = .ok (.goto (-107), 3) := by decide +kernel
theorem dX8_differs_230 : decode cX8_differs 230 = .ok (.iload 7, 2) := by decide +kernel
theorem dX8_differs_232 : decode cX8_differs 232 = .ok (.ireturn, 1) := by decide +kernel
theorem dX8_isAsked_0 : decode cX8_isAsked 0 = .ok (.aload_n 0, 1) := by decide +kernel
theorem dX8_isAsked_1 : decode cX8_isAsked 1 = .ok (.iload_n 1, 1) := by decide +kernel
theorem dX8_isAsked_2 : decode cX8_isAsked 2 = .ok (.invokevirtual 292, 3) := by decide +kernel
theorem dX8_isAsked_5 : decode cX8_isAsked 5 = .ok (.ifCond .eq 13, 3) := by decide +kernel
theorem dX8_isAsked_8 : decode cX8_isAsked 8 = .ok (.iload_n 2, 1) := by decide +kernel
theorem dX8_isAsked_9 : decode cX8_isAsked 9 = .ok (.iconst 0, 1) := by decide +kernel
theorem dX8_isAsked_10 : decode cX8_isAsked 10 = .ok (.bipush 60, 2) := by decide +kernel
theorem dX8_isAsked_12 : decode cX8_isAsked 12 = .ok (.invokestatic 113, 3) := by decide +kernel
theorem dX8_isAsked_15 : decode cX8_isAsked 15 = .ok (.ifCond .ne 5, 3) := by decide +kernel
theorem dX8_isAsked_18 : decode cX8_isAsked 18 = .ok (.iconst 0, 1) := by decide +kernel
theorem dX8_isAsked_19 : decode cX8_isAsked 19 = .ok (.ireturn, 1) := by decide +kernel
theorem dX8_isAsked_20 : decode cX8_isAsked 20 = .ok (.aload_n 0, 1) := by decide +kernel
theorem dX8_isAsked_21 : decode cX8_isAsked 21 = .ok (.invokevirtual 177, 3) := by decide +kernel
theorem dX8_isAsked_24 : decode cX8_isAsked 24 = .ok (.iconst 1, 1) := by decide +kernel
theorem dX8_isAsked_25 : decode cX8_isAsked 25 = .ok (.ireturn, 1) := by decide +kernel
theorem dX8_means_0 : decode cX8_means 0 = .ok (.aload_n 0, 1) := by decide +kernel
theorem dX8_means_1 : decode cX8_means 1 = .ok (.iload_n 1, 1) := by decide +kernel
theorem dX8_means_2 : decode cX8_means 2 = .ok (.iload_n 2, 1) := by decide +kernel
theorem dX8_means_3 : decode cX8_means 3 = .ok (.invokevirtual 295, 3) := by decide +kernel
theorem dX8_means_6 : decode cX8_means 6 = .ok (.ifCond .ne 5, 3) := by decide +kernel
theorem dX8_means_9 : decode cX8_means 9 = .ok (.iconst (-1), 1) := by decide +kernel
theorem dX8_means_10 : decode cX8_means 10 = .ok (.ireturn, 1) := by decide +kernel
theorem dX8_means_11 : decode cX8_means 11 = .ok (.iconst 0, 1) := by decide +kernel
theorem dX8_means_12 : decode cX8_means 12 = .ok (.istore_n 3, 1) := by decide +kernel
theorem dX8_means_13 : decode cX8_means 13 = .ok (.iconst 0, 1) := by decide +kernel
theorem dX8_means_14 : decode cX8_means 14 = .ok (.istore 4, 2) := by decide +kernel
theorem dX8_means_16 : decode cX8_means 16 = .ok (.iload 4, 2) := by decide +kernel
theorem dX8_means_18 : decode cX8_means 18 = .ok (.aload_n 0, 1) := by decide +kernel
theorem dX8_means_19 : decode cX8_means 19 = .ok (.getfield 174, 3) := by decide +kernel
theorem dX8_means_22 : decode cX8_means 22 = .ok (.if_icmp .ge 23, 3) := by decide +kernel
theorem dX8_means_25 : decode cX8_means 25 = .ok (.aload_n 0, 1) := by decide +kernel
theorem dX8_means_26 : decode cX8_means 26 = .ok (.iload_n 1, 1) := by decide +kernel
theorem dX8_means_27 : decode cX8_means 27 = .ok (.iload 4, 2) := by decide +kernel
theorem dX8_means_29 : decode cX8_means 29 = .ok (.iload_n 2, 1) := by decide +kernel
theorem dX8_means_30 : decode cX8_means 30 = .ok (.invokevirtual 298, 3) := by decide +kernel
theorem dX8_means_33 : decode cX8_means 33 = .ok (.ifCond .ne 6, 3) := by decide +kernel
theorem dX8_means_36 : decode cX8_means 36 = .ok (.iinc 3 1, 3) := by decide +kernel
theorem dX8_means_39 : decode cX8_means 39 = .ok (.iinc 4 1, 3) := by decide +kernel
theorem dX8_means_42 : decode cX8_means 42 = .ok (.goto (-26), 3) := by decide +kernel
theorem dX8_means_45 : decode cX8_means 45 = .ok (.iload_n 3, 1) := by decide +kernel
theorem dX8_means_46 : decode cX8_means 46 = .ok (.ireturn, 1) := by decide +kernel
theorem dX8_meant_0 : decode cX8_meant 0 = .ok (.aload_n 0, 1) := by decide +kernel
theorem dX8_meant_1 : decode cX8_meant 1 = .ok (.iload_n 1, 1) := by decide +kernel
theorem dX8_meant_2 : decode cX8_meant 2 = .ok (.iload_n 2, 1) := by decide +kernel
theorem dX8_meant_3 : decode cX8_meant 3 = .ok (.invokevirtual 295, 3) := by decide +kernel
theorem dX8_meant_6 : decode cX8_meant 6 = .ok (.ifCond .eq 7, 3) := by decide +kernel
theorem dX8_meant_9 : decode cX8_meant 9 = .ok (.iload_n 3, 1) := by decide +kernel
theorem dX8_meant_10 : decode cX8_meant 10 = .ok (.ifCond .ge 5, 3) := by decide +kernel
theorem dX8_meant_13 : decode cX8_meant 13 = .ok (.iconst (-1), 1) := by decide +kernel
theorem dX8_meant_14 : decode cX8_meant 14 = .ok (.ireturn, 1) := by decide +kernel
theorem dX8_meant_15 : decode cX8_meant 15 = .ok (.iconst 0, 1) := by decide +kernel
theorem dX8_meant_16 : decode cX8_meant 16 = .ok (.istore 4, 2) := by decide +kernel
theorem dX8_meant_18 : decode cX8_meant 18 = .ok (.iconst 0, 1) := by decide +kernel
theorem dX8_meant_19 : decode cX8_meant 19 = .ok (.istore 5, 2) := by decide +kernel
theorem dX8_meant_21 : decode cX8_meant 21 = .ok (.iload 5, 2) := by decide +kernel
theorem dX8_meant_23 : decode cX8_meant 23 = .ok (.aload_n 0, 1) := by decide +kernel
theorem dX8_meant_24 : decode cX8_meant 24 = .ok (.getfield 174, 3) := by decide +kernel
theorem dX8_meant_27 : decode cX8_meant 27 = .ok (.if_icmp .ge 40, 3) := by decide +kernel
theorem dX8_meant_30 : decode cX8_meant 30 = .ok (.aload_n 0, 1) := by decide +kernel
theorem dX8_meant_31 : decode cX8_meant 31 = .ok (.iload_n 1, 1) := by decide +kernel
theorem dX8_meant_32 : decode cX8_meant 32 = .ok (.iload 5, 2) := by decide +kernel
theorem dX8_meant_34 : decode cX8_meant 34 = .ok (.iload_n 2, 1) := by decide +kernel
theorem dX8_meant_35 : decode cX8_meant 35 = .ok (.invokevirtual 298, 3) := by decide +kernel
theorem dX8_meant_38 : decode cX8_meant 38 = .ok (.ifCond .eq 6, 3) := by decide +kernel
theorem dX8_meant_41 : decode cX8_meant 41 = .ok (.goto 20, 3) := by decide +kernel
theorem dX8_meant_44 : decode cX8_meant 44 = .ok (.iload 4, 2) := by decide +kernel
theorem dX8_meant_46 : decode cX8_meant 46 = .ok (.iload_n 3, 1) := by decide +kernel
theorem dX8_meant_47 : decode cX8_meant 47 = .ok (.if_icmp .ne 11, 3) := by decide +kernel
theorem dX8_meant_50 : decode cX8_meant 50 = .ok (.aload_n 0, 1) := by decide +kernel
theorem dX8_meant_51 : decode cX8_meant 51 = .ok (.getfield 16, 3) := by decide +kernel
theorem dX8_meant_54 : decode cX8_meant 54 = .ok (.iload 5, 2) := by decide +kernel
theorem dX8_meant_56 : decode cX8_meant 56 = .ok (.iaload, 1) := by decide +kernel
theorem dX8_meant_57 : decode cX8_meant 57 = .ok (.ireturn, 1) := by decide +kernel
theorem dX8_meant_58 : decode cX8_meant 58 = .ok (.iinc 4 1, 3) := by decide +kernel
theorem dX8_meant_61 : decode cX8_meant 61 = .ok (.iinc 5 1, 3) := by decide +kernel
theorem dX8_meant_64 : decode cX8_meant 64 = .ok (.goto (-43), 3) := by decide +kernel
theorem dX8_meant_67 : decode cX8_meant 67 = .ok (.iconst (-1), 1) := by decide +kernel
theorem dX8_meant_68 : decode cX8_meant 68 = .ok (.ireturn, 1) := by decide +kernel
theorem dX8_slips_0 : decode cX8_slips 0 = .ok (.aload_n 0, 1) := by decide +kernel
theorem dX8_slips_1 : decode cX8_slips 1 = .ok (.iload_n 1, 1) := by decide +kernel
theorem dX8_slips_2 : decode cX8_slips 2 = .ok (.iload_n 2, 1) := by decide +kernel
theorem dX8_slips_3 : decode cX8_slips 3 = .ok (.invokevirtual 295, 3) := by decide +kernel
theorem dX8_slips_6 : decode cX8_slips 6 = .ok (.ifCond .ne 5, 3) := by decide +kernel
theorem dX8_slips_9 : decode cX8_slips 9 = .ok (.iconst (-1), 1) := by decide +kernel
theorem dX8_slips_10 : decode cX8_slips 10 = .ok (.ireturn, 1) := by decide +kernel
theorem dX8_slips_11 : decode cX8_slips 11 = .ok (.iconst (-1), 1) := by decide +kernel
theorem dX8_slips_12 : decode cX8_slips 12 = .ok (.istore_n 3, 1) := by decide +kernel
theorem dX8_slips_13 : decode cX8_slips 13 = .ok (.iconst 0, 1) := by decide +kernel
theorem dX8_slips_14 : decode cX8_slips 14 = .ok (.istore 4, 2) := by decide +kernel
theorem dX8_slips_16 : decode cX8_slips 16 = .ok (.iload 4, 2) := by decide +kernel
theorem dX8_slips_18 : decode cX8_slips 18 = .ok (.aload_n 0, 1) := by decide +kernel
theorem dX8_slips_19 : decode cX8_slips 19 = .ok (.getfield 174, 3) := by decide +kernel
theorem dX8_slips_22 : decode cX8_slips 22 = .ok (.if_icmp .ge 39, 3) := by decide +kernel
theorem dX8_slips_25 : decode cX8_slips 25 = .ok (.aload_n 0, 1) := by decide +kernel
theorem dX8_slips_26 : decode cX8_slips 26 = .ok (.iload_n 1, 1) := by decide +kernel
theorem dX8_slips_27 : decode cX8_slips 27 = .ok (.iload 4, 2) := by decide +kernel
theorem dX8_slips_29 : decode cX8_slips 29 = .ok (.iload_n 2, 1) := by decide +kernel
theorem dX8_slips_30 : decode cX8_slips 30 = .ok (.invokevirtual 298, 3) := by decide +kernel
theorem dX8_slips_33 : decode cX8_slips 33 = .ok (.istore 5, 2) := by decide +kernel
theorem dX8_slips_35 : decode cX8_slips 35 = .ok (.iload 5, 2) := by decide +kernel
theorem dX8_slips_37 : decode cX8_slips 37 = .ok (.iconst (-1), 1) := by decide +kernel
theorem dX8_slips_38 : decode cX8_slips 38 = .ok (.if_icmp .eq 17, 3) := by decide +kernel
theorem dX8_slips_41 : decode cX8_slips 41 = .ok (.iload_n 3, 1) := by decide +kernel
theorem dX8_slips_42 : decode cX8_slips 42 = .ok (.iconst (-1), 1) := by decide +kernel
theorem dX8_slips_43 : decode cX8_slips 43 = .ok (.if_icmp .eq 9, 3) := by decide +kernel
theorem dX8_slips_46 : decode cX8_slips 46 = .ok (.iload 5, 2) := by decide +kernel
theorem dX8_slips_48 : decode cX8_slips 48 = .ok (.iload_n 3, 1) := by decide +kernel
theorem dX8_slips_49 : decode cX8_slips 49 = .ok (.if_icmp .ge 6, 3) := by decide +kernel
theorem dX8_slips_52 : decode cX8_slips 52 = .ok (.iload 5, 2) := by decide +kernel
theorem dX8_slips_54 : decode cX8_slips 54 = .ok (.istore_n 3, 1) := by decide +kernel
theorem dX8_slips_55 : decode cX8_slips 55 = .ok (.iinc 4 1, 3) := by decide +kernel
theorem dX8_slips_58 : decode cX8_slips 58 = .ok (.goto (-42), 3) := by decide +kernel
theorem dX8_slips_61 : decode cX8_slips 61 = .ok (.iload_n 3, 1) := by decide +kernel
theorem dX8_slips_62 : decode cX8_slips 62 = .ok (.ireturn, 1) := by decide +kernel
theorem dX8_isLet_0 : decode cX8_isLet 0 = .ok (.aload_n 0, 1) := by decide +kernel
theorem dX8_isLet_1 : decode cX8_isLet 1 = .ok (.invokevirtual 177, 3) := by decide +kernel
theorem dX8_isLet_4 : decode cX8_isLet 4 = .ok (.iconst 0, 1) := by decide +kernel
theorem dX8_isLet_5 : decode cX8_isLet 5 = .ok (.istore_n 3, 1) := by decide +kernel
theorem dX8_isLet_6 : decode cX8_isLet 6 = .ok (.iload_n 3, 1) := by decide +kernel
theorem dX8_isLet_7 : decode cX8_isLet 7 = .ok (.aload_n 0, 1) := by decide +kernel
theorem dX8_isLet_8 : decode cX8_isLet 8 = .ok (.getfield 174, 3) := by decide +kernel
theorem dX8_isLet_11 : decode cX8_isLet 11 = .ok (.if_icmp .ge 21, 3) := by decide +kernel
theorem dX8_isLet_14 : decode cX8_isLet 14 = .ok (.aload_n 0, 1) := by decide +kernel
theorem dX8_isLet_15 : decode cX8_isLet 15 = .ok (.iload_n 1, 1) := by decide +kernel
theorem dX8_isLet_16 : decode cX8_isLet 16 = .ok (.iload_n 3, 1) := by decide +kernel
theorem dX8_isLet_17 : decode cX8_isLet 17 = .ok (.iload_n 2, 1) := by decide +kernel
theorem dX8_isLet_18 : decode cX8_isLet 18 = .ok (.invokevirtual 298, 3) := by decide +kernel
theorem dX8_isLet_21 : decode cX8_isLet 21 = .ok (.ifCond .ne 5, 3) := by decide +kernel
theorem dX8_isLet_24 : decode cX8_isLet 24 = .ok (.iconst 1, 1) := by decide +kernel
theorem dX8_isLet_25 : decode cX8_isLet 25 = .ok (.ireturn, 1) := by decide +kernel
theorem dX8_isLet_26 : decode cX8_isLet 26 = .ok (.iinc 3 1, 3) := by decide +kernel
theorem dX8_isLet_29 : decode cX8_isLet 29 = .ok (.goto (-23), 3) := by decide +kernel
theorem dX8_isLet_32 : decode cX8_isLet 32 = .ok (.iconst 0, 1) := by decide +kernel
theorem dX8_isLet_33 : decode cX8_isLet 33 = .ok (.ireturn, 1) := by decide +kernel
theorem dX8_lets_0 : decode cX8_lets 0 = .ok (.aload_n 0, 1) := by decide +kernel
theorem dX8_lets_1 : decode cX8_lets 1 = .ok (.iload_n 1, 1) := by decide +kernel
theorem dX8_lets_2 : decode cX8_lets 2 = .ok (.invokevirtual 292, 3) := by decide +kernel
theorem dX8_lets_5 : decode cX8_lets 5 = .ok (.ifCond .ne 5, 3) := by decide +kernel
theorem dX8_lets_8 : decode cX8_lets 8 = .ok (.iconst (-1), 1) := by decide +kernel
theorem dX8_lets_9 : decode cX8_lets 9 = .ok (.ireturn, 1) := by decide +kernel
theorem dX8_lets_10 : decode cX8_lets 10 = .ok (.iconst 0, 1) := by decide +kernel
theorem dX8_lets_11 : decode cX8_lets 11 = .ok (.istore_n 2, 1) := by decide +kernel
theorem dX8_lets_12 : decode cX8_lets 12 = .ok (.iconst 0, 1) := by decide +kernel
theorem dX8_lets_13 : decode cX8_lets 13 = .ok (.istore_n 3, 1) := by decide +kernel
theorem dX8_lets_14 : decode cX8_lets 14 = .ok (.iload_n 3, 1) := by decide +kernel
theorem dX8_lets_15 : decode cX8_lets 15 = .ok (.bipush 60, 2) := by decide +kernel
theorem dX8_lets_17 : decode cX8_lets 17 = .ok (.if_icmp .gt 21, 3) := by decide +kernel
theorem dX8_lets_20 : decode cX8_lets 20 = .ok (.aload_n 0, 1) := by decide +kernel
theorem dX8_lets_21 : decode cX8_lets 21 = .ok (.iload_n 1, 1) := by decide +kernel
theorem dX8_lets_22 : decode cX8_lets 22 = .ok (.iload_n 3, 1) := by decide +kernel
theorem dX8_lets_23 : decode cX8_lets 23 = .ok (.invokevirtual 301, 3) := by decide +kernel
theorem dX8_lets_26 : decode cX8_lets 26 = .ok (.ifCond .eq 6, 3) := by decide +kernel
theorem dX8_lets_29 : decode cX8_lets 29 = .ok (.iinc 2 1, 3) := by decide +kernel
theorem dX8_lets_32 : decode cX8_lets 32 = .ok (.iinc 3 1, 3) := by decide +kernel
theorem dX8_lets_35 : decode cX8_lets 35 = .ok (.goto (-21), 3) := by decide +kernel
theorem dX8_lets_38 : decode cX8_lets 38 = .ok (.iload_n 2, 1) := by decide +kernel
theorem dX8_lets_39 : decode cX8_lets 39 = .ok (.ireturn, 1) := by decide +kernel
theorem dX8_slow_0 : decode cX8_slow 0 = .ok (.iconst (-1), 1) := by decide +kernel
theorem dX8_slow_1 : decode cX8_slow 1 = .ok (.istore_n 2, 1) := by decide +kernel
theorem dX8_slow_2 : decode cX8_slow 2 = .ok (.iconst (-1), 1) := by decide +kernel
theorem dX8_slow_3 : decode cX8_slow 3 = .ok (.istore_n 3, 1) := by decide +kernel
theorem dX8_slow_4 : decode cX8_slow 4 = .ok (.iconst 0, 1) := by decide +kernel
theorem dX8_slow_5 : decode cX8_slow 5 = .ok (.istore 4, 2) := by decide +kernel
theorem dX8_slow_7 : decode cX8_slow 7 = .ok (.iconst 0, 1) := by decide +kernel
theorem dX8_slow_8 : decode cX8_slow 8 = .ok (.istore 5, 2) := by decide +kernel
theorem dX8_slow_10 : decode cX8_slow 10 = .ok (.iload 5, 2) := by decide +kernel
theorem dX8_slow_12 : decode cX8_slow 12 = .ok (.bipush 60, 2) := by decide +kernel
theorem dX8_slow_14 : decode cX8_slow 14 = .ok (.if_icmp .gt 67, 3) := by decide +kernel
theorem dX8_slow_17 : decode cX8_slow 17 = .ok (.iconst 1, 1) := by decide +kernel
theorem dX8_slow_18 : decode cX8_slow 18 = .ok (.istore 6, 2) := by decide +kernel
theorem dX8_slow_20 : decode cX8_slow 20 = .ok (.iconst 0, 1) := by decide +kernel
theorem dX8_slow_21 : decode cX8_slow 21 = .ok (.istore 7, 2) := by decide +kernel
theorem dX8_slow_23 : decode cX8_slow 23 = .ok (.iload 7, 2) := by decide +kernel
theorem dX8_slow_25 : decode cX8_slow 25 = .ok (.aload_n 0, 1) := by decide +kernel
theorem dX8_slow_26 : decode cX8_slow 26 = .ok (.getfield 282, 3) := by decide +kernel
theorem dX8_slow_29 : decode cX8_slow 29 = .ok (.if_icmp .ge 24, 3) := by decide +kernel
theorem dX8_slow_32 : decode cX8_slow 32 = .ok (.iload 6, 2) := by decide +kernel
theorem dX8_slow_34 : decode cX8_slow 34 = .ok (.ifCond .eq 19, 3) := by decide +kernel
theorem dX8_slow_37 : decode cX8_slow 37 = .ok (.aload_n 0, 1) := by decide +kernel
theorem dX8_slow_38 : decode cX8_slow 38 = .ok (.iload 7, 2) := by decide +kernel
theorem dX8_slow_40 : decode cX8_slow 40 = .ok (.iload 5, 2) := by decide +kernel
theorem dX8_slow_42 : decode cX8_slow 42 = .ok (.invokevirtual 301, 3) := by decide +kernel
theorem dX8_slow_45 : decode cX8_slow 45 = .ok (.istore 6, 2) := by decide +kernel
theorem dX8_slow_47 : decode cX8_slow 47 = .ok (.iinc 7 1, 3) := by decide +kernel
theorem dX8_slow_50 : decode cX8_slow 50 = .ok (.goto (-27), 3) := by decide +kernel
theorem dX8_slow_53 : decode cX8_slow 53 = .ok (.iload 6, 2) := by decide +kernel
theorem dX8_slow_55 : decode cX8_slow 55 = .ok (.ifCond .ne 6, 3) := by decide +kernel
theorem dX8_slow_58 : decode cX8_slow 58 = .ok (.goto 17, 3) := by decide +kernel
theorem dX8_slow_61 : decode cX8_slow 61 = .ok (.iload 4, 2) := by decide +kernel
theorem dX8_slow_63 : decode cX8_slow 63 = .ok (.ifCond .ne 6, 3) := by decide +kernel
theorem dX8_slow_66 : decode cX8_slow 66 = .ok (.iload 5, 2) := by decide +kernel
theorem dX8_slow_68 : decode cX8_slow 68 = .ok (.istore_n 2, 1) := by decide +kernel
theorem dX8_slow_69 : decode cX8_slow 69 = .ok (.iload 5, 2) := by decide +kernel
theorem dX8_slow_71 : decode cX8_slow 71 = .ok (.istore_n 3, 1) := by decide +kernel
theorem dX8_slow_72 : decode cX8_slow 72 = .ok (.iinc 4 1, 3) := by decide +kernel
theorem dX8_slow_75 : decode cX8_slow 75 = .ok (.iinc 5 1, 3) := by decide +kernel
theorem dX8_slow_78 : decode cX8_slow 78 = .ok (.goto (-68), 3) := by decide +kernel
theorem dX8_slow_81 : decode cX8_slow 81 = .ok (.iload 4, 2) := by decide +kernel
theorem dX8_slow_83 : decode cX8_slow 83 = .ok (.ifCond .ne 5, 3) := by decide +kernel
theorem dX8_slow_86 : decode cX8_slow 86 = .ok (.iconst (-1), 1) := by decide +kernel
theorem dX8_slow_87 : decode cX8_slow 87 = .ok (.ireturn, 1) := by decide +kernel
theorem dX8_slow_88 : decode cX8_slow 88 = .ok (.iload_n 1, 1) := by decide +kernel
theorem dX8_slow_89 : decode cX8_slow 89 = .ok (.ifCond .ne 7, 3) := by decide +kernel
theorem dX8_slow_92 : decode cX8_slow 92 = .ok (.iload_n 2, 1) := by decide +kernel
theorem dX8_slow_93 : decode cX8_slow 93 = .ok (.goto 23, 3) := by decide +kernel
theorem dX8_slow_96 : decode cX8_slow 96 = .ok (.iload_n 1, 1) := by decide +kernel
theorem dX8_slow_97 : decode cX8_slow 97 = .ok (.iconst 1, 1) := by decide +kernel
theorem dX8_slow_98 : decode cX8_slow 98 = .ok (.if_icmp .ne 7, 3) := by decide +kernel
theorem dX8_slow_101 : decode cX8_slow 101 = .ok (.iload_n 3, 1) := by decide +kernel
theorem dX8_slow_102 : decode cX8_slow 102 = .ok (.goto 14, 3) := by decide +kernel
theorem dX8_slow_105 : decode cX8_slow 105 = .ok (.iload_n 1, 1) := by decide +kernel
theorem dX8_slow_106 : decode cX8_slow 106 = .ok (.iconst 2, 1) := by decide +kernel
theorem dX8_slow_107 : decode cX8_slow 107 = .ok (.if_icmp .ne 8, 3) := by decide +kernel
theorem dX8_slow_110 : decode cX8_slow 110 = .ok (.iload 4, 2) := by decide +kernel
theorem dX8_slow_112 : decode cX8_slow 112 = .ok (.goto 4, 3) := by decide +kernel
theorem dX8_slow_115 : decode cX8_slow 115 = .ok (.iconst (-1), 1) := by decide +kernel
theorem dX8_slow_116 : decode cX8_slow 116 = .ok (.ireturn, 1) := by decide +kernel
theorem dX8_drop_0 : decode cX8_drop 0 = .ok (.aload_n 0, 1) := by decide +kernel
theorem dX8_drop_1 : decode cX8_drop 1 = .ok (.iload_n 1, 1) := by decide +kernel
theorem dX8_drop_2 : decode cX8_drop 2 = .ok (.invokevirtual 292, 3) := by decide +kernel
theorem dX8_drop_5 : decode cX8_drop 5 = .ok (.ifCond .ne 5, 3) := by decide +kernel
theorem dX8_drop_8 : decode cX8_drop 8 = .ok (.iconst (-1), 1) := by decide +kernel
theorem dX8_drop_9 : decode cX8_drop 9 = .ok (.ireturn, 1) := by decide +kernel
theorem dX8_drop_10 : decode cX8_drop 10 = .ok (.aload_n 0, 1) := by decide +kernel
theorem dX8_drop_11 : decode cX8_drop 11 = .ok (.dup, 1) := by decide +kernel
theorem dX8_drop_12 : decode cX8_drop 12 = .ok (.getfield 282, 3) := by decide +kernel
theorem dX8_drop_15 : decode cX8_drop 15 = .ok (.iconst 1, 1) := by decide +kernel
theorem dX8_drop_16 : decode cX8_drop 16 = .ok (.isub, 1) := by decide +kernel
theorem dX8_drop_17 : decode cX8_drop 17 = .ok (.putfield 282, 3) := by decide +kernel
theorem dX8_drop_20 : decode cX8_drop 20 = .ok (.iload_n 1, 1) := by decide +kernel
theorem dX8_drop_21 : decode cX8_drop 21 = .ok (.istore_n 2, 1) := by decide +kernel
theorem dX8_drop_22 : decode cX8_drop 22 = .ok (.iload_n 2, 1) := by decide +kernel
theorem dX8_drop_23 : decode cX8_drop 23 = .ok (.aload_n 0, 1) := by decide +kernel
theorem dX8_drop_24 : decode cX8_drop 24 = .ok (.getfield 282, 3) := by decide +kernel
theorem dX8_drop_27 : decode cX8_drop 27 = .ok (.if_icmp .ge 100, 3) := by decide +kernel
theorem dX8_drop_30 : decode cX8_drop 30 = .ok (.aload_n 0, 1) := by decide +kernel
theorem dX8_drop_31 : decode cX8_drop 31 = .ok (.getfield 48, 3) := by decide +kernel
theorem dX8_drop_34 : decode cX8_drop 34 = .ok (.iload_n 2, 1) := by decide +kernel
theorem dX8_drop_35 : decode cX8_drop 35 = .ok (.aload_n 0, 1) := by decide +kernel
theorem dX8_drop_36 : decode cX8_drop 36 = .ok (.getfield 48, 3) := by decide +kernel
theorem dX8_drop_39 : decode cX8_drop 39 = .ok (.iload_n 2, 1) := by decide +kernel
theorem dX8_drop_40 : decode cX8_drop 40 = .ok (.iconst 1, 1) := by decide +kernel
theorem dX8_drop_41 : decode cX8_drop 41 = .ok (.iadd, 1) := by decide +kernel
theorem dX8_drop_42 : decode cX8_drop 42 = .ok (.iaload, 1) := by decide +kernel
theorem dX8_drop_43 : decode cX8_drop 43 = .ok (.iastore, 1) := by decide +kernel
theorem dX8_drop_44 : decode cX8_drop 44 = .ok (.aload_n 0, 1) := by decide +kernel
theorem dX8_drop_45 : decode cX8_drop 45 = .ok (.getfield 54, 3) := by decide +kernel
theorem dX8_drop_48 : decode cX8_drop 48 = .ok (.iload_n 2, 1) := by decide +kernel
theorem dX8_drop_49 : decode cX8_drop 49 = .ok (.aload_n 0, 1) := by decide +kernel
theorem dX8_drop_50 : decode cX8_drop 50 = .ok (.getfield 54, 3) := by decide +kernel
theorem dX8_drop_53 : decode cX8_drop 53 = .ok (.iload_n 2, 1) := by decide +kernel
theorem dX8_drop_54 : decode cX8_drop 54 = .ok (.iconst 1, 1) := by decide +kernel
theorem dX8_drop_55 : decode cX8_drop 55 = .ok (.iadd, 1) := by decide +kernel
theorem dX8_drop_56 : decode cX8_drop 56 = .ok (.iaload, 1) := by decide +kernel
theorem dX8_drop_57 : decode cX8_drop 57 = .ok (.iastore, 1) := by decide +kernel
theorem dX8_drop_58 : decode cX8_drop 58 = .ok (.aload_n 0, 1) := by decide +kernel
theorem dX8_drop_59 : decode cX8_drop 59 = .ok (.getfield 57, 3) := by decide +kernel
theorem dX8_drop_62 : decode cX8_drop 62 = .ok (.iload_n 2, 1) := by decide +kernel
theorem dX8_drop_63 : decode cX8_drop 63 = .ok (.aload_n 0, 1) := by decide +kernel
theorem dX8_drop_64 : decode cX8_drop 64 = .ok (.getfield 57, 3) := by decide +kernel
theorem dX8_drop_67 : decode cX8_drop 67 = .ok (.iload_n 2, 1) := by decide +kernel
theorem dX8_drop_68 : decode cX8_drop 68 = .ok (.iconst 1, 1) := by decide +kernel
theorem dX8_drop_69 : decode cX8_drop 69 = .ok (.iadd, 1) := by decide +kernel
theorem dX8_drop_70 : decode cX8_drop 70 = .ok (.iaload, 1) := by decide +kernel
theorem dX8_drop_71 : decode cX8_drop 71 = .ok (.iastore, 1) := by decide +kernel
theorem dX8_drop_72 : decode cX8_drop 72 = .ok (.aload_n 0, 1) := by decide +kernel
theorem dX8_drop_73 : decode cX8_drop 73 = .ok (.getfield 60, 3) := by decide +kernel
theorem dX8_drop_76 : decode cX8_drop 76 = .ok (.iload_n 2, 1) := by decide +kernel
theorem dX8_drop_77 : decode cX8_drop 77 = .ok (.aload_n 0, 1) := by decide +kernel
theorem dX8_drop_78 : decode cX8_drop 78 = .ok (.getfield 60, 3) := by decide +kernel
theorem dX8_drop_81 : decode cX8_drop 81 = .ok (.iload_n 2, 1) := by decide +kernel
theorem dX8_drop_82 : decode cX8_drop 82 = .ok (.iconst 1, 1) := by decide +kernel
theorem dX8_drop_83 : decode cX8_drop 83 = .ok (.iadd, 1) := by decide +kernel
theorem dX8_drop_84 : decode cX8_drop 84 = .ok (.iaload, 1) := by decide +kernel
theorem dX8_drop_85 : decode cX8_drop 85 = .ok (.iastore, 1) := by decide +kernel
theorem dX8_drop_86 : decode cX8_drop 86 = .ok (.iconst 0, 1) := by decide +kernel
theorem dX8_drop_87 : decode cX8_drop 87 = .ok (.istore_n 3, 1) := by decide +kernel
theorem dX8_drop_88 : decode cX8_drop 88 = .ok (.iload_n 3, 1) := by decide +kernel
theorem dX8_drop_89 : decode cX8_drop 89 = .ok (.iconst 4, 1) := by decide +kernel
theorem dX8_drop_90 : decode cX8_drop 90 = .ok (.if_icmp .ge 31, 3) := by decide +kernel
theorem dX8_drop_93 : decode cX8_drop 93 = .ok (.aload_n 0, 1) := by decide +kernel
theorem dX8_drop_94 : decode cX8_drop 94 = .ok (.getfield 51, 3) := by decide +kernel
theorem dX8_drop_97 : decode cX8_drop 97 = .ok (.iconst 4, 1) := by decide +kernel
theorem dX8_drop_98 : decode cX8_drop 98 = .ok (.iload_n 2, 1) := by decide +kernel
theorem dX8_drop_99 : decode cX8_drop 99 = .ok (.imul, 1) := by decide +kernel
theorem dX8_drop_100 : decode cX8_drop 100 = .ok (.iload_n 3, 1) := by decide +kernel
theorem dX8_drop_101 : decode cX8_drop 101 = .ok (.iadd, 1) := by decide +kernel
theorem dX8_drop_102 : decode cX8_drop 102 = .ok (.aload_n 0, 1) := by decide +kernel
theorem dX8_drop_103 : decode cX8_drop 103 = .ok (.getfield 51, 3) := by decide +kernel
theorem dX8_drop_106 : decode cX8_drop 106 = .ok (.iconst 4, 1) := by decide +kernel
theorem dX8_drop_107 : decode cX8_drop 107 = .ok (.iload_n 2, 1) := by decide +kernel
theorem dX8_drop_108 : decode cX8_drop 108 = .ok (.imul, 1) := by decide +kernel
theorem dX8_drop_109 : decode cX8_drop 109 = .ok (.iconst 4, 1) := by decide +kernel
theorem dX8_drop_110 : decode cX8_drop 110 = .ok (.iadd, 1) := by decide +kernel
theorem dX8_drop_111 : decode cX8_drop 111 = .ok (.iload_n 3, 1) := by decide +kernel
theorem dX8_drop_112 : decode cX8_drop 112 = .ok (.iadd, 1) := by decide +kernel
theorem dX8_drop_113 : decode cX8_drop 113 = .ok (.iaload, 1) := by decide +kernel
theorem dX8_drop_114 : decode cX8_drop 114 = .ok (.iastore, 1) := by decide +kernel
theorem dX8_drop_115 : decode cX8_drop 115 = .ok (.iinc 3 1, 3) := by decide +kernel
theorem dX8_drop_118 : decode cX8_drop 118 = .ok (.goto (-30), 3) := by decide +kernel
theorem dX8_drop_121 : decode cX8_drop 121 = .ok (.iinc 2 1, 3) := by decide +kernel
theorem dX8_drop_124 : decode cX8_drop 124 = .ok (.goto (-102), 3) := by decide +kernel
theorem dX8_drop_127 : decode cX8_drop 127 = .ok (.aload_n 0, 1) := by decide +kernel
theorem dX8_drop_128 : decode cX8_drop 128 = .ok (.getfield 282, 3) := by decide +kernel
theorem dX8_drop_131 : decode cX8_drop 131 = .ok (.ireturn, 1) := by decide +kernel
theorem dJ6_numberOfLeadingZeros_0f7a4_0 : decode cJ6_numberOfLeadingZeros_0f7a4 0 = .ok (.iload_n 0, 1) := by decide +kernel
theorem dJ6_numberOfLeadingZeros_0f7a4_1 : decode cJ6_numberOfLeadingZeros_0f7a4 1 = .ok (.ifCond .gt 14, 3) := by decide +kernel
theorem dJ6_numberOfLeadingZeros_0f7a4_4 : decode cJ6_numberOfLeadingZeros_0f7a4 4 = .ok (.iload_n 0, 1) := by decide +kernel
theorem dJ6_numberOfLeadingZeros_0f7a4_5 : decode cJ6_numberOfLeadingZeros_0f7a4 5 = .ok (.ifCond .ne 8, 3) := by decide +kernel
theorem dJ6_numberOfLeadingZeros_0f7a4_8 : decode cJ6_numberOfLeadingZeros_0f7a4 8 = .ok (.bipush 32, 2) := by decide +kernel
theorem dJ6_numberOfLeadingZeros_0f7a4_10 : decode cJ6_numberOfLeadingZeros_0f7a4 10 = .ok (.goto 4, 3) := by decide +kernel
theorem dJ6_numberOfLeadingZeros_0f7a4_13 : decode cJ6_numberOfLeadingZeros_0f7a4 13 = .ok (.iconst 0, 1) := by decide +kernel
theorem dJ6_numberOfLeadingZeros_0f7a4_14 : decode cJ6_numberOfLeadingZeros_0f7a4 14 = .ok (.ireturn, 1) := by decide +kernel
theorem dJ6_numberOfLeadingZeros_0f7a4_15 : decode cJ6_numberOfLeadingZeros_0f7a4 15 = .ok (.bipush 31, 2) := by decide +kernel
theorem dJ6_numberOfLeadingZeros_0f7a4_17 : decode cJ6_numberOfLeadingZeros_0f7a4 17 = .ok (.istore_n 1, 1) := by decide +kernel
theorem dJ6_numberOfLeadingZeros_0f7a4_18 : decode cJ6_numberOfLeadingZeros_0f7a4 18 = .ok (.iload_n 0, 1) := by decide +kernel
theorem dJ6_numberOfLeadingZeros_0f7a4_19 : decode cJ6_numberOfLeadingZeros_0f7a4 19 = .ok (.ldc_w 264, 3) := by decide +kernel
theorem dJ6_numberOfLeadingZeros_0f7a4_22 : decode cJ6_numberOfLeadingZeros_0f7a4 22 = .ok (.if_icmp .lt 11, 3) := by decide +kernel
theorem dJ6_numberOfLeadingZeros_0f7a4_25 : decode cJ6_numberOfLeadingZeros_0f7a4 25 = .ok (.iinc 1 (-16), 3) := by decide +kernel
theorem dJ6_numberOfLeadingZeros_0f7a4_28 : decode cJ6_numberOfLeadingZeros_0f7a4 28 = .ok (.iload_n 0, 1) := by decide +kernel
theorem dJ6_numberOfLeadingZeros_0f7a4_29 : decode cJ6_numberOfLeadingZeros_0f7a4 29 = .ok (.bipush 16, 2) := by decide +kernel
theorem dJ6_numberOfLeadingZeros_0f7a4_31 : decode cJ6_numberOfLeadingZeros_0f7a4 31 = .ok (.iushr, 1) := by decide +kernel
theorem dJ6_numberOfLeadingZeros_0f7a4_32 : decode cJ6_numberOfLeadingZeros_0f7a4 32 = .ok (.istore_n 0, 1) := by decide +kernel
theorem dJ6_numberOfLeadingZeros_0f7a4_33 : decode cJ6_numberOfLeadingZeros_0f7a4 33 = .ok (.iload_n 0, 1) := by decide +kernel
theorem dJ6_numberOfLeadingZeros_0f7a4_34 : decode cJ6_numberOfLeadingZeros_0f7a4 34 = .ok (.sipush 256, 3) := by decide +kernel
theorem dJ6_numberOfLeadingZeros_0f7a4_37 : decode cJ6_numberOfLeadingZeros_0f7a4 37 = .ok (.if_icmp .lt 11, 3) := by decide +kernel
theorem dJ6_numberOfLeadingZeros_0f7a4_40 : decode cJ6_numberOfLeadingZeros_0f7a4 40 = .ok (.iinc 1 (-8), 3) := by decide +kernel
theorem dJ6_numberOfLeadingZeros_0f7a4_43 : decode cJ6_numberOfLeadingZeros_0f7a4 43 = .ok (.iload_n 0, 1) := by decide +kernel
theorem dJ6_numberOfLeadingZeros_0f7a4_44 : decode cJ6_numberOfLeadingZeros_0f7a4 44 = .ok (.bipush 8, 2) := by decide +kernel
theorem dJ6_numberOfLeadingZeros_0f7a4_46 : decode cJ6_numberOfLeadingZeros_0f7a4 46 = .ok (.iushr, 1) := by decide +kernel
theorem dJ6_numberOfLeadingZeros_0f7a4_47 : decode cJ6_numberOfLeadingZeros_0f7a4 47 = .ok (.istore_n 0, 1) := by decide +kernel
theorem dJ6_numberOfLeadingZeros_0f7a4_48 : decode cJ6_numberOfLeadingZeros_0f7a4 48 = .ok (.iload_n 0, 1) := by decide +kernel
theorem dJ6_numberOfLeadingZeros_0f7a4_49 : decode cJ6_numberOfLeadingZeros_0f7a4 49 = .ok (.bipush 16, 2) := by decide +kernel
theorem dJ6_numberOfLeadingZeros_0f7a4_51 : decode cJ6_numberOfLeadingZeros_0f7a4 51 = .ok (.if_icmp .lt 10, 3) := by decide +kernel
theorem dJ6_numberOfLeadingZeros_0f7a4_54 : decode cJ6_numberOfLeadingZeros_0f7a4 54 = .ok (.iinc 1 (-4), 3) := by decide +kernel
theorem dJ6_numberOfLeadingZeros_0f7a4_57 : decode cJ6_numberOfLeadingZeros_0f7a4 57 = .ok (.iload_n 0, 1) := by decide +kernel
theorem dJ6_numberOfLeadingZeros_0f7a4_58 : decode cJ6_numberOfLeadingZeros_0f7a4 58 = .ok (.iconst 4, 1) := by decide +kernel
theorem dJ6_numberOfLeadingZeros_0f7a4_59 : decode cJ6_numberOfLeadingZeros_0f7a4 59 = .ok (.iushr, 1) := by decide +kernel
theorem dJ6_numberOfLeadingZeros_0f7a4_60 : decode cJ6_numberOfLeadingZeros_0f7a4 60 = .ok (.istore_n 0, 1) := by decide +kernel
theorem dJ6_numberOfLeadingZeros_0f7a4_61 : decode cJ6_numberOfLeadingZeros_0f7a4 61 = .ok (.iload_n 0, 1) := by decide +kernel
theorem dJ6_numberOfLeadingZeros_0f7a4_62 : decode cJ6_numberOfLeadingZeros_0f7a4 62 = .ok (.iconst 4, 1) := by decide +kernel
theorem dJ6_numberOfLeadingZeros_0f7a4_63 : decode cJ6_numberOfLeadingZeros_0f7a4 63 = .ok (.if_icmp .lt 10, 3) := by decide +kernel
theorem dJ6_numberOfLeadingZeros_0f7a4_66 : decode cJ6_numberOfLeadingZeros_0f7a4 66 = .ok (.iinc 1 (-2), 3) := by decide +kernel
theorem dJ6_numberOfLeadingZeros_0f7a4_69 : decode cJ6_numberOfLeadingZeros_0f7a4 69 = .ok (.iload_n 0, 1) := by decide +kernel
theorem dJ6_numberOfLeadingZeros_0f7a4_70 : decode cJ6_numberOfLeadingZeros_0f7a4 70 = .ok (.iconst 2, 1) := by decide +kernel
theorem dJ6_numberOfLeadingZeros_0f7a4_71 : decode cJ6_numberOfLeadingZeros_0f7a4 71 = .ok (.iushr, 1) := by decide +kernel
theorem dJ6_numberOfLeadingZeros_0f7a4_72 : decode cJ6_numberOfLeadingZeros_0f7a4 72 = .ok (.istore_n 0, 1) := by decide +kernel
theorem dJ6_numberOfLeadingZeros_0f7a4_73 : decode cJ6_numberOfLeadingZeros_0f7a4 73 = .ok (.iload_n 1, 1) := by decide +kernel
theorem dJ6_numberOfLeadingZeros_0f7a4_74 : decode cJ6_numberOfLeadingZeros_0f7a4 74 = .ok (.iload_n 0, 1) := by decide +kernel
theorem dJ6_numberOfLeadingZeros_0f7a4_75 : decode cJ6_numberOfLeadingZeros_0f7a4 75 = .ok (.iconst 1, 1) := by decide +kernel
theorem dJ6_numberOfLeadingZeros_0f7a4_76 : decode cJ6_numberOfLeadingZeros_0f7a4 76 = .ok (.iushr, 1) := by decide +kernel
theorem dJ6_numberOfLeadingZeros_0f7a4_77 : decode cJ6_numberOfLeadingZeros_0f7a4 77 = .ok (.isub, 1) := by decide +kernel
theorem dJ6_numberOfLeadingZeros_0f7a4_78 : decode cJ6_numberOfLeadingZeros_0f7a4 78 = .ok (.ireturn, 1) := by decide +kernel
theorem dJ6_numberOfTrailingZeros_0f7a4_0 : decode cJ6_numberOfTrailingZeros_0f7a4 0 = .ok (.iload_n 0, 1) := by decide +kernel
theorem dJ6_numberOfTrailingZeros_0f7a4_1 : decode cJ6_numberOfTrailingZeros_0f7a4 1 = .ok (.iconst (-1), 1) := by decide +kernel
theorem dJ6_numberOfTrailingZeros_0f7a4_2 : decode cJ6_numberOfTrailingZeros_0f7a4 2 = .ok (.ixor, 1) := by decide +kernel
theorem dJ6_numberOfTrailingZeros_0f7a4_3 : decode cJ6_numberOfTrailingZeros_0f7a4 3 = .ok (.iload_n 0, 1) := by decide +kernel
theorem dJ6_numberOfTrailingZeros_0f7a4_4 : decode cJ6_numberOfTrailingZeros_0f7a4 4 = .ok (.iconst 1, 1) := by decide +kernel
theorem dJ6_numberOfTrailingZeros_0f7a4_5 : decode cJ6_numberOfTrailingZeros_0f7a4 5 = .ok (.isub, 1) := by decide +kernel
theorem dJ6_numberOfTrailingZeros_0f7a4_6 : decode cJ6_numberOfTrailingZeros_0f7a4 6 = .ok (.iand, 1) := by decide +kernel
theorem dJ6_numberOfTrailingZeros_0f7a4_7 : decode cJ6_numberOfTrailingZeros_0f7a4 7 = .ok (.istore_n 0, 1) := by decide +kernel
theorem dJ6_numberOfTrailingZeros_0f7a4_8 : decode cJ6_numberOfTrailingZeros_0f7a4 8 = .ok (.iload_n 0, 1) := by decide +kernel
theorem dJ6_numberOfTrailingZeros_0f7a4_9 : decode cJ6_numberOfTrailingZeros_0f7a4 9 = .ok (.ifCond .gt 8, 3) := by decide +kernel
theorem dJ6_numberOfTrailingZeros_0f7a4_12 : decode cJ6_numberOfTrailingZeros_0f7a4 12 = .ok (.iload_n 0, 1) := by decide +kernel
theorem dJ6_numberOfTrailingZeros_0f7a4_13 : decode cJ6_numberOfTrailingZeros_0f7a4 13 = .ok (.bipush 32, 2) := by decide +kernel
theorem dJ6_numberOfTrailingZeros_0f7a4_15 : decode cJ6_numberOfTrailingZeros_0f7a4 15 = .ok (.iand, 1) := by decide +kernel
theorem dJ6_numberOfTrailingZeros_0f7a4_16 : decode cJ6_numberOfTrailingZeros_0f7a4 16 = .ok (.ireturn, 1) := by decide +kernel
theorem dJ6_numberOfTrailingZeros_0f7a4_17 : decode cJ6_numberOfTrailingZeros_0f7a4 17 = .ok (.iconst 1, 1) := by decide +kernel
theorem dJ6_numberOfTrailingZeros_0f7a4_18 : decode cJ6_numberOfTrailingZeros_0f7a4 18 = .ok (.istore_n 1, 1) := by decide +kernel
theorem dJ6_numberOfTrailingZeros_0f7a4_19 : decode cJ6_numberOfTrailingZeros_0f7a4 19 = .ok (.iload_n 0, 1) := by decide +kernel
theorem dJ6_numberOfTrailingZeros_0f7a4_20 : decode cJ6_numberOfTrailingZeros_0f7a4 20 = .ok (.ldc_w 264, 3) := by decide +kernel
theorem dJ6_numberOfTrailingZeros_0f7a4_23 : decode cJ6_numberOfTrailingZeros_0f7a4 23 = .ok (.if_icmp .le 11, 3) := by decide +kernel
theorem dJ6_numberOfTrailingZeros_0f7a4_26 : decode cJ6_numberOfTrailingZeros_0f7a4 26 = .ok (.iinc 1 16, 3) := by decide +kernel
theorem dJ6_numberOfTrailingZeros_0f7a4_29 : decode cJ6_numberOfTrailingZeros_0f7a4 29 = .ok (.iload_n 0, 1) := by decide +kernel
theorem dJ6_numberOfTrailingZeros_0f7a4_30 : decode cJ6_numberOfTrailingZeros_0f7a4 30 = .ok (.bipush 16, 2) := by decide +kernel
theorem dJ6_numberOfTrailingZeros_0f7a4_32 : decode cJ6_numberOfTrailingZeros_0f7a4 32 = .ok (.iushr, 1) := by decide +kernel
theorem dJ6_numberOfTrailingZeros_0f7a4_33 : decode cJ6_numberOfTrailingZeros_0f7a4 33 = .ok (.istore_n 0, 1) := by decide +kernel
theorem dJ6_numberOfTrailingZeros_0f7a4_34 : decode cJ6_numberOfTrailingZeros_0f7a4 34 = .ok (.iload_n 0, 1) := by decide +kernel
theorem dJ6_numberOfTrailingZeros_0f7a4_35 : decode cJ6_numberOfTrailingZeros_0f7a4 35 = .ok (.sipush 256, 3) := by decide +kernel
theorem dJ6_numberOfTrailingZeros_0f7a4_38 : decode cJ6_numberOfTrailingZeros_0f7a4 38 = .ok (.if_icmp .le 11, 3) := by decide +kernel
theorem dJ6_numberOfTrailingZeros_0f7a4_41 : decode cJ6_numberOfTrailingZeros_0f7a4 41 = .ok (.iinc 1 8, 3) := by decide +kernel
theorem dJ6_numberOfTrailingZeros_0f7a4_44 : decode cJ6_numberOfTrailingZeros_0f7a4 44 = .ok (.iload_n 0, 1) := by decide +kernel
theorem dJ6_numberOfTrailingZeros_0f7a4_45 : decode cJ6_numberOfTrailingZeros_0f7a4 45 = .ok (.bipush 8, 2) := by decide +kernel
theorem dJ6_numberOfTrailingZeros_0f7a4_47 : decode cJ6_numberOfTrailingZeros_0f7a4 47 = .ok (.iushr, 1) := by decide +kernel
theorem dJ6_numberOfTrailingZeros_0f7a4_48 : decode cJ6_numberOfTrailingZeros_0f7a4 48 = .ok (.istore_n 0, 1) := by decide +kernel
theorem dJ6_numberOfTrailingZeros_0f7a4_49 : decode cJ6_numberOfTrailingZeros_0f7a4 49 = .ok (.iload_n 0, 1) := by decide +kernel
theorem dJ6_numberOfTrailingZeros_0f7a4_50 : decode cJ6_numberOfTrailingZeros_0f7a4 50 = .ok (.bipush 16, 2) := by decide +kernel
theorem dJ6_numberOfTrailingZeros_0f7a4_52 : decode cJ6_numberOfTrailingZeros_0f7a4 52 = .ok (.if_icmp .le 10, 3) := by decide +kernel
theorem dJ6_numberOfTrailingZeros_0f7a4_55 : decode cJ6_numberOfTrailingZeros_0f7a4 55 = .ok (.iinc 1 4, 3) := by decide +kernel
theorem dJ6_numberOfTrailingZeros_0f7a4_58 : decode cJ6_numberOfTrailingZeros_0f7a4 58 = .ok (.iload_n 0, 1) := by decide +kernel
theorem dJ6_numberOfTrailingZeros_0f7a4_59 : decode cJ6_numberOfTrailingZeros_0f7a4 59 = .ok (.iconst 4, 1) := by decide +kernel
theorem dJ6_numberOfTrailingZeros_0f7a4_60 : decode cJ6_numberOfTrailingZeros_0f7a4 60 = .ok (.iushr, 1) := by decide +kernel
theorem dJ6_numberOfTrailingZeros_0f7a4_61 : decode cJ6_numberOfTrailingZeros_0f7a4 61 = .ok (.istore_n 0, 1) := by decide +kernel
theorem dJ6_numberOfTrailingZeros_0f7a4_62 : decode cJ6_numberOfTrailingZeros_0f7a4 62 = .ok (.iload_n 0, 1) := by decide +kernel
theorem dJ6_numberOfTrailingZeros_0f7a4_63 : decode cJ6_numberOfTrailingZeros_0f7a4 63 = .ok (.iconst 4, 1) := by decide +kernel
theorem dJ6_numberOfTrailingZeros_0f7a4_64 : decode cJ6_numberOfTrailingZeros_0f7a4 64 = .ok (.if_icmp .le 10, 3) := by decide +kernel
theorem dJ6_numberOfTrailingZeros_0f7a4_67 : decode cJ6_numberOfTrailingZeros_0f7a4 67 = .ok (.iinc 1 2, 3) := by decide +kernel
theorem dJ6_numberOfTrailingZeros_0f7a4_70 : decode cJ6_numberOfTrailingZeros_0f7a4 70 = .ok (.iload_n 0, 1) := by decide +kernel
theorem dJ6_numberOfTrailingZeros_0f7a4_71 : decode cJ6_numberOfTrailingZeros_0f7a4 71 = .ok (.iconst 2, 1) := by decide +kernel
theorem dJ6_numberOfTrailingZeros_0f7a4_72 : decode cJ6_numberOfTrailingZeros_0f7a4 72 = .ok (.iushr, 1) := by decide +kernel
theorem dJ6_numberOfTrailingZeros_0f7a4_73 : decode cJ6_numberOfTrailingZeros_0f7a4 73 = .ok (.istore_n 0, 1) := by decide +kernel
theorem dJ6_numberOfTrailingZeros_0f7a4_74 : decode cJ6_numberOfTrailingZeros_0f7a4 74 = .ok (.iload_n 1, 1) := by decide +kernel
theorem dJ6_numberOfTrailingZeros_0f7a4_75 : decode cJ6_numberOfTrailingZeros_0f7a4 75 = .ok (.iload_n 0, 1) := by decide +kernel
theorem dJ6_numberOfTrailingZeros_0f7a4_76 : decode cJ6_numberOfTrailingZeros_0f7a4 76 = .ok (.iconst 1, 1) := by decide +kernel
theorem dJ6_numberOfTrailingZeros_0f7a4_77 : decode cJ6_numberOfTrailingZeros_0f7a4 77 = .ok (.iushr, 1) := by decide +kernel
theorem dJ6_numberOfTrailingZeros_0f7a4_78 : decode cJ6_numberOfTrailingZeros_0f7a4 78 = .ok (.iadd, 1) := by decide +kernel
theorem dJ6_numberOfTrailingZeros_0f7a4_79 : decode cJ6_numberOfTrailingZeros_0f7a4 79 = .ok (.ireturn, 1) := by decide +kernel
theorem dJ13_numberOfLeadingZeros_95d88_0 : decode cJ13_numberOfLeadingZeros_95d88 0 = .ok (.lload_n 0, 1) := by decide +kernel
theorem dJ13_numberOfLeadingZeros_95d88_1 : decode cJ13_numberOfLeadingZeros_95d88 1 = .ok (.bipush 32, 2) := by decide +kernel
theorem dJ13_numberOfLeadingZeros_95d88_3 : decode cJ13_numberOfLeadingZeros_95d88 3 = .ok (.lushr, 1) := by decide +kernel
theorem dJ13_numberOfLeadingZeros_95d88_4 : decode cJ13_numberOfLeadingZeros_95d88 4 = .ok (.l2i, 1) := by decide +kernel
theorem dJ13_numberOfLeadingZeros_95d88_5 : decode cJ13_numberOfLeadingZeros_95d88 5 = .ok (.istore_n 2, 1) := by decide +kernel
theorem dJ13_numberOfLeadingZeros_95d88_6 : decode cJ13_numberOfLeadingZeros_95d88 6 = .ok (.iload_n 2, 1) := by decide +kernel
theorem dJ13_numberOfLeadingZeros_95d88_7 : decode cJ13_numberOfLeadingZeros_95d88 7 = .ok (.ifCond .ne 14, 3) := by decide +kernel
theorem dJ13_numberOfLeadingZeros_95d88_10 : decode cJ13_numberOfLeadingZeros_95d88 10 = .ok (.bipush 32, 2) := by decide +kernel
theorem dJ13_numberOfLeadingZeros_95d88_12 : decode cJ13_numberOfLeadingZeros_95d88 12 = .ok (.lload_n 0, 1) := by decide +kernel
theorem dJ13_numberOfLeadingZeros_95d88_13 : decode cJ13_numberOfLeadingZeros_95d88 13 = .ok (.l2i, 1) := by decide +kernel
theorem dJ13_numberOfLeadingZeros_95d88_14 : decode cJ13_numberOfLeadingZeros_95d88 14 = .ok (.invokestatic 308, 3) := by decide +kernel
theorem dJ13_numberOfLeadingZeros_95d88_17 : decode cJ13_numberOfLeadingZeros_95d88 17 = .ok (.iadd, 1) := by decide +kernel
theorem dJ13_numberOfLeadingZeros_95d88_18 : decode cJ13_numberOfLeadingZeros_95d88 18 = .ok (.goto 7, 3) := by decide +kernel
theorem dJ13_numberOfLeadingZeros_95d88_21 : decode cJ13_numberOfLeadingZeros_95d88 21 = .ok (.iload_n 2, 1) := by decide +kernel
theorem dJ13_numberOfLeadingZeros_95d88_22 : decode cJ13_numberOfLeadingZeros_95d88 22 = .ok (.invokestatic 308, 3) := by decide +kernel
theorem dJ13_numberOfLeadingZeros_95d88_25 : decode cJ13_numberOfLeadingZeros_95d88 25 = .ok (.ireturn, 1) := by decide +kernel
theorem dJ13_numberOfTrailingZeros_95d88_0 : decode cJ13_numberOfTrailingZeros_95d88 0 = .ok (.lload_n 0, 1) := by decide +kernel
theorem dJ13_numberOfTrailingZeros_95d88_1 : decode cJ13_numberOfTrailingZeros_95d88 1 = .ok (.l2i, 1) := by decide +kernel
theorem dJ13_numberOfTrailingZeros_95d88_2 : decode cJ13_numberOfTrailingZeros_95d88 2 = .ok (.istore_n 2, 1) := by decide +kernel
theorem dJ13_numberOfTrailingZeros_95d88_3 : decode cJ13_numberOfTrailingZeros_95d88 3 = .ok (.iload_n 2, 1) := by decide +kernel
theorem dJ13_numberOfTrailingZeros_95d88_4 : decode cJ13_numberOfTrailingZeros_95d88 4 = .ok (.ifCond .ne 17, 3) := by decide +kernel
theorem dJ13_numberOfTrailingZeros_95d88_7 : decode cJ13_numberOfTrailingZeros_95d88 7 = .ok (.bipush 32, 2) := by decide +kernel
theorem dJ13_numberOfTrailingZeros_95d88_9 : decode cJ13_numberOfTrailingZeros_95d88 9 = .ok (.lload_n 0, 1) := by decide +kernel
theorem dJ13_numberOfTrailingZeros_95d88_10 : decode cJ13_numberOfTrailingZeros_95d88 10 = .ok (.bipush 32, 2) := by decide +kernel
theorem dJ13_numberOfTrailingZeros_95d88_12 : decode cJ13_numberOfTrailingZeros_95d88 12 = .ok (.lushr, 1) := by decide +kernel
theorem dJ13_numberOfTrailingZeros_95d88_13 : decode cJ13_numberOfTrailingZeros_95d88 13 = .ok (.l2i, 1) := by decide +kernel
theorem dJ13_numberOfTrailingZeros_95d88_14 : decode cJ13_numberOfTrailingZeros_95d88 14 = .ok (.invokestatic 311, 3) := by decide +kernel
theorem dJ13_numberOfTrailingZeros_95d88_17 : decode cJ13_numberOfTrailingZeros_95d88 17 = .ok (.iadd, 1) := by decide +kernel
theorem dJ13_numberOfTrailingZeros_95d88_18 : decode cJ13_numberOfTrailingZeros_95d88 18 = .ok (.goto 7, 3) := by decide +kernel
theorem dJ13_numberOfTrailingZeros_95d88_21 : decode cJ13_numberOfTrailingZeros_95d88 21 = .ok (.iload_n 2, 1) := by decide +kernel
theorem dJ13_numberOfTrailingZeros_95d88_22 : decode cJ13_numberOfTrailingZeros_95d88 22 = .ok (.invokestatic 311, 3) := by decide +kernel
theorem dJ13_numberOfTrailingZeros_95d88_25 : decode cJ13_numberOfTrailingZeros_95d88 25 = .ok (.ireturn, 1) := by decide +kernel
theorem dJ13_bitCount_95d88_0 : decode cJ13_bitCount_95d88 0 = .ok (.lload_n 0, 1) := by decide +kernel
theorem dJ13_bitCount_95d88_1 : decode cJ13_bitCount_95d88 1 = .ok (.lload_n 0, 1) := by decide +kernel
theorem dJ13_bitCount_95d88_2 : decode cJ13_bitCount_95d88 2 = .ok (.iconst 1, 1) := by decide +kernel
theorem dJ13_bitCount_95d88_3 : decode cJ13_bitCount_95d88 3 = .ok (.lushr, 1) := by decide +kernel
theorem dJ13_bitCount_95d88_4 : decode cJ13_bitCount_95d88 4 = .ok (.ldc2_w 314, 3) := by decide +kernel
theorem dJ13_bitCount_95d88_7 : decode cJ13_bitCount_95d88 7 = .ok (.land, 1) := by decide +kernel
theorem dJ13_bitCount_95d88_8 : decode cJ13_bitCount_95d88 8 = .ok (.lsub, 1) := by decide +kernel
theorem dJ13_bitCount_95d88_9 : decode cJ13_bitCount_95d88 9 = .ok (.lstore_n 0, 1) := by decide +kernel
theorem dJ13_bitCount_95d88_10 : decode cJ13_bitCount_95d88 10 = .ok (.lload_n 0, 1) := by decide +kernel
theorem dJ13_bitCount_95d88_11 : decode cJ13_bitCount_95d88 11 = .ok (.ldc2_w 316, 3) := by decide +kernel
theorem dJ13_bitCount_95d88_14 : decode cJ13_bitCount_95d88 14 = .ok (.land, 1) := by decide +kernel
theorem dJ13_bitCount_95d88_15 : decode cJ13_bitCount_95d88 15 = .ok (.lload_n 0, 1) := by decide +kernel
theorem dJ13_bitCount_95d88_16 : decode cJ13_bitCount_95d88 16 = .ok (.iconst 2, 1) := by decide +kernel
theorem dJ13_bitCount_95d88_17 : decode cJ13_bitCount_95d88 17 = .ok (.lushr, 1) := by decide +kernel
theorem dJ13_bitCount_95d88_18 : decode cJ13_bitCount_95d88 18 = .ok (.ldc2_w 316, 3) := by decide +kernel
theorem dJ13_bitCount_95d88_21 : decode cJ13_bitCount_95d88 21 = .ok (.land, 1) := by decide +kernel
theorem dJ13_bitCount_95d88_22 : decode cJ13_bitCount_95d88 22 = .ok (.ladd, 1) := by decide +kernel
theorem dJ13_bitCount_95d88_23 : decode cJ13_bitCount_95d88 23 = .ok (.lstore_n 0, 1) := by decide +kernel
theorem dJ13_bitCount_95d88_24 : decode cJ13_bitCount_95d88 24 = .ok (.lload_n 0, 1) := by decide +kernel
theorem dJ13_bitCount_95d88_25 : decode cJ13_bitCount_95d88 25 = .ok (.lload_n 0, 1) := by decide +kernel
theorem dJ13_bitCount_95d88_26 : decode cJ13_bitCount_95d88 26 = .ok (.iconst 4, 1) := by decide +kernel
theorem dJ13_bitCount_95d88_27 : decode cJ13_bitCount_95d88 27 = .ok (.lushr, 1) := by decide +kernel
theorem dJ13_bitCount_95d88_28 : decode cJ13_bitCount_95d88 28 = .ok (.ladd, 1) := by decide +kernel
theorem dJ13_bitCount_95d88_29 : decode cJ13_bitCount_95d88 29 = .ok (.ldc2_w 318, 3) := by decide +kernel
theorem dJ13_bitCount_95d88_32 : decode cJ13_bitCount_95d88 32 = .ok (.land, 1) := by decide +kernel
theorem dJ13_bitCount_95d88_33 : decode cJ13_bitCount_95d88 33 = .ok (.lstore_n 0, 1) := by decide +kernel
theorem dJ13_bitCount_95d88_34 : decode cJ13_bitCount_95d88 34 = .ok (.lload_n 0, 1) := by decide +kernel
theorem dJ13_bitCount_95d88_35 : decode cJ13_bitCount_95d88 35 = .ok (.lload_n 0, 1) := by decide +kernel
theorem dJ13_bitCount_95d88_36 : decode cJ13_bitCount_95d88 36 = .ok (.bipush 8, 2) := by decide +kernel
theorem dJ13_bitCount_95d88_38 : decode cJ13_bitCount_95d88 38 = .ok (.lushr, 1) := by decide +kernel
theorem dJ13_bitCount_95d88_39 : decode cJ13_bitCount_95d88 39 = .ok (.ladd, 1) := by decide +kernel
theorem dJ13_bitCount_95d88_40 : decode cJ13_bitCount_95d88 40 = .ok (.lstore_n 0, 1) := by decide +kernel
theorem dJ13_bitCount_95d88_41 : decode cJ13_bitCount_95d88 41 = .ok (.lload_n 0, 1) := by decide +kernel
theorem dJ13_bitCount_95d88_42 : decode cJ13_bitCount_95d88 42 = .ok (.lload_n 0, 1) := by decide +kernel
theorem dJ13_bitCount_95d88_43 : decode cJ13_bitCount_95d88 43 = .ok (.bipush 16, 2) := by decide +kernel
theorem dJ13_bitCount_95d88_45 : decode cJ13_bitCount_95d88 45 = .ok (.lushr, 1) := by decide +kernel
theorem dJ13_bitCount_95d88_46 : decode cJ13_bitCount_95d88 46 = .ok (.ladd, 1) := by decide +kernel
theorem dJ13_bitCount_95d88_47 : decode cJ13_bitCount_95d88 47 = .ok (.lstore_n 0, 1) := by decide +kernel
theorem dJ13_bitCount_95d88_48 : decode cJ13_bitCount_95d88 48 = .ok (.lload_n 0, 1) := by decide +kernel
theorem dJ13_bitCount_95d88_49 : decode cJ13_bitCount_95d88 49 = .ok (.lload_n 0, 1) := by decide +kernel
theorem dJ13_bitCount_95d88_50 : decode cJ13_bitCount_95d88 50 = .ok (.bipush 32, 2) := by decide +kernel
theorem dJ13_bitCount_95d88_52 : decode cJ13_bitCount_95d88 52 = .ok (.lushr, 1) := by decide +kernel
theorem dJ13_bitCount_95d88_53 : decode cJ13_bitCount_95d88 53 = .ok (.ladd, 1) := by decide +kernel
theorem dJ13_bitCount_95d88_54 : decode cJ13_bitCount_95d88 54 = .ok (.lstore_n 0, 1) := by decide +kernel
theorem dJ13_bitCount_95d88_55 : decode cJ13_bitCount_95d88 55 = .ok (.lload_n 0, 1) := by decide +kernel
theorem dJ13_bitCount_95d88_56 : decode cJ13_bitCount_95d88 56 = .ok (.l2i, 1) := by decide +kernel
theorem dJ13_bitCount_95d88_57 : decode cJ13_bitCount_95d88 57 = .ok (.bipush 127, 2) := by decide +kernel
theorem dJ13_bitCount_95d88_59 : decode cJ13_bitCount_95d88 59 = .ok (.iand, 1) := by decide +kernel
theorem dJ13_bitCount_95d88_60 : decode cJ13_bitCount_95d88 60 = .ok (.ireturn, 1) := by decide +kernel
theorem dJ9_floorDiv_7cf53_0 : decode cJ9_floorDiv_7cf53 0 = .ok (.iload_n 0, 1) := by decide +kernel
theorem dJ9_floorDiv_7cf53_1 : decode cJ9_floorDiv_7cf53 1 = .ok (.iload_n 1, 1) := by decide +kernel
theorem dJ9_floorDiv_7cf53_2 : decode cJ9_floorDiv_7cf53 2 = .ok (.idiv, 1) := by decide +kernel
theorem dJ9_floorDiv_7cf53_3 : decode cJ9_floorDiv_7cf53 3 = .ok (.istore_n 2, 1) := by decide +kernel
theorem dJ9_floorDiv_7cf53_4 : decode cJ9_floorDiv_7cf53 4 = .ok (.iload_n 0, 1) := by decide +kernel
theorem dJ9_floorDiv_7cf53_5 : decode cJ9_floorDiv_7cf53 5 = .ok (.iload_n 1, 1) := by decide +kernel
theorem dJ9_floorDiv_7cf53_6 : decode cJ9_floorDiv_7cf53 6 = .ok (.ixor, 1) := by decide +kernel
theorem dJ9_floorDiv_7cf53_7 : decode cJ9_floorDiv_7cf53 7 = .ok (.ifCond .ge 14, 3) := by decide +kernel
theorem dJ9_floorDiv_7cf53_10 : decode cJ9_floorDiv_7cf53 10 = .ok (.iload_n 2, 1) := by decide +kernel
theorem dJ9_floorDiv_7cf53_11 : decode cJ9_floorDiv_7cf53 11 = .ok (.iload_n 1, 1) := by decide +kernel
theorem dJ9_floorDiv_7cf53_12 : decode cJ9_floorDiv_7cf53 12 = .ok (.imul, 1) := by decide +kernel
theorem dJ9_floorDiv_7cf53_13 : decode cJ9_floorDiv_7cf53 13 = .ok (.iload_n 0, 1) := by decide +kernel
theorem dJ9_floorDiv_7cf53_14 : decode cJ9_floorDiv_7cf53 14 = .ok (.if_icmp .eq 7, 3) := by decide +kernel
theorem dJ9_floorDiv_7cf53_17 : decode cJ9_floorDiv_7cf53 17 = .ok (.iload_n 2, 1) := by decide +kernel
theorem dJ9_floorDiv_7cf53_18 : decode cJ9_floorDiv_7cf53 18 = .ok (.iconst 1, 1) := by decide +kernel
theorem dJ9_floorDiv_7cf53_19 : decode cJ9_floorDiv_7cf53 19 = .ok (.isub, 1) := by decide +kernel
theorem dJ9_floorDiv_7cf53_20 : decode cJ9_floorDiv_7cf53 20 = .ok (.ireturn, 1) := by decide +kernel
theorem dJ9_floorDiv_7cf53_21 : decode cJ9_floorDiv_7cf53 21 = .ok (.iload_n 2, 1) := by decide +kernel
theorem dJ9_floorDiv_7cf53_22 : decode cJ9_floorDiv_7cf53 22 = .ok (.ireturn, 1) := by decide +kernel
theorem dJ9_min_7cf53_0 : decode cJ9_min_7cf53 0 = .ok (.iload_n 0, 1) := by decide +kernel
theorem dJ9_min_7cf53_1 : decode cJ9_min_7cf53 1 = .ok (.iload_n 1, 1) := by decide +kernel
theorem dJ9_min_7cf53_2 : decode cJ9_min_7cf53 2 = .ok (.if_icmp .gt 7, 3) := by decide +kernel
theorem dJ9_min_7cf53_5 : decode cJ9_min_7cf53 5 = .ok (.iload_n 0, 1) := by decide +kernel
theorem dJ9_min_7cf53_6 : decode cJ9_min_7cf53 6 = .ok (.goto 4, 3) := by decide +kernel
theorem dJ9_min_7cf53_9 : decode cJ9_min_7cf53 9 = .ok (.iload_n 1, 1) := by decide +kernel
theorem dJ9_min_7cf53_10 : decode cJ9_min_7cf53 10 = .ok (.ireturn, 1) := by decide +kernel
theorem dJ0_length_8abf5_0 : decode cJ0_length_8abf5 0 = .ok (.aload_n 0, 1) := by decide +kernel
theorem dJ0_length_8abf5_1 : decode cJ0_length_8abf5 1 = .ok (.getfield 9, 3) := by decide +kernel
theorem dJ0_length_8abf5_4 : decode cJ0_length_8abf5 4 = .ok (.arraylength, 1) := by decide +kernel
theorem dJ0_length_8abf5_5 : decode cJ0_length_8abf5 5 = .ok (.aload_n 0, 1) := by decide +kernel
theorem dJ0_length_8abf5_6 : decode cJ0_length_8abf5 6 = .ok (.invokevirtual 335, 3) := by decide +kernel
theorem dJ0_length_8abf5_9 : decode cJ0_length_8abf5 9 = .ok (.ishr, 1) := by decide +kernel
theorem dJ0_length_8abf5_10 : decode cJ0_length_8abf5 10 = .ok (.ireturn, 1) := by decide +kernel
theorem dJ0_charAt_5068e_0 : decode cJ0_charAt_5068e 0 = .ok (.aload_n 0, 1) := by decide +kernel
theorem dJ0_charAt_5068e_1 : decode cJ0_charAt_5068e 1 = .ok (.invokevirtual 492, 3) := by decide +kernel
theorem dJ0_charAt_5068e_4 : decode cJ0_charAt_5068e 4 = .ok (.ifCond .eq 12, 3) := by decide +kernel
theorem dJ0_charAt_5068e_7 : decode cJ0_charAt_5068e 7 = .ok (.aload_n 0, 1) := by decide +kernel
theorem dJ0_charAt_5068e_8 : decode cJ0_charAt_5068e 8 = .ok (.getfield 9, 3) := by decide +kernel
theorem dJ0_charAt_5068e_11 : decode cJ0_charAt_5068e 11 = .ok (.iload_n 1, 1) := by decide +kernel
theorem dJ0_charAt_5068e_12 : decode cJ0_charAt_5068e 12 = .ok (.invokestatic 495, 3) := by decide +kernel
theorem dJ0_charAt_5068e_15 : decode cJ0_charAt_5068e 15 = .ok (.ireturn, 1) := by decide +kernel
theorem dJ0_charAt_5068e_16 : decode cJ0_charAt_5068e 16 = .ok (.aload_n 0, 1) := by decide +kernel
theorem dJ0_charAt_5068e_17 : decode cJ0_charAt_5068e 17 = .ok (.getfield 9, 3) := by decide +kernel
theorem dJ0_charAt_5068e_20 : decode cJ0_charAt_5068e 20 = .ok (.iload_n 1, 1) := by decide +kernel
theorem dJ0_charAt_5068e_21 : decode cJ0_charAt_5068e 21 = .ok (.invokestatic 498, 3) := by decide +kernel
theorem dJ0_charAt_5068e_24 : decode cJ0_charAt_5068e 24 = .ok (.ireturn, 1) := by decide +kernel
theorem dJ0_coder_7d493_0 : decode cJ0_coder_7d493 0 = .ok (.getstatic 38, 3) := by decide +kernel
theorem dJ0_coder_7d493_3 : decode cJ0_coder_7d493 3 = .ok (.ifCond .eq 10, 3) := by decide +kernel
theorem dJ0_coder_7d493_6 : decode cJ0_coder_7d493 6 = .ok (.aload_n 0, 1) := by decide +kernel
theorem dJ0_coder_7d493_7 : decode cJ0_coder_7d493 7 = .ok (.getfield 15, 3) := by decide +kernel
theorem dJ0_coder_7d493_10 : decode cJ0_coder_7d493 10 = .ok (.goto 4, 3) := by decide +kernel
theorem dJ0_coder_7d493_13 : decode cJ0_coder_7d493 13 = .ok (.iconst 1, 1) := by decide +kernel
theorem dJ0_coder_7d493_14 : decode cJ0_coder_7d493 14 = .ok (.ireturn, 1) := by decide +kernel
theorem dJ0_isLatin1_aae02_0 : decode cJ0_isLatin1_aae02 0 = .ok (.getstatic 38, 3) := by decide +kernel
theorem dJ0_isLatin1_aae02_3 : decode cJ0_isLatin1_aae02 3 = .ok (.ifCond .eq 14, 3) := by decide +kernel
theorem dJ0_isLatin1_aae02_6 : decode cJ0_isLatin1_aae02 6 = .ok (.aload_n 0, 1) := by decide +kernel
theorem dJ0_isLatin1_aae02_7 : decode cJ0_isLatin1_aae02 7 = .ok (.getfield 15, 3) := by decide +kernel
theorem dJ0_isLatin1_aae02_10 : decode cJ0_isLatin1_aae02 10 = .ok (.ifCond .ne 7, 3) := by decide +kernel
theorem dJ0_isLatin1_aae02_13 : decode cJ0_isLatin1_aae02 13 = .ok (.iconst 1, 1) := by decide +kernel
theorem dJ0_isLatin1_aae02_14 : decode cJ0_isLatin1_aae02 14 = .ok (.goto 4, 3) := by decide +kernel
theorem dJ0_isLatin1_aae02_17 : decode cJ0_isLatin1_aae02 17 = .ok (.iconst 0, 1) := by decide +kernel
theorem dJ0_isLatin1_aae02_18 : decode cJ0_isLatin1_aae02 18 = .ok (.ireturn, 1) := by decide +kernel
theorem dJ0_checkIndex_df160_0 : decode cJ0_checkIndex_df160 0 = .ok (.iload_n 0, 1) := by decide +kernel
theorem dJ0_checkIndex_df160_1 : decode cJ0_checkIndex_df160 1 = .ok (.iload_n 1, 1) := by decide +kernel
theorem dJ0_checkIndex_df160_2 : decode cJ0_checkIndex_df160 2 = .ok (.getstatic 1053, 3) := by decide +kernel
theorem dJ0_checkIndex_df160_5 : decode cJ0_checkIndex_df160 5 = .ok (.invokestatic 1059, 3) := by decide +kernel
theorem dJ0_checkIndex_df160_8 : decode cJ0_checkIndex_df160 8 = .ok (.pop, 1) := by decide +kernel
theorem dJ0_checkIndex_df160_9 : decode cJ0_checkIndex_df160 9 = .ok (.return_, 1) := by decide +kernel
theorem dJ1_charAt_3b067_0 : decode cJ1_charAt_3b067 0 = .ok (.iload_n 1, 1) := by decide +kernel
theorem dJ1_charAt_3b067_1 : decode cJ1_charAt_3b067 1 = .ok (.aload_n 0, 1) := by decide +kernel
theorem dJ1_charAt_3b067_2 : decode cJ1_charAt_3b067 2 = .ok (.arraylength, 1) := by decide +kernel
theorem dJ1_charAt_3b067_3 : decode cJ1_charAt_3b067 3 = .ok (.invokestatic 9, 3) := by decide +kernel
theorem dJ1_charAt_3b067_6 : decode cJ1_charAt_3b067 6 = .ok (.aload_n 0, 1) := by decide +kernel
theorem dJ1_charAt_3b067_7 : decode cJ1_charAt_3b067 7 = .ok (.iload_n 1, 1) := by decide +kernel
theorem dJ1_charAt_3b067_8 : decode cJ1_charAt_3b067 8 = .ok (.baload, 1) := by decide +kernel
theorem dJ1_charAt_3b067_9 : decode cJ1_charAt_3b067 9 = .ok (.sipush 255, 3) := by decide +kernel
theorem dJ1_charAt_3b067_12 : decode cJ1_charAt_3b067 12 = .ok (.iand, 1) := by decide +kernel
theorem dJ1_charAt_3b067_13 : decode cJ1_charAt_3b067 13 = .ok (.i2c, 1) := by decide +kernel
theorem dJ1_charAt_3b067_14 : decode cJ1_charAt_3b067 14 = .ok (.ireturn, 1) := by decide +kernel
theorem dJ2_getChar_3b067_0 : decode cJ2_getChar_3b067 0 = .ok (.getstatic 44, 3) := by decide +kernel
theorem dJ2_getChar_3b067_3 : decode cJ2_getChar_3b067 3 = .ok (.ifCond .ne 25, 3) := by decide +kernel
theorem dJ2_getChar_3b067_6 : decode cJ2_getChar_3b067 6 = .ok (.iload_n 1, 1) := by decide +kernel
theorem dJ2_getChar_3b067_7 : decode cJ2_getChar_3b067 7 = .ok (.ifCond .lt 11, 3) := by decide +kernel
theorem dJ2_getChar_3b067_10 : decode cJ2_getChar_3b067 10 = .ok (.iload_n 1, 1) := by decide +kernel
theorem dJ2_getChar_3b067_11 : decode cJ2_getChar_3b067 11 = .ok (.aload_n 0, 1) := by decide +kernel
theorem dJ2_getChar_3b067_12 : decode cJ2_getChar_3b067 12 = .ok (.invokestatic 48, 3) := by decide +kernel
theorem dJ2_getChar_3b067_15 : decode cJ2_getChar_3b067 15 = .ok (.if_icmp .lt 13, 3) := by decide +kernel
theorem dJ2_getChar_3b067_18 : decode cJ2_getChar_3b067 18 = .ok (.new 52, 3) := by decide +kernel
theorem dJ2_getChar_3b067_21 : decode cJ2_getChar_3b067 21 = .ok (.dup, 1) := by decide +kernel
theorem dJ2_getChar_3b067_22 : decode cJ2_getChar_3b067 22 = .ok (.ldc 54, 2) := by decide +kernel
theorem dJ2_getChar_3b067_24 : decode cJ2_getChar_3b067 24 = .ok (.invokespecial 56, 3) := by decide +kernel
theorem dJ2_getChar_3b067_27 : decode cJ2_getChar_3b067 27 = .ok (.athrow, 1) := by decide +kernel
theorem dJ2_getChar_3b067_28 : decode cJ2_getChar_3b067 28 = .ok (.iload_n 1, 1) := by decide +kernel
theorem dJ2_getChar_3b067_29 : decode cJ2_getChar_3b067 29 = .ok (.iconst 1, 1) := by decide +kernel
theorem dJ2_getChar_3b067_30 : decode cJ2_getChar_3b067 30 = .ok (.ishl, 1) := by decide +kernel
theorem dJ2_getChar_3b067_31 : decode cJ2_getChar_3b067 31 = .ok (.istore_n 1, 1) := by decide +kernel
theorem dJ2_getChar_3b067_32 : decode cJ2_getChar_3b067 32 = .ok (.aload_n 0, 1) := by decide +kernel
theorem dJ2_getChar_3b067_33 : decode cJ2_getChar_3b067 33 = .ok (.iload_n 1, 1) := by decide +kernel
theorem dJ2_getChar_3b067_34 : decode cJ2_getChar_3b067 34 = .ok (.iinc 1 1, 3) := by decide +kernel
theorem dJ2_getChar_3b067_37 : decode cJ2_getChar_3b067 37 = .ok (.baload, 1) := by decide +kernel
theorem dJ2_getChar_3b067_38 : decode cJ2_getChar_3b067 38 = .ok (.sipush 255, 3) := by decide +kernel
theorem dJ2_getChar_3b067_41 : decode cJ2_getChar_3b067 41 = .ok (.iand, 1) := by decide +kernel
theorem dJ2_getChar_3b067_42 : decode cJ2_getChar_3b067 42 = .ok (.getstatic 59, 3) := by decide +kernel
theorem dJ2_getChar_3b067_45 : decode cJ2_getChar_3b067 45 = .ok (.ishl, 1) := by decide +kernel
theorem dJ2_getChar_3b067_46 : decode cJ2_getChar_3b067 46 = .ok (.aload_n 0, 1) := by decide +kernel
theorem dJ2_getChar_3b067_47 : decode cJ2_getChar_3b067 47 = .ok (.iload_n 1, 1) := by decide +kernel
theorem dJ2_getChar_3b067_48 : decode cJ2_getChar_3b067 48 = .ok (.baload, 1) := by decide +kernel
theorem dJ2_getChar_3b067_49 : decode cJ2_getChar_3b067 49 = .ok (.sipush 255, 3) := by decide +kernel
theorem dJ2_getChar_3b067_52 : decode cJ2_getChar_3b067 52 = .ok (.iand, 1) := by decide +kernel
theorem dJ2_getChar_3b067_53 : decode cJ2_getChar_3b067 53 = .ok (.getstatic 63, 3) := by decide +kernel
theorem dJ2_getChar_3b067_56 : decode cJ2_getChar_3b067 56 = .ok (.ishl, 1) := by decide +kernel
theorem dJ2_getChar_3b067_57 : decode cJ2_getChar_3b067 57 = .ok (.ior, 1) := by decide +kernel
theorem dJ2_getChar_3b067_58 : decode cJ2_getChar_3b067 58 = .ok (.i2c, 1) := by decide +kernel
theorem dJ2_getChar_3b067_59 : decode cJ2_getChar_3b067 59 = .ok (.ireturn, 1) := by decide +kernel
theorem dJ2_length_9d52b_0 : decode cJ2_length_9d52b 0 = .ok (.aload_n 0, 1) := by decide +kernel
theorem dJ2_length_9d52b_1 : decode cJ2_length_9d52b 1 = .ok (.arraylength, 1) := by decide +kernel
theorem dJ2_length_9d52b_2 : decode cJ2_length_9d52b 2 = .ok (.iconst 1, 1) := by decide +kernel
theorem dJ2_length_9d52b_3 : decode cJ2_length_9d52b 3 = .ok (.ishr, 1) := by decide +kernel
theorem dJ2_length_9d52b_4 : decode cJ2_length_9d52b 4 = .ok (.ireturn, 1) := by decide +kernel
theorem dJ2_charAt_3b067_0 : decode cJ2_charAt_3b067 0 = .ok (.iload_n 1, 1) := by decide +kernel
theorem dJ2_charAt_3b067_1 : decode cJ2_charAt_3b067 1 = .ok (.aload_n 0, 1) := by decide +kernel
theorem dJ2_charAt_3b067_2 : decode cJ2_charAt_3b067 2 = .ok (.invokestatic 67, 3) := by decide +kernel
theorem dJ2_charAt_3b067_5 : decode cJ2_charAt_3b067 5 = .ok (.aload_n 0, 1) := by decide +kernel
theorem dJ2_charAt_3b067_6 : decode cJ2_charAt_3b067 6 = .ok (.iload_n 1, 1) := by decide +kernel
theorem dJ2_charAt_3b067_7 : decode cJ2_charAt_3b067 7 = .ok (.invokestatic 71, 3) := by decide +kernel
theorem dJ2_charAt_3b067_10 : decode cJ2_charAt_3b067 10 = .ok (.ireturn, 1) := by decide +kernel
theorem dJ2_checkIndex_2214a_0 : decode cJ2_checkIndex_2214a 0 = .ok (.iload_n 0, 1) := by decide +kernel
theorem dJ2_checkIndex_2214a_1 : decode cJ2_checkIndex_2214a 1 = .ok (.aload_n 1, 1) := by decide +kernel
theorem dJ2_checkIndex_2214a_2 : decode cJ2_checkIndex_2214a 2 = .ok (.invokestatic 48, 3) := by decide +kernel
theorem dJ2_checkIndex_2214a_5 : decode cJ2_checkIndex_2214a 5 = .ok (.invokestatic 414, 3) := by decide +kernel
theorem dJ2_checkIndex_2214a_8 : decode cJ2_checkIndex_2214a 8 = .ok (.return_, 1) := by decide +kernel
theorem dJ3_checkIndex_8e157_0 : decode cJ3_checkIndex_8e157 0 = .ok (.iload_n 0, 1) := by decide +kernel
theorem dJ3_checkIndex_8e157_1 : decode cJ3_checkIndex_8e157 1 = .ok (.ifCond .lt 8, 3) := by decide +kernel
theorem dJ3_checkIndex_8e157_4 : decode cJ3_checkIndex_8e157 4 = .ok (.iload_n 0, 1) := by decide +kernel
theorem dJ3_checkIndex_8e157_5 : decode cJ3_checkIndex_8e157 5 = .ok (.iload_n 1, 1) := by decide +kernel
theorem dJ3_checkIndex_8e157_6 : decode cJ3_checkIndex_8e157 6 = .ok (.if_icmp .lt 10, 3) := by decide +kernel
theorem dJ3_checkIndex_8e157_9 : decode cJ3_checkIndex_8e157 9 = .ok (.aload_n 2, 1) := by decide +kernel
theorem dJ3_checkIndex_8e157_10 : decode cJ3_checkIndex_8e157 10 = .ok (.iload_n 0, 1) := by decide +kernel
theorem dJ3_checkIndex_8e157_11 : decode cJ3_checkIndex_8e157 11 = .ok (.iload_n 1, 1) := by decide +kernel
theorem dJ3_checkIndex_8e157_12 : decode cJ3_checkIndex_8e157 12 = .ok (.invokestatic 95, 3) := by decide +kernel
theorem dJ3_checkIndex_8e157_15 : decode cJ3_checkIndex_8e157 15 = .ok (.athrow, 1) := by decide +kernel
theorem dJ3_checkIndex_8e157_16 : decode cJ3_checkIndex_8e157 16 = .ok (.iload_n 0, 1) := by decide +kernel
theorem dJ3_checkIndex_8e157_17 : decode cJ3_checkIndex_8e157 17 = .ok (.ireturn, 1) := by decide +kernel
theorem dL_law_0 : decode cL_law 0 = .ok (.new 7, 3) := by decide +kernel
theorem dL_law_3 : decode cL_law 3 = .ok (.dup, 1) := by decide +kernel
theorem dL_law_4 : decode cL_law 4 = .ok (.invokespecial 9, 3) := by decide +kernel
theorem dL_law_7 : decode cL_law 7 = .ok (.astore_n 1, 1) := by decide +kernel
theorem dL_law_8 : decode cL_law 8 = .ok (.new 10, 3) := by decide +kernel
theorem dL_law_11 : decode cL_law 11 = .ok (.dup, 1) := by decide +kernel
theorem dL_law_12 : decode cL_law 12 = .ok (.invokespecial 12, 3) := by decide +kernel
theorem dL_law_15 : decode cL_law 15 = .ok (.astore_n 2, 1) := by decide +kernel
theorem dL_law_16 : decode cL_law 16 = .ok (.iconst 0, 1) := by decide +kernel
theorem dL_law_17 : decode cL_law 17 = .ok (.istore_n 3, 1) := by decide +kernel
theorem dL_law_18 : decode cL_law 18 = .ok (.iload_n 3, 1) := by decide +kernel
theorem dL_law_19 : decode cL_law 19 = .ok (.aload_n 0, 1) := by decide +kernel
theorem dL_law_20 : decode cL_law 20 = .ok (.arraylength, 1) := by decide +kernel
theorem dL_law_21 : decode cL_law 21 = .ok (.bipush 6, 2) := by decide +kernel
theorem dL_law_23 : decode cL_law 23 = .ok (.isub, 1) := by decide +kernel
theorem dL_law_24 : decode cL_law 24 = .ok (.if_icmp .gt 783, 3) := by decide +kernel
theorem dL_law_27 : decode cL_law 27 = .ok (.aload_n 0, 1) := by decide +kernel
theorem dL_law_28 : decode cL_law 28 = .ok (.iload_n 3, 1) := by decide +kernel
theorem dL_law_29 : decode cL_law 29 = .ok (.iaload, 1) := by decide +kernel
theorem dL_law_30 : decode cL_law 30 = .ok (.bipush 31, 2) := by decide +kernel
theorem dL_law_32 : decode cL_law 32 = .ok (.iand, 1) := by decide +kernel
theorem dL_law_33 : decode cL_law 33 = .ok (.tableswitch 768 0 18 #[91, 134, 167, 210, 243, 286, 329, 382, 425, 488, 511, 544, 567, 590, 623, 666, 699, 722, 745], 91) := by decide +kernel
theorem dL_law_124 : decode cL_law 124 = .ok (.aload_n 1, 1) := by decide +kernel
theorem dL_law_125 : decode cL_law 125 = .ok (.aload_n 0, 1) := by decide +kernel
theorem dL_law_126 : decode cL_law 126 = .ok (.iload_n 3, 1) := by decide +kernel
theorem dL_law_127 : decode cL_law 127 = .ok (.iconst 1, 1) := by decide +kernel
theorem dL_law_128 : decode cL_law 128 = .ok (.iadd, 1) := by decide +kernel
theorem dL_law_129 : decode cL_law 129 = .ok (.iaload, 1) := by decide +kernel
theorem dL_law_130 : decode cL_law 130 = .ok (.aload_n 0, 1) := by decide +kernel
theorem dL_law_131 : decode cL_law 131 = .ok (.iload_n 3, 1) := by decide +kernel
theorem dL_law_132 : decode cL_law 132 = .ok (.iconst 2, 1) := by decide +kernel
theorem dL_law_133 : decode cL_law 133 = .ok (.iadd, 1) := by decide +kernel
theorem dL_law_134 : decode cL_law 134 = .ok (.iaload, 1) := by decide +kernel
theorem dL_law_135 : decode cL_law 135 = .ok (.aload_n 0, 1) := by decide +kernel
theorem dL_law_136 : decode cL_law 136 = .ok (.iload_n 3, 1) := by decide +kernel
theorem dL_law_137 : decode cL_law 137 = .ok (.iconst 3, 1) := by decide +kernel
theorem dL_law_138 : decode cL_law 138 = .ok (.iadd, 1) := by decide +kernel
theorem dL_law_139 : decode cL_law 139 = .ok (.iaload, 1) := by decide +kernel
theorem dL_law_140 : decode cL_law 140 = .ok (.invokevirtual 13, 3) := by decide +kernel
theorem dL_law_143 : decode cL_law 143 = .ok (.aload_n 2, 1) := by decide +kernel
theorem dL_law_144 : decode cL_law 144 = .ok (.aload_n 0, 1) := by decide +kernel
theorem dL_law_145 : decode cL_law 145 = .ok (.iload_n 3, 1) := by decide +kernel
theorem dL_law_146 : decode cL_law 146 = .ok (.iconst 1, 1) := by decide +kernel
theorem dL_law_147 : decode cL_law 147 = .ok (.iadd, 1) := by decide +kernel
theorem dL_law_148 : decode cL_law 148 = .ok (.iaload, 1) := by decide +kernel
theorem dL_law_149 : decode cL_law 149 = .ok (.aload_n 0, 1) := by decide +kernel
theorem dL_law_150 : decode cL_law 150 = .ok (.iload_n 3, 1) := by decide +kernel
theorem dL_law_151 : decode cL_law 151 = .ok (.iconst 2, 1) := by decide +kernel
theorem dL_law_152 : decode cL_law 152 = .ok (.iadd, 1) := by decide +kernel
theorem dL_law_153 : decode cL_law 153 = .ok (.iaload, 1) := by decide +kernel
theorem dL_law_154 : decode cL_law 154 = .ok (.aload_n 0, 1) := by decide +kernel
theorem dL_law_155 : decode cL_law 155 = .ok (.iload_n 3, 1) := by decide +kernel
theorem dL_law_156 : decode cL_law 156 = .ok (.iconst 3, 1) := by decide +kernel
theorem dL_law_157 : decode cL_law 157 = .ok (.iadd, 1) := by decide +kernel
theorem dL_law_158 : decode cL_law 158 = .ok (.iaload, 1) := by decide +kernel
theorem dL_law_159 : decode cL_law 159 = .ok (.invokevirtual 17, 3) := by decide +kernel
theorem dL_law_162 : decode cL_law 162 = .ok (.if_icmp .eq 639, 3) := by decide +kernel
theorem dL_law_165 : decode cL_law 165 = .ok (.iconst 0, 1) := by decide +kernel
theorem dL_law_166 : decode cL_law 166 = .ok (.ireturn, 1) := by decide +kernel
theorem dL_law_167 : decode cL_law 167 = .ok (.aload_n 1, 1) := by decide +kernel
theorem dL_law_168 : decode cL_law 168 = .ok (.aload_n 0, 1) := by decide +kernel
theorem dL_law_169 : decode cL_law 169 = .ok (.iload_n 3, 1) := by decide +kernel
theorem dL_law_170 : decode cL_law 170 = .ok (.iconst 1, 1) := by decide +kernel
theorem dL_law_171 : decode cL_law 171 = .ok (.iadd, 1) := by decide +kernel
theorem dL_law_172 : decode cL_law 172 = .ok (.iaload, 1) := by decide +kernel
theorem dL_law_173 : decode cL_law 173 = .ok (.aload_n 0, 1) := by decide +kernel
theorem dL_law_174 : decode cL_law 174 = .ok (.iload_n 3, 1) := by decide +kernel
theorem dL_law_175 : decode cL_law 175 = .ok (.iconst 2, 1) := by decide +kernel
theorem dL_law_176 : decode cL_law 176 = .ok (.iadd, 1) := by decide +kernel
theorem dL_law_177 : decode cL_law 177 = .ok (.iaload, 1) := by decide +kernel
theorem dL_law_178 : decode cL_law 178 = .ok (.invokevirtual 18, 3) := by decide +kernel
theorem dL_law_181 : decode cL_law 181 = .ok (.aload_n 2, 1) := by decide +kernel
theorem dL_law_182 : decode cL_law 182 = .ok (.aload_n 0, 1) := by decide +kernel
theorem dL_law_183 : decode cL_law 183 = .ok (.iload_n 3, 1) := by decide +kernel
theorem dL_law_184 : decode cL_law 184 = .ok (.iconst 1, 1) := by decide +kernel
theorem dL_law_185 : decode cL_law 185 = .ok (.iadd, 1) := by decide +kernel
theorem dL_law_186 : decode cL_law 186 = .ok (.iaload, 1) := by decide +kernel
theorem dL_law_187 : decode cL_law 187 = .ok (.aload_n 0, 1) := by decide +kernel
theorem dL_law_188 : decode cL_law 188 = .ok (.iload_n 3, 1) := by decide +kernel
theorem dL_law_189 : decode cL_law 189 = .ok (.iconst 2, 1) := by decide +kernel
theorem dL_law_190 : decode cL_law 190 = .ok (.iadd, 1) := by decide +kernel
theorem dL_law_191 : decode cL_law 191 = .ok (.iaload, 1) := by decide +kernel
theorem dL_law_192 : decode cL_law 192 = .ok (.invokevirtual 22, 3) := by decide +kernel
theorem dL_law_195 : decode cL_law 195 = .ok (.if_icmp .eq 606, 3) := by decide +kernel
theorem dL_law_198 : decode cL_law 198 = .ok (.iconst 0, 1) := by decide +kernel
theorem dL_law_199 : decode cL_law 199 = .ok (.ireturn, 1) := by decide +kernel
theorem dL_law_200 : decode cL_law 200 = .ok (.aload_n 1, 1) := by decide +kernel
theorem dL_law_201 : decode cL_law 201 = .ok (.aload_n 0, 1) := by decide +kernel
theorem dL_law_202 : decode cL_law 202 = .ok (.iload_n 3, 1) := by decide +kernel
theorem dL_law_203 : decode cL_law 203 = .ok (.iconst 1, 1) := by decide +kernel
theorem dL_law_204 : decode cL_law 204 = .ok (.iadd, 1) := by decide +kernel
theorem dL_law_205 : decode cL_law 205 = .ok (.iaload, 1) := by decide +kernel
theorem dL_law_206 : decode cL_law 206 = .ok (.aload_n 0, 1) := by decide +kernel
theorem dL_law_207 : decode cL_law 207 = .ok (.iload_n 3, 1) := by decide +kernel
theorem dL_law_208 : decode cL_law 208 = .ok (.iconst 2, 1) := by decide +kernel
theorem dL_law_209 : decode cL_law 209 = .ok (.iadd, 1) := by decide +kernel
theorem dL_law_210 : decode cL_law 210 = .ok (.iaload, 1) := by decide +kernel
theorem dL_law_211 : decode cL_law 211 = .ok (.aload_n 0, 1) := by decide +kernel
theorem dL_law_212 : decode cL_law 212 = .ok (.iload_n 3, 1) := by decide +kernel
theorem dL_law_213 : decode cL_law 213 = .ok (.iconst 3, 1) := by decide +kernel
theorem dL_law_214 : decode cL_law 214 = .ok (.iadd, 1) := by decide +kernel
theorem dL_law_215 : decode cL_law 215 = .ok (.iaload, 1) := by decide +kernel
theorem dL_law_216 : decode cL_law 216 = .ok (.invokevirtual 23, 3) := by decide +kernel
theorem dL_law_219 : decode cL_law 219 = .ok (.aload_n 2, 1) := by decide +kernel
theorem dL_law_220 : decode cL_law 220 = .ok (.aload_n 0, 1) := by decide +kernel
theorem dL_law_221 : decode cL_law 221 = .ok (.iload_n 3, 1) := by decide +kernel
theorem dL_law_222 : decode cL_law 222 = .ok (.iconst 1, 1) := by decide +kernel
theorem dL_law_223 : decode cL_law 223 = .ok (.iadd, 1) := by decide +kernel
theorem dL_law_224 : decode cL_law 224 = .ok (.iaload, 1) := by decide +kernel
theorem dL_law_225 : decode cL_law 225 = .ok (.aload_n 0, 1) := by decide +kernel
theorem dL_law_226 : decode cL_law 226 = .ok (.iload_n 3, 1) := by decide +kernel
theorem dL_law_227 : decode cL_law 227 = .ok (.iconst 2, 1) := by decide +kernel
theorem dL_law_228 : decode cL_law 228 = .ok (.iadd, 1) := by decide +kernel
theorem dL_law_229 : decode cL_law 229 = .ok (.iaload, 1) := by decide +kernel
theorem dL_law_230 : decode cL_law 230 = .ok (.aload_n 0, 1) := by decide +kernel
theorem dL_law_231 : decode cL_law 231 = .ok (.iload_n 3, 1) := by decide +kernel
theorem dL_law_232 : decode cL_law 232 = .ok (.iconst 3, 1) := by decide +kernel
theorem dL_law_233 : decode cL_law 233 = .ok (.iadd, 1) := by decide +kernel
theorem dL_law_234 : decode cL_law 234 = .ok (.iaload, 1) := by decide +kernel
theorem dL_law_235 : decode cL_law 235 = .ok (.invokevirtual 27, 3) := by decide +kernel
theorem dL_law_238 : decode cL_law 238 = .ok (.if_icmp .eq 563, 3) := by decide +kernel
theorem dL_law_241 : decode cL_law 241 = .ok (.iconst 0, 1) := by decide +kernel
theorem dL_law_242 : decode cL_law 242 = .ok (.ireturn, 1) := by decide +kernel
theorem dL_law_243 : decode cL_law 243 = .ok (.aload_n 1, 1) := by decide +kernel
theorem dL_law_244 : decode cL_law 244 = .ok (.aload_n 0, 1) := by decide +kernel
theorem dL_law_245 : decode cL_law 245 = .ok (.iload_n 3, 1) := by decide +kernel
theorem dL_law_246 : decode cL_law 246 = .ok (.iconst 1, 1) := by decide +kernel
theorem dL_law_247 : decode cL_law 247 = .ok (.iadd, 1) := by decide +kernel
theorem dL_law_248 : decode cL_law 248 = .ok (.iaload, 1) := by decide +kernel
theorem dL_law_249 : decode cL_law 249 = .ok (.aload_n 0, 1) := by decide +kernel
theorem dL_law_250 : decode cL_law 250 = .ok (.iload_n 3, 1) := by decide +kernel
theorem dL_law_251 : decode cL_law 251 = .ok (.iconst 2, 1) := by decide +kernel
theorem dL_law_252 : decode cL_law 252 = .ok (.iadd, 1) := by decide +kernel
theorem dL_law_253 : decode cL_law 253 = .ok (.iaload, 1) := by decide +kernel
theorem dL_law_254 : decode cL_law 254 = .ok (.invokevirtual 28, 3) := by decide +kernel
theorem dL_law_257 : decode cL_law 257 = .ok (.aload_n 2, 1) := by decide +kernel
theorem dL_law_258 : decode cL_law 258 = .ok (.aload_n 0, 1) := by decide +kernel
theorem dL_law_259 : decode cL_law 259 = .ok (.iload_n 3, 1) := by decide +kernel
theorem dL_law_260 : decode cL_law 260 = .ok (.iconst 1, 1) := by decide +kernel
theorem dL_law_261 : decode cL_law 261 = .ok (.iadd, 1) := by decide +kernel
theorem dL_law_262 : decode cL_law 262 = .ok (.iaload, 1) := by decide +kernel
theorem dL_law_263 : decode cL_law 263 = .ok (.aload_n 0, 1) := by decide +kernel
theorem dL_law_264 : decode cL_law 264 = .ok (.iload_n 3, 1) := by decide +kernel
theorem dL_law_265 : decode cL_law 265 = .ok (.iconst 2, 1) := by decide +kernel
theorem dL_law_266 : decode cL_law 266 = .ok (.iadd, 1) := by decide +kernel
theorem dL_law_267 : decode cL_law 267 = .ok (.iaload, 1) := by decide +kernel
theorem dL_law_268 : decode cL_law 268 = .ok (.invokevirtual 31, 3) := by decide +kernel
theorem dL_law_271 : decode cL_law 271 = .ok (.if_icmp .eq 530, 3) := by decide +kernel
theorem dL_law_274 : decode cL_law 274 = .ok (.iconst 0, 1) := by decide +kernel
theorem dL_law_275 : decode cL_law 275 = .ok (.ireturn, 1) := by decide +kernel
theorem dL_law_276 : decode cL_law 276 = .ok (.aload_n 1, 1) := by decide +kernel
theorem dL_law_277 : decode cL_law 277 = .ok (.aload_n 0, 1) := by decide +kernel
theorem dL_law_278 : decode cL_law 278 = .ok (.iload_n 3, 1) := by decide +kernel
theorem dL_law_279 : decode cL_law 279 = .ok (.iconst 1, 1) := by decide +kernel
theorem dL_law_280 : decode cL_law 280 = .ok (.iadd, 1) := by decide +kernel
theorem dL_law_281 : decode cL_law 281 = .ok (.iaload, 1) := by decide +kernel
theorem dL_law_282 : decode cL_law 282 = .ok (.aload_n 0, 1) := by decide +kernel
theorem dL_law_283 : decode cL_law 283 = .ok (.iload_n 3, 1) := by decide +kernel
theorem dL_law_284 : decode cL_law 284 = .ok (.iconst 2, 1) := by decide +kernel
theorem dL_law_285 : decode cL_law 285 = .ok (.iadd, 1) := by decide +kernel
theorem dL_law_286 : decode cL_law 286 = .ok (.iaload, 1) := by decide +kernel
theorem dL_law_287 : decode cL_law 287 = .ok (.aload_n 0, 1) := by decide +kernel
theorem dL_law_288 : decode cL_law 288 = .ok (.iload_n 3, 1) := by decide +kernel
theorem dL_law_289 : decode cL_law 289 = .ok (.iconst 3, 1) := by decide +kernel
theorem dL_law_290 : decode cL_law 290 = .ok (.iadd, 1) := by decide +kernel
theorem dL_law_291 : decode cL_law 291 = .ok (.iaload, 1) := by decide +kernel
theorem dL_law_292 : decode cL_law 292 = .ok (.invokevirtual 32, 3) := by decide +kernel
theorem dL_law_295 : decode cL_law 295 = .ok (.aload_n 2, 1) := by decide +kernel
theorem dL_law_296 : decode cL_law 296 = .ok (.aload_n 0, 1) := by decide +kernel
theorem dL_law_297 : decode cL_law 297 = .ok (.iload_n 3, 1) := by decide +kernel
theorem dL_law_298 : decode cL_law 298 = .ok (.iconst 1, 1) := by decide +kernel
theorem dL_law_299 : decode cL_law 299 = .ok (.iadd, 1) := by decide +kernel
theorem dL_law_300 : decode cL_law 300 = .ok (.iaload, 1) := by decide +kernel
theorem dL_law_301 : decode cL_law 301 = .ok (.aload_n 0, 1) := by decide +kernel
theorem dL_law_302 : decode cL_law 302 = .ok (.iload_n 3, 1) := by decide +kernel
theorem dL_law_303 : decode cL_law 303 = .ok (.iconst 2, 1) := by decide +kernel
theorem dL_law_304 : decode cL_law 304 = .ok (.iadd, 1) := by decide +kernel
theorem dL_law_305 : decode cL_law 305 = .ok (.iaload, 1) := by decide +kernel
theorem dL_law_306 : decode cL_law 306 = .ok (.aload_n 0, 1) := by decide +kernel
theorem dL_law_307 : decode cL_law 307 = .ok (.iload_n 3, 1) := by decide +kernel
theorem dL_law_308 : decode cL_law 308 = .ok (.iconst 3, 1) := by decide +kernel
theorem dL_law_309 : decode cL_law 309 = .ok (.iadd, 1) := by decide +kernel
theorem dL_law_310 : decode cL_law 310 = .ok (.iaload, 1) := by decide +kernel
theorem dL_law_311 : decode cL_law 311 = .ok (.invokevirtual 35, 3) := by decide +kernel
theorem dL_law_314 : decode cL_law 314 = .ok (.if_icmp .eq 487, 3) := by decide +kernel
theorem dL_law_317 : decode cL_law 317 = .ok (.iconst 0, 1) := by decide +kernel
theorem dL_law_318 : decode cL_law 318 = .ok (.ireturn, 1) := by decide +kernel
theorem dL_law_319 : decode cL_law 319 = .ok (.aload_n 1, 1) := by decide +kernel
theorem dL_law_320 : decode cL_law 320 = .ok (.aload_n 0, 1) := by decide +kernel
theorem dL_law_321 : decode cL_law 321 = .ok (.iload_n 3, 1) := by decide +kernel
theorem dL_law_322 : decode cL_law 322 = .ok (.iconst 1, 1) := by decide +kernel
theorem dL_law_323 : decode cL_law 323 = .ok (.iadd, 1) := by decide +kernel
theorem dL_law_324 : decode cL_law 324 = .ok (.iaload, 1) := by decide +kernel
theorem dL_law_325 : decode cL_law 325 = .ok (.aload_n 0, 1) := by decide +kernel
theorem dL_law_326 : decode cL_law 326 = .ok (.iload_n 3, 1) := by decide +kernel
theorem dL_law_327 : decode cL_law 327 = .ok (.iconst 2, 1) := by decide +kernel
theorem dL_law_328 : decode cL_law 328 = .ok (.iadd, 1) := by decide +kernel
theorem dL_law_329 : decode cL_law 329 = .ok (.iaload, 1) := by decide +kernel
theorem dL_law_330 : decode cL_law 330 = .ok (.aload_n 0, 1) := by decide +kernel
theorem dL_law_331 : decode cL_law 331 = .ok (.iload_n 3, 1) := by decide +kernel
theorem dL_law_332 : decode cL_law 332 = .ok (.iconst 3, 1) := by decide +kernel
theorem dL_law_333 : decode cL_law 333 = .ok (.iadd, 1) := by decide +kernel
theorem dL_law_334 : decode cL_law 334 = .ok (.iaload, 1) := by decide +kernel
theorem dL_law_335 : decode cL_law 335 = .ok (.invokevirtual 36, 3) := by decide +kernel
theorem dL_law_338 : decode cL_law 338 = .ok (.aload_n 2, 1) := by decide +kernel
theorem dL_law_339 : decode cL_law 339 = .ok (.aload_n 0, 1) := by decide +kernel
theorem dL_law_340 : decode cL_law 340 = .ok (.iload_n 3, 1) := by decide +kernel
theorem dL_law_341 : decode cL_law 341 = .ok (.iconst 1, 1) := by decide +kernel
theorem dL_law_342 : decode cL_law 342 = .ok (.iadd, 1) := by decide +kernel
theorem dL_law_343 : decode cL_law 343 = .ok (.iaload, 1) := by decide +kernel
theorem dL_law_344 : decode cL_law 344 = .ok (.aload_n 0, 1) := by decide +kernel
theorem dL_law_345 : decode cL_law 345 = .ok (.iload_n 3, 1) := by decide +kernel
theorem dL_law_346 : decode cL_law 346 = .ok (.iconst 2, 1) := by decide +kernel
theorem dL_law_347 : decode cL_law 347 = .ok (.iadd, 1) := by decide +kernel
theorem dL_law_348 : decode cL_law 348 = .ok (.iaload, 1) := by decide +kernel
theorem dL_law_349 : decode cL_law 349 = .ok (.aload_n 0, 1) := by decide +kernel
theorem dL_law_350 : decode cL_law 350 = .ok (.iload_n 3, 1) := by decide +kernel
theorem dL_law_351 : decode cL_law 351 = .ok (.iconst 3, 1) := by decide +kernel
theorem dL_law_352 : decode cL_law 352 = .ok (.iadd, 1) := by decide +kernel
theorem dL_law_353 : decode cL_law 353 = .ok (.iaload, 1) := by decide +kernel
theorem dL_law_354 : decode cL_law 354 = .ok (.invokevirtual 39, 3) := by decide +kernel
theorem dL_law_357 : decode cL_law 357 = .ok (.if_icmp .eq 444, 3) := by decide +kernel
theorem dL_law_360 : decode cL_law 360 = .ok (.iconst 0, 1) := by decide +kernel
theorem dL_law_361 : decode cL_law 361 = .ok (.ireturn, 1) := by decide +kernel
theorem dL_law_362 : decode cL_law 362 = .ok (.aload_n 1, 1) := by decide +kernel
theorem dL_law_363 : decode cL_law 363 = .ok (.aload_n 0, 1) := by decide +kernel
theorem dL_law_364 : decode cL_law 364 = .ok (.iload_n 3, 1) := by decide +kernel
theorem dL_law_365 : decode cL_law 365 = .ok (.iconst 1, 1) := by decide +kernel
theorem dL_law_366 : decode cL_law 366 = .ok (.iadd, 1) := by decide +kernel
theorem dL_law_367 : decode cL_law 367 = .ok (.iaload, 1) := by decide +kernel
theorem dL_law_368 : decode cL_law 368 = .ok (.aload_n 0, 1) := by decide +kernel
theorem dL_law_369 : decode cL_law 369 = .ok (.iload_n 3, 1) := by decide +kernel
theorem dL_law_370 : decode cL_law 370 = .ok (.iconst 2, 1) := by decide +kernel
theorem dL_law_371 : decode cL_law 371 = .ok (.iadd, 1) := by decide +kernel
theorem dL_law_372 : decode cL_law 372 = .ok (.iaload, 1) := by decide +kernel
theorem dL_law_373 : decode cL_law 373 = .ok (.aload_n 0, 1) := by decide +kernel
theorem dL_law_374 : decode cL_law 374 = .ok (.iload_n 3, 1) := by decide +kernel
theorem dL_law_375 : decode cL_law 375 = .ok (.iconst 3, 1) := by decide +kernel
theorem dL_law_376 : decode cL_law 376 = .ok (.iadd, 1) := by decide +kernel
theorem dL_law_377 : decode cL_law 377 = .ok (.iaload, 1) := by decide +kernel
theorem dL_law_378 : decode cL_law 378 = .ok (.aload_n 0, 1) := by decide +kernel
theorem dL_law_379 : decode cL_law 379 = .ok (.iload_n 3, 1) := by decide +kernel
theorem dL_law_380 : decode cL_law 380 = .ok (.iconst 4, 1) := by decide +kernel
theorem dL_law_381 : decode cL_law 381 = .ok (.iadd, 1) := by decide +kernel
theorem dL_law_382 : decode cL_law 382 = .ok (.iaload, 1) := by decide +kernel
theorem dL_law_383 : decode cL_law 383 = .ok (.invokevirtual 40, 3) := by decide +kernel
theorem dL_law_386 : decode cL_law 386 = .ok (.aload_n 2, 1) := by decide +kernel
theorem dL_law_387 : decode cL_law 387 = .ok (.aload_n 0, 1) := by decide +kernel
theorem dL_law_388 : decode cL_law 388 = .ok (.iload_n 3, 1) := by decide +kernel
theorem dL_law_389 : decode cL_law 389 = .ok (.iconst 1, 1) := by decide +kernel
theorem dL_law_390 : decode cL_law 390 = .ok (.iadd, 1) := by decide +kernel
theorem dL_law_391 : decode cL_law 391 = .ok (.iaload, 1) := by decide +kernel
theorem dL_law_392 : decode cL_law 392 = .ok (.aload_n 0, 1) := by decide +kernel
theorem dL_law_393 : decode cL_law 393 = .ok (.iload_n 3, 1) := by decide +kernel
theorem dL_law_394 : decode cL_law 394 = .ok (.iconst 2, 1) := by decide +kernel
theorem dL_law_395 : decode cL_law 395 = .ok (.iadd, 1) := by decide +kernel
theorem dL_law_396 : decode cL_law 396 = .ok (.iaload, 1) := by decide +kernel
theorem dL_law_397 : decode cL_law 397 = .ok (.aload_n 0, 1) := by decide +kernel
theorem dL_law_398 : decode cL_law 398 = .ok (.iload_n 3, 1) := by decide +kernel
theorem dL_law_399 : decode cL_law 399 = .ok (.iconst 3, 1) := by decide +kernel
theorem dL_law_400 : decode cL_law 400 = .ok (.iadd, 1) := by decide +kernel
theorem dL_law_401 : decode cL_law 401 = .ok (.iaload, 1) := by decide +kernel
theorem dL_law_402 : decode cL_law 402 = .ok (.aload_n 0, 1) := by decide +kernel
theorem dL_law_403 : decode cL_law 403 = .ok (.iload_n 3, 1) := by decide +kernel
theorem dL_law_404 : decode cL_law 404 = .ok (.iconst 4, 1) := by decide +kernel
theorem dL_law_405 : decode cL_law 405 = .ok (.iadd, 1) := by decide +kernel
theorem dL_law_406 : decode cL_law 406 = .ok (.iaload, 1) := by decide +kernel
theorem dL_law_407 : decode cL_law 407 = .ok (.invokevirtual 44, 3) := by decide +kernel
theorem dL_law_410 : decode cL_law 410 = .ok (.if_icmp .eq 391, 3) := by decide +kernel
theorem dL_law_413 : decode cL_law 413 = .ok (.iconst 0, 1) := by decide +kernel
theorem dL_law_414 : decode cL_law 414 = .ok (.ireturn, 1) := by decide +kernel
theorem dL_law_415 : decode cL_law 415 = .ok (.aload_n 1, 1) := by decide +kernel
theorem dL_law_416 : decode cL_law 416 = .ok (.aload_n 0, 1) := by decide +kernel
theorem dL_law_417 : decode cL_law 417 = .ok (.iload_n 3, 1) := by decide +kernel
theorem dL_law_418 : decode cL_law 418 = .ok (.iconst 1, 1) := by decide +kernel
theorem dL_law_419 : decode cL_law 419 = .ok (.iadd, 1) := by decide +kernel
theorem dL_law_420 : decode cL_law 420 = .ok (.iaload, 1) := by decide +kernel
theorem dL_law_421 : decode cL_law 421 = .ok (.aload_n 0, 1) := by decide +kernel
theorem dL_law_422 : decode cL_law 422 = .ok (.iload_n 3, 1) := by decide +kernel
theorem dL_law_423 : decode cL_law 423 = .ok (.iconst 2, 1) := by decide +kernel
theorem dL_law_424 : decode cL_law 424 = .ok (.iadd, 1) := by decide +kernel
theorem dL_law_425 : decode cL_law 425 = .ok (.iaload, 1) := by decide +kernel
theorem dL_law_426 : decode cL_law 426 = .ok (.aload_n 0, 1) := by decide +kernel
theorem dL_law_427 : decode cL_law 427 = .ok (.iload_n 3, 1) := by decide +kernel
theorem dL_law_428 : decode cL_law 428 = .ok (.iconst 3, 1) := by decide +kernel
theorem dL_law_429 : decode cL_law 429 = .ok (.iadd, 1) := by decide +kernel
theorem dL_law_430 : decode cL_law 430 = .ok (.iaload, 1) := by decide +kernel
theorem dL_law_431 : decode cL_law 431 = .ok (.invokevirtual 45, 3) := by decide +kernel
theorem dL_law_434 : decode cL_law 434 = .ok (.aload_n 2, 1) := by decide +kernel
theorem dL_law_435 : decode cL_law 435 = .ok (.aload_n 0, 1) := by decide +kernel
theorem dL_law_436 : decode cL_law 436 = .ok (.iload_n 3, 1) := by decide +kernel
theorem dL_law_437 : decode cL_law 437 = .ok (.iconst 1, 1) := by decide +kernel
theorem dL_law_438 : decode cL_law 438 = .ok (.iadd, 1) := by decide +kernel
theorem dL_law_439 : decode cL_law 439 = .ok (.iaload, 1) := by decide +kernel
theorem dL_law_440 : decode cL_law 440 = .ok (.aload_n 0, 1) := by decide +kernel
theorem dL_law_441 : decode cL_law 441 = .ok (.iload_n 3, 1) := by decide +kernel
theorem dL_law_442 : decode cL_law 442 = .ok (.iconst 2, 1) := by decide +kernel
theorem dL_law_443 : decode cL_law 443 = .ok (.iadd, 1) := by decide +kernel
theorem dL_law_444 : decode cL_law 444 = .ok (.iaload, 1) := by decide +kernel
theorem dL_law_445 : decode cL_law 445 = .ok (.aload_n 0, 1) := by decide +kernel
theorem dL_law_446 : decode cL_law 446 = .ok (.iload_n 3, 1) := by decide +kernel
theorem dL_law_447 : decode cL_law 447 = .ok (.iconst 3, 1) := by decide +kernel
theorem dL_law_448 : decode cL_law 448 = .ok (.iadd, 1) := by decide +kernel
theorem dL_law_449 : decode cL_law 449 = .ok (.iaload, 1) := by decide +kernel
theorem dL_law_450 : decode cL_law 450 = .ok (.invokevirtual 48, 3) := by decide +kernel
theorem dL_law_453 : decode cL_law 453 = .ok (.if_icmp .eq 348, 3) := by decide +kernel
theorem dL_law_456 : decode cL_law 456 = .ok (.iconst 0, 1) := by decide +kernel
theorem dL_law_457 : decode cL_law 457 = .ok (.ireturn, 1) := by decide +kernel
theorem dL_law_458 : decode cL_law 458 = .ok (.aload_n 1, 1) := by decide +kernel
theorem dL_law_459 : decode cL_law 459 = .ok (.aload_n 0, 1) := by decide +kernel
theorem dL_law_460 : decode cL_law 460 = .ok (.iload_n 3, 1) := by decide +kernel
theorem dL_law_461 : decode cL_law 461 = .ok (.iconst 1, 1) := by decide +kernel
theorem dL_law_462 : decode cL_law 462 = .ok (.iadd, 1) := by decide +kernel
theorem dL_law_463 : decode cL_law 463 = .ok (.iaload, 1) := by decide +kernel
theorem dL_law_464 : decode cL_law 464 = .ok (.aload_n 0, 1) := by decide +kernel
theorem dL_law_465 : decode cL_law 465 = .ok (.iload_n 3, 1) := by decide +kernel
theorem dL_law_466 : decode cL_law 466 = .ok (.iconst 2, 1) := by decide +kernel
theorem dL_law_467 : decode cL_law 467 = .ok (.iadd, 1) := by decide +kernel
theorem dL_law_468 : decode cL_law 468 = .ok (.iaload, 1) := by decide +kernel
theorem dL_law_469 : decode cL_law 469 = .ok (.aload_n 0, 1) := by decide +kernel
theorem dL_law_470 : decode cL_law 470 = .ok (.iload_n 3, 1) := by decide +kernel
theorem dL_law_471 : decode cL_law 471 = .ok (.iconst 3, 1) := by decide +kernel
theorem dL_law_472 : decode cL_law 472 = .ok (.iadd, 1) := by decide +kernel
theorem dL_law_473 : decode cL_law 473 = .ok (.iaload, 1) := by decide +kernel
theorem dL_law_474 : decode cL_law 474 = .ok (.aload_n 0, 1) := by decide +kernel
theorem dL_law_475 : decode cL_law 475 = .ok (.iload_n 3, 1) := by decide +kernel
theorem dL_law_476 : decode cL_law 476 = .ok (.iconst 4, 1) := by decide +kernel
theorem dL_law_477 : decode cL_law 477 = .ok (.iadd, 1) := by decide +kernel
theorem dL_law_478 : decode cL_law 478 = .ok (.iaload, 1) := by decide +kernel
theorem dL_law_479 : decode cL_law 479 = .ok (.aload_n 0, 1) := by decide +kernel
theorem dL_law_480 : decode cL_law 480 = .ok (.iload_n 3, 1) := by decide +kernel
theorem dL_law_481 : decode cL_law 481 = .ok (.iconst 5, 1) := by decide +kernel
theorem dL_law_482 : decode cL_law 482 = .ok (.iadd, 1) := by decide +kernel
theorem dL_law_483 : decode cL_law 483 = .ok (.iaload, 1) := by decide +kernel
theorem dL_law_484 : decode cL_law 484 = .ok (.invokevirtual 49, 3) := by decide +kernel
theorem dL_law_487 : decode cL_law 487 = .ok (.aload_n 2, 1) := by decide +kernel
theorem dL_law_488 : decode cL_law 488 = .ok (.aload_n 0, 1) := by decide +kernel
theorem dL_law_489 : decode cL_law 489 = .ok (.iload_n 3, 1) := by decide +kernel
theorem dL_law_490 : decode cL_law 490 = .ok (.iconst 1, 1) := by decide +kernel
theorem dL_law_491 : decode cL_law 491 = .ok (.iadd, 1) := by decide +kernel
theorem dL_law_492 : decode cL_law 492 = .ok (.iaload, 1) := by decide +kernel
theorem dL_law_493 : decode cL_law 493 = .ok (.aload_n 0, 1) := by decide +kernel
theorem dL_law_494 : decode cL_law 494 = .ok (.iload_n 3, 1) := by decide +kernel
theorem dL_law_495 : decode cL_law 495 = .ok (.iconst 2, 1) := by decide +kernel
theorem dL_law_496 : decode cL_law 496 = .ok (.iadd, 1) := by decide +kernel
theorem dL_law_497 : decode cL_law 497 = .ok (.iaload, 1) := by decide +kernel
theorem dL_law_498 : decode cL_law 498 = .ok (.aload_n 0, 1) := by decide +kernel
theorem dL_law_499 : decode cL_law 499 = .ok (.iload_n 3, 1) := by decide +kernel
theorem dL_law_500 : decode cL_law 500 = .ok (.iconst 3, 1) := by decide +kernel
theorem dL_law_501 : decode cL_law 501 = .ok (.iadd, 1) := by decide +kernel
theorem dL_law_502 : decode cL_law 502 = .ok (.iaload, 1) := by decide +kernel
theorem dL_law_503 : decode cL_law 503 = .ok (.aload_n 0, 1) := by decide +kernel
theorem dL_law_504 : decode cL_law 504 = .ok (.iload_n 3, 1) := by decide +kernel
theorem dL_law_505 : decode cL_law 505 = .ok (.iconst 4, 1) := by decide +kernel
theorem dL_law_506 : decode cL_law 506 = .ok (.iadd, 1) := by decide +kernel
theorem dL_law_507 : decode cL_law 507 = .ok (.iaload, 1) := by decide +kernel
theorem dL_law_508 : decode cL_law 508 = .ok (.aload_n 0, 1) := by decide +kernel
theorem dL_law_509 : decode cL_law 509 = .ok (.iload_n 3, 1) := by decide +kernel
theorem dL_law_510 : decode cL_law 510 = .ok (.iconst 5, 1) := by decide +kernel
theorem dL_law_511 : decode cL_law 511 = .ok (.iadd, 1) := by decide +kernel
theorem dL_law_512 : decode cL_law 512 = .ok (.iaload, 1) := by decide +kernel
theorem dL_law_513 : decode cL_law 513 = .ok (.invokevirtual 53, 3) := by decide +kernel
theorem dL_law_516 : decode cL_law 516 = .ok (.if_icmp .eq 285, 3) := by decide +kernel
theorem dL_law_519 : decode cL_law 519 = .ok (.iconst 0, 1) := by decide +kernel
theorem dL_law_520 : decode cL_law 520 = .ok (.ireturn, 1) := by decide +kernel
theorem dL_law_521 : decode cL_law 521 = .ok (.aload_n 1, 1) := by decide +kernel
theorem dL_law_522 : decode cL_law 522 = .ok (.aload_n 0, 1) := by decide +kernel
theorem dL_law_523 : decode cL_law 523 = .ok (.iload_n 3, 1) := by decide +kernel
theorem dL_law_524 : decode cL_law 524 = .ok (.iconst 1, 1) := by decide +kernel
theorem dL_law_525 : decode cL_law 525 = .ok (.iadd, 1) := by decide +kernel
theorem dL_law_526 : decode cL_law 526 = .ok (.iaload, 1) := by decide +kernel
theorem dL_law_527 : decode cL_law 527 = .ok (.invokevirtual 54, 3) := by decide +kernel
theorem dL_law_530 : decode cL_law 530 = .ok (.aload_n 2, 1) := by decide +kernel
theorem dL_law_531 : decode cL_law 531 = .ok (.aload_n 0, 1) := by decide +kernel
theorem dL_law_532 : decode cL_law 532 = .ok (.iload_n 3, 1) := by decide +kernel
theorem dL_law_533 : decode cL_law 533 = .ok (.iconst 1, 1) := by decide +kernel
theorem dL_law_534 : decode cL_law 534 = .ok (.iadd, 1) := by decide +kernel
theorem dL_law_535 : decode cL_law 535 = .ok (.iaload, 1) := by decide +kernel
theorem dL_law_536 : decode cL_law 536 = .ok (.invokevirtual 58, 3) := by decide +kernel
theorem dL_law_539 : decode cL_law 539 = .ok (.if_icmp .eq 262, 3) := by decide +kernel
theorem dL_law_542 : decode cL_law 542 = .ok (.iconst 0, 1) := by decide +kernel
theorem dL_law_543 : decode cL_law 543 = .ok (.ireturn, 1) := by decide +kernel
theorem dL_law_544 : decode cL_law 544 = .ok (.aload_n 1, 1) := by decide +kernel
theorem dL_law_545 : decode cL_law 545 = .ok (.aload_n 0, 1) := by decide +kernel
theorem dL_law_546 : decode cL_law 546 = .ok (.iload_n 3, 1) := by decide +kernel
theorem dL_law_547 : decode cL_law 547 = .ok (.iconst 1, 1) := by decide +kernel
theorem dL_law_548 : decode cL_law 548 = .ok (.iadd, 1) := by decide +kernel
theorem dL_law_549 : decode cL_law 549 = .ok (.iaload, 1) := by decide +kernel
theorem dL_law_550 : decode cL_law 550 = .ok (.aload_n 0, 1) := by decide +kernel
theorem dL_law_551 : decode cL_law 551 = .ok (.iload_n 3, 1) := by decide +kernel
theorem dL_law_552 : decode cL_law 552 = .ok (.iconst 2, 1) := by decide +kernel
theorem dL_law_553 : decode cL_law 553 = .ok (.iadd, 1) := by decide +kernel
theorem dL_law_554 : decode cL_law 554 = .ok (.iaload, 1) := by decide +kernel
theorem dL_law_555 : decode cL_law 555 = .ok (.invokevirtual 59, 3) := by decide +kernel
theorem dL_law_558 : decode cL_law 558 = .ok (.aload_n 2, 1) := by decide +kernel
theorem dL_law_559 : decode cL_law 559 = .ok (.aload_n 0, 1) := by decide +kernel
theorem dL_law_560 : decode cL_law 560 = .ok (.iload_n 3, 1) := by decide +kernel
theorem dL_law_561 : decode cL_law 561 = .ok (.iconst 1, 1) := by decide +kernel
theorem dL_law_562 : decode cL_law 562 = .ok (.iadd, 1) := by decide +kernel
theorem dL_law_563 : decode cL_law 563 = .ok (.iaload, 1) := by decide +kernel
theorem dL_law_564 : decode cL_law 564 = .ok (.aload_n 0, 1) := by decide +kernel
theorem dL_law_565 : decode cL_law 565 = .ok (.iload_n 3, 1) := by decide +kernel
theorem dL_law_566 : decode cL_law 566 = .ok (.iconst 2, 1) := by decide +kernel
theorem dL_law_567 : decode cL_law 567 = .ok (.iadd, 1) := by decide +kernel
theorem dL_law_568 : decode cL_law 568 = .ok (.iaload, 1) := by decide +kernel
theorem dL_law_569 : decode cL_law 569 = .ok (.invokevirtual 62, 3) := by decide +kernel
theorem dL_law_572 : decode cL_law 572 = .ok (.if_icmp .eq 229, 3) := by decide +kernel
theorem dL_law_575 : decode cL_law 575 = .ok (.iconst 0, 1) := by decide +kernel
theorem dL_law_576 : decode cL_law 576 = .ok (.ireturn, 1) := by decide +kernel
theorem dL_law_577 : decode cL_law 577 = .ok (.aload_n 1, 1) := by decide +kernel
theorem dL_law_578 : decode cL_law 578 = .ok (.aload_n 0, 1) := by decide +kernel
theorem dL_law_579 : decode cL_law 579 = .ok (.iload_n 3, 1) := by decide +kernel
theorem dL_law_580 : decode cL_law 580 = .ok (.iconst 1, 1) := by decide +kernel
theorem dL_law_581 : decode cL_law 581 = .ok (.iadd, 1) := by decide +kernel
theorem dL_law_582 : decode cL_law 582 = .ok (.iaload, 1) := by decide +kernel
theorem dL_law_583 : decode cL_law 583 = .ok (.invokevirtual 63, 3) := by decide +kernel
theorem dL_law_586 : decode cL_law 586 = .ok (.aload_n 2, 1) := by decide +kernel
theorem dL_law_587 : decode cL_law 587 = .ok (.aload_n 0, 1) := by decide +kernel
theorem dL_law_588 : decode cL_law 588 = .ok (.iload_n 3, 1) := by decide +kernel
theorem dL_law_589 : decode cL_law 589 = .ok (.iconst 1, 1) := by decide +kernel
theorem dL_law_590 : decode cL_law 590 = .ok (.iadd, 1) := by decide +kernel
theorem dL_law_591 : decode cL_law 591 = .ok (.iaload, 1) := by decide +kernel
theorem dL_law_592 : decode cL_law 592 = .ok (.invokevirtual 67, 3) := by decide +kernel
theorem dL_law_595 : decode cL_law 595 = .ok (.if_icmp .eq 206, 3) := by decide +kernel
theorem dL_law_598 : decode cL_law 598 = .ok (.iconst 0, 1) := by decide +kernel
theorem dL_law_599 : decode cL_law 599 = .ok (.ireturn, 1) := by decide +kernel
theorem dL_law_600 : decode cL_law 600 = .ok (.aload_n 1, 1) := by decide +kernel
theorem dL_law_601 : decode cL_law 601 = .ok (.aload_n 0, 1) := by decide +kernel
theorem dL_law_602 : decode cL_law 602 = .ok (.iload_n 3, 1) := by decide +kernel
theorem dL_law_603 : decode cL_law 603 = .ok (.iconst 1, 1) := by decide +kernel
theorem dL_law_604 : decode cL_law 604 = .ok (.iadd, 1) := by decide +kernel
theorem dL_law_605 : decode cL_law 605 = .ok (.iaload, 1) := by decide +kernel
theorem dL_law_606 : decode cL_law 606 = .ok (.invokevirtual 68, 3) := by decide +kernel
theorem dL_law_609 : decode cL_law 609 = .ok (.aload_n 2, 1) := by decide +kernel
theorem dL_law_610 : decode cL_law 610 = .ok (.aload_n 0, 1) := by decide +kernel
theorem dL_law_611 : decode cL_law 611 = .ok (.iload_n 3, 1) := by decide +kernel
theorem dL_law_612 : decode cL_law 612 = .ok (.iconst 1, 1) := by decide +kernel
theorem dL_law_613 : decode cL_law 613 = .ok (.iadd, 1) := by decide +kernel
theorem dL_law_614 : decode cL_law 614 = .ok (.iaload, 1) := by decide +kernel
theorem dL_law_615 : decode cL_law 615 = .ok (.invokevirtual 71, 3) := by decide +kernel
theorem dL_law_618 : decode cL_law 618 = .ok (.if_icmp .eq 183, 3) := by decide +kernel
theorem dL_law_621 : decode cL_law 621 = .ok (.iconst 0, 1) := by decide +kernel
theorem dL_law_622 : decode cL_law 622 = .ok (.ireturn, 1) := by decide +kernel
theorem dL_law_623 : decode cL_law 623 = .ok (.aload_n 1, 1) := by decide +kernel
theorem dL_law_624 : decode cL_law 624 = .ok (.aload_n 0, 1) := by decide +kernel
theorem dL_law_625 : decode cL_law 625 = .ok (.iload_n 3, 1) := by decide +kernel
theorem dL_law_626 : decode cL_law 626 = .ok (.iconst 1, 1) := by decide +kernel
theorem dL_law_627 : decode cL_law 627 = .ok (.iadd, 1) := by decide +kernel
theorem dL_law_628 : decode cL_law 628 = .ok (.iaload, 1) := by decide +kernel
theorem dL_law_629 : decode cL_law 629 = .ok (.aload_n 0, 1) := by decide +kernel
theorem dL_law_630 : decode cL_law 630 = .ok (.iload_n 3, 1) := by decide +kernel
theorem dL_law_631 : decode cL_law 631 = .ok (.iconst 2, 1) := by decide +kernel
theorem dL_law_632 : decode cL_law 632 = .ok (.iadd, 1) := by decide +kernel
theorem dL_law_633 : decode cL_law 633 = .ok (.iaload, 1) := by decide +kernel
theorem dL_law_634 : decode cL_law 634 = .ok (.invokevirtual 72, 3) := by decide +kernel
theorem dL_law_637 : decode cL_law 637 = .ok (.aload_n 2, 1) := by decide +kernel
theorem dL_law_638 : decode cL_law 638 = .ok (.aload_n 0, 1) := by decide +kernel
theorem dL_law_639 : decode cL_law 639 = .ok (.iload_n 3, 1) := by decide +kernel
theorem dL_law_640 : decode cL_law 640 = .ok (.iconst 1, 1) := by decide +kernel
theorem dL_law_641 : decode cL_law 641 = .ok (.iadd, 1) := by decide +kernel
theorem dL_law_642 : decode cL_law 642 = .ok (.iaload, 1) := by decide +kernel
theorem dL_law_643 : decode cL_law 643 = .ok (.aload_n 0, 1) := by decide +kernel
theorem dL_law_644 : decode cL_law 644 = .ok (.iload_n 3, 1) := by decide +kernel
theorem dL_law_645 : decode cL_law 645 = .ok (.iconst 2, 1) := by decide +kernel
theorem dL_law_646 : decode cL_law 646 = .ok (.iadd, 1) := by decide +kernel
theorem dL_law_647 : decode cL_law 647 = .ok (.iaload, 1) := by decide +kernel
theorem dL_law_648 : decode cL_law 648 = .ok (.invokevirtual 75, 3) := by decide +kernel
theorem dL_law_651 : decode cL_law 651 = .ok (.if_icmp .eq 150, 3) := by decide +kernel
theorem dL_law_654 : decode cL_law 654 = .ok (.iconst 0, 1) := by decide +kernel
theorem dL_law_655 : decode cL_law 655 = .ok (.ireturn, 1) := by decide +kernel
theorem dL_law_656 : decode cL_law 656 = .ok (.aload_n 1, 1) := by decide +kernel
theorem dL_law_657 : decode cL_law 657 = .ok (.aload_n 0, 1) := by decide +kernel
theorem dL_law_658 : decode cL_law 658 = .ok (.iload_n 3, 1) := by decide +kernel
theorem dL_law_659 : decode cL_law 659 = .ok (.iconst 1, 1) := by decide +kernel
theorem dL_law_660 : decode cL_law 660 = .ok (.iadd, 1) := by decide +kernel
theorem dL_law_661 : decode cL_law 661 = .ok (.iaload, 1) := by decide +kernel
theorem dL_law_662 : decode cL_law 662 = .ok (.aload_n 0, 1) := by decide +kernel
theorem dL_law_663 : decode cL_law 663 = .ok (.iload_n 3, 1) := by decide +kernel
theorem dL_law_664 : decode cL_law 664 = .ok (.iconst 2, 1) := by decide +kernel
theorem dL_law_665 : decode cL_law 665 = .ok (.iadd, 1) := by decide +kernel
theorem dL_law_666 : decode cL_law 666 = .ok (.iaload, 1) := by decide +kernel
theorem dL_law_667 : decode cL_law 667 = .ok (.aload_n 0, 1) := by decide +kernel
theorem dL_law_668 : decode cL_law 668 = .ok (.iload_n 3, 1) := by decide +kernel
theorem dL_law_669 : decode cL_law 669 = .ok (.iconst 3, 1) := by decide +kernel
theorem dL_law_670 : decode cL_law 670 = .ok (.iadd, 1) := by decide +kernel
theorem dL_law_671 : decode cL_law 671 = .ok (.iaload, 1) := by decide +kernel
theorem dL_law_672 : decode cL_law 672 = .ok (.invokevirtual 76, 3) := by decide +kernel
theorem dL_law_675 : decode cL_law 675 = .ok (.aload_n 2, 1) := by decide +kernel
theorem dL_law_676 : decode cL_law 676 = .ok (.aload_n 0, 1) := by decide +kernel
theorem dL_law_677 : decode cL_law 677 = .ok (.iload_n 3, 1) := by decide +kernel
theorem dL_law_678 : decode cL_law 678 = .ok (.iconst 1, 1) := by decide +kernel
theorem dL_law_679 : decode cL_law 679 = .ok (.iadd, 1) := by decide +kernel
theorem dL_law_680 : decode cL_law 680 = .ok (.iaload, 1) := by decide +kernel
theorem dL_law_681 : decode cL_law 681 = .ok (.aload_n 0, 1) := by decide +kernel
theorem dL_law_682 : decode cL_law 682 = .ok (.iload_n 3, 1) := by decide +kernel
theorem dL_law_683 : decode cL_law 683 = .ok (.iconst 2, 1) := by decide +kernel
theorem dL_law_684 : decode cL_law 684 = .ok (.iadd, 1) := by decide +kernel
theorem dL_law_685 : decode cL_law 685 = .ok (.iaload, 1) := by decide +kernel
theorem dL_law_686 : decode cL_law 686 = .ok (.aload_n 0, 1) := by decide +kernel
theorem dL_law_687 : decode cL_law 687 = .ok (.iload_n 3, 1) := by decide +kernel
theorem dL_law_688 : decode cL_law 688 = .ok (.iconst 3, 1) := by decide +kernel
theorem dL_law_689 : decode cL_law 689 = .ok (.iadd, 1) := by decide +kernel
theorem dL_law_690 : decode cL_law 690 = .ok (.iaload, 1) := by decide +kernel
theorem dL_law_691 : decode cL_law 691 = .ok (.invokevirtual 79, 3) := by decide +kernel
theorem dL_law_694 : decode cL_law 694 = .ok (.if_icmp .eq 107, 3) := by decide +kernel
theorem dL_law_697 : decode cL_law 697 = .ok (.iconst 0, 1) := by decide +kernel
theorem dL_law_698 : decode cL_law 698 = .ok (.ireturn, 1) := by decide +kernel
theorem dL_law_699 : decode cL_law 699 = .ok (.aload_n 1, 1) := by decide +kernel
theorem dL_law_700 : decode cL_law 700 = .ok (.aload_n 0, 1) := by decide +kernel
theorem dL_law_701 : decode cL_law 701 = .ok (.iload_n 3, 1) := by decide +kernel
theorem dL_law_702 : decode cL_law 702 = .ok (.iconst 1, 1) := by decide +kernel
theorem dL_law_703 : decode cL_law 703 = .ok (.iadd, 1) := by decide +kernel
theorem dL_law_704 : decode cL_law 704 = .ok (.iaload, 1) := by decide +kernel
theorem dL_law_705 : decode cL_law 705 = .ok (.aload_n 0, 1) := by decide +kernel
theorem dL_law_706 : decode cL_law 706 = .ok (.iload_n 3, 1) := by decide +kernel
theorem dL_law_707 : decode cL_law 707 = .ok (.iconst 2, 1) := by decide +kernel
theorem dL_law_708 : decode cL_law 708 = .ok (.iadd, 1) := by decide +kernel
theorem dL_law_709 : decode cL_law 709 = .ok (.iaload, 1) := by decide +kernel
theorem dL_law_710 : decode cL_law 710 = .ok (.invokevirtual 80, 3) := by decide +kernel
theorem dL_law_713 : decode cL_law 713 = .ok (.aload_n 2, 1) := by decide +kernel
theorem dL_law_714 : decode cL_law 714 = .ok (.aload_n 0, 1) := by decide +kernel
theorem dL_law_715 : decode cL_law 715 = .ok (.iload_n 3, 1) := by decide +kernel
theorem dL_law_716 : decode cL_law 716 = .ok (.iconst 1, 1) := by decide +kernel
theorem dL_law_717 : decode cL_law 717 = .ok (.iadd, 1) := by decide +kernel
theorem dL_law_718 : decode cL_law 718 = .ok (.iaload, 1) := by decide +kernel
theorem dL_law_719 : decode cL_law 719 = .ok (.aload_n 0, 1) := by decide +kernel
theorem dL_law_720 : decode cL_law 720 = .ok (.iload_n 3, 1) := by decide +kernel
theorem dL_law_721 : decode cL_law 721 = .ok (.iconst 2, 1) := by decide +kernel
theorem dL_law_722 : decode cL_law 722 = .ok (.iadd, 1) := by decide +kernel
theorem dL_law_723 : decode cL_law 723 = .ok (.iaload, 1) := by decide +kernel
theorem dL_law_724 : decode cL_law 724 = .ok (.invokevirtual 83, 3) := by decide +kernel
theorem dL_law_727 : decode cL_law 727 = .ok (.if_icmp .eq 74, 3) := by decide +kernel
theorem dL_law_730 : decode cL_law 730 = .ok (.iconst 0, 1) := by decide +kernel
theorem dL_law_731 : decode cL_law 731 = .ok (.ireturn, 1) := by decide +kernel
theorem dL_law_732 : decode cL_law 732 = .ok (.aload_n 1, 1) := by decide +kernel
theorem dL_law_733 : decode cL_law 733 = .ok (.aload_n 0, 1) := by decide +kernel
theorem dL_law_734 : decode cL_law 734 = .ok (.iload_n 3, 1) := by decide +kernel
theorem dL_law_735 : decode cL_law 735 = .ok (.iconst 1, 1) := by decide +kernel
theorem dL_law_736 : decode cL_law 736 = .ok (.iadd, 1) := by decide +kernel
theorem dL_law_737 : decode cL_law 737 = .ok (.iaload, 1) := by decide +kernel
theorem dL_law_738 : decode cL_law 738 = .ok (.invokevirtual 84, 3) := by decide +kernel
theorem dL_law_741 : decode cL_law 741 = .ok (.aload_n 2, 1) := by decide +kernel
theorem dL_law_742 : decode cL_law 742 = .ok (.aload_n 0, 1) := by decide +kernel
theorem dL_law_743 : decode cL_law 743 = .ok (.iload_n 3, 1) := by decide +kernel
theorem dL_law_744 : decode cL_law 744 = .ok (.iconst 1, 1) := by decide +kernel
theorem dL_law_745 : decode cL_law 745 = .ok (.iadd, 1) := by decide +kernel
theorem dL_law_746 : decode cL_law 746 = .ok (.iaload, 1) := by decide +kernel
theorem dL_law_747 : decode cL_law 747 = .ok (.invokevirtual 87, 3) := by decide +kernel
theorem dL_law_750 : decode cL_law 750 = .ok (.if_icmp .eq 51, 3) := by decide +kernel
theorem dL_law_753 : decode cL_law 753 = .ok (.iconst 0, 1) := by decide +kernel
theorem dL_law_754 : decode cL_law 754 = .ok (.ireturn, 1) := by decide +kernel
theorem dL_law_755 : decode cL_law 755 = .ok (.aload_n 1, 1) := by decide +kernel
theorem dL_law_756 : decode cL_law 756 = .ok (.aload_n 0, 1) := by decide +kernel
theorem dL_law_757 : decode cL_law 757 = .ok (.iload_n 3, 1) := by decide +kernel
theorem dL_law_758 : decode cL_law 758 = .ok (.iconst 1, 1) := by decide +kernel
theorem dL_law_759 : decode cL_law 759 = .ok (.iadd, 1) := by decide +kernel
theorem dL_law_760 : decode cL_law 760 = .ok (.iaload, 1) := by decide +kernel
theorem dL_law_761 : decode cL_law 761 = .ok (.invokevirtual 88, 3) := by decide +kernel
theorem dL_law_764 : decode cL_law 764 = .ok (.aload_n 2, 1) := by decide +kernel
theorem dL_law_765 : decode cL_law 765 = .ok (.aload_n 0, 1) := by decide +kernel
theorem dL_law_766 : decode cL_law 766 = .ok (.iload_n 3, 1) := by decide +kernel
theorem dL_law_767 : decode cL_law 767 = .ok (.iconst 1, 1) := by decide +kernel
theorem dL_law_768 : decode cL_law 768 = .ok (.iadd, 1) := by decide +kernel
theorem dL_law_769 : decode cL_law 769 = .ok (.iaload, 1) := by decide +kernel
theorem dL_law_770 : decode cL_law 770 = .ok (.invokevirtual 91, 3) := by decide +kernel
theorem dL_law_773 : decode cL_law 773 = .ok (.if_icmp .eq 28, 3) := by decide +kernel
theorem dL_law_776 : decode cL_law 776 = .ok (.iconst 0, 1) := by decide +kernel
theorem dL_law_777 : decode cL_law 777 = .ok (.ireturn, 1) := by decide +kernel
theorem dL_law_778 : decode cL_law 778 = .ok (.aload_n 1, 1) := by decide +kernel
theorem dL_law_779 : decode cL_law 779 = .ok (.aload_n 0, 1) := by decide +kernel
theorem dL_law_780 : decode cL_law 780 = .ok (.iload_n 3, 1) := by decide +kernel
theorem dL_law_781 : decode cL_law 781 = .ok (.iconst 1, 1) := by decide +kernel
theorem dL_law_782 : decode cL_law 782 = .ok (.iadd, 1) := by decide +kernel
theorem dL_law_783 : decode cL_law 783 = .ok (.iaload, 1) := by decide +kernel
theorem dL_law_784 : decode cL_law 784 = .ok (.invokevirtual 92, 3) := by decide +kernel
theorem dL_law_787 : decode cL_law 787 = .ok (.aload_n 2, 1) := by decide +kernel
theorem dL_law_788 : decode cL_law 788 = .ok (.aload_n 0, 1) := by decide +kernel
theorem dL_law_789 : decode cL_law 789 = .ok (.iload_n 3, 1) := by decide +kernel
theorem dL_law_790 : decode cL_law 790 = .ok (.iconst 1, 1) := by decide +kernel
theorem dL_law_791 : decode cL_law 791 = .ok (.iadd, 1) := by decide +kernel
theorem dL_law_792 : decode cL_law 792 = .ok (.iaload, 1) := by decide +kernel
theorem dL_law_793 : decode cL_law 793 = .ok (.invokevirtual 95, 3) := by decide +kernel
theorem dL_law_796 : decode cL_law 796 = .ok (.if_icmp .eq 5, 3) := by decide +kernel
theorem dL_law_799 : decode cL_law 799 = .ok (.iconst 0, 1) := by decide +kernel
theorem dL_law_800 : decode cL_law 800 = .ok (.ireturn, 1) := by decide +kernel
theorem dL_law_801 : decode cL_law 801 = .ok (.iinc 3 6, 3) := by decide +kernel
theorem dL_law_804 : decode cL_law 804 = .ok (.goto (-786), 3) := by decide +kernel
theorem dL_law_807 : decode cL_law 807 = .ok (.iconst 1, 1) := by decide +kernel
theorem dL_law_808 : decode cL_law 808 = .ok (.ireturn, 1) := by decide +kernel
end
section
/-! THE JUDGEMENT J: the machine at pc with the locals lv and the stack st, in every heap that HP allows, comes to Q. -/
/-- what is fixed in a method -/
def Fx (p : Program) (s : State) (m : MethodId) (args : Array Value) (meth : Method) (c : Code) (cc : ByteArray) (own : String) (nL : Nat) (ret : Option FieldType) : Prop :=
  p.tables.exec = Jvm.exec ∧ c.code = cc ∧ meth.sig.returnType = ret ∧ c.maxLocals = nL ∧ s.vm.findClass own = some m.cls ∧ (∀ w ∈ tb, w.before args s = true) ∧ meth.locks = false
def J (p : Program) (l : Launch) (e : Env) (R : Room) (s : State) (m : MethodId) (args : Array Value) (below : List Frame) (meth : Method) (c : Code) (nL : Nat) (HP : Heap → List Loc → Prop) (ce sl : Nat) (Q : State → Prop) (pc : Nat) (lv : List (Nat × Value)) (st : List Value) : Prop :=
  ∀ (H : Heap) (locs : List Loc) (ls : Array Slot), HP H locs → lv_has ls nL lv → W p l e R s m args below meth c H locs ce sl Q (F0 m pc ls st)
/-- a reader's heaps: the one of its start -/
def hR (s : State) : Heap → List Loc → Prop := fun H locs => H = s.heap ∧ locs = []
/-- a writer's heaps: those that hold its world, and differ from its start's in the world's cells alone -/
def hW (D : va_G) (A : Nat → Prop) (s : State) (w : va_W) : Heap → List Loc → Prop := fun H locs => va_P D vwCl w H ∧ va_D A w ∧ va_S A s.heap H locs
abbrev tys (cy : Nat → ClassId) : List (ClassId × FieldType) := [(cy 0, .int), (cy 1, .char), (cy 2, .long), (cy 3, .object RX0)]
/-- a state of ints: row 0 the int fields, row j the j-th int array -/
abbrev St2 : Type := Nat → Nat → Int32
def up2 (f : St2) (j i : Nat) (v : Int32) : St2 := fun b => if b = j then upd (f b) i v else f b
def bI (b : Bool) : Int32 := if b then 1 else 0
theorem bI_nar (b : Bool) : narrow .boolean (.int (bI b)) = .int (bI b) := by cases b <;> rfl
theorem of_pos {α : Type} {c : Prop} [Decidable c] {a b o : α} (hc : c) (h : (if c then a else b) = o) : a = o := by rw [if_pos hc] at h; exact h
theorem of_neg {α : Type} {c : Prop} [Decidable c] {a b o : α} (hc : ¬ c) (h : (if c then a else b) = o) : b = o := by rw [if_neg hc] at h; exact h
theorem of_bnd {α β : Type} {x : Option α} {f : α → Option β} {o : β} (h : x.bind f = some o) : ∃ a, x = some a ∧ f a = some o := Option.bind_eq_some_iff.mp h
section JUDGE
variable {p : Program} {l : Launch} {e : Env} {R : Room} {s : State} {m : MethodId} {args : Array Value} {below : List Frame} {meth : Method} {c : Code}
variable {cc : ByteArray} {own : String} {nL : Nat} {ret : Option FieldType} {HP : Heap → List Loc → Prop} {Q : State → Prop} {ce sl : Nat}
variable {pc : Nat} {lv lv' : List (Nat × Value)} {st : List Value}
theorem j_iconst (F : Fx p s m args meth c cc own nL ret) {n : Int} {v : Int32} (d : decode cc pc = .ok (.iconst n, 1)) (hv : Int32.ofInt n = v) (k : J p l e R s m args below meth c nL HP ce sl Q (pc + 1) lv (.int v :: st)) : J p l e R s m args below meth c nL HP ce sl Q pc lv st := fun H locs ls hH hl => lv_iconst F.1 F.2.1 d hv (k H locs ls hH hl)
theorem j_bipush (F : Fx p s m args meth c cc own nL ret) {n : Int} {v : Int32} (d : decode cc pc = .ok (.bipush n, 2)) (hv : (Int8.ofInt n).toInt32 = v) (k : J p l e R s m args below meth c nL HP ce sl Q (pc + 2) lv (.int v :: st)) : J p l e R s m args below meth c nL HP ce sl Q pc lv st := fun H locs ls hH hl => lv_bipush F.1 F.2.1 d hv (k H locs ls hH hl)
theorem j_sipush (F : Fx p s m args meth c cc own nL ret) {n : Int} {v : Int32} (d : decode cc pc = .ok (.sipush n, 3)) (hv : (Int16.ofInt n).toInt32 = v) (k : J p l e R s m args below meth c nL HP ce sl Q (pc + 3) lv (.int v :: st)) : J p l e R s m args below meth c nL HP ce sl Q pc lv st := fun H locs ls hH hl => lv_sipush F.1 F.2.1 d hv (k H locs ls hH hl)
theorem j_lconst (F : Fx p s m args meth c cc own nL ret) {n : Fin 2} {v : Int64} (d : decode cc pc = .ok (.lconst n, 1)) (hv : Int64.ofNat n = v) (k : J p l e R s m args below meth c nL HP ce sl Q (pc + 1) lv (.long v :: st)) : J p l e R s m args below meth c nL HP ce sl Q pc lv st := fun H locs ls hH hl => lv_lconst F.1 F.2.1 d hv (k H locs ls hH hl)
theorem j_iload_n (F : Fx p s m args meth c cc own nL ret) (q : Nat) {k : Fin 4} {i : Nat} {x : Int32} (d : decode cc pc = .ok (.iload_n k, 1)) (hi : (k : Nat) = i) (hq : lv[q]? = some (i, .int x)) (k : J p l e R s m args below meth c nL HP ce sl Q (pc + 1) lv (.int x :: st)) : J p l e R s m args below meth c nL HP ce sl Q pc lv st := fun H locs ls hH hl => lv_iload_n F.1 F.2.1 d hi (lv_at hl q hq) (k H locs ls hH hl)
theorem j_iload (F : Fx p s m args meth c cc own nL ret) (q : Nat) {i : Nat} {x : Int32} (d : decode cc pc = .ok (.iload i, 2)) (hq : lv[q]? = some (i, .int x)) (k : J p l e R s m args below meth c nL HP ce sl Q (pc + 2) lv (.int x :: st)) : J p l e R s m args below meth c nL HP ce sl Q pc lv st := fun H locs ls hH hl => lv_iload F.1 F.2.1 d (lv_at hl q hq) (k H locs ls hH hl)
theorem j_istore_n (F : Fx p s m args meth c cc own nL ret) {k : Fin 4} {i : Nat} {x : Int32} (d : decode cc pc = .ok (.istore_n k, 1)) (hi : (k : Nat) = i) (hn : i < nL) (hl : (i, Value.int x) :: lv.filter (fun q => !(q.1 == i) && !(q.1 + 1 == i && q.2.category == 2)) = lv') (k : J p l e R s m args below meth c nL HP ce sl Q (pc + 1) lv' st) : J p l e R s m args below meth c nL HP ce sl Q pc lv (.int x :: st) := fun H locs ls hH h => lv_istore_n F.1 F.2.1 d hi h hn hl (fun ls h => k H locs ls hH h)
theorem j_istore (F : Fx p s m args meth c cc own nL ret) {i : Nat} {x : Int32} (d : decode cc pc = .ok (.istore i, 2)) (hn : i < nL) (hl : (i, Value.int x) :: lv.filter (fun q => !(q.1 == i) && !(q.1 + 1 == i && q.2.category == 2)) = lv') (k : J p l e R s m args below meth c nL HP ce sl Q (pc + 2) lv' st) : J p l e R s m args below meth c nL HP ce sl Q pc lv (.int x :: st) := fun H locs ls hH h => lv_istore F.1 F.2.1 d h hn hl (fun ls h => k H locs ls hH h)
theorem j_lload_n (F : Fx p s m args meth c cc own nL ret) (q : Nat) {k : Fin 4} {i : Nat} {x : Int64} (d : decode cc pc = .ok (.lload_n k, 1)) (hi : (k : Nat) = i) (hq : lv[q]? = some (i, .long x)) (k : J p l e R s m args below meth c nL HP ce sl Q (pc + 1) lv (.long x :: st)) : J p l e R s m args below meth c nL HP ce sl Q pc lv st := fun H locs ls hH hl => lv_lload_n F.1 F.2.1 d hi (lv_at hl q hq) (k H locs ls hH hl)
theorem j_lload (F : Fx p s m args meth c cc own nL ret) (q : Nat) {i : Nat} {x : Int64} (d : decode cc pc = .ok (.lload i, 2)) (hq : lv[q]? = some (i, .long x)) (k : J p l e R s m args below meth c nL HP ce sl Q (pc + 2) lv (.long x :: st)) : J p l e R s m args below meth c nL HP ce sl Q pc lv st := fun H locs ls hH hl => lv_lload F.1 F.2.1 d (lv_at hl q hq) (k H locs ls hH hl)
theorem j_lstore_n (F : Fx p s m args meth c cc own nL ret) {k : Fin 4} {i : Nat} {x : Int64} (d : decode cc pc = .ok (.lstore_n k, 1)) (hi : (k : Nat) = i) (hn : i + 1 < nL) (hl : (i, Value.long x) :: lv.filter (fun q => !(q.1 == i) && (!(q.1 == i + 1) && !(q.1 + 1 == i && q.2.category == 2))) = lv') (k : J p l e R s m args below meth c nL HP ce sl Q (pc + 1) lv' st) : J p l e R s m args below meth c nL HP ce sl Q pc lv (.long x :: st) := fun H locs ls hH h => lv_lstore_n F.1 F.2.1 d hi h hn hl (fun ls h => k H locs ls hH h)
theorem j_lstore (F : Fx p s m args meth c cc own nL ret) {i : Nat} {x : Int64} (d : decode cc pc = .ok (.lstore i, 2)) (hn : i + 1 < nL) (hl : (i, Value.long x) :: lv.filter (fun q => !(q.1 == i) && (!(q.1 == i + 1) && !(q.1 + 1 == i && q.2.category == 2))) = lv') (k : J p l e R s m args below meth c nL HP ce sl Q (pc + 2) lv' st) : J p l e R s m args below meth c nL HP ce sl Q pc lv (.long x :: st) := fun H locs ls hH h => lv_lstore F.1 F.2.1 d h hn hl (fun ls h => k H locs ls hH h)
theorem j_aload_n (F : Fx p s m args meth c cc own nL ret) (q : Nat) {k : Fin 4} {i : Nat} {x : Nat} (d : decode cc pc = .ok (.aload_n k, 1)) (hi : (k : Nat) = i) (hq : lv[q]? = some (i, .ref x)) (k : J p l e R s m args below meth c nL HP ce sl Q (pc + 1) lv (.ref x :: st)) : J p l e R s m args below meth c nL HP ce sl Q pc lv st := fun H locs ls hH hl => lv_aload_n F.1 F.2.1 d hi (lv_at hl q hq) (k H locs ls hH hl)
theorem j_aload (F : Fx p s m args meth c cc own nL ret) (q : Nat) {i : Nat} {x : Nat} (d : decode cc pc = .ok (.aload i, 2)) (hq : lv[q]? = some (i, .ref x)) (k : J p l e R s m args below meth c nL HP ce sl Q (pc + 2) lv (.ref x :: st)) : J p l e R s m args below meth c nL HP ce sl Q pc lv st := fun H locs ls hH hl => lv_aload F.1 F.2.1 d (lv_at hl q hq) (k H locs ls hH hl)
theorem j_astore_n (F : Fx p s m args meth c cc own nL ret) {k : Fin 4} {i : Nat} {x : Nat} (d : decode cc pc = .ok (.astore_n k, 1)) (hi : (k : Nat) = i) (hn : i < nL) (hl : (i, Value.ref x) :: lv.filter (fun q => !(q.1 == i) && !(q.1 + 1 == i && q.2.category == 2)) = lv') (k : J p l e R s m args below meth c nL HP ce sl Q (pc + 1) lv' st) : J p l e R s m args below meth c nL HP ce sl Q pc lv (.ref x :: st) := fun H locs ls hH h => lv_astore_n F.1 F.2.1 d hi h hn hl (fun ls h => k H locs ls hH h)
theorem j_astore (F : Fx p s m args meth c cc own nL ret) {i : Nat} {x : Nat} (d : decode cc pc = .ok (.astore i, 2)) (hn : i < nL) (hl : (i, Value.ref x) :: lv.filter (fun q => !(q.1 == i) && !(q.1 + 1 == i && q.2.category == 2)) = lv') (k : J p l e R s m args below meth c nL HP ce sl Q (pc + 2) lv' st) : J p l e R s m args below meth c nL HP ce sl Q pc lv (.ref x :: st) := fun H locs ls hH h => lv_astore F.1 F.2.1 d h hn hl (fun ls h => k H locs ls hH h)
theorem j_iinc (F : Fx p s m args meth c cc own nL ret) (q : Nat) {i : Nat} {n : Int} {x v : Int32} (d : decode cc pc = .ok (.iinc i n, 3)) (hq : lv[q]? = some (i, .int x)) (hv : x + Int32.ofInt n = v) (hn : i < nL) (hl : (i, Value.int v) :: lv.filter (fun q => !(q.1 == i) && !(q.1 + 1 == i && q.2.category == 2)) = lv') (k : J p l e R s m args below meth c nL HP ce sl Q (pc + 3) lv' st) : J p l e R s m args below meth c nL HP ce sl Q pc lv st := fun H locs ls hH h => lv_iinc F.1 F.2.1 d h hq hv hn hl (fun ls h => k H locs ls hH h)
theorem j_sub (ks : List Nat) (hl : lv_pick lv ks = lv') (k : J p l e R s m args below meth c nL HP ce sl Q pc lv' st) : J p l e R s m args below meth c nL HP ce sl Q pc lv st := fun H locs ls hH h => k H locs ls hH (lv_sub h ks hl)
theorem j_iadd (F : Fx p s m args meth c cc own nL ret) {x y : Int32} (d : decode cc pc = .ok (.iadd, 1)) (k : J p l e R s m args below meth c nL HP ce sl Q (pc + 1) lv (.int (x + y) :: st)) : J p l e R s m args below meth c nL HP ce sl Q pc lv (.int y :: .int x :: st) := fun H locs ls hH hl => lv_iadd F.1 F.2.1 d (k H locs ls hH hl)
theorem j_isub (F : Fx p s m args meth c cc own nL ret) {x y : Int32} (d : decode cc pc = .ok (.isub, 1)) (k : J p l e R s m args below meth c nL HP ce sl Q (pc + 1) lv (.int (x - y) :: st)) : J p l e R s m args below meth c nL HP ce sl Q pc lv (.int y :: .int x :: st) := fun H locs ls hH hl => lv_isub F.1 F.2.1 d (k H locs ls hH hl)
theorem j_imul (F : Fx p s m args meth c cc own nL ret) {x y : Int32} (d : decode cc pc = .ok (.imul, 1)) (k : J p l e R s m args below meth c nL HP ce sl Q (pc + 1) lv (.int (x * y) :: st)) : J p l e R s m args below meth c nL HP ce sl Q pc lv (.int y :: .int x :: st) := fun H locs ls hH hl => lv_imul F.1 F.2.1 d (k H locs ls hH hl)
theorem j_iand (F : Fx p s m args meth c cc own nL ret) {x y : Int32} (d : decode cc pc = .ok (.iand, 1)) (k : J p l e R s m args below meth c nL HP ce sl Q (pc + 1) lv (.int (x &&& y) :: st)) : J p l e R s m args below meth c nL HP ce sl Q pc lv (.int y :: .int x :: st) := fun H locs ls hH hl => lv_iand F.1 F.2.1 d (k H locs ls hH hl)
theorem j_ior (F : Fx p s m args meth c cc own nL ret) {x y : Int32} (d : decode cc pc = .ok (.ior, 1)) (k : J p l e R s m args below meth c nL HP ce sl Q (pc + 1) lv (.int (x ||| y) :: st)) : J p l e R s m args below meth c nL HP ce sl Q pc lv (.int y :: .int x :: st) := fun H locs ls hH hl => lv_ior F.1 F.2.1 d (k H locs ls hH hl)
theorem j_ixor (F : Fx p s m args meth c cc own nL ret) {x y : Int32} (d : decode cc pc = .ok (.ixor, 1)) (k : J p l e R s m args below meth c nL HP ce sl Q (pc + 1) lv (.int (x ^^^ y) :: st)) : J p l e R s m args below meth c nL HP ce sl Q pc lv (.int y :: .int x :: st) := fun H locs ls hH hl => lv_ixor F.1 F.2.1 d (k H locs ls hH hl)
theorem j_ishl (F : Fx p s m args meth c cc own nL ret) {x y : Int32} (d : decode cc pc = .ok (.ishl, 1)) (k : J p l e R s m args below meth c nL HP ce sl Q (pc + 1) lv (.int (x <<< (y &&& 31)) :: st)) : J p l e R s m args below meth c nL HP ce sl Q pc lv (.int y :: .int x :: st) := fun H locs ls hH hl => lv_ishl F.1 F.2.1 d (k H locs ls hH hl)
theorem j_ishr (F : Fx p s m args meth c cc own nL ret) {x y : Int32} (d : decode cc pc = .ok (.ishr, 1)) (k : J p l e R s m args below meth c nL HP ce sl Q (pc + 1) lv (.int (x >>> (y &&& 31)) :: st)) : J p l e R s m args below meth c nL HP ce sl Q pc lv (.int y :: .int x :: st) := fun H locs ls hH hl => lv_ishr F.1 F.2.1 d (k H locs ls hH hl)
theorem j_idiv (F : Fx p s m args meth c cc own nL ret) {x y : Int32} (d : decode cc pc = .ok (.idiv, 1)) (hne : ¬ y = 0) (k : J p l e R s m args below meth c nL HP ce sl Q (pc + 1) lv (.int (x / y) :: st)) : J p l e R s m args below meth c nL HP ce sl Q pc lv (.int y :: .int x :: st) := fun H locs ls hH hl => lv_idiv F.1 F.2.1 d hne (k H locs ls hH hl)
theorem j_irem (F : Fx p s m args meth c cc own nL ret) {x y : Int32} (d : decode cc pc = .ok (.irem, 1)) (hne : ¬ y = 0) (k : J p l e R s m args below meth c nL HP ce sl Q (pc + 1) lv (.int (x - x / y * y) :: st)) : J p l e R s m args below meth c nL HP ce sl Q pc lv (.int y :: .int x :: st) := fun H locs ls hH hl => lv_irem F.1 F.2.1 d hne (k H locs ls hH hl)
theorem j_ineg (F : Fx p s m args meth c cc own nL ret) {x : Int32} (d : decode cc pc = .ok (.ineg, 1)) (k : J p l e R s m args below meth c nL HP ce sl Q (pc + 1) lv (.int (-x) :: st)) : J p l e R s m args below meth c nL HP ce sl Q pc lv (.int x :: st) := fun H locs ls hH hl => lv_ineg F.1 F.2.1 d (k H locs ls hH hl)
theorem j_ladd (F : Fx p s m args meth c cc own nL ret) {x y : Int64} (d : decode cc pc = .ok (.ladd, 1)) (k : J p l e R s m args below meth c nL HP ce sl Q (pc + 1) lv (.long (x + y) :: st)) : J p l e R s m args below meth c nL HP ce sl Q pc lv (.long y :: .long x :: st) := fun H locs ls hH hl => lv_ladd F.1 F.2.1 d (k H locs ls hH hl)
theorem j_lsub (F : Fx p s m args meth c cc own nL ret) {x y : Int64} (d : decode cc pc = .ok (.lsub, 1)) (k : J p l e R s m args below meth c nL HP ce sl Q (pc + 1) lv (.long (x - y) :: st)) : J p l e R s m args below meth c nL HP ce sl Q pc lv (.long y :: .long x :: st) := fun H locs ls hH hl => lv_lsub F.1 F.2.1 d (k H locs ls hH hl)
theorem j_lmul (F : Fx p s m args meth c cc own nL ret) {x y : Int64} (d : decode cc pc = .ok (.lmul, 1)) (k : J p l e R s m args below meth c nL HP ce sl Q (pc + 1) lv (.long (x * y) :: st)) : J p l e R s m args below meth c nL HP ce sl Q pc lv (.long y :: .long x :: st) := fun H locs ls hH hl => lv_lmul F.1 F.2.1 d (k H locs ls hH hl)
theorem j_land (F : Fx p s m args meth c cc own nL ret) {x y : Int64} (d : decode cc pc = .ok (.land, 1)) (k : J p l e R s m args below meth c nL HP ce sl Q (pc + 1) lv (.long (x &&& y) :: st)) : J p l e R s m args below meth c nL HP ce sl Q pc lv (.long y :: .long x :: st) := fun H locs ls hH hl => lv_land F.1 F.2.1 d (k H locs ls hH hl)
theorem j_lor (F : Fx p s m args meth c cc own nL ret) {x y : Int64} (d : decode cc pc = .ok (.lor, 1)) (k : J p l e R s m args below meth c nL HP ce sl Q (pc + 1) lv (.long (x ||| y) :: st)) : J p l e R s m args below meth c nL HP ce sl Q pc lv (.long y :: .long x :: st) := fun H locs ls hH hl => lv_lor F.1 F.2.1 d (k H locs ls hH hl)
theorem j_lxor (F : Fx p s m args meth c cc own nL ret) {x y : Int64} (d : decode cc pc = .ok (.lxor, 1)) (k : J p l e R s m args below meth c nL HP ce sl Q (pc + 1) lv (.long (x ^^^ y) :: st)) : J p l e R s m args below meth c nL HP ce sl Q pc lv (.long y :: .long x :: st) := fun H locs ls hH hl => lv_lxor F.1 F.2.1 d (k H locs ls hH hl)
theorem j_ldiv (F : Fx p s m args meth c cc own nL ret) {x y : Int64} (d : decode cc pc = .ok (.ldiv, 1)) (hne : ¬ y = 0) (k : J p l e R s m args below meth c nL HP ce sl Q (pc + 1) lv (.long (x / y) :: st)) : J p l e R s m args below meth c nL HP ce sl Q pc lv (.long y :: .long x :: st) := fun H locs ls hH hl => lv_ldiv F.1 F.2.1 d hne (k H locs ls hH hl)
theorem j_lrem (F : Fx p s m args meth c cc own nL ret) {x y : Int64} (d : decode cc pc = .ok (.lrem, 1)) (hne : ¬ y = 0) (k : J p l e R s m args below meth c nL HP ce sl Q (pc + 1) lv (.long (x - x / y * y) :: st)) : J p l e R s m args below meth c nL HP ce sl Q pc lv (.long y :: .long x :: st) := fun H locs ls hH hl => lv_lrem F.1 F.2.1 d hne (k H locs ls hH hl)
theorem j_i2l (F : Fx p s m args meth c cc own nL ret) {x : Int32} (d : decode cc pc = .ok (.i2l, 1)) (k : J p l e R s m args below meth c nL HP ce sl Q (pc + 1) lv (.long x.toInt64 :: st)) : J p l e R s m args below meth c nL HP ce sl Q pc lv (.int x :: st) := fun H locs ls hH hl => lv_i2l F.1 F.2.1 d rfl (k H locs ls hH hl)
theorem j_l2i (F : Fx p s m args meth c cc own nL ret) {x : Int64} (d : decode cc pc = .ok (.l2i, 1)) (k : J p l e R s m args below meth c nL HP ce sl Q (pc + 1) lv (.int x.toInt32 :: st)) : J p l e R s m args below meth c nL HP ce sl Q pc lv (.long x :: st) := fun H locs ls hH hl => lv_l2i F.1 F.2.1 d rfl (k H locs ls hH hl)
theorem j_i2c (F : Fx p s m args meth c cc own nL ret) {x : Int32} (d : decode cc pc = .ok (.i2c, 1)) (k : J p l e R s m args below meth c nL HP ce sl Q (pc + 1) lv (.int (x.toUInt32 % 65536).toInt32 :: st)) : J p l e R s m args below meth c nL HP ce sl Q pc lv (.int x :: st) := fun H locs ls hH hl => lv_i2c F.1 F.2.1 d rfl (k H locs ls hH hl)
theorem j_iushr (F : Fx p s m args meth c cc own nL ret) {x y : Int32} (d : decode cc pc = .ok (.iushr, 1)) (k : J p l e R s m args below meth c nL HP ce sl Q (pc + 1) lv (.int (x.toUInt32 >>> (y.toUInt32 &&& Int32.toUInt32 31)).toInt32 :: st)) : J p l e R s m args below meth c nL HP ce sl Q pc lv (.int y :: .int x :: st) := fun H locs ls hH hl => lv_iushr F.1 F.2.1 d rfl (k H locs ls hH hl)
theorem j_lushr (F : Fx p s m args meth c cc own nL ret) {x : Int64} {y : Int32} (d : decode cc pc = .ok (.lushr, 1)) (k : J p l e R s m args below meth c nL HP ce sl Q (pc + 1) lv (.long (x.toUInt64 >>> (y.toInt64.toUInt64 &&& Int64.toUInt64 63)).toInt64 :: st)) : J p l e R s m args below meth c nL HP ce sl Q pc lv (.int y :: .long x :: st) := fun H locs ls hH hl => lv_lushr F.1 F.2.1 d rfl (k H locs ls hH hl)
theorem j_lshl (F : Fx p s m args meth c cc own nL ret) {x : Int64} {y : Int32} (d : decode cc pc = .ok (.lshl, 1)) (k : J p l e R s m args below meth c nL HP ce sl Q (pc + 1) lv (.long (x <<< (y.toInt64 &&& 63)) :: st)) : J p l e R s m args below meth c nL HP ce sl Q pc lv (.int y :: .long x :: st) := fun H locs ls hH hl => lv_lshl F.1 F.2.1 d rfl (k H locs ls hH hl)
theorem j_dup (F : Fx p s m args meth c cc own nL ret) {va : Value} (d : decode cc pc = .ok (.dup, 1)) (h : va.category = 1) (k : J p l e R s m args below meth c nL HP ce sl Q (pc + 1) lv (va :: va :: st)) : J p l e R s m args below meth c nL HP ce sl Q pc lv (va :: st) := fun H locs ls hH hl => lv_dup F.1 F.2.1 d h (k H locs ls hH hl)
theorem j_pop (F : Fx p s m args meth c cc own nL ret) {va : Value} (d : decode cc pc = .ok (.pop, 1)) (h : va.category = 1) (k : J p l e R s m args below meth c nL HP ce sl Q (pc + 1) lv st) : J p l e R s m args below meth c nL HP ce sl Q pc lv (va :: st) := fun H locs ls hH hl => lv_pop F.1 F.2.1 d h (k H locs ls hH hl)
theorem j_if_eq (F : Fx p s m args meth c cc own nL ret) {x : Int32} {off : Int} {tgt : Nat} (d : decode cc pc = .ok (.ifCond .eq off, 3)) (ht : (pc : Int) + off = (tgt : Int)) (kt : x = 0 → J p l e R s m args below meth c nL HP ce sl Q tgt lv st) (kf : ¬ x = 0 → J p l e R s m args below meth c nL HP ce sl Q (pc + 3) lv st) : J p l e R s m args below meth c nL HP ce sl Q pc lv (.int x :: st) := fun H locs ls hH hl => lv_if_eq F.1 F.2.1 d ht (fun h => kt h H locs ls hH hl) (fun h => kf h H locs ls hH hl)
theorem j_icmp_eq (F : Fx p s m args meth c cc own nL ret) {x y : Int32} {off : Int} {tgt : Nat} (d : decode cc pc = .ok (.if_icmp .eq off, 3)) (ht : (pc : Int) + off = (tgt : Int)) (kt : x = y → J p l e R s m args below meth c nL HP ce sl Q tgt lv st) (kf : ¬ x = y → J p l e R s m args below meth c nL HP ce sl Q (pc + 3) lv st) : J p l e R s m args below meth c nL HP ce sl Q pc lv (.int y :: .int x :: st) := fun H locs ls hH hl => lv_icmp_eq F.1 F.2.1 d ht (fun h => kt h H locs ls hH hl) (fun h => kf h H locs ls hH hl)
theorem j_if_ne (F : Fx p s m args meth c cc own nL ret) {x : Int32} {off : Int} {tgt : Nat} (d : decode cc pc = .ok (.ifCond .ne off, 3)) (ht : (pc : Int) + off = (tgt : Int)) (kt : ¬ x = 0 → J p l e R s m args below meth c nL HP ce sl Q tgt lv st) (kf : x = 0 → J p l e R s m args below meth c nL HP ce sl Q (pc + 3) lv st) : J p l e R s m args below meth c nL HP ce sl Q pc lv (.int x :: st) := fun H locs ls hH hl => lv_if_ne F.1 F.2.1 d ht (fun h => kt h H locs ls hH hl) (fun h => kf h H locs ls hH hl)
theorem j_icmp_ne (F : Fx p s m args meth c cc own nL ret) {x y : Int32} {off : Int} {tgt : Nat} (d : decode cc pc = .ok (.if_icmp .ne off, 3)) (ht : (pc : Int) + off = (tgt : Int)) (kt : ¬ x = y → J p l e R s m args below meth c nL HP ce sl Q tgt lv st) (kf : x = y → J p l e R s m args below meth c nL HP ce sl Q (pc + 3) lv st) : J p l e R s m args below meth c nL HP ce sl Q pc lv (.int y :: .int x :: st) := fun H locs ls hH hl => lv_icmp_ne F.1 F.2.1 d ht (fun h => kt h H locs ls hH hl) (fun h => kf h H locs ls hH hl)
theorem j_if_lt (F : Fx p s m args meth c cc own nL ret) {x : Int32} {off : Int} {tgt : Nat} (d : decode cc pc = .ok (.ifCond .lt off, 3)) (ht : (pc : Int) + off = (tgt : Int)) (kt : x < 0 → J p l e R s m args below meth c nL HP ce sl Q tgt lv st) (kf : ¬ x < 0 → J p l e R s m args below meth c nL HP ce sl Q (pc + 3) lv st) : J p l e R s m args below meth c nL HP ce sl Q pc lv (.int x :: st) := fun H locs ls hH hl => lv_if_lt F.1 F.2.1 d ht (fun h => kt h H locs ls hH hl) (fun h => kf h H locs ls hH hl)
theorem j_icmp_lt (F : Fx p s m args meth c cc own nL ret) {x y : Int32} {off : Int} {tgt : Nat} (d : decode cc pc = .ok (.if_icmp .lt off, 3)) (ht : (pc : Int) + off = (tgt : Int)) (kt : x < y → J p l e R s m args below meth c nL HP ce sl Q tgt lv st) (kf : ¬ x < y → J p l e R s m args below meth c nL HP ce sl Q (pc + 3) lv st) : J p l e R s m args below meth c nL HP ce sl Q pc lv (.int y :: .int x :: st) := fun H locs ls hH hl => lv_icmp_lt F.1 F.2.1 d ht (fun h => kt h H locs ls hH hl) (fun h => kf h H locs ls hH hl)
theorem j_if_ge (F : Fx p s m args meth c cc own nL ret) {x : Int32} {off : Int} {tgt : Nat} (d : decode cc pc = .ok (.ifCond .ge off, 3)) (ht : (pc : Int) + off = (tgt : Int)) (kt : 0 ≤ x → J p l e R s m args below meth c nL HP ce sl Q tgt lv st) (kf : ¬ 0 ≤ x → J p l e R s m args below meth c nL HP ce sl Q (pc + 3) lv st) : J p l e R s m args below meth c nL HP ce sl Q pc lv (.int x :: st) := fun H locs ls hH hl => lv_if_ge F.1 F.2.1 d ht (fun h => kt h H locs ls hH hl) (fun h => kf h H locs ls hH hl)
theorem j_icmp_ge (F : Fx p s m args meth c cc own nL ret) {x y : Int32} {off : Int} {tgt : Nat} (d : decode cc pc = .ok (.if_icmp .ge off, 3)) (ht : (pc : Int) + off = (tgt : Int)) (kt : y ≤ x → J p l e R s m args below meth c nL HP ce sl Q tgt lv st) (kf : ¬ y ≤ x → J p l e R s m args below meth c nL HP ce sl Q (pc + 3) lv st) : J p l e R s m args below meth c nL HP ce sl Q pc lv (.int y :: .int x :: st) := fun H locs ls hH hl => lv_icmp_ge F.1 F.2.1 d ht (fun h => kt h H locs ls hH hl) (fun h => kf h H locs ls hH hl)
theorem j_if_gt (F : Fx p s m args meth c cc own nL ret) {x : Int32} {off : Int} {tgt : Nat} (d : decode cc pc = .ok (.ifCond .gt off, 3)) (ht : (pc : Int) + off = (tgt : Int)) (kt : 0 < x → J p l e R s m args below meth c nL HP ce sl Q tgt lv st) (kf : ¬ 0 < x → J p l e R s m args below meth c nL HP ce sl Q (pc + 3) lv st) : J p l e R s m args below meth c nL HP ce sl Q pc lv (.int x :: st) := fun H locs ls hH hl => lv_if_gt F.1 F.2.1 d ht (fun h => kt h H locs ls hH hl) (fun h => kf h H locs ls hH hl)
theorem j_icmp_gt (F : Fx p s m args meth c cc own nL ret) {x y : Int32} {off : Int} {tgt : Nat} (d : decode cc pc = .ok (.if_icmp .gt off, 3)) (ht : (pc : Int) + off = (tgt : Int)) (kt : y < x → J p l e R s m args below meth c nL HP ce sl Q tgt lv st) (kf : ¬ y < x → J p l e R s m args below meth c nL HP ce sl Q (pc + 3) lv st) : J p l e R s m args below meth c nL HP ce sl Q pc lv (.int y :: .int x :: st) := fun H locs ls hH hl => lv_icmp_gt F.1 F.2.1 d ht (fun h => kt h H locs ls hH hl) (fun h => kf h H locs ls hH hl)
theorem j_if_le (F : Fx p s m args meth c cc own nL ret) {x : Int32} {off : Int} {tgt : Nat} (d : decode cc pc = .ok (.ifCond .le off, 3)) (ht : (pc : Int) + off = (tgt : Int)) (kt : x ≤ 0 → J p l e R s m args below meth c nL HP ce sl Q tgt lv st) (kf : ¬ x ≤ 0 → J p l e R s m args below meth c nL HP ce sl Q (pc + 3) lv st) : J p l e R s m args below meth c nL HP ce sl Q pc lv (.int x :: st) := fun H locs ls hH hl => lv_if_le F.1 F.2.1 d ht (fun h => kt h H locs ls hH hl) (fun h => kf h H locs ls hH hl)
theorem j_icmp_le (F : Fx p s m args meth c cc own nL ret) {x y : Int32} {off : Int} {tgt : Nat} (d : decode cc pc = .ok (.if_icmp .le off, 3)) (ht : (pc : Int) + off = (tgt : Int)) (kt : x ≤ y → J p l e R s m args below meth c nL HP ce sl Q tgt lv st) (kf : ¬ x ≤ y → J p l e R s m args below meth c nL HP ce sl Q (pc + 3) lv st) : J p l e R s m args below meth c nL HP ce sl Q pc lv (.int y :: .int x :: st) := fun H locs ls hH hl => lv_icmp_le F.1 F.2.1 d ht (fun h => kt h H locs ls hH hl) (fun h => kf h H locs ls hH hl)
theorem j_goto (F : Fx p s m args meth c cc own nL ret) {off : Int} {tgt : Nat} (d : decode cc pc = .ok (.goto off, 3)) (ht : (pc : Int) + off = (tgt : Int)) (k : J p l e R s m args below meth c nL HP ce sl Q tgt lv st) : J p l e R s m args below meth c nL HP ce sl Q pc lv st := fun H locs ls hH hl => lv_goto F.1 F.2.1 d ht (k H locs ls hH hl)
theorem j_ldc (F : Fx p s m args meth c cc own nL ret) {index : Nat} {v : Int32} (w : Cond.constant own index v ∈ tb) (d : decode cc pc = .ok (.ldc index, 2)) (k : J p l e R s m args below meth c nL HP ce sl Q (pc + 2) lv (.int v :: st)) : J p l e R s m args below meth c nL HP ce sl Q pc lv st := fun H locs ls hH hl => lv_ldc F.1 F.2.1 F.2.2.2.2.1 (F.2.2.2.2.2.1 _ w) d (k H locs ls hH hl)
theorem j_ldcw (F : Fx p s m args meth c cc own nL ret) {index : Nat} {v : Int32} (w : Cond.constant own index v ∈ tb) (d : decode cc pc = .ok (.ldc_w index, 3)) (k : J p l e R s m args below meth c nL HP ce sl Q (pc + 3) lv (.int v :: st)) : J p l e R s m args below meth c nL HP ce sl Q pc lv st := fun H locs ls hH hl => lv_ldcw F.1 F.2.1 F.2.2.2.2.1 (F.2.2.2.2.2.1 _ w) d (k H locs ls hH hl)
theorem j_ldc2 (F : Fx p s m args meth c cc own nL ret) {index : Nat} {v : Int64} (w : Cond.constantLong own index v ∈ tb) (d : decode cc pc = .ok (.ldc2_w index, 3)) (k : J p l e R s m args below meth c nL HP ce sl Q (pc + 3) lv (.long v :: st)) : J p l e R s m args below meth c nL HP ce sl Q pc lv st := fun H locs ls hH hl => lv_ldc2 F.1 F.2.1 F.2.2.2.2.1 (F.2.2.2.2.2.1 _ w) d (k H locs ls hH hl)
end JUDGE
end
section
def txS : Nat → String | 0 => "sun" | 1 => "moon" | 2 => "total" | 3 => "ring" | 4 => "part" | 5 => "whole" | 6 => "half" | 7 => "in" | 8 => "year" | 9 => "month" | 10 => "day" | 11 => "hour" | 12 => "of" | 13 => "even" | 14 => "leap" | _ => "moons"
def ixS : Nat → Nat | 0 => 102 | 1 => 108 | 2 => 123 | 3 => 125 | 4 => 127 | 5 => 129 | 6 => 131 | 7 => 133 | 8 => 138 | 9 => 140 | 10 => 142 | 11 => 144 | 12 => 155 | 13 => 183 | 14 => 187 | _ => 189
def lenS : List Nat := [3, 4, 5, 4, 4, 5, 4, 2, 4, 5, 3, 4, 2, 4, 4, 5]
def bytS : List (List Int32) := [[115, 117, 110], [109, 111, 111, 110], [116, 111, 116, 97, 108], [114, 105, 110, 103], [112, 97, 114, 116], [119, 104, 111, 108, 101], [104, 97, 108, 102], [105, 110], [121, 101, 97, 114], [109, 111, 110, 116, 104], [100, 97, 121], [104, 111, 117, 114], [111, 102], [101, 118, 101, 110], [108, 101, 97, 112], [109, 111, 111, 110, 115]]
/-! STATICS: four static rows, sixteen literals, one flag; worlds, contracts, calls -/
def sC : Nat → String | 0 => "EclipseHouse$Sky" | 1 => "EclipseHouse$Calendars" | _ => "EclipseHouse$Reader"
def sN : Nat → String | 0 => "WAVES" | 1 => "LEAP_MONTHS" | 2 => "LEAST" | _ => "GREATEST"
def sL : Nat → Nat | 0 => 10 | 1 => 12 | _ => 4
def sV : Nat → List Int32 | 0 => [0, 174, 342, 500, 643, 766, 866, 940, 985, 1000] | 1 => [31, 28, 31, 30, 31, 30, 31, 31, 30, 31, 30, 31] | 2 => [0, 1, 1, 0] | _ => [999, 13, 31, 23]
def sF (k j : Nat) : Int32 := (sV k).getD j 0
abbrev Gs : Type := (Nat → Nat) × (Nat → Nat) × (Nat → Nat)
def St (g : Gs) (A : Nat → Prop) (U : State) (H : Heap) : Prop :=
  (∀ k, k < 4 → va_Z (sC k) (sN k) "[I" (.ref (g.1 k)) A U H ∧ va_T .int (g.1 k) (sL k) (fun j => .int (sF k j)) A U H) ∧ vk_S 16 lenS bytS g.2.1 g.2.2 A U H ∧ (∀ i, i < 16 → vk_R RX3 (ixS i) (txS i) (g.2.1 i) U) ∧ va_Z "java/lang/String" "COMPACT_STRINGS" "Z" (.int 1) A U H
theorem St.warm {g : Gs} {A : Nat → Prop} {s U : State} {H : Heap} (hW : s.WarmedH U.vm) (h : St g A s H) : St g A U H :=
  ⟨fun k hk => ⟨va_Z.moved hW.alike (h.1 k hk).1, va_T.moved hW.alike (h.1 k hk).2⟩, vk_S.moved hW.alike h.2.1, fun i hi => vk_R.warm hW (h.2.2.1 i hi), va_Z.moved hW.alike h.2.2.2⟩
theorem St.same {g : Gs} {A : Nat → Prop} {s U : State} {H : Heap} (hv : U.vm = s.vm) (h : St g A s H) : St g A U H := by
  have ha : s.vm.Alike U.vm := by rw [hv]; exact Vm.Alike.refl _
  exact ⟨fun k hk => ⟨va_Z.moved ha (h.1 k hk).1, va_T.moved ha (h.1 k hk).2⟩, vk_S.moved ha h.2.1, fun i hi => vk_R.same hv (h.2.2.1 i hi), va_Z.moved ha h.2.2.2⟩
theorem St.kept {g : Gs} {A : Nat → Prop} {U : State} {H H1 : Heap} (h : St g A U H) (hq : ∀ a : Nat, a < H.size → ¬ A a → H1[a]? = H[a]?) : St g A U H1 :=
  ⟨fun k hk => ⟨(h.1 k hk).1.kept hq, (h.1 k hk).2.kept hq⟩, h.2.1.kept hq, h.2.2.1, h.2.2.2.kept hq⟩
theorem St.narrow {g : Gs} {A B : Nat → Prop} {U : State} {H : Heap} (h : St g A U H) (hAB : ∀ q, B q → A q) : St g B U H :=
  ⟨fun k hk => ⟨(h.1 k hk).1.narrow hAB, (h.1 k hk).2.narrow hAB⟩, h.2.1.narrow hAB, h.2.2.1, h.2.2.2.narrow hAB⟩
abbrev nA : Nat → Prop := fun _ => False
/-- what every method may rest on -/
def pre (D : va_G) (cy : Nat → ClassId) (g : Gs) (A : Nat → Prop) (w : va_W) (U : State) : Prop := va_P D vwCl w U.heap ∧ va_K D vwCl (tys cy) U ∧ St g A U U.heap
theorem pre.blind {D : va_G} {cy : Nat → ClassId} {g : Gs} {A : Nat → Prop} {w : va_W} {U : State} (h : pre D cy g A w U) (f : JFrame) (mk : MethodId) (a : Array Value) : pre D cy g A w (U.calling f mk a) :=
  ⟨h.1, va_K.moved (u := U) (U := U.calling f mk a) (Vm.Alike.refl U.vm) h.2.1, St.same (s := U) (U := U.calling f mk a) rfl h.2.2⟩
abbrev wsm (y : MethodName) (cc : ByteArray) (mL : Nat) (ret : Option FieldType) : List Cond := Cond.code y cc mL ret :: tb
/-- a reader's contract: it answers v, and changes nothing -/
def QR (v : Option Value) : Array Value → State → Outcome → State → Prop := fun _ st oc t => oc = .returned v ∧ t.heap = st.heap
def CR (l : Launch) (D : va_G) (cy : Nat → ClassId) (g : Gs) (y : MethodName) (cc : ByteArray) (mL : Nat) (ret : Option FieldType) (fr lo : Nat) (w : va_W) (avs : List Value) (v : Option Value) : Prop :=
  Met l y (wsm y cc mL ret) { frames := fr, cells := 0, slots := 0, locals := lo } (va_Pc avs (pre D cy g nA w)) (QR v) 0 0 nA
/-- a writer's contract: it answers v, its world is w' behind it -/
def QW (D : va_G) (A : Nat → Prop) (v : Option Value) (w' : va_W) : Array Value → State → Outcome → State → Prop := fun _ st oc t => oc = .returned v ∧ va_P D vwCl w' t.heap ∧ va_D A w' ∧ va_F A st t
def CW (l : Launch) (D : va_G) (cy : Nat → ClassId) (g : Gs) (y : MethodName) (cc : ByteArray) (mL : Nat) (ret : Option FieldType) (fr lo : Nat) (w : va_W) (avs : List Value) (v : Option Value) (w' : va_W) : Prop :=
  ∀ sz : Nat, Met l y (wsm y cc mL ret) { frames := fr, cells := 0, slots := 0, locals := lo } (va_Pc avs (fun U => U.heap.size = sz ∧ va_D (fun _ => True) w ∧ pre D cy g (va_A w sz) w U)) (QW D (va_A w sz) v w') 0 0 (va_A w sz)
def cfV (y : MethodName) (cc : ByteArray) (mL : Nat) (ret : Option FieldType) (n : Nat) : Prop :=
  Cond.instanceMethod y ∈ tb ∧ Cond.selects y.cls y y ∈ tb ∧ Cond.initialized y.cls ∈ tb ∧ Cond.code y cc mL ret ∈ tb ∧ y.cls ≠ "java/lang/invoke/MethodHandle" ∧ y.cls ≠ "java/lang/invoke/VarHandle" ∧ (parseMethodDescriptor y.desc).map (fun d => d.parameters.length) = some n
def cfS (y : MethodName) (cc : ByteArray) (mL : Nat) (ret : Option FieldType) (n : Nat) : Prop :=
  Cond.static y ∈ tb ∧ Cond.initialized y.cls ∈ tb ∧ Cond.code y cc mL ret ∈ tb ∧ y.cls ≠ "java/lang/invoke/MethodHandle" ∧ y.cls ≠ "java/lang/invoke/VarHandle" ∧ (parseMethodDescriptor y.desc).map (fun d => d.parameters.length) = some n
theorem goodV {own : String} {idx n : Nat} {y : MethodName} {cc : ByteArray} {mL : Nat} {ret : Option FieldType} (h1 : Cond.methodLink own idx y ∈ tb) (hf : cfV y cc mL ret n) : GoodIn tb (wsV own idx y.cls y (wsm y cc mL ret)) := by
  intro w hw
  have h : w ∈ tb := by
    simp only [wsV, wsm, List.mem_append, List.mem_cons, List.not_mem_nil, or_false] at hw
    rcases hw with (rfl | rfl | rfl | rfl) | rfl | h
    · exact h1
    · exact hf.1
    · exact hf.2.1
    · exact hf.2.2.1
    · exact hf.2.2.2.1
    · exact h
  exact ⟨h, good_of_word (tb_good h)⟩
theorem goodS {own : String} {idx n : Nat} {y : MethodName} {cc : ByteArray} {mL : Nat} {ret : Option FieldType} (h1 : Cond.methodLink own idx y ∈ tb) (hf : cfS y cc mL ret n) : GoodIn tb (va_wsS own idx y (wsm y cc mL ret)) := by
  intro w hw
  have h : w ∈ tb := by
    simp only [va_wsS, wsm, List.mem_append, List.mem_cons, List.not_mem_nil, or_false] at hw
    rcases hw with (rfl | rfl | rfl) | rfl | h
    · exact h1
    · exact hf.1
    · exact hf.2.1
    · exact hf.2.2.1
    · exact h
  exact ⟨h, good_of_word (tb_good h)⟩
theorem va_P_nil {D : va_G} {H : Heap} : va_P D vwCl [] H := fun k q h => by simp at h
section WORLD
variable {p : Program} {l : Launch} {e : Env} {R : Room} {s : State} {m : MethodId} {args : Array Value} {below : List Frame} {meth : Method} {c : Code}
variable {cc : ByteArray} {own : String} {nL : Nat} {ret : Option FieldType} {HP : Heap → List Loc → Prop} {Q : State → Prop} {ce sl : Nat}
variable {pc : Nat} {lv lv' : List (Nat × Value)} {st st0 : List Value} {D : va_G} {cy : Nat → ClassId} {g : Gs} {A : Nat → Prop} {w w' wc wr : va_W}
/-- from the walk to the contract -/
theorem met_R {y : MethodName} {fr lo : Nat} {avs : List Value} {v : Option Value} (hy : plainName y.cls = true) (hn : (lg_sl avs).length ≤ nL) (hlv : lv_args 0 avs = lv)
    (body : ∀ p e s m args below meth c, Fx p s m args meth c cc y.cls nL ret → va_P D vwCl w s.heap → va_K D vwCl (tys cy) s → St g nA s s.heap → J p l e { frames := fr, cells := 0, slots := 0, locals := lo } s m args below meth c nL (hR s) 0 0 (MQ below (QR v) args s 0 0 nA) 0 lv []) : CR l D cy g y cc nL ret fr lo w avs v := by
  refine Met.ofW (cc := cc) (maxL := nL) (ret := ret) hy rfl ?_
  intro p e s m args below meth c s₁ B hml hv
  obtain ⟨rfl, hP, hK, hS⟩ := hv
  have hts := atoms_spec (ws := wsm y cc nL ret) B.pre
  have hown : s.vm.findClass y.cls = some m.cls := findClass_of_methodNamed B.named
  have k := body p e s m avs.toArray below meth c ⟨B.exec, B.bytes, B.returns, hml, hown, fun w h => hts w (List.mem_cons_of_mem _ h), B.notSynchronized⟩ hP hK hS
  have hl := lv_entry avs (n := nL) hn
  rw [hlv] at hl
  rw [lg_entry_eq]
  exact k s.heap [] _ ⟨rfl, rfl⟩ hl
theorem met_W {y : MethodName} {fr lo : Nat} {avs : List Value} {v : Option Value} (hy : plainName y.cls = true) (hn : (lg_sl avs).length ≤ nL) (hlv : lv_args 0 avs = lv)
    (body : ∀ p e s m args below meth c A, Fx p s m args meth c cc y.cls nL ret → va_K D vwCl (tys cy) s → St g A s s.heap → (∀ q, s.heap.size ≤ q → A q) → J p l e { frames := fr, cells := 0, slots := 0, locals := lo } s m args below meth c nL (hW D A s w) 0 0 (MQ below (QW D A v w') args s 0 0 A) 0 lv []) : CW l D cy g y cc nL ret fr lo w avs v w' := by
  intro sz
  refine Met.ofW (cc := cc) (maxL := nL) (ret := ret) hy rfl ?_
  intro p e s m args below meth c s₁ B hml hv
  obtain ⟨rfl, hsz, hD, hP, hK, hS⟩ := hv
  have hts := atoms_spec (ws := wsm y cc nL ret) B.pre
  have hown : s.vm.findClass y.cls = some m.cls := findClass_of_methodNamed B.named
  have k := body p e s m avs.toArray below meth c (va_A w sz) ⟨B.exec, B.bytes, B.returns, hml, hown, fun w h => hts w (List.mem_cons_of_mem _ h), B.notSynchronized⟩ hK hS (fun q h => Or.inr (by rw [← hsz]; exact h))
  have hl := lv_entry avs (n := nL) hn
  rw [hlv] at hl
  rw [lg_entry_eq]
  exact k s.heap [] _ ⟨hP, hD.self, va_S.rf⟩ hl
/-- answers -/
theorem j_iretR {x r : Int32} (F : Fx p s m args meth c cc own nL (some .int)) (d : decode cc pc = .ok (.ireturn, 1)) (h : x = r) : J p l e R s m args below meth c nL (hR s) 0 0 (MQ below (QR (some (.int r))) args s 0 0 nA) pc lv [.int x] := by
  subst h
  intro H locs ls hH hl
  exact W.iret F.1 F.2.1 F.2.2.1 (fun t ht _ => ⟨rfl, by rw [ht]; exact hH.1⟩) (by rw [hH.2]; intro q h; cases h) d F.2.2.2.2.2.2
theorem j_zretR {x : Int32} {b : Bool} (F : Fx p s m args meth c cc own nL (some .boolean)) (d : decode cc pc = .ok (.ireturn, 1)) (h : x = bI b) : J p l e R s m args below meth c nL (hR s) 0 0 (MQ below (QR (some (.int (bI b)))) args s 0 0 nA) pc lv [.int x] := by
  subst h
  intro H locs ls hH hl
  exact W.zret F.1 F.2.1 F.2.2.1 (bI_nar b) (fun t ht _ => ⟨rfl, by rw [ht]; exact hH.1⟩) (by rw [hH.2]; intro q h; cases h) d F.2.2.2.2.2.2
theorem j_lretR {x r : Int64} (F : Fx p s m args meth c cc own nL (some .long)) (d : decode cc pc = .ok (.lreturn, 1)) (h : x = r) : J p l e R s m args below meth c nL (hR s) 0 0 (MQ below (QR (some (.long r))) args s 0 0 nA) pc lv [.long x] := by
  subst h
  intro H locs ls hH hl
  exact W.lret F.1 F.2.1 F.2.2.1 (fun t ht _ => ⟨rfl, by rw [ht]; exact hH.1⟩) (by rw [hH.2]; intro q h; cases h) d F.2.2.2.2.2.2
theorem j_iretW {x r : Int32} (F : Fx p s m args meth c cc own nL (some .int)) (d : decode cc pc = .ok (.ireturn, 1)) (h : x = r) (hw : w = w') : J p l e R s m args below meth c nL (hW D A s w) 0 0 (MQ below (QW D A (some (.int r)) w') args s 0 0 A) pc lv [.int x] := by
  subst h; subst hw
  intro H locs ls hH hl
  exact W.iret F.1 F.2.1 F.2.2.1 (fun t ht _ => ⟨rfl, by rw [ht]; exact hH.1, hH.2.1, hH.2.2.F ht⟩) hH.2.2.2.2 d F.2.2.2.2.2.2
theorem j_zretW {x : Int32} {b : Bool} (F : Fx p s m args meth c cc own nL (some .boolean)) (d : decode cc pc = .ok (.ireturn, 1)) (h : x = bI b) (hw : w = w') : J p l e R s m args below meth c nL (hW D A s w) 0 0 (MQ below (QW D A (some (.int (bI b))) w') args s 0 0 A) pc lv [.int x] := by
  subst h; subst hw
  intro H locs ls hH hl
  exact W.zret F.1 F.2.1 F.2.2.1 (bI_nar b) (fun t ht _ => ⟨rfl, by rw [ht]; exact hH.1, hH.2.1, hH.2.2.F ht⟩) hH.2.2.2.2 d F.2.2.2.2.2.2
theorem j_lretW {x r : Int64} (F : Fx p s m args meth c cc own nL (some .long)) (d : decode cc pc = .ok (.lreturn, 1)) (h : x = r) (hw : w = w') : J p l e R s m args below meth c nL (hW D A s w) 0 0 (MQ below (QW D A (some (.long r)) w') args s 0 0 A) pc lv [.long x] := by
  subst h; subst hw
  intro H locs ls hH hl
  exact W.lret F.1 F.2.1 F.2.2.1 (fun t ht _ => ⟨rfl, by rw [ht]; exact hH.1, hH.2.1, hH.2.2.F ht⟩) hH.2.2.2.2 d F.2.2.2.2.2.2
theorem j_vretW (F : Fx p s m args meth c cc own nL none) (d : decode cc pc = .ok (.return_, 1)) (hw : w = w') : J p l e R s m args below meth c nL (hW D A s w) 0 0 (MQ below (QW D A none w') args s 0 0 A) pc lv [] := by
  subst hw
  intro H locs ls hH hl
  exact W.vret F.1 F.2.1 F.2.2.1 (fun t ht _ => ⟨rfl, by rw [ht]; exact hH.1, hH.2.1, hH.2.2.F ht⟩) hH.2.2.2.2 d F.2.2.2.2.2.2
/-- fields -/
theorem jr_get (F : Fx p s m args meth c cc own nL ret) (hK : va_K D vwCl (tys cy) s) (hP : va_P D vwCl w s.heap) {C : String} {T : u_T} {N ci index a : Nat} {ref : String} {fs : List Value} {v : Value} (hin : ∀ w ∈ u_ws C T N, w ∈ tb) (q0 : Nat) (he : w[q0]? = some (a, .inr (ci, fs))) (hc : vwCl[ci]? = some (C, T, N)) (k : Nat) (hk : k < N) (hlink : Cond.fieldLink own index ref (T k).2.1 (T k).2.2.1 ∈ tb) (hsame : (T k).1 = ref) (hv : fs[k]? = some v) (d : decode cc pc = .ok (.getfield index, 3)) (kk : J p l e R s m args below meth c nL (hR s) ce sl Q (pc + 3) lv (v :: st)) : J p l e R s m args below meth c nL (hR s) ce sl Q pc lv (.ref a :: st) := by
  intro H locs ls hH hl
  have hP' : va_P D vwCl w H := by rw [hH.1]; exact hP
  exact va_get F.1 F.2.1 F.2.2.2.2.2.1 hin F.2.2.2.2.1 hK hP' q0 he hc k hk (F.2.2.2.2.2.1 _ hlink) (fun x h => by rw [← hsame]; exact h) hv d (kk H locs ls hH hl)
theorem jw_get (F : Fx p s m args meth c cc own nL ret) (hK : va_K D vwCl (tys cy) s) {C : String} {T : u_T} {N ci index a : Nat} {ref : String} {fs : List Value} {v : Value} (hin : ∀ w ∈ u_ws C T N, w ∈ tb) (q0 : Nat) (he : w[q0]? = some (a, .inr (ci, fs))) (hc : vwCl[ci]? = some (C, T, N)) (k : Nat) (hk : k < N) (hlink : Cond.fieldLink own index ref (T k).2.1 (T k).2.2.1 ∈ tb) (hsame : (T k).1 = ref) (hv : fs[k]? = some v) (d : decode cc pc = .ok (.getfield index, 3)) (kk : J p l e R s m args below meth c nL (hW D A s w) ce sl Q (pc + 3) lv (v :: st)) : J p l e R s m args below meth c nL (hW D A s w) ce sl Q pc lv (.ref a :: st) := by
  intro H locs ls hH hl
  exact va_get F.1 F.2.1 F.2.2.2.2.2.1 hin F.2.2.2.2.1 hK hH.1 q0 he hc k hk (F.2.2.2.2.2.1 _ hlink) (fun x h => by rw [← hsame]; exact h) hv d (kk H locs ls hH hl)
theorem jw_put (F : Fx p s m args meth c cc own nL ret) (hK : va_K D vwCl (tys cy) s) {C : String} {T : u_T} {N ci index a : Nat} {ref : String} {fs : List Value} {v : Value} {ty : FieldType} (hin : ∀ w ∈ u_ws C T N, w ∈ tb) (ty0 : Nat → FieldType) (hty : ∀ k, k < N → parseFieldDescriptor (T k).2.2.1 = some (ty0 k)) (hnm : ∀ a, a < N → ∀ b, b < N → a ≠ b → (T a).2.1 ≠ (T b).2.1) (q0 : Nat) (he : w[q0]? = some (a, .inr (ci, fs))) (hc : vwCl[ci]? = some (C, T, N)) (k : Nat) (hk : k < N) (hlink : Cond.fieldLink own index ref (T k).2.1 (T k).2.2.1 ∈ tb) (hsame : (T k).1 = ref) (hfin : (T k).2.2.2 = false) (hd : ty0 k = ty) (hn : narrow ty v = v) (hfit : fits ty v = true) (hlen : k < fs.length) (hw : w.set q0 (a, .inr (ci, fs.set k v)) = w') (d : decode cc pc = .ok (.putfield index, 3)) (kk : J p l e R s m args below meth c nL (hW D A s w') ce sl Q (pc + 3) lv st) : J p l e R s m args below meth c nL (hW D A s w) ce sl Q pc lv (v :: .ref a :: st) := by
  subst hw
  intro H locs ls hH hl
  exact va_put F.1 F.2.1 F.2.2.2.2.2.1 hin ty0 hty hnm F.2.2.2.2.1 hK hH.1 hH.2.1 hH.2.2 q0 he hc k hk (F.2.2.2.2.2.1 _ hlink) (fun x h => by rw [← hsame]; exact h) hfin (by rw [hty k hk, hd]) hn hfit hlen d (fun H1 locs1 h1 h2 h3 => kk H1 locs1 ls ⟨h1, h2, h3⟩ hl)
/-- rows -/
theorem jr_iald (F : Fx p s m args meth c cc own nL ret) (hK : va_K D vwCl (tys cy) s) (hP : va_P D vwCl w s.heap) {a n : Nat} {f : Nat → Int32} {i : Int32} (q0 : Nat) (he : w[q0]? = some (a, .inl (cy 0, n, .inl f))) (hin : ¬ (i < 0 ∨ n ≤ i.toNatClampNeg)) (d : decode cc pc = .ok (.iaload, 1)) (kk : J p l e R s m args below meth c nL (hR s) ce sl Q (pc + 1) lv (.int (f i.toNatClampNeg) :: st)) : J p l e R s m args below meth c nL (hR s) ce sl Q pc lv (.int i :: .ref a :: st) := by
  intro H locs ls hH hl
  have hP' : va_P D vwCl w H := by rw [hH.1]; exact hP
  exact va_iald F.1 F.2.1 hK hP' q0 0 he rfl hin d (kk H locs ls hH hl)
theorem jw_iald (F : Fx p s m args meth c cc own nL ret) (hK : va_K D vwCl (tys cy) s) {a n : Nat} {f : Nat → Int32} {i : Int32} (q0 : Nat) (he : w[q0]? = some (a, .inl (cy 0, n, .inl f))) (hin : ¬ (i < 0 ∨ n ≤ i.toNatClampNeg)) (d : decode cc pc = .ok (.iaload, 1)) (kk : J p l e R s m args below meth c nL (hW D A s w) ce sl Q (pc + 1) lv (.int (f i.toNatClampNeg) :: st)) : J p l e R s m args below meth c nL (hW D A s w) ce sl Q pc lv (.int i :: .ref a :: st) := by
  intro H locs ls hH hl
  exact va_iald F.1 F.2.1 hK hH.1 q0 0 he rfl hin d (kk H locs ls hH hl)
theorem jw_cald (F : Fx p s m args meth c cc own nL ret) (hK : va_K D vwCl (tys cy) s) {a n : Nat} {f : Nat → Int32} {i : Int32} (q0 : Nat) (he : w[q0]? = some (a, .inl (cy 1, n, .inl f))) (hin : ¬ (i < 0 ∨ n ≤ i.toNatClampNeg)) (d : decode cc pc = .ok (.caload, 1)) (kk : J p l e R s m args below meth c nL (hW D A s w) ce sl Q (pc + 1) lv (.int (f i.toNatClampNeg) :: st)) : J p l e R s m args below meth c nL (hW D A s w) ce sl Q pc lv (.int i :: .ref a :: st) := by
  intro H locs ls hH hl
  exact va_cald F.1 F.2.1 hK hH.1 q0 1 he rfl hin d (kk H locs ls hH hl)
theorem jr_lald (F : Fx p s m args meth c cc own nL ret) (hK : va_K D vwCl (tys cy) s) (hP : va_P D vwCl w s.heap) {a n : Nat} {f : Nat → Int64} {i : Int32} (q0 : Nat) (he : w[q0]? = some (a, .inl (cy 2, n, .inr (.inl f)))) (hin : ¬ (i < 0 ∨ n ≤ i.toNatClampNeg)) (d : decode cc pc = .ok (.laload, 1)) (kk : J p l e R s m args below meth c nL (hR s) ce sl Q (pc + 1) lv (.long (f i.toNatClampNeg) :: st)) : J p l e R s m args below meth c nL (hR s) ce sl Q pc lv (.int i :: .ref a :: st) := by
  intro H locs ls hH hl
  have hP' : va_P D vwCl w H := by rw [hH.1]; exact hP
  exact va_lald F.1 F.2.1 hK hP' q0 2 he rfl hin d (kk H locs ls hH hl)
theorem jw_iast (F : Fx p s m args meth c cc own nL ret) (hK : va_K D vwCl (tys cy) s) {a n : Nat} {f : Nat → Int32} {i x : Int32} (q0 : Nat) (he : w[q0]? = some (a, .inl (cy 0, n, .inl f))) (hin : ¬ (i < 0 ∨ n ≤ i.toNatClampNeg)) (hw : w.set q0 (a, .inl (cy 0, n, .inl (upd f i.toNatClampNeg x))) = w') (d : decode cc pc = .ok (.iastore, 1)) (kk : J p l e R s m args below meth c nL (hW D A s w') ce sl Q (pc + 1) lv st) : J p l e R s m args below meth c nL (hW D A s w) ce sl Q pc lv (.int x :: .int i :: .ref a :: st) := by
  subst hw
  intro H locs ls hH hl
  exact va_iast F.1 F.2.1 hK hH.1 hH.2.1 hH.2.2 q0 0 he rfl hin d (fun H1 locs1 h1 h2 h3 => kk H1 locs1 ls ⟨h1, h2, h3⟩ hl)
theorem jw_last (F : Fx p s m args meth c cc own nL ret) (hK : va_K D vwCl (tys cy) s) {a n : Nat} {f : Nat → Int64} {i : Int32} {x : Int64} (q0 : Nat) (he : w[q0]? = some (a, .inl (cy 2, n, .inr (.inl f)))) (hin : ¬ (i < 0 ∨ n ≤ i.toNatClampNeg)) (hw : w.set q0 (a, .inl (cy 2, n, .inr (.inl (vp_updL f i.toNatClampNeg x)))) = w') (d : decode cc pc = .ok (.lastore, 1)) (kk : J p l e R s m args below meth c nL (hW D A s w') ce sl Q (pc + 1) lv st) : J p l e R s m args below meth c nL (hW D A s w) ce sl Q pc lv (.long x :: .int i :: .ref a :: st) := by
  subst hw
  intro H locs ls hH hl
  exact va_last F.1 F.2.1 hK hH.1 hH.2.1 hH.2.2 q0 2 he rfl hin d (fun H1 locs1 h1 h2 h3 => kk H1 locs1 ls ⟨h1, h2, h3⟩ hl)
theorem jw_alenc (F : Fx p s m args meth c cc own nL ret) (hK : va_K D vwCl (tys cy) s) {a n : Nat} {f : Nat → Int32} {v : Int32} (q0 : Nat) (he : w[q0]? = some (a, .inl (cy 1, n, .inl f))) (hv : Int32.ofNat n = v) (d : decode cc pc = .ok (.arraylength, 1)) (kk : J p l e R s m args below meth c nL (hW D A s w) ce sl Q (pc + 1) lv (.int v :: st)) : J p l e R s m args below meth c nL (hW D A s w) ce sl Q pc lv (.ref a :: st) := by
  intro H locs ls hH hl
  exact va_alen F.1 F.2.1 hK hH.1 q0 1 he rfl hv d (kk H locs ls hH hl)
/-- the static rows -/
theorem jr_gets (F : Fx p s m args meth c cc own nL ret) (hS : St g nA s s.heap) (k : Nat) (hk : k < 4) {index : Nat} (hlink : Cond.fieldLink own index (sC k) (sN k) "[I" ∈ tb) (d : decode cc pc = .ok (.getstatic index, 3)) (kk : J p l e R s m args below meth c nL (hR s) ce sl Q (pc + 3) lv (.ref (g.1 k) :: st)) : J p l e R s m args below meth c nL (hR s) ce sl Q pc lv st := by
  intro H locs ls hH hl
  have hS' : va_S nA s.heap H locs := by rw [hH.1, hH.2]; exact va_S.rf
  exact va_gets F.1 F.2.1 (hS.1 k hk).1 hS' F.2.2.2.2.1 (F.2.2.2.2.2.1 _ hlink) (fun _ h => h) d (kk H locs ls hH hl)
theorem jw_gets (F : Fx p s m args meth c cc own nL ret) (hS : St g A s s.heap) (k : Nat) (hk : k < 4) {index : Nat} (hlink : Cond.fieldLink own index (sC k) (sN k) "[I" ∈ tb) (d : decode cc pc = .ok (.getstatic index, 3)) (kk : J p l e R s m args below meth c nL (hW D A s w) ce sl Q (pc + 3) lv (.ref (g.1 k) :: st)) : J p l e R s m args below meth c nL (hW D A s w) ce sl Q pc lv st := by
  intro H locs ls hH hl
  exact va_gets F.1 F.2.1 (hS.1 k hk).1 hH.2.2 F.2.2.2.2.1 (F.2.2.2.2.2.1 _ hlink) (fun _ h => h) d (kk H locs ls hH hl)
theorem jr_sald (F : Fx p s m args meth c cc own nL ret) (hS : St g nA s s.heap) (k : Nat) (hk : k < 4) {i : Int32} (hin : ¬ (i < 0 ∨ sL k ≤ i.toNatClampNeg)) (d : decode cc pc = .ok (.iaload, 1)) (kk : J p l e R s m args below meth c nL (hR s) ce sl Q (pc + 1) lv (.int (sF k i.toNatClampNeg) :: st)) : J p l e R s m args below meth c nL (hR s) ce sl Q pc lv (.int i :: .ref (g.1 k) :: st) := by
  intro H locs ls hH hl
  have hS' : va_S nA s.heap H locs := by rw [hH.1, hH.2]; exact va_S.rf
  exact va_ti F.1 F.2.1 (hS.1 k hk).2 hS' hin rfl d (kk H locs ls hH hl)
theorem jw_sald (F : Fx p s m args meth c cc own nL ret) (hS : St g A s s.heap) (k : Nat) (hk : k < 4) {i : Int32} (hin : ¬ (i < 0 ∨ sL k ≤ i.toNatClampNeg)) (d : decode cc pc = .ok (.iaload, 1)) (kk : J p l e R s m args below meth c nL (hW D A s w) ce sl Q (pc + 1) lv (.int (sF k i.toNatClampNeg) :: st)) : J p l e R s m args below meth c nL (hW D A s w) ce sl Q pc lv (.int i :: .ref (g.1 k) :: st) := by
  intro H locs ls hH hl
  exact va_ti F.1 F.2.1 (hS.1 k hk).2 hH.2.2 hin rfl d (kk H locs ls hH hl)
theorem jr_slen (F : Fx p s m args meth c cc own nL ret) (hS : St g nA s s.heap) (k : Nat) (hk : k < 4) {v : Int32} (hv : Int32.ofNat (sL k) = v) (d : decode cc pc = .ok (.arraylength, 1)) (kk : J p l e R s m args below meth c nL (hR s) ce sl Q (pc + 1) lv (.int v :: st)) : J p l e R s m args below meth c nL (hR s) ce sl Q pc lv (.ref (g.1 k) :: st) := by
  intro H locs ls hH hl
  have hS' : va_S nA s.heap H locs := by rw [hH.1, hH.2]; exact va_S.rf
  exact va_tlen F.1 F.2.1 (hS.1 k hk).2 hS' hv d (kk H locs ls hH hl)
/-- a literal -/
theorem jr_ldcS (F : Fx p s m args meth c cc RX3 nL ret) (hS : St g nA s s.heap) (i : Nat) (hi : i < 16) {index : Nat} (hx : ixS i = index) (d : decode cc pc = .ok (.ldc index, 2)) (kk : J p l e R s m args below meth c nL (hR s) ce sl Q (pc + 2) lv (.ref (g.2.1 i) :: st)) : J p l e R s m args below meth c nL (hR s) ce sl Q pc lv st := by
  subst hx
  intro H locs ls hH hl
  exact va_ldcS F.1 F.2.1 F.2.2.2.2.1 (hS.2.2.1 i hi) d (kk H locs ls hH hl)
theorem jw_ldcS (F : Fx p s m args meth c cc RX3 nL ret) (hS : St g A s s.heap) (i : Nat) (hi : i < 16) {index : Nat} (hx : ixS i = index) (d : decode cc pc = .ok (.ldc index, 2)) (kk : J p l e R s m args below meth c nL (hW D A s w) ce sl Q (pc + 2) lv (.ref (g.2.1 i) :: st)) : J p l e R s m args below meth c nL (hW D A s w) ce sl Q pc lv st := by
  subst hx
  intro H locs ls hH hl
  exact va_ldcS F.1 F.2.1 F.2.2.2.2.1 (hS.2.2.1 i hi) d (kk H locs ls hH hl)
/-- calls of readers -/
theorem w_callR {H : Heap} {locs : List Loc} {ls : Array Slot} {v : Option Value} {a : Array Value} {st0 : List Value} (hr : CallRun p l e R s m args below meth c H locs ce sl 0 0 (F0 m pc ls st0) st (QR v a) nA) (kk : W p l e R s m args below meth c H locs ce sl Q (F0 m (pc + 3) ls (v.toList ++ st))) : W p l e R s m args below meth c H locs ce sl Q (F0 m pc ls st0) := by
  intro T hT X
  obtain ⟨v', st₀, t, T', L, h0, X', hL, e1, ⟨hv, hh⟩, sp⟩ := hr T hT X
  cases hv
  obtain ⟨t2, a1, b1⟩ := kk T' (by rw [e1, hh, h0]) (Stand.forget X' (fun q h => (hL q h).elim))
  exact ⟨t2, sp t2 a1, b1⟩
theorem j_callRV (F : Fx p s m args meth c cc own nL ret) (hK : va_K D vwCl (tys cy) s) (hpre : ∀ H locs, HP H locs → va_P D vwCl wc H ∧ St g nA s H) {y : MethodName} {cc' : ByteArray} {mL' fr lo n idx b ci : Nat} {ret' : Option FieldType} {As : List Value} {v : Option Value} {fs : List Value} {q : vw_C}
    (hM : CR l D cy g y cc' mL' ret' fr lo wc (.ref b :: As) v) (h1 : Cond.methodLink own idx y ∈ tb) (hf : cfV y cc' mL' ret' n) (hfr : fr + 1 ≤ R.frames) (hlo : 8 + (mL' + 11) + lo ≤ R.locals) (hce : ce ≤ R.cells ∧ sl ≤ R.slots) (q0 : Nat) (he : wc[q0]? = some (b, .inr (ci, fs))) (hc : vwCl[ci]? = some q) (hq : q.1 = y.cls) (hn : As.length = n) (hst : st0 = As.reverse ++ .ref b :: st) (hcat : (st.map fun v => v.category).sum ≤ 8) {st1 : List Value} (hs1 : v.toList ++ st = st1) (d : decode cc pc = .ok (.invokevirtual idx, 3))
    (kk : J p l e R s m args below meth c nL HP ce sl Q (pc + 3) lv st1) : J p l e R s m args below meth c nL HP ce sl Q pc lv st0 := by
  subst hst; subst hs1
  intro H locs ls hH hl
  obtain ⟨hPc, hSc⟩ := hpre H locs hH
  have hrc := va_recv hK hPc hc he
  rw [hq] at hrc
  exact w_callR (W.runV ⟨F.1, F.2.1, F.2.2.2.1, F.2.2.2.2.1, F.2.2.2.2.2.1⟩ hM (cwV n F.2.2.2.2.2.1 (goodV h1 hf) rfl rfl rfl ⟨rfl, hf.2.2.2.2.1, hf.2.2.2.2.2.1, hf.2.2.2.2.2.2⟩ ⟨hfr, hlo⟩) ⟨fun a U f mk h => ⟨h.1, h.2.blind f mk a⟩, hrc, fun U hU hW => ⟨rfl, by rw [hU]; exact hPc, va_K.moved hW.alike hK, by rw [hU]; exact hSc.warm hW⟩⟩ rfl hn hl.1 rfl (lv_room hcat) d hce) (kk H locs ls hH hl)
theorem j_callRS (F : Fx p s m args meth c cc own nL ret) (hK : va_K D vwCl (tys cy) s) (hpre : ∀ H locs, HP H locs → va_P D vwCl wc H ∧ St g nA s H) {y : MethodName} {cc' : ByteArray} {mL' fr lo n idx : Nat} {ret' : Option FieldType} {As : List Value} {v : Option Value}
    (hM : CR l D cy g y cc' mL' ret' fr lo wc As v) (h1 : Cond.methodLink own idx y ∈ tb) (hf : cfS y cc' mL' ret' n) (hfr : fr + 1 ≤ R.frames) (hlo : 8 + (mL' + 11) + lo ≤ R.locals) (hce : ce ≤ R.cells ∧ sl ≤ R.slots) (hn : As.length = n) (hst : st0 = As.reverse ++ st) (hcat : (st.map fun v => v.category).sum ≤ 8) {st1 : List Value} (hs1 : v.toList ++ st = st1) (d : decode cc pc = .ok (.invokestatic idx, 3))
    (kk : J p l e R s m args below meth c nL HP ce sl Q (pc + 3) lv st1) : J p l e R s m args below meth c nL HP ce sl Q pc lv st0 := by
  subst hst; subst hs1
  intro H locs ls hH hl
  obtain ⟨hPc, hSc⟩ := hpre H locs hH
  exact w_callR (W.runS ⟨F.1, F.2.1, F.2.2.2.1, F.2.2.2.2.1, F.2.2.2.2.2.1⟩ hM (va_cwS n F.2.2.2.2.2.1 (goodS h1 hf) rfl rfl rfl ⟨hf.2.2.2.1, hf.2.2.2.2.1, hf.2.2.2.2.2⟩ ⟨hfr, hlo⟩) ⟨fun a U f mk h => ⟨h.1, h.2.blind f mk a⟩, fun U hU hW => ⟨rfl, by rw [hU]; exact hPc, va_K.moved hW.alike hK, by rw [hU]; exact hSc.warm hW⟩⟩ rfl hn hl.1 rfl (lv_room hcat) d hce) (kk H locs ls hH hl)
theorem hpR (hP : va_P D vwCl w s.heap) (hS : St g nA s s.heap) (hs : ∀ H, va_P D vwCl w H → va_P D vwCl wc H) : ∀ H locs, hR s H locs → va_P D vwCl wc H ∧ St g nA s H := fun H locs h => by rw [h.1]; exact ⟨hs _ hP, hS⟩
theorem hpW (hS : St g A s s.heap) (hs : ∀ H, va_P D vwCl w H → va_P D vwCl wc H) : ∀ H locs, hW D A s w H locs → va_P D vwCl wc H ∧ St g nA s H := fun H locs h => ⟨hs _ h.1, (hS.kept (fun a h1 h2 => h.2.2.2.1 a h1 h2)).narrow (fun _ h => h.elim)⟩
theorem hp_id : ∀ H, va_P D vwCl w H → va_P D vwCl w H := fun _ h => h
theorem hp_nil : ∀ H, va_P D vwCl w H → va_P D vwCl [] H := fun _ _ => va_P_nil
theorem hp_sub (is : List Nat) (hs : is.filterMap (fun i => w[i]?) = wc) : ∀ H, va_P D vwCl w H → va_P D vwCl wc H := fun _ h => h.sub is hs
/-- calls of writers -/
theorem w_callW {H : Heap} {locs : List Loc} {ls : Array Slot} {v : Option Value} {a : Array Value} {st0 : List Value} {A1 : Nat → Prop} (hr : va_Run p l e R s m args below meth c H locs ce sl 0 0 (F0 m pc ls st0) st (QW D A1 v w' a) A1) (hS : va_S A s.heap H locs) (hA : ∀ q, A1 q → A q)
    (kk : ∀ (H1 : Heap) (locs1 : List Loc), va_P D vwCl w' H1 → va_D A1 w' → (∀ q : Nat, q < H.size → ¬ A1 q → H1[q]? = H[q]?) → va_S A s.heap H1 locs1 → W p l e R s m args below meth c H1 locs1 ce sl Q (F0 m (pc + 3) ls (v.toList ++ st))) : W p l e R s m args below meth c H locs ce sl Q (F0 m pc ls st0) := by
  intro T hT X
  obtain ⟨v', st₀, t, T', L, h0, X', hL, e1, e2, ⟨hv, hp, hd, hz, hk⟩, sp⟩ := hr T hT X
  cases hv
  rw [h0] at hz hk
  obtain ⟨t2, a1, b1⟩ := kk T'.heap (locs ++ L) (by rw [e1]; exact hp) hd (fun q h1 h2 => by rw [e1]; exact hk q h1 h2)
    ⟨Nat.le_trans hS.1 (by rw [e1]; exact hz), fun q h1 h2 => by rw [e1, hk q (Nat.lt_of_lt_of_le h1 hS.1) (fun z => h2 (hA q z))]; exact hS.2.1 q h1 h2, fun q hq => by
      rcases List.mem_append.mp hq with h | h
      · exact hS.2.2 q h
      · exact hA _ (hL q h)⟩ T' rfl X'
  exact ⟨t2, sp t2 a1, b1⟩
theorem j_callWV (F : Fx p s m args meth c cc own nL ret) (hK : va_K D vwCl (tys cy) s) (hS : St g A s s.heap) (hA : ∀ q, s.heap.size ≤ q → A q) {y : MethodName} {cc' : ByteArray} {mL' fr lo n idx b ci : Nat} {ret' : Option FieldType} {As : List Value} {v : Option Value} {fs : List Value} {q : vw_C} {w1 : va_W}
    (hM : CW l D cy g y cc' mL' ret' fr lo wc (.ref b :: As) v w1) (h1 : Cond.methodLink own idx y ∈ tb) (hf : cfV y cc' mL' ret' n) (hfr : fr + 1 ≤ R.frames) (hlo : 8 + (mL' + 11) + lo ≤ R.locals) (hce : ce ≤ R.cells ∧ sl ≤ R.slots) (q0 : Nat) (he : wc[q0]? = some (b, .inr (ci, fs))) (hc : vwCl[ci]? = some q) (hq : q.1 = y.cls) (hn : As.length = n) (hst : st0 = As.reverse ++ .ref b :: st) (hcat : (st.map fun v => v.category).sum ≤ 8)
    (isC isR is : List Nat) (hC : isC.map (fun i => w[i]?) = wc.map some) (hRr : isR.map (fun i => w[i]?) = wr.map some) (hnC : va_nd isC = true) (hnR : va_nd isR = true) (hdis : ∀ i ∈ isR, i ∉ isC) (hnI : va_nd is = true) (hw : is.map (fun i => (wr ++ w1)[i]?) = w'.map some) {st1 : List Value} (hs1 : v.toList ++ st = st1) (d : decode cc pc = .ok (.invokevirtual idx, 3))
    (kk : J p l e R s m args below meth c nL (hW D A s w') ce sl Q (pc + 3) lv st1) : J p l e R s m args below meth c nL (hW D A s w) ce sl Q pc lv st0 := by
  subst hst; subst hs1
  intro H locs ls hH hl
  obtain ⟨hP, hD, hSS⟩ := hH
  have fm : ∀ {a b : va_W} {k : List Nat}, k.map (fun i => a[i]?) = b.map some → k.filterMap (fun i => a[i]?) = b := by
    intro a b k hk
    have e1 := congrArg (List.filterMap id) hk
    rw [List.filterMap_map, List.filterMap_map] at e1
    simpa using e1
  have hPc : va_P D vwCl wc H := hP.sub isC (fm hC)
  have hDc : va_D A wc := hD.sub isC hnC hC
  have hFc := va_free (wc := wc) hD hSS hA isC hC
  have hSc : St g (va_A wc H.size) s H := (hS.kept (fun a h1 h2 => hSS.2.1 a h1 h2)).narrow hFc
  have hrc := va_recv hK hPc hc he
  rw [hq] at hrc
  refine w_callW (A := A) (va_runV ⟨F.1, F.2.1, F.2.2.2.1, F.2.2.2.2.1, F.2.2.2.2.2.1⟩ (hM H.size) (cwV n F.2.2.2.2.2.1 (goodV h1 hf) rfl rfl rfl ⟨rfl, hf.2.2.2.2.1, hf.2.2.2.2.2.1, hf.2.2.2.2.2.2⟩ ⟨hfr, hlo⟩) ⟨fun a U f mk h => ⟨h.1, h.2.1, h.2.2.1, h.2.2.2.blind f mk a⟩, hrc, fun U hU hW => ⟨rfl, by rw [hU], hDc.weaken (fun _ _ _ _ => trivial), by rw [hU]; exact hPc, va_K.moved hW.alike hK, by rw [hU]; exact hSc.warm hW⟩⟩ rfl hn hl.1 rfl (lv_room hcat) d hce) hSS hFc (fun H1 locs1 hP1 hD1 hk1 hS1 => ?_)
  obtain ⟨hP2, hD2⟩ := va_join (wr := wr) (w1 := w1) hP hD isC isR hC hRr hnR hdis hk1 hFc hP1 hD1
  exact kk H1 locs1 ls ⟨hP2.sub is (fm hw), hD2.sub is hnI hw, hS1⟩ hl
/-- the callee's world is the caller's -/
theorem j_callWs (F : Fx p s m args meth c cc own nL ret) (hK : va_K D vwCl (tys cy) s) (hS : St g A s s.heap) (hA : ∀ q, s.heap.size ≤ q → A q) {y : MethodName} {cc' : ByteArray} {mL' fr lo n idx b ci : Nat} {ret' : Option FieldType} {As : List Value} {v : Option Value} {fs : List Value} {q : vw_C}
    (hM : CW l D cy g y cc' mL' ret' fr lo w (.ref b :: As) v w') (h1 : Cond.methodLink own idx y ∈ tb) (hf : cfV y cc' mL' ret' n) (hfr : fr + 1 ≤ R.frames) (hlo : 8 + (mL' + 11) + lo ≤ R.locals) (hce : ce ≤ R.cells ∧ sl ≤ R.slots) (q0 : Nat) (he : w[q0]? = some (b, .inr (ci, fs))) (hc : vwCl[ci]? = some q) (hq : q.1 = y.cls) (hn : As.length = n) (hst : st0 = As.reverse ++ .ref b :: st) (hcat : (st.map fun v => v.category).sum ≤ 8) {st1 : List Value} (hs1 : v.toList ++ st = st1) (d : decode cc pc = .ok (.invokevirtual idx, 3))
    (kk : J p l e R s m args below meth c nL (hW D A s w') ce sl Q (pc + 3) lv st1) : J p l e R s m args below meth c nL (hW D A s w) ce sl Q pc lv st0 := by
  subst hst; subst hs1
  intro H locs ls hH hl
  obtain ⟨hP, hD, hSS⟩ := hH
  have hFc : ∀ q, va_A w H.size q → A q := by
    intro q hq
    rcases hq with ⟨k, e, hk⟩ | h
    · exact hD.2 k _ hk
    · exact hA q (Nat.le_trans hSS.1 h)
  have hSc : St g (va_A w H.size) s H := (hS.kept (fun a h1 h2 => hSS.2.1 a h1 h2)).narrow hFc
  have hrc := va_recv hK hP hc he
  rw [hq] at hrc
  exact w_callW (A := A) (va_runV ⟨F.1, F.2.1, F.2.2.2.1, F.2.2.2.2.1, F.2.2.2.2.2.1⟩ (hM H.size) (cwV n F.2.2.2.2.2.1 (goodV h1 hf) rfl rfl rfl ⟨rfl, hf.2.2.2.2.1, hf.2.2.2.2.2.1, hf.2.2.2.2.2.2⟩ ⟨hfr, hlo⟩) ⟨fun a U f mk h => ⟨h.1, h.2.1, h.2.2.1, h.2.2.2.blind f mk a⟩, hrc, fun U hU hW => ⟨rfl, by rw [hU], hD.weaken (fun _ _ _ _ => trivial), by rw [hU]; exact hP, va_K.moved hW.alike hK, by rw [hU]; exact hSc.warm hW⟩⟩ rfl hn hl.1 rfl (lv_room hcat) d hce) hSS hFc (fun H1 locs1 hP1 hD1 hk1 hS1 => kk H1 locs1 ls ⟨hP1, hD1.weaken (fun k q _ h => hFc _ h), hS1⟩ hl)
/-- switches -/
theorem j_tabIn (F : Fx p s m args meth c cc own nL ret) {dflt lo hi : Int} {offs : Array Int} {len tgt : Nat} {x : Int32} (v : Int32) {off : Int} (d : decode cc pc = .ok (.tableswitch dflt lo hi offs, len)) (hx : x = v) (h1 : ¬ v.toInt < lo) (h2 : ¬ hi < v.toInt) (ho : offs[(v.toInt - lo).toNat]? = some off) (ht : (pc : Int) + off = (tgt : Int)) (kk : J p l e R s m args below meth c nL HP ce sl Q tgt lv st) : J p l e R s m args below meth c nL HP ce sl Q pc lv (.int x :: st) := by
  subst hx
  intro H locs ls hH hl
  exact lv_tableIn F.1 F.2.1 d h1 h2 ho ht (kk H locs ls hH hl)
theorem j_tabOut (F : Fx p s m args meth c cc own nL ret) {dflt : Int} {n : Nat} {offs : Array Int} {len tgt : Nat} {x : Int32} (d : decode cc pc = .ok (.tableswitch dflt 0 (n : Int) offs, len)) (hn : n < 2 ^ 31) (hx : ∀ j, j < n + 1 → ¬ x = nI j) (ht : (pc : Int) + dflt = (tgt : Int)) (kk : J p l e R s m args below meth c nL HP ce sl Q tgt lv st) : J p l e R s m args below meth c nL HP ce sl Q pc lv (.int x :: st) := by
  intro H locs ls hH hl
  refine lv_tableOut F.1 F.2.1 d ?_ ht (kk H locs ls hH hl)
  by_cases h0 : x < 0
  · exact Or.inl (by rw [Int32.lt_iff_toInt_lt] at h0; simpa using h0)
  · obtain ⟨j, hj, e⟩ := nI_of h0
    right
    rw [e, nI_toInt hj]
    by_cases h : j < n + 1
    · exact absurd e (hx j h)
    · omega
theorem j_lcmp (F : Fx p s m args meth c cc own nL ret) {x y : Int64} (d : decode cc pc = .ok (.lcmp, 1)) (kk : J p l e R s m args below meth c nL HP ce sl Q (pc + 1) lv (.int (lg_cmp x y) :: st)) : J p l e R s m args below meth c nL HP ce sl Q pc lv (.long y :: .long x :: st) := fun H locs ls hH hl => W.lcmp F.1 F.2.1 d (kk H locs ls hH hl)
end WORLD
/-- a name for a number -/
def lt {α β : Type} (x : α) (f : α → β) : β := f x
theorem of_lt {α β : Type} {x : α} {f : α → β} {o : β} (h : lt x f = o) : ∃ y, y = x ∧ f y = o := ⟨x, rfl, h⟩
section TOP
variable {p : Program} {l : Launch} {e : Env} {R : Room} {s : State} {m : MethodId} {args : Array Value} {below : List Frame} {meth : Method} {c : Code} {nL : Nat} {HP : Heap → List Loc → Prop} {Q : State → Prop} {ce sl : Nat} {pc : Nat} {lv : List (Nat × Value)} {st : List Value}
theorem j_topi {x y : Int32} (h : y = x) (k : J p l e R s m args below meth c nL HP ce sl Q pc lv (.int y :: st)) : J p l e R s m args below meth c nL HP ce sl Q pc lv (.int x :: st) := h ▸ k
theorem j_topl {x y : Int64} (h : y = x) (k : J p l e R s m args below meth c nL HP ce sl Q pc lv (.long y :: st)) : J p l e R s m args below meth c nL HP ce sl Q pc lv (.long x :: st) := h ▸ k
end TOP
end
section
def wlen : Nat → Nat | 34 => 3 | 35 => 4 | 36 => 5 | 37 => 4 | 38 => 4 | 39 => 5 | 40 => 4 | 41 => 4 | 42 => 5 | 43 => 3 | 44 => 4 | 45 => 2 | 46 => 2 | 47 => 4 | 48 => 4 | _ => 5
def wS (a : Nat → Nat) (cy : Nat → ClassId) (σ : St2) : va_W := [(a 0, .inr (4, [.int (σ 0 0), .int (σ 0 1), .int (σ 0 2), .int (σ 0 3), .int (σ 0 4), .int (σ 0 5), .ref (a 7), .ref (a 8), .ref (a 9)])), (a 7, .inl (cy 0, 1800, .inl (σ 7))), (a 8, .inl (cy 0, 1800, .inl (σ 8))), (a 9, .inl (cy 0, 1800, .inl (σ 9)))]
def wT (a : Nat → Nat) (cy : Nat → ClassId) (σ : St2) : va_W := [(a 0, .inr (5, [.ref (a 1), .int (σ 0 1)])), (a 1, .inl (cy 0, 200, .inl (σ 1)))]
def wR (a : Nat → Nat) (cy : Nat → ClassId) (σ : St2) : va_W := [(a 0, .inr (3, [.ref (a 1), .ref (a 2), .ref (a 3), .int (σ 0 3)])), (a 1, .inl (cy 0, 12, .inl (σ 1))), (a 2, .inl (cy 0, 12, .inl (σ 2))), (a 3, .inl (cy 0, 12, .inl (σ 3)))]
def wA (a : Nat → Nat) (cy : Nat → ClassId) (σ : St2 × (Int64)) : va_W := [(a 0, .inr (0, [.int (σ.1 0 0), .int (σ.1 0 1), .int (σ.1 0 2), .int (σ.1 0 3), .ref (a 5), .long σ.2, .int (σ.1 0 6)])), (a 5, .inl (cy 0, 4, .inl (σ.1 5)))]
def wM (a : Nat → Nat) (cy : Nat → ClassId) (σ : St2 × (Nat → Int64)) : va_W := [(a 0, .inr (7, [.int (σ.1 0 0), .int (σ.1 0 1), .int (σ.1 0 2), .int (σ.1 0 3), .int (σ.1 0 4), .ref (a 6), .ref (a 7), .ref (a 8), .ref (a 9), .ref (a 10), .int (σ.1 0 10), .int (σ.1 0 11), .int (σ.1 0 12), .ref (a 14), .int (σ.1 0 14), .int (σ.1 0 15), .int (σ.1 0 16), .int (σ.1 0 17), .int (σ.1 0 18), .int (σ.1 0 19), .int (σ.1 0 20), .int (σ.1 0 21), .int (σ.1 0 22), .ref (a 24), .ref (a 25), .ref (a 26), .int (σ.1 0 26), .ref (a 28), .ref (a 29), .ref (a 30), .ref (a 31), .ref (a 32), .int (σ.1 0 32), .int (σ.1 0 33), .ref (a 35), .ref (a 36), .ref (a 37), .ref (a 38), .ref (a 39), .ref (a 40), .ref (a 41), .ref (a 42), .ref (a 43), .ref (a 44), .ref (a 45), .ref (a 46), .ref (a 47), .ref (a 48), .ref (a 49), .ref (a 50)])), (a 6, .inl (cy 0, 12001, .inl (σ.1 6))), (a 7, .inl (cy 0, 12001, .inl (σ.1 7))), (a 8, .inl (cy 0, 12001, .inl (σ.1 8))), (a 9, .inl (cy 0, 10, .inl (σ.1 9))), (a 10, .inl (cy 0, 12, .inl (σ.1 10))), (a 14, .inl (cy 0, 200, .inl (σ.1 14))), (a 24, .inl (cy 2, 12, .inr (.inl σ.2))), (a 25, .inl (cy 0, 12, .inl (σ.1 25))), (a 26, .inl (cy 0, 12, .inl (σ.1 26))), (a 28, .inl (cy 0, 9, .inl (σ.1 28))), (a 29, .inl (cy 0, 36, .inl (σ.1 29))), (a 30, .inl (cy 0, 9, .inl (σ.1 30))), (a 31, .inl (cy 0, 9, .inl (σ.1 31))), (a 32, .inl (cy 0, 9, .inl (σ.1 32))), (a 35, .inl (cy 1, wlen 34, .inl (σ.1 35))), (a 36, .inl (cy 1, wlen 35, .inl (σ.1 36))), (a 37, .inl (cy 1, wlen 36, .inl (σ.1 37))), (a 38, .inl (cy 1, wlen 37, .inl (σ.1 38))), (a 39, .inl (cy 1, wlen 38, .inl (σ.1 39))), (a 40, .inl (cy 1, wlen 39, .inl (σ.1 40))), (a 41, .inl (cy 1, wlen 40, .inl (σ.1 41))), (a 42, .inl (cy 1, wlen 41, .inl (σ.1 42))), (a 43, .inl (cy 1, wlen 42, .inl (σ.1 43))), (a 44, .inl (cy 1, wlen 43, .inl (σ.1 44))), (a 45, .inl (cy 1, wlen 44, .inl (σ.1 45))), (a 46, .inl (cy 1, wlen 45, .inl (σ.1 46))), (a 47, .inl (cy 1, wlen 46, .inl (σ.1 47))), (a 48, .inl (cy 1, wlen 47, .inl (σ.1 48))), (a 49, .inl (cy 1, wlen 48, .inl (σ.1 49))), (a 50, .inl (cy 1, wlen 49, .inl (σ.1 50)))]
end
section
def f_J9_floorDiv_7cf53 (x0 : Int32) (x1 : Int32) : Option (Int32) := if x1 = 0 then none else if 0 ≤ (x0 ^^^ x1) then some (x0 / x1) else if ((x0 / x1) * x1) = x0 then some (x0 / x1) else some ((x0 / x1) - 1)
set_option maxHeartbeats 4000000 in
set_option maxRecDepth 100000 in
theorem c_J9_floorDiv_7cf53 {l : Launch} {D : va_G} {cy : Nat → ClassId} {g : Gs} {x0 : Int32} {x1 : Int32} {out : Int32} (hf : f_J9_floorDiv_7cf53 x0 x1 = some out) : CR l D cy g yJ9_floorDiv_7cf53 cJ9_floorDiv_7cf53 3 (some .int) 0 0 ([]) [.int x0, .int x1] (some (.int out)) := by
  unfold f_J9_floorDiv_7cf53 at hf
  refine met_R (lv := [(0, .int x0), (1, .int x1)]) (by decide) (Nat.le_of_ble_eq_true rfl) rfl ?_
  intro p e s m args below meth c F hP hK hS
  refine j_iload_n (pc := 0) F 0 dJ9_floorDiv_7cf53_0 rfl rfl ?_
  refine j_iload_n (pc := 1) F 1 dJ9_floorDiv_7cf53_1 rfl rfl ?_
  have c_1 : ¬ x1 = 0 := fun z => by rw [if_pos z] at hf; cases hf
  have hf := of_neg c_1 hf
  refine j_idiv (pc := 2) F dJ9_floorDiv_7cf53_2 c_1 ?_
  refine j_istore_n (pc := 3) (lv' := [(2, .int (x0 / x1)), (0, .int x0), (1, .int x1)]) F dJ9_floorDiv_7cf53_3 rfl (by decide) rfl ?_
  refine j_iload_n (pc := 4) F 1 dJ9_floorDiv_7cf53_4 rfl rfl ?_
  refine j_iload_n (pc := 5) F 2 dJ9_floorDiv_7cf53_5 rfl rfl ?_
  refine j_ixor (pc := 6) F dJ9_floorDiv_7cf53_6 ?_
  refine j_if_ge (pc := 7) (tgt := 21) F dJ9_floorDiv_7cf53_7 rfl (fun c_2 => ?_) (fun c_2 => ?_)
  · have hf := of_pos c_2 hf
    refine j_iload_n (pc := 21) F 0 dJ9_floorDiv_7cf53_21 rfl rfl ?_
    exact j_iretR (pc := 22) F dJ9_floorDiv_7cf53_22 (Option.some.inj hf)
  · have hf := of_neg c_2 hf
    refine j_iload_n (pc := 10) F 0 dJ9_floorDiv_7cf53_10 rfl rfl ?_
    refine j_iload_n (pc := 11) F 2 dJ9_floorDiv_7cf53_11 rfl rfl ?_
    refine j_imul (pc := 12) F dJ9_floorDiv_7cf53_12 ?_
    refine j_iload_n (pc := 13) F 1 dJ9_floorDiv_7cf53_13 rfl rfl ?_
    refine j_icmp_eq (pc := 14) (tgt := 21) F dJ9_floorDiv_7cf53_14 rfl (fun c_3 => ?_) (fun c_3 => ?_)
    · have hf := of_pos c_3 hf
      refine j_iload_n (pc := 21) F 0 dJ9_floorDiv_7cf53_21 rfl rfl ?_
      exact j_iretR (pc := 22) F dJ9_floorDiv_7cf53_22 (Option.some.inj hf)
    · have hf := of_neg c_3 hf
      refine j_iload_n (pc := 17) F 0 dJ9_floorDiv_7cf53_17 rfl rfl ?_
      refine j_iconst (pc := 18) F (v := 1) dJ9_floorDiv_7cf53_18 rfl ?_
      refine j_isub (pc := 19) F dJ9_floorDiv_7cf53_19 ?_
      exact j_iretR (pc := 20) F dJ9_floorDiv_7cf53_20 (Option.some.inj hf)
theorem cf_J9_floorDiv_7cf53 : cfS yJ9_floorDiv_7cf53 cJ9_floorDiv_7cf53 3 (some .int) 2 := ⟨tm_292, tm_61, tm_293, by decide, by decide, by decide +kernel⟩

def f_J9_min_7cf53 (x0 : Int32) (x1 : Int32) : Int32 := if x1 < x0 then x1 else x0
set_option maxHeartbeats 4000000 in
set_option maxRecDepth 100000 in
theorem c_J9_min_7cf53 {l : Launch} {D : va_G} {cy : Nat → ClassId} {g : Gs} {x0 : Int32} {x1 : Int32} {out : Int32} (hf : f_J9_min_7cf53 x0 x1 = out) : CR l D cy g yJ9_min_7cf53 cJ9_min_7cf53 2 (some .int) 0 0 ([]) [.int x0, .int x1] (some (.int out)) := by
  unfold f_J9_min_7cf53 at hf
  refine met_R (lv := [(0, .int x0), (1, .int x1)]) (by decide) (Nat.le_of_ble_eq_true rfl) rfl ?_
  intro p e s m args below meth c F hP hK hS
  refine j_iload_n (pc := 0) F 0 dJ9_min_7cf53_0 rfl rfl ?_
  refine j_iload_n (pc := 1) F 1 dJ9_min_7cf53_1 rfl rfl ?_
  refine j_icmp_gt (pc := 2) (tgt := 9) F dJ9_min_7cf53_2 rfl (fun c_1 => ?_) (fun c_1 => ?_)
  · have hf := of_pos c_1 hf
    refine j_iload_n (pc := 9) F 1 dJ9_min_7cf53_9 rfl rfl ?_
    exact j_iretR (pc := 10) F dJ9_min_7cf53_10 hf
  · have hf := of_neg c_1 hf
    refine j_iload_n (pc := 5) F 0 dJ9_min_7cf53_5 rfl rfl ?_
    refine j_goto (pc := 6) F (tgt := 10) dJ9_min_7cf53_6 rfl ?_
    exact j_iretR (pc := 10) F dJ9_min_7cf53_10 hf
theorem cf_J9_min_7cf53 : cfS yJ9_min_7cf53 cJ9_min_7cf53 2 (some .int) 2 := ⟨tm_301, tm_61, tm_302, by decide, by decide, by decide +kernel⟩

def f_X2_isCalendar (x0 : Int32) : Bool := if x0 < 0 then false else if 2 < x0 then false else true
set_option maxHeartbeats 4000000 in
set_option maxRecDepth 100000 in
theorem c_X2_isCalendar {l : Launch} {D : va_G} {cy : Nat → ClassId} {g : Gs} {x0 : Int32} {out : Bool} (hf : f_X2_isCalendar x0 = out) : CR l D cy g yX2_isCalendar cX2_isCalendar 1 (some .boolean) 0 0 ([]) [.int x0] (some (.int (bI out))) := by
  unfold f_X2_isCalendar at hf
  refine met_R (lv := [(0, .int x0)]) (by decide) (Nat.le_of_ble_eq_true rfl) rfl ?_
  intro p e s m args below meth c F hP hK hS
  refine j_iload_n (pc := 0) F 0 dX2_isCalendar_0 rfl rfl ?_
  refine j_if_lt (pc := 1) (tgt := 13) F dX2_isCalendar_1 rfl (fun c_1 => ?_) (fun c_1 => ?_)
  · have hf := of_pos c_1 hf
    refine j_iconst (pc := 13) F (v := 0) dX2_isCalendar_13 rfl ?_
    exact j_zretR (pc := 14) F dX2_isCalendar_14 (congrArg bI hf)
  · have hf := of_neg c_1 hf
    refine j_iload_n (pc := 4) F 0 dX2_isCalendar_4 rfl rfl ?_
    refine j_iconst (pc := 5) F (v := 2) dX2_isCalendar_5 rfl ?_
    refine j_icmp_gt (pc := 6) (tgt := 13) F dX2_isCalendar_6 rfl (fun c_2 => ?_) (fun c_2 => ?_)
    · have hf := of_pos c_2 hf
      refine j_iconst (pc := 13) F (v := 0) dX2_isCalendar_13 rfl ?_
      exact j_zretR (pc := 14) F dX2_isCalendar_14 (congrArg bI hf)
    · have hf := of_neg c_2 hf
      refine j_iconst (pc := 9) F (v := 1) dX2_isCalendar_9 rfl ?_
      refine j_goto (pc := 10) F (tgt := 14) dX2_isCalendar_10 rfl ?_
      exact j_zretR (pc := 14) F dX2_isCalendar_14 (congrArg bI hf)
theorem cf_X2_isCalendar : cfS yX2_isCalendar cX2_isCalendar 1 (some .boolean) 1 := ⟨tm_354, tm_62, tm_355, by decide, by decide, by decide +kernel⟩

def f_X2_firstDay (x0 : Int32) (x1 : Int32) : Int32 := if x0 = 0 then 365 * x1 else if x0 = 1 then (365 * x1) + ((x1 + 3) / 4) else (354 * x1) + (30 * (((7 * x1) + 13) / 19))
set_option maxHeartbeats 4000000 in
set_option maxRecDepth 100000 in
theorem c_X2_firstDay {l : Launch} {D : va_G} {cy : Nat → ClassId} {g : Gs} {x0 : Int32} {x1 : Int32} {out : Int32} (hf : f_X2_firstDay x0 x1 = out) : CR l D cy g yX2_firstDay cX2_firstDay 2 (some .int) 0 0 ([]) [.int x0, .int x1] (some (.int out)) := by
  unfold f_X2_firstDay at hf
  refine met_R (lv := [(0, .int x0), (1, .int x1)]) (by decide) (Nat.le_of_ble_eq_true rfl) rfl ?_
  intro p e s m args below meth c F hP hK hS
  refine j_iload_n (pc := 0) F 0 dX2_firstDay_0 rfl rfl ?_
  refine j_if_ne (pc := 1) (tgt := 10) F dX2_firstDay_1 rfl (fun c_1 => ?_) (fun c_1 => ?_)
  · have hf := of_neg c_1 hf
    refine j_iload_n (pc := 10) F 0 dX2_firstDay_10 rfl rfl ?_
    refine j_iconst (pc := 11) F (v := 1) dX2_firstDay_11 rfl ?_
    refine j_icmp_ne (pc := 12) (tgt := 27) F dX2_firstDay_12 rfl (fun c_2 => ?_) (fun c_2 => ?_)
    · have hf := of_neg c_2 hf
      refine j_sipush (pc := 27) F (v := 354) dX2_firstDay_27 rfl ?_
      refine j_iload_n (pc := 30) F 1 dX2_firstDay_30 rfl rfl ?_
      refine j_imul (pc := 31) F dX2_firstDay_31 ?_
      refine j_bipush (pc := 32) F (v := 30) dX2_firstDay_32 rfl ?_
      refine j_bipush (pc := 34) F (v := 7) dX2_firstDay_34 rfl ?_
      refine j_iload_n (pc := 36) F 1 dX2_firstDay_36 rfl rfl ?_
      refine j_imul (pc := 37) F dX2_firstDay_37 ?_
      refine j_bipush (pc := 38) F (v := 13) dX2_firstDay_38 rfl ?_
      refine j_iadd (pc := 40) F dX2_firstDay_40 ?_
      refine j_bipush (pc := 41) F (v := 19) dX2_firstDay_41 rfl ?_
      refine j_idiv (pc := 43) F dX2_firstDay_43 (by decide) ?_
      refine j_imul (pc := 44) F dX2_firstDay_44 ?_
      refine j_iadd (pc := 45) F dX2_firstDay_45 ?_
      exact j_iretR (pc := 46) F dX2_firstDay_46 hf
    · have hf := of_pos c_2 hf
      refine j_sipush (pc := 15) F (v := 365) dX2_firstDay_15 rfl ?_
      refine j_iload_n (pc := 18) F 1 dX2_firstDay_18 rfl rfl ?_
      refine j_imul (pc := 19) F dX2_firstDay_19 ?_
      refine j_iload_n (pc := 20) F 1 dX2_firstDay_20 rfl rfl ?_
      refine j_iconst (pc := 21) F (v := 3) dX2_firstDay_21 rfl ?_
      refine j_iadd (pc := 22) F dX2_firstDay_22 ?_
      refine j_iconst (pc := 23) F (v := 4) dX2_firstDay_23 rfl ?_
      refine j_idiv (pc := 24) F dX2_firstDay_24 (by decide) ?_
      refine j_iadd (pc := 25) F dX2_firstDay_25 ?_
      exact j_iretR (pc := 26) F dX2_firstDay_26 hf
  · have hf := of_pos c_1 hf
    refine j_sipush (pc := 4) F (v := 365) dX2_firstDay_4 rfl ?_
    refine j_iload_n (pc := 7) F 1 dX2_firstDay_7 rfl rfl ?_
    refine j_imul (pc := 8) F dX2_firstDay_8 ?_
    exact j_iretR (pc := 9) F dX2_firstDay_9 hf
theorem cf_X2_firstDay : cfS yX2_firstDay cX2_firstDay 2 (some .int) 2 := ⟨tm_363, tm_62, tm_364, by decide, by decide, by decide +kernel⟩

def f_X2_monthLength_48 (y0 : Int32) (y1 : Int32) (y2 : Int32) : Option (Int32) := if y0 = 2 then if 7 ≤ (((7 * y1) + 1) - ((7 * y1) + 1) / 19 * 19) then some 0 else some 30 else if y2 ≤ 12 then if y2 = 2 then if (y1 - y1 / 4 * 4) = 0 then some 29 else if (y2 - 1) < 0 ∨ 12 ≤ (y2 - 1).toNatClampNeg then none else some (sF 1 (y2 - 1).toNatClampNeg) else if (y2 - 1) < 0 ∨ 12 ≤ (y2 - 1).toNatClampNeg then none else some (sF 1 (y2 - 1).toNatClampNeg) else some 0
def f_X2_monthLength (x0 : Int32) (x1 : Int32) (x2 : Int32) : Option (Int32) := if x2 < 1 then some 0 else if x2 ≤ 13 then if x0 = 0 then if 13 ≤ x2 then some 5 else some 30 else if x0 = 2 then if 13 ≤ x2 then f_X2_monthLength_48 x0 x1 x2 else some (29 + (x2 - x2 / 2 * 2)) else f_X2_monthLength_48 x0 x1 x2 else some 0
set_option maxHeartbeats 4000000 in
set_option maxRecDepth 100000 in
theorem b_X2_monthLength_48 {l : Launch} {D : va_G} {cy : Nat → ClassId} {g : Gs} {p : Program} {e : Env} {s : State} {m : MethodId} {args : Array Value} {below : List Frame} {meth : Method} {c : Code} {out : Int32} (F : Fx p s m args meth c cX2_monthLength RX2 3 (some .int)) (hP : va_P D vwCl ([]) s.heap) (hK : va_K D vwCl (tys cy) s) (hS : St g nA s s.heap) :
    ∀ (y0 : Int32) (y1 : Int32) (y2 : Int32), f_X2_monthLength_48 y0 y1 y2 = some out → J p l e { frames := 0, cells := 0, slots := 0, locals := 0 } s m args below meth c 3 (hR s) 0 0 (MQ below (QR (some (.int out))) args s 0 0 nA) 48 [(0, .int y0), (1, .int y1), (2, .int y2)] [] := by
  intro y0 y1 y2 hf
  unfold f_X2_monthLength_48 at hf
  refine j_iload_n (pc := 48) F 0 dX2_monthLength_48 rfl rfl ?_
  refine j_iconst (pc := 49) F (v := 2) dX2_monthLength_49 rfl ?_
  refine j_icmp_ne (pc := 50) (tgt := 74) F dX2_monthLength_50 rfl (fun c_1 => ?_) (fun c_1 => ?_)
  · have hf := of_neg c_1 hf
    refine j_iload_n (pc := 74) F 2 dX2_monthLength_74 rfl rfl ?_
    refine jr_gets (pc := 75) F hS 1 (by decide) tm_371 dX2_monthLength_75 ?_
    refine jr_slen (pc := 78) (v := 12) F hS 1 (by decide) rfl dX2_monthLength_78 ?_
    refine j_icmp_le (pc := 79) (tgt := 84) F dX2_monthLength_79 rfl (fun c_2 => ?_) (fun c_2 => ?_)
    · have hf := of_pos c_2 hf
      refine j_iload_n (pc := 84) F 2 dX2_monthLength_84 rfl rfl ?_
      refine j_iconst (pc := 85) F (v := 2) dX2_monthLength_85 rfl ?_
      refine j_icmp_ne (pc := 86) (tgt := 100) F dX2_monthLength_86 rfl (fun c_3 => ?_) (fun c_3 => ?_)
      · have hf := of_neg c_3 hf
        refine jr_gets (pc := 100) F hS 1 (by decide) tm_371 dX2_monthLength_100 ?_
        refine j_iload_n (pc := 103) F 2 dX2_monthLength_103 rfl rfl ?_
        refine j_iconst (pc := 104) F (v := 1) dX2_monthLength_104 rfl ?_
        refine j_isub (pc := 105) F dX2_monthLength_105 ?_
        have c_4 : ¬ ((y2 - 1) < 0 ∨ 12 ≤ (y2 - 1).toNatClampNeg) := fun z => by rw [if_pos z] at hf; cases hf
        have hf := of_neg c_4 hf
        refine jr_sald (pc := 106) F hS 1 (by decide) c_4 dX2_monthLength_106 ?_
        exact j_iretR (pc := 107) F dX2_monthLength_107 (Option.some.inj hf)
      · have hf := of_pos c_3 hf
        refine j_iload_n (pc := 89) F 1 dX2_monthLength_89 rfl rfl ?_
        refine j_iconst (pc := 90) F (v := 4) dX2_monthLength_90 rfl ?_
        refine j_irem (pc := 91) F dX2_monthLength_91 (by decide) ?_
        refine j_if_ne (pc := 92) (tgt := 100) F dX2_monthLength_92 rfl (fun c_5 => ?_) (fun c_5 => ?_)
        · have hf := of_neg c_5 hf
          refine jr_gets (pc := 100) F hS 1 (by decide) tm_371 dX2_monthLength_100 ?_
          refine j_iload_n (pc := 103) F 2 dX2_monthLength_103 rfl rfl ?_
          refine j_iconst (pc := 104) F (v := 1) dX2_monthLength_104 rfl ?_
          refine j_isub (pc := 105) F dX2_monthLength_105 ?_
          have c_6 : ¬ ((y2 - 1) < 0 ∨ 12 ≤ (y2 - 1).toNatClampNeg) := fun z => by rw [if_pos z] at hf; cases hf
          have hf := of_neg c_6 hf
          refine jr_sald (pc := 106) F hS 1 (by decide) c_6 dX2_monthLength_106 ?_
          exact j_iretR (pc := 107) F dX2_monthLength_107 (Option.some.inj hf)
        · have hf := of_pos c_5 hf
          refine j_bipush (pc := 95) F (v := 29) dX2_monthLength_95 rfl ?_
          refine j_goto (pc := 97) F (tgt := 107) dX2_monthLength_97 rfl ?_
          exact j_iretR (pc := 107) F dX2_monthLength_107 (Option.some.inj hf)
    · have hf := of_neg c_2 hf
      refine j_iconst (pc := 82) F (v := 0) dX2_monthLength_82 rfl ?_
      exact j_iretR (pc := 83) F dX2_monthLength_83 (Option.some.inj hf)
  · have hf := of_pos c_1 hf
    refine j_bipush (pc := 53) F (v := 7) dX2_monthLength_53 rfl ?_
    refine j_iload_n (pc := 55) F 1 dX2_monthLength_55 rfl rfl ?_
    refine j_imul (pc := 56) F dX2_monthLength_56 ?_
    refine j_iconst (pc := 57) F (v := 1) dX2_monthLength_57 rfl ?_
    refine j_iadd (pc := 58) F dX2_monthLength_58 ?_
    refine j_bipush (pc := 59) F (v := 19) dX2_monthLength_59 rfl ?_
    refine j_irem (pc := 61) F dX2_monthLength_61 (by decide) ?_
    refine j_bipush (pc := 62) F (v := 7) dX2_monthLength_62 rfl ?_
    refine j_icmp_ge (pc := 64) (tgt := 72) F dX2_monthLength_64 rfl (fun c_7 => ?_) (fun c_7 => ?_)
    · have hf := of_pos c_7 hf
      refine j_iconst (pc := 72) F (v := 0) dX2_monthLength_72 rfl ?_
      exact j_iretR (pc := 73) F dX2_monthLength_73 (Option.some.inj hf)
    · have hf := of_neg c_7 hf
      refine j_bipush (pc := 67) F (v := 30) dX2_monthLength_67 rfl ?_
      refine j_goto (pc := 69) F (tgt := 73) dX2_monthLength_69 rfl ?_
      exact j_iretR (pc := 73) F dX2_monthLength_73 (Option.some.inj hf)
set_option maxHeartbeats 4000000 in
set_option maxRecDepth 100000 in
theorem c_X2_monthLength {l : Launch} {D : va_G} {cy : Nat → ClassId} {g : Gs} {x0 : Int32} {x1 : Int32} {x2 : Int32} {out : Int32} (hf : f_X2_monthLength x0 x1 x2 = some out) : CR l D cy g yX2_monthLength cX2_monthLength 3 (some .int) 0 0 ([]) [.int x0, .int x1, .int x2] (some (.int out)) := by
  unfold f_X2_monthLength at hf
  refine met_R (lv := [(0, .int x0), (1, .int x1), (2, .int x2)]) (by decide) (Nat.le_of_ble_eq_true rfl) rfl ?_
  intro p e s m args below meth c F hP hK hS
  refine j_iload_n (pc := 0) F 2 dX2_monthLength_0 rfl rfl ?_
  refine j_iconst (pc := 1) F (v := 1) dX2_monthLength_1 rfl ?_
  refine j_icmp_lt (pc := 2) (tgt := 11) F dX2_monthLength_2 rfl (fun c_1 => ?_) (fun c_1 => ?_)
  · have hf := of_pos c_1 hf
    refine j_iconst (pc := 11) F (v := 0) dX2_monthLength_11 rfl ?_
    exact j_iretR (pc := 12) F dX2_monthLength_12 (Option.some.inj hf)
  · have hf := of_neg c_1 hf
    refine j_iload_n (pc := 5) F 2 dX2_monthLength_5 rfl rfl ?_
    refine j_bipush (pc := 6) F (v := 13) dX2_monthLength_6 rfl ?_
    refine j_icmp_le (pc := 8) (tgt := 13) F dX2_monthLength_8 rfl (fun c_2 => ?_) (fun c_2 => ?_)
    · have hf := of_pos c_2 hf
      refine j_iload_n (pc := 13) F 0 dX2_monthLength_13 rfl rfl ?_
      refine j_if_ne (pc := 14) (tgt := 30) F dX2_monthLength_14 rfl (fun c_3 => ?_) (fun c_3 => ?_)
      · have hf := of_neg c_3 hf
        refine j_iload_n (pc := 30) F 0 dX2_monthLength_30 rfl rfl ?_
        refine j_iconst (pc := 31) F (v := 2) dX2_monthLength_31 rfl ?_
        refine j_icmp_ne (pc := 32) (tgt := 48) F dX2_monthLength_32 rfl (fun c_4 => ?_) (fun c_4 => ?_)
        · have hf := of_neg c_4 hf
          exact b_X2_monthLength_48 F hP hK hS x0 x1 x2 hf
        · have hf := of_pos c_4 hf
          refine j_iload_n (pc := 35) F 2 dX2_monthLength_35 rfl rfl ?_
          refine j_bipush (pc := 36) F (v := 13) dX2_monthLength_36 rfl ?_
          refine j_icmp_ge (pc := 38) (tgt := 48) F dX2_monthLength_38 rfl (fun c_5 => ?_) (fun c_5 => ?_)
          · have hf := of_pos c_5 hf
            exact b_X2_monthLength_48 F hP hK hS x0 x1 x2 hf
          · have hf := of_neg c_5 hf
            refine j_bipush (pc := 41) F (v := 29) dX2_monthLength_41 rfl ?_
            refine j_iload_n (pc := 43) F 2 dX2_monthLength_43 rfl rfl ?_
            refine j_iconst (pc := 44) F (v := 2) dX2_monthLength_44 rfl ?_
            refine j_irem (pc := 45) F dX2_monthLength_45 (by decide) ?_
            refine j_iadd (pc := 46) F dX2_monthLength_46 ?_
            exact j_iretR (pc := 47) F dX2_monthLength_47 (Option.some.inj hf)
      · have hf := of_pos c_3 hf
        refine j_iload_n (pc := 17) F 2 dX2_monthLength_17 rfl rfl ?_
        refine j_bipush (pc := 18) F (v := 13) dX2_monthLength_18 rfl ?_
        refine j_icmp_ge (pc := 20) (tgt := 28) F dX2_monthLength_20 rfl (fun c_6 => ?_) (fun c_6 => ?_)
        · have hf := of_pos c_6 hf
          refine j_iconst (pc := 28) F (v := 5) dX2_monthLength_28 rfl ?_
          exact j_iretR (pc := 29) F dX2_monthLength_29 (Option.some.inj hf)
        · have hf := of_neg c_6 hf
          refine j_bipush (pc := 23) F (v := 30) dX2_monthLength_23 rfl ?_
          refine j_goto (pc := 25) F (tgt := 29) dX2_monthLength_25 rfl ?_
          exact j_iretR (pc := 29) F dX2_monthLength_29 (Option.some.inj hf)
    · have hf := of_neg c_2 hf
      refine j_iconst (pc := 11) F (v := 0) dX2_monthLength_11 rfl ?_
      exact j_iretR (pc := 12) F dX2_monthLength_12 (Option.some.inj hf)
theorem cf_X2_monthLength : cfS yX2_monthLength cX2_monthLength 3 (some .int) 3 := ⟨tm_369, tm_62, tm_370, by decide, by decide, by decide +kernel⟩

def f_X2_guessYear (x0 : Int32) (x1 : Int32) : Int32 := if x0 = 0 then x1 / 365 else if x0 = 1 then (4 * x1) / 1461 else (19 * x1) / 6936
set_option maxHeartbeats 4000000 in
set_option maxRecDepth 100000 in
theorem c_X2_guessYear {l : Launch} {D : va_G} {cy : Nat → ClassId} {g : Gs} {x0 : Int32} {x1 : Int32} {out : Int32} (hf : f_X2_guessYear x0 x1 = out) : CR l D cy g yX2_guessYear cX2_guessYear 2 (some .int) 0 0 ([]) [.int x0, .int x1] (some (.int out)) := by
  unfold f_X2_guessYear at hf
  refine met_R (lv := [(0, .int x0), (1, .int x1)]) (by decide) (Nat.le_of_ble_eq_true rfl) rfl ?_
  intro p e s m args below meth c F hP hK hS
  refine j_iload_n (pc := 0) F 0 dX2_guessYear_0 rfl rfl ?_
  refine j_if_ne (pc := 1) (tgt := 10) F dX2_guessYear_1 rfl (fun c_1 => ?_) (fun c_1 => ?_)
  · have hf := of_neg c_1 hf
    refine j_iload_n (pc := 10) F 0 dX2_guessYear_10 rfl rfl ?_
    refine j_iconst (pc := 11) F (v := 1) dX2_guessYear_11 rfl ?_
    refine j_icmp_ne (pc := 12) (tgt := 25) F dX2_guessYear_12 rfl (fun c_2 => ?_) (fun c_2 => ?_)
    · have hf := of_neg c_2 hf
      refine j_bipush (pc := 25) F (v := 19) dX2_guessYear_25 rfl ?_
      refine j_iload_n (pc := 27) F 1 dX2_guessYear_27 rfl rfl ?_
      refine j_imul (pc := 28) F dX2_guessYear_28 ?_
      refine j_sipush (pc := 29) F (v := 6936) dX2_guessYear_29 rfl ?_
      refine j_idiv (pc := 32) F dX2_guessYear_32 (by decide) ?_
      exact j_iretR (pc := 33) F dX2_guessYear_33 hf
    · have hf := of_pos c_2 hf
      refine j_iconst (pc := 15) F (v := 4) dX2_guessYear_15 rfl ?_
      refine j_iload_n (pc := 16) F 1 dX2_guessYear_16 rfl rfl ?_
      refine j_imul (pc := 17) F dX2_guessYear_17 ?_
      refine j_sipush (pc := 18) F (v := 1461) dX2_guessYear_18 rfl ?_
      refine j_idiv (pc := 21) F dX2_guessYear_21 (by decide) ?_
      refine j_goto (pc := 22) F (tgt := 33) dX2_guessYear_22 rfl ?_
      exact j_iretR (pc := 33) F dX2_guessYear_33 hf
  · have hf := of_pos c_1 hf
    refine j_iload_n (pc := 4) F 1 dX2_guessYear_4 rfl rfl ?_
    refine j_sipush (pc := 5) F (v := 365) dX2_guessYear_5 rfl ?_
    refine j_idiv (pc := 8) F dX2_guessYear_8 (by decide) ?_
    exact j_iretR (pc := 9) F dX2_guessYear_9 hf
theorem cf_X2_guessYear : cfS yX2_guessYear cX2_guessYear 2 (some .int) 2 := ⟨tm_360, tm_62, tm_361, by decide, by decide, by decide +kernel⟩

def f_X2_yearOf (x0 : Int32) (x1 : Int32) : Int32 := if (f_X2_firstDay x0 (f_X2_guessYear x0 x1)) ≤ x1 then if x1 < (f_X2_firstDay x0 ((f_X2_guessYear x0 x1) + 1)) then f_X2_guessYear x0 x1 else (f_X2_guessYear x0 x1) + 1 else (f_X2_guessYear x0 x1) - 1
set_option maxHeartbeats 4000000 in
set_option maxRecDepth 100000 in
theorem c_X2_yearOf {l : Launch} {D : va_G} {cy : Nat → ClassId} {g : Gs} {x0 : Int32} {x1 : Int32} {out : Int32} (hf : f_X2_yearOf x0 x1 = out) : CR l D cy g yX2_yearOf cX2_yearOf 3 (some .int) 1 21 ([]) [.int x0, .int x1] (some (.int out)) := by
  unfold f_X2_yearOf at hf
  refine met_R (lv := [(0, .int x0), (1, .int x1)]) (by decide) (Nat.le_of_ble_eq_true rfl) rfl ?_
  intro p e s m args below meth c F hP hK hS
  refine j_iload_n (pc := 0) F 0 dX2_yearOf_0 rfl rfl ?_
  refine j_iload_n (pc := 1) F 1 dX2_yearOf_1 rfl rfl ?_
  refine j_callRS (pc := 2) (st := []) (st1 := [.int (f_X2_guessYear x0 x1)]) F hK (hpR hP hS hp_nil) (c_X2_guessYear (l := l) (D := D) (cy := cy) (g := g) (rfl : f_X2_guessYear x0 x1 = _)) tm_359 cf_X2_guessYear (Nat.le_of_ble_eq_true rfl) (Nat.le_of_ble_eq_true rfl) ⟨Nat.zero_le _, Nat.zero_le _⟩ rfl rfl (Nat.le_of_ble_eq_true rfl) rfl dX2_yearOf_2 ?_
  refine j_istore_n (pc := 5) (lv' := [(2, .int (f_X2_guessYear x0 x1)), (0, .int x0), (1, .int x1)]) F dX2_yearOf_5 rfl (by decide) rfl ?_
  refine j_iload_n (pc := 6) F 1 dX2_yearOf_6 rfl rfl ?_
  refine j_iload_n (pc := 7) F 0 dX2_yearOf_7 rfl rfl ?_
  refine j_callRS (pc := 8) (st := []) (st1 := [.int (f_X2_firstDay x0 (f_X2_guessYear x0 x1))]) F hK (hpR hP hS hp_nil) (c_X2_firstDay (l := l) (D := D) (cy := cy) (g := g) (rfl : f_X2_firstDay x0 (f_X2_guessYear x0 x1) = _)) tm_362 cf_X2_firstDay (Nat.le_of_ble_eq_true rfl) (Nat.le_of_ble_eq_true rfl) ⟨Nat.zero_le _, Nat.zero_le _⟩ rfl rfl (Nat.le_of_ble_eq_true rfl) rfl dX2_yearOf_8 ?_
  refine j_iload_n (pc := 11) F 2 dX2_yearOf_11 rfl rfl ?_
  refine j_icmp_le (pc := 12) (tgt := 19) F dX2_yearOf_12 rfl (fun c_3 => ?_) (fun c_3 => ?_)
  · have hf := of_pos c_3 hf
    refine j_iload_n (pc := 19) F 1 dX2_yearOf_19 rfl rfl ?_
    refine j_iload_n (pc := 20) F 0 dX2_yearOf_20 rfl rfl ?_
    refine j_iconst (pc := 21) F (v := 1) dX2_yearOf_21 rfl ?_
    refine j_iadd (pc := 22) F dX2_yearOf_22 ?_
    refine j_callRS (pc := 23) (st := []) (st1 := [.int (f_X2_firstDay x0 ((f_X2_guessYear x0 x1) + 1))]) F hK (hpR hP hS hp_nil) (c_X2_firstDay (l := l) (D := D) (cy := cy) (g := g) (rfl : f_X2_firstDay x0 ((f_X2_guessYear x0 x1) + 1) = _)) tm_362 cf_X2_firstDay (Nat.le_of_ble_eq_true rfl) (Nat.le_of_ble_eq_true rfl) ⟨Nat.zero_le _, Nat.zero_le _⟩ rfl rfl (Nat.le_of_ble_eq_true rfl) rfl dX2_yearOf_23 ?_
    refine j_iload_n (pc := 26) F 2 dX2_yearOf_26 rfl rfl ?_
    refine j_icmp_gt (pc := 27) (tgt := 36) F dX2_yearOf_27 rfl (fun c_5 => ?_) (fun c_5 => ?_)
    · have hf := of_pos c_5 hf
      refine j_iload_n (pc := 36) F 0 dX2_yearOf_36 rfl rfl ?_
      exact j_iretR (pc := 37) F dX2_yearOf_37 hf
    · have hf := of_neg c_5 hf
      refine j_iload_n (pc := 30) F 0 dX2_yearOf_30 rfl rfl ?_
      refine j_iconst (pc := 31) F (v := 1) dX2_yearOf_31 rfl ?_
      refine j_iadd (pc := 32) F dX2_yearOf_32 ?_
      refine j_goto (pc := 33) F (tgt := 37) dX2_yearOf_33 rfl ?_
      exact j_iretR (pc := 37) F dX2_yearOf_37 hf
  · have hf := of_neg c_3 hf
    refine j_iload_n (pc := 15) F 0 dX2_yearOf_15 rfl rfl ?_
    refine j_iconst (pc := 16) F (v := 1) dX2_yearOf_16 rfl ?_
    refine j_isub (pc := 17) F dX2_yearOf_17 ?_
    exact j_iretR (pc := 18) F dX2_yearOf_18 hf
theorem cf_X2_yearOf : cfS yX2_yearOf cX2_yearOf 3 (some .int) 2 := ⟨tm_357, tm_62, tm_358, by decide, by decide, by decide +kernel⟩

def f_X2_monthDayOf_11 (N : Nat) : Nat → Int32 → Int32 → Int32 → Int32 → Option (Int32)
  | 0, _, _, _, _ => none
  | n + 1, y0, y1, y3, y4 => if 13 < y4 then some 0 else (f_X2_monthLength y0 y1 y4).bind fun o_2 => if o_2 ≤ y3 then f_X2_monthDayOf_11 N n y0 y1 (y3 - o_2) (y4 + 1) else some (((y4 * 100) + y3) + 1)
def f_X2_monthDayOf (N : Nat) (x0 : Int32) (x1 : Int32) (x2 : Int32) : Option (Int32) := f_X2_monthDayOf_11 N N x0 x1 (x2 - (f_X2_firstDay x0 x1)) 1
set_option maxHeartbeats 4000000 in
set_option maxRecDepth 100000 in
theorem b_X2_monthDayOf_11 {l : Launch} {D : va_G} {cy : Nat → ClassId} {g : Gs} {p : Program} {e : Env} {s : State} {m : MethodId} {args : Array Value} {below : List Frame} {meth : Method} {c : Code} {N : Nat} {out : Int32} (F : Fx p s m args meth c cX2_monthDayOf RX2 6 (some .int)) (hP : va_P D vwCl ([]) s.heap) (hK : va_K D vwCl (tys cy) s) (hS : St g nA s s.heap) :
    ∀ (n : Nat) (y0 : Int32) (y1 : Int32) (y3 : Int32) (y4 : Int32), f_X2_monthDayOf_11 N n y0 y1 y3 y4 = some out → J p l e { frames := 1, cells := 0, slots := 0, locals := 22 } s m args below meth c 6 (hR s) 0 0 (MQ below (QR (some (.int out))) args s 0 0 nA) 11 [(0, .int y0), (1, .int y1), (3, .int y3), (4, .int y4)] [] := by
  intro n
  induction n with
  | zero =>
    intro y0 y1 y3 y4 hf
    cases hf
  | succ n ih =>
    intro y0 y1 y3 y4 hf
    rw [f_X2_monthDayOf_11] at hf
    refine j_iload (pc := 11) F 3 dX2_monthDayOf_11 rfl ?_
    refine j_bipush (pc := 13) F (v := 13) dX2_monthDayOf_13 rfl ?_
    refine j_icmp_gt (pc := 15) (tgt := 54) F dX2_monthDayOf_15 rfl (fun c_1 => ?_) (fun c_1 => ?_)
    · have hf := of_pos c_1 hf
      refine j_iconst (pc := 54) F (v := 0) dX2_monthDayOf_54 rfl ?_
      exact j_iretR (pc := 55) F dX2_monthDayOf_55 (Option.some.inj hf)
    · have hf := of_neg c_1 hf
      refine j_iload_n (pc := 18) F 0 dX2_monthDayOf_18 rfl rfl ?_
      refine j_iload_n (pc := 19) F 1 dX2_monthDayOf_19 rfl rfl ?_
      refine j_iload (pc := 20) F 3 dX2_monthDayOf_20 rfl ?_
      obtain ⟨o_2, ho_2, hf⟩ := of_bnd hf
      refine j_callRS (pc := 22) (st := []) (st1 := [.int o_2]) F hK (hpR hP hS hp_nil) (c_X2_monthLength (l := l) (D := D) (cy := cy) (g := g) ho_2) tm_368 cf_X2_monthLength (Nat.le_of_ble_eq_true rfl) (Nat.le_of_ble_eq_true rfl) ⟨Nat.zero_le _, Nat.zero_le _⟩ rfl rfl (Nat.le_of_ble_eq_true rfl) rfl dX2_monthDayOf_22 ?_
      refine j_istore (pc := 25) (lv' := [(5, .int o_2), (0, .int y0), (1, .int y1), (3, .int y3), (4, .int y4)]) F dX2_monthDayOf_25 (by decide) rfl ?_
      refine j_iload_n (pc := 27) F 3 dX2_monthDayOf_27 rfl rfl ?_
      refine j_iload (pc := 28) F 0 dX2_monthDayOf_28 rfl ?_
      refine j_icmp_ge (pc := 30) (tgt := 43) F dX2_monthDayOf_30 rfl (fun c_3 => ?_) (fun c_3 => ?_)
      · have hf := of_pos c_3 hf
        refine j_iload_n (pc := 43) F 3 dX2_monthDayOf_43 rfl rfl ?_
        refine j_iload (pc := 44) F 0 dX2_monthDayOf_44 rfl ?_
        refine j_isub (pc := 46) F dX2_monthDayOf_46 ?_
        refine j_istore_n (pc := 47) (lv' := [(3, .int (y3 - o_2)), (5, .int o_2), (0, .int y0), (1, .int y1), (4, .int y4)]) F dX2_monthDayOf_47 rfl (by decide) rfl ?_
        refine j_iinc (pc := 48) (v := y4 + 1) (lv' := [(4, .int (y4 + 1)), (3, .int (y3 - o_2)), (5, .int o_2), (0, .int y0), (1, .int y1)]) F 4 dX2_monthDayOf_48 rfl rfl (by decide) rfl ?_
        refine j_goto (pc := 51) F (tgt := 11) dX2_monthDayOf_51 rfl ?_
        refine j_sub [3, 4, 1, 0] rfl ?_
        exact ih y0 y1 (y3 - o_2) (y4 + 1) hf
      · have hf := of_neg c_3 hf
        refine j_iload (pc := 33) F 4 dX2_monthDayOf_33 rfl ?_
        refine j_bipush (pc := 35) F (v := 100) dX2_monthDayOf_35 rfl ?_
        refine j_imul (pc := 37) F dX2_monthDayOf_37 ?_
        refine j_iload_n (pc := 38) F 3 dX2_monthDayOf_38 rfl rfl ?_
        refine j_iadd (pc := 39) F dX2_monthDayOf_39 ?_
        refine j_iconst (pc := 40) F (v := 1) dX2_monthDayOf_40 rfl ?_
        refine j_iadd (pc := 41) F dX2_monthDayOf_41 ?_
        exact j_iretR (pc := 42) F dX2_monthDayOf_42 (Option.some.inj hf)
set_option maxHeartbeats 4000000 in
set_option maxRecDepth 100000 in
theorem c_X2_monthDayOf {l : Launch} {D : va_G} {cy : Nat → ClassId} {g : Gs} {N : Nat} {x0 : Int32} {x1 : Int32} {x2 : Int32} {out : Int32} (hf : f_X2_monthDayOf N x0 x1 x2 = some out) : CR l D cy g yX2_monthDayOf cX2_monthDayOf 6 (some .int) 1 22 ([]) [.int x0, .int x1, .int x2] (some (.int out)) := by
  unfold f_X2_monthDayOf at hf
  refine met_R (lv := [(0, .int x0), (1, .int x1), (2, .int x2)]) (by decide) (Nat.le_of_ble_eq_true rfl) rfl ?_
  intro p e s m args below meth c F hP hK hS
  refine j_iload_n (pc := 0) F 2 dX2_monthDayOf_0 rfl rfl ?_
  refine j_iload_n (pc := 1) F 0 dX2_monthDayOf_1 rfl rfl ?_
  refine j_iload_n (pc := 2) F 1 dX2_monthDayOf_2 rfl rfl ?_
  refine j_callRS (pc := 3) (st := [.int x2]) (st1 := [.int (f_X2_firstDay x0 x1), .int x2]) F hK (hpR hP hS hp_nil) (c_X2_firstDay (l := l) (D := D) (cy := cy) (g := g) (rfl : f_X2_firstDay x0 x1 = _)) tm_362 cf_X2_firstDay (Nat.le_of_ble_eq_true rfl) (Nat.le_of_ble_eq_true rfl) ⟨Nat.zero_le _, Nat.zero_le _⟩ rfl rfl (Nat.le_of_ble_eq_true rfl) rfl dX2_monthDayOf_3 ?_
  refine j_isub (pc := 6) F dX2_monthDayOf_6 ?_
  refine j_istore_n (pc := 7) (lv' := [(3, .int (x2 - (f_X2_firstDay x0 x1))), (0, .int x0), (1, .int x1), (2, .int x2)]) F dX2_monthDayOf_7 rfl (by decide) rfl ?_
  refine j_iconst (pc := 8) F (v := 1) dX2_monthDayOf_8 rfl ?_
  refine j_istore (pc := 9) (lv' := [(4, .int 1), (3, .int (x2 - (f_X2_firstDay x0 x1))), (0, .int x0), (1, .int x1), (2, .int x2)]) F dX2_monthDayOf_9 (by decide) rfl ?_
  refine j_sub [2, 3, 1, 0] rfl ?_
  exact b_X2_monthDayOf_11 F hP hK hS N x0 x1 (x2 - (f_X2_firstDay x0 x1)) 1 hf
theorem cf_X2_monthDayOf : cfS yX2_monthDayOf cX2_monthDayOf 6 (some .int) 3 := ⟨tm_366, tm_62, tm_367, by decide, by decide, by decide +kernel⟩

def f_X2_monthIn (x0 : Int32) : Int32 := x0 / 100
set_option maxHeartbeats 4000000 in
set_option maxRecDepth 100000 in
theorem c_X2_monthIn {l : Launch} {D : va_G} {cy : Nat → ClassId} {g : Gs} {x0 : Int32} {out : Int32} (hf : f_X2_monthIn x0 = out) : CR l D cy g yX2_monthIn cX2_monthIn 1 (some .int) 0 0 ([]) [.int x0] (some (.int out)) := by
  unfold f_X2_monthIn at hf
  refine met_R (lv := [(0, .int x0)]) (by decide) (Nat.le_of_ble_eq_true rfl) rfl ?_
  intro p e s m args below meth c F hP hK hS
  refine j_iload_n (pc := 0) F 0 dX2_monthIn_0 rfl rfl ?_
  refine j_bipush (pc := 1) F (v := 100) dX2_monthIn_1 rfl ?_
  refine j_idiv (pc := 3) F dX2_monthIn_3 (by decide) ?_
  exact j_iretR (pc := 4) F dX2_monthIn_4 hf
theorem cf_X2_monthIn : cfS yX2_monthIn cX2_monthIn 1 (some .int) 1 := ⟨tm_374, tm_62, tm_375, by decide, by decide, by decide +kernel⟩

def f_X2_dayIn (x0 : Int32) : Int32 := x0 - x0 / 100 * 100
set_option maxHeartbeats 4000000 in
set_option maxRecDepth 100000 in
theorem c_X2_dayIn {l : Launch} {D : va_G} {cy : Nat → ClassId} {g : Gs} {x0 : Int32} {out : Int32} (hf : f_X2_dayIn x0 = out) : CR l D cy g yX2_dayIn cX2_dayIn 1 (some .int) 0 0 ([]) [.int x0] (some (.int out)) := by
  unfold f_X2_dayIn at hf
  refine met_R (lv := [(0, .int x0)]) (by decide) (Nat.le_of_ble_eq_true rfl) rfl ?_
  intro p e s m args below meth c F hP hK hS
  refine j_iload_n (pc := 0) F 0 dX2_dayIn_0 rfl rfl ?_
  refine j_bipush (pc := 1) F (v := 100) dX2_dayIn_1 rfl ?_
  refine j_irem (pc := 3) F dX2_dayIn_3 (by decide) ?_
  exact j_iretR (pc := 4) F dX2_dayIn_4 hf
theorem cf_X2_dayIn : cfS yX2_dayIn cX2_dayIn 1 (some .int) 1 := ⟨tm_377, tm_62, tm_378, by decide, by decide, by decide +kernel⟩

def f_X2_dayOf_27 (N : Nat) : Nat → Int32 → Int32 → Int32 → Int32 → Int32 → Int32 → Option (Int32)
  | 0, _, _, _, _, _, _ => none
  | n + 1, y0, y1, y2, y3, y4, y5 => if y2 ≤ y5 then some ((y4 + y3) - 1) else if 13 ≤ y5 then some ((y4 + y3) - 1) else (f_X2_monthLength y0 y1 y5).bind fun o_3 => f_X2_dayOf_27 N n y0 y1 y2 y3 (y4 + o_3) (y5 + 1)
def f_X2_dayOf (N : Nat) (x0 : Int32) (x1 : Int32) (x2 : Int32) (x3 : Int32) : Option (Int32) := if x3 < 1 then some (-1) else (f_X2_monthLength x0 x1 x2).bind fun o_2 => if x3 ≤ o_2 then f_X2_dayOf_27 N N x0 x1 x2 x3 (f_X2_firstDay x0 x1) 1 else some (-1)
set_option maxHeartbeats 4000000 in
set_option maxRecDepth 100000 in
theorem b_X2_dayOf_27 {l : Launch} {D : va_G} {cy : Nat → ClassId} {g : Gs} {p : Program} {e : Env} {s : State} {m : MethodId} {args : Array Value} {below : List Frame} {meth : Method} {c : Code} {N : Nat} {out : Int32} (F : Fx p s m args meth c cX2_dayOf RX2 6 (some .int)) (hP : va_P D vwCl ([]) s.heap) (hK : va_K D vwCl (tys cy) s) (hS : St g nA s s.heap) :
    ∀ (n : Nat) (y0 : Int32) (y1 : Int32) (y2 : Int32) (y3 : Int32) (y4 : Int32) (y5 : Int32), f_X2_dayOf_27 N n y0 y1 y2 y3 y4 y5 = some out → J p l e { frames := 1, cells := 0, slots := 0, locals := 22 } s m args below meth c 6 (hR s) 0 0 (MQ below (QR (some (.int out))) args s 0 0 nA) 27 [(0, .int y0), (1, .int y1), (2, .int y2), (3, .int y3), (4, .int y4), (5, .int y5)] [] := by
  intro n
  induction n with
  | zero =>
    intro y0 y1 y2 y3 y4 y5 hf
    cases hf
  | succ n ih =>
    intro y0 y1 y2 y3 y4 y5 hf
    rw [f_X2_dayOf_27] at hf
    refine j_iload (pc := 27) F 5 dX2_dayOf_27 rfl ?_
    refine j_iload_n (pc := 29) F 2 dX2_dayOf_29 rfl rfl ?_
    refine j_icmp_ge (pc := 30) (tgt := 58) F dX2_dayOf_30 rfl (fun c_1 => ?_) (fun c_1 => ?_)
    · have hf := of_pos c_1 hf
      refine j_iload (pc := 58) F 4 dX2_dayOf_58 rfl ?_
      refine j_iload_n (pc := 60) F 3 dX2_dayOf_60 rfl rfl ?_
      refine j_iadd (pc := 61) F dX2_dayOf_61 ?_
      refine j_iconst (pc := 62) F (v := 1) dX2_dayOf_62 rfl ?_
      refine j_isub (pc := 63) F dX2_dayOf_63 ?_
      exact j_iretR (pc := 64) F dX2_dayOf_64 (Option.some.inj hf)
    · have hf := of_neg c_1 hf
      refine j_iload (pc := 33) F 5 dX2_dayOf_33 rfl ?_
      refine j_bipush (pc := 35) F (v := 13) dX2_dayOf_35 rfl ?_
      refine j_icmp_ge (pc := 37) (tgt := 58) F dX2_dayOf_37 rfl (fun c_2 => ?_) (fun c_2 => ?_)
      · have hf := of_pos c_2 hf
        refine j_iload (pc := 58) F 4 dX2_dayOf_58 rfl ?_
        refine j_iload_n (pc := 60) F 3 dX2_dayOf_60 rfl rfl ?_
        refine j_iadd (pc := 61) F dX2_dayOf_61 ?_
        refine j_iconst (pc := 62) F (v := 1) dX2_dayOf_62 rfl ?_
        refine j_isub (pc := 63) F dX2_dayOf_63 ?_
        exact j_iretR (pc := 64) F dX2_dayOf_64 (Option.some.inj hf)
      · have hf := of_neg c_2 hf
        refine j_iload (pc := 40) F 4 dX2_dayOf_40 rfl ?_
        refine j_iload_n (pc := 42) F 0 dX2_dayOf_42 rfl rfl ?_
        refine j_iload_n (pc := 43) F 1 dX2_dayOf_43 rfl rfl ?_
        refine j_iload (pc := 44) F 5 dX2_dayOf_44 rfl ?_
        obtain ⟨o_3, ho_3, hf⟩ := of_bnd hf
        refine j_callRS (pc := 46) (st := [.int y4]) (st1 := [.int o_3, .int y4]) F hK (hpR hP hS hp_nil) (c_X2_monthLength (l := l) (D := D) (cy := cy) (g := g) ho_3) tm_368 cf_X2_monthLength (Nat.le_of_ble_eq_true rfl) (Nat.le_of_ble_eq_true rfl) ⟨Nat.zero_le _, Nat.zero_le _⟩ rfl rfl (Nat.le_of_ble_eq_true rfl) rfl dX2_dayOf_46 ?_
        refine j_iadd (pc := 49) F dX2_dayOf_49 ?_
        refine j_istore (pc := 50) (lv' := [(4, .int (y4 + o_3)), (0, .int y0), (1, .int y1), (2, .int y2), (3, .int y3), (5, .int y5)]) F dX2_dayOf_50 (by decide) rfl ?_
        refine j_iinc (pc := 52) (v := y5 + 1) (lv' := [(5, .int (y5 + 1)), (4, .int (y4 + o_3)), (0, .int y0), (1, .int y1), (2, .int y2), (3, .int y3)]) F 5 dX2_dayOf_52 rfl rfl (by decide) rfl ?_
        refine j_goto (pc := 55) F (tgt := 27) dX2_dayOf_55 rfl ?_
        refine j_sub [2, 3, 4, 5, 1, 0] rfl ?_
        exact ih y0 y1 y2 y3 (y4 + o_3) (y5 + 1) hf
set_option maxHeartbeats 4000000 in
set_option maxRecDepth 100000 in
theorem c_X2_dayOf {l : Launch} {D : va_G} {cy : Nat → ClassId} {g : Gs} {N : Nat} {x0 : Int32} {x1 : Int32} {x2 : Int32} {x3 : Int32} {out : Int32} (hf : f_X2_dayOf N x0 x1 x2 x3 = some out) : CR l D cy g yX2_dayOf cX2_dayOf 6 (some .int) 1 22 ([]) [.int x0, .int x1, .int x2, .int x3] (some (.int out)) := by
  unfold f_X2_dayOf at hf
  refine met_R (lv := [(0, .int x0), (1, .int x1), (2, .int x2), (3, .int x3)]) (by decide) (Nat.le_of_ble_eq_true rfl) rfl ?_
  intro p e s m args below meth c F hP hK hS
  refine j_iload_n (pc := 0) F 3 dX2_dayOf_0 rfl rfl ?_
  refine j_iconst (pc := 1) F (v := 1) dX2_dayOf_1 rfl ?_
  refine j_icmp_lt (pc := 2) (tgt := 15) F dX2_dayOf_2 rfl (fun c_1 => ?_) (fun c_1 => ?_)
  · have hf := of_pos c_1 hf
    refine j_iconst (pc := 15) F (v := (-1)) dX2_dayOf_15 rfl ?_
    exact j_iretR (pc := 16) F dX2_dayOf_16 (Option.some.inj hf)
  · have hf := of_neg c_1 hf
    refine j_iload_n (pc := 5) F 3 dX2_dayOf_5 rfl rfl ?_
    refine j_iload_n (pc := 6) F 0 dX2_dayOf_6 rfl rfl ?_
    refine j_iload_n (pc := 7) F 1 dX2_dayOf_7 rfl rfl ?_
    refine j_iload_n (pc := 8) F 2 dX2_dayOf_8 rfl rfl ?_
    obtain ⟨o_2, ho_2, hf⟩ := of_bnd hf
    refine j_callRS (pc := 9) (st := [.int x3]) (st1 := [.int o_2, .int x3]) F hK (hpR hP hS hp_nil) (c_X2_monthLength (l := l) (D := D) (cy := cy) (g := g) ho_2) tm_368 cf_X2_monthLength (Nat.le_of_ble_eq_true rfl) (Nat.le_of_ble_eq_true rfl) ⟨Nat.zero_le _, Nat.zero_le _⟩ rfl rfl (Nat.le_of_ble_eq_true rfl) rfl dX2_dayOf_9 ?_
    refine j_icmp_le (pc := 12) (tgt := 17) F dX2_dayOf_12 rfl (fun c_3 => ?_) (fun c_3 => ?_)
    · have hf := of_pos c_3 hf
      refine j_iload_n (pc := 17) F 0 dX2_dayOf_17 rfl rfl ?_
      refine j_iload_n (pc := 18) F 1 dX2_dayOf_18 rfl rfl ?_
      refine j_callRS (pc := 19) (st := []) (st1 := [.int (f_X2_firstDay x0 x1)]) F hK (hpR hP hS hp_nil) (c_X2_firstDay (l := l) (D := D) (cy := cy) (g := g) (rfl : f_X2_firstDay x0 x1 = _)) tm_362 cf_X2_firstDay (Nat.le_of_ble_eq_true rfl) (Nat.le_of_ble_eq_true rfl) ⟨Nat.zero_le _, Nat.zero_le _⟩ rfl rfl (Nat.le_of_ble_eq_true rfl) rfl dX2_dayOf_19 ?_
      refine j_istore (pc := 22) (lv' := [(4, .int (f_X2_firstDay x0 x1)), (0, .int x0), (1, .int x1), (2, .int x2), (3, .int x3)]) F dX2_dayOf_22 (by decide) rfl ?_
      refine j_iconst (pc := 24) F (v := 1) dX2_dayOf_24 rfl ?_
      refine j_istore (pc := 25) (lv' := [(5, .int 1), (4, .int (f_X2_firstDay x0 x1)), (0, .int x0), (1, .int x1), (2, .int x2), (3, .int x3)]) F dX2_dayOf_25 (by decide) rfl ?_
      refine j_sub [2, 3, 4, 5, 1, 0] rfl ?_
      exact b_X2_dayOf_27 F hP hK hS N x0 x1 x2 x3 (f_X2_firstDay x0 x1) 1 hf
    · have hf := of_neg c_3 hf
      refine j_iconst (pc := 15) F (v := (-1)) dX2_dayOf_15 rfl ?_
      exact j_iretR (pc := 16) F dX2_dayOf_16 (Option.some.inj hf)
theorem cf_X2_dayOf : cfS yX2_dayOf cX2_dayOf 6 (some .int) 4 := ⟨tm_384, tm_62, tm_385, by decide, by decide, by decide +kernel⟩
end
