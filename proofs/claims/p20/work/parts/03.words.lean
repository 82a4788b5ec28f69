theorem tm_0 : (.selects RX5 yX5_sunKind yX5_sunKind : Cond) ∈ tb := tb_m0 (List.mem_of_getElem? (i := 0) rfl) rfl
theorem tm_1 : (.selects RX5 yX5_isAsked yX5_isAsked : Cond) ∈ tb := tb_m0 (List.mem_of_getElem? (i := 1) rfl) rfl
theorem tm_2 : (.selects RX3 yX3_advance yX3_advance : Cond) ∈ tb := tb_m0 (List.mem_of_getElem? (i := 2) rfl) rfl
theorem tm_3 : (.selects RX3 yX3_takeSign yX3_takeSign : Cond) ∈ tb := tb_m0 (List.mem_of_getElem? (i := 3) rfl) rfl
theorem tm_4 : (.selects RX3 yX3_readWhat yX3_readWhat : Cond) ∈ tb := tb_m0 (List.mem_of_getElem? (i := 4) rfl) rfl
theorem tm_5 : (.selects RX3 yX3_isWord yX3_isWord : Cond) ∈ tb := tb_m0 (List.mem_of_getElem? (i := 5) rfl) rfl
theorem tm_6 : (.selects RX3 yX3_refuse yX3_refuse : Cond) ∈ tb := tb_m0 (List.mem_of_getElem? (i := 6) rfl) rfl
theorem tm_7 : (.selects RX3 yX3_sunKind yX3_sunKind : Cond) ∈ tb := tb_m0 (List.mem_of_getElem? (i := 7) rfl) rfl
theorem tm_8 : (.selects RX3 yX3_moonKind yX3_moonKind : Cond) ∈ tb := tb_m0 (List.mem_of_getElem? (i := 8) rfl) rfl
theorem tm_9 : (.selects RX3 yX3_readParts yX3_readParts : Cond) ∈ tb := tb_m0 (List.mem_of_getElem? (i := 9) rfl) rfl
theorem tm_10 : (.selects RX3 yX3_readPart yX3_readPart : Cond) ∈ tb := tb_m0 (List.mem_of_getElem? (i := 10) rfl) rfl
theorem tm_11 : (.selects RX3 yX3_partHere yX3_partHere : Cond) ∈ tb := tb_m0 (List.mem_of_getElem? (i := 11) rfl) rfl
theorem tm_12 : (.selects RX3 yX3_readNumber yX3_readNumber : Cond) ∈ tb := tb_m0 (List.mem_of_getElem? (i := 12) rfl) rfl
theorem tm_13 : (.selects RX3 yX3_readRuler yX3_readRuler : Cond) ∈ tb := tb_m0 (List.mem_of_getElem? (i := 13) rfl) rfl
theorem tm_14 : (.selects RX3 yX3_readCalendar yX3_readCalendar : Cond) ∈ tb := tb_m0 (List.mem_of_getElem? (i := 14) rfl) rfl
theorem tm_15 : (.selects RX3 yX3_readClose yX3_readClose : Cond) ∈ tb := tb_m0 (List.mem_of_getElem? (i := 15) rfl) rfl
theorem tm_16 : (.selects RX3 yX3_joinRuler yX3_joinRuler : Cond) ∈ tb := tb_m0 (List.mem_of_getElem? (i := 16) rfl) rfl
theorem tm_17 : (.selects RX4 yX4_isThere yX4_isThere : Cond) ∈ tb := tb_m0 (List.mem_of_getElem? (i := 17) rfl) rfl
theorem tm_18 : (.selects RX0 yX0_isMeant yX0_isMeant : Cond) ∈ tb := tb_m0 (List.mem_of_getElem? (i := 18) rfl) rfl
theorem tm_19 : (.selects RX0 yX0_hoursSeen yX0_hoursSeen : Cond) ∈ tb := tb_m0 (List.mem_of_getElem? (i := 19) rfl) rfl
theorem tm_20 : (.selects RX0 yX0_isOfKind yX0_isOfKind : Cond) ∈ tb := tb_m0 (List.mem_of_getElem? (i := 20) rfl) rfl
theorem tm_21 : (.selects RX5 yX5_isListed yX5_isListed : Cond) ∈ tb := tb_m0 (List.mem_of_getElem? (i := 21) rfl) rfl
theorem tm_22 : (.selects RX0 yX0_hoursAt yX0_hoursAt : Cond) ∈ tb := tb_m0 (List.mem_of_getElem? (i := 22) rfl) rfl
theorem tm_23 : (.selects RX0 yX0_slipsAt yX0_slipsAt : Cond) ∈ tb := tb_m0 (List.mem_of_getElem? (i := 23) rfl) rfl
theorem tm_24 : (.selects RX0 yX0_slipOf yX0_slipOf : Cond) ∈ tb := tb_m0 (List.mem_of_getElem? (i := 24) rfl) rfl
theorem tm_25 : (.selects RX0 yX0_slowsMeaning yX0_slowsMeaning : Cond) ∈ tb := tb_m0 (List.mem_of_getElem? (i := 25) rfl) rfl
theorem tm_26 : (.selects RX0 yX0_slowsWithin yX0_slowsWithin : Cond) ∈ tb := tb_m0 (List.mem_of_getElem? (i := 26) rfl) rfl
theorem tm_27 : (.selects RX8 yX8_moonAt yX8_moonAt : Cond) ∈ tb := tb_m0 (List.mem_of_getElem? (i := 27) rfl) rfl
theorem tm_28 : (.selects RX8 yX8_sunAt yX8_sunAt : Cond) ∈ tb := tb_m0 (List.mem_of_getElem? (i := 28) rfl) rfl
theorem tm_29 : (.selects RX8 yX8_nodeAt yX8_nodeAt : Cond) ∈ tb := tb_m0 (List.mem_of_getElem? (i := 29) rfl) rfl
theorem tm_30 : (.selects RX8 yX8_timeOf yX8_timeOf : Cond) ∈ tb := tb_m0 (List.mem_of_getElem? (i := 30) rfl) rfl
theorem tm_31 : (.selects RX8 yX8_wave yX8_wave : Cond) ∈ tb := tb_m0 (List.mem_of_getElem? (i := 31) rfl) rfl
theorem tm_32 : (.selects RX8 yX8_quarter yX8_quarter : Cond) ∈ tb := tb_m0 (List.mem_of_getElem? (i := 32) rfl) rfl
theorem tm_33 : (.selects RX8 yX8_sortOf yX8_sortOf : Cond) ∈ tb := tb_m0 (List.mem_of_getElem? (i := 33) rfl) rfl
theorem tm_34 : (.selects RX8 yX8_notes yX8_notes : Cond) ∈ tb := tb_m0 (List.mem_of_getElem? (i := 34) rfl) rfl
theorem tm_35 : (.selects RX8 yX8_dates yX8_dates : Cond) ∈ tb := tb_m0 (List.mem_of_getElem? (i := 35) rfl) rfl
theorem tm_36 : (.selects RX8 yX8_monthDays yX8_monthDays : Cond) ∈ tb := tb_m0 (List.mem_of_getElem? (i := 36) rfl) rfl
theorem tm_37 : (.selects RX8 yX8_packed yX8_packed : Cond) ∈ tb := tb_m0 (List.mem_of_getElem? (i := 37) rfl) rfl
theorem tm_38 : (.selects RX8 yX8_reignOf yX8_reignOf : Cond) ∈ tb := tb_m0 (List.mem_of_getElem? (i := 38) rfl) rfl
theorem tm_39 : (.selects RX8 yX8_reads yX8_reads : Cond) ∈ tb := tb_m0 (List.mem_of_getElem? (i := 39) rfl) rfl
theorem tm_40 : (.selects RX8 yX8_whats yX8_whats : Cond) ∈ tb := tb_m0 (List.mem_of_getElem? (i := 40) rfl) rfl
theorem tm_41 : (.selects RX8 yX8_takes yX8_takes : Cond) ∈ tb := tb_m0 (List.mem_of_getElem? (i := 41) rfl) rfl
theorem tm_42 : (.selects RX8 yX8_next_ yX8_next_ : Cond) ∈ tb := tb_m0 (List.mem_of_getElem? (i := 42) rfl) rfl
theorem tm_43 : (.selects RX8 yX8_wordEnd yX8_wordEnd : Cond) ∈ tb := tb_m0 (List.mem_of_getElem? (i := 43) rfl) rfl
theorem tm_44 : (.selects RX8 yX8_fail yX8_fail : Cond) ∈ tb := tb_m0 (List.mem_of_getElem? (i := 44) rfl) rfl
theorem tm_45 : (.selects RX8 yX8_partOf yX8_partOf : Cond) ∈ tb := tb_m0 (List.mem_of_getElem? (i := 45) rfl) rfl
theorem tm_46 : (.selects RX8 yX8_number yX8_number : Cond) ∈ tb := tb_m0 (List.mem_of_getElem? (i := 46) rfl) rfl
theorem tm_47 : (.selects RX8 yX8_name yX8_name : Cond) ∈ tb := tb_m0 (List.mem_of_getElem? (i := 47) rfl) rfl
theorem tm_48 : (.selects RX8 yX8_isAsked yX8_isAsked : Cond) ∈ tb := tb_m0 (List.mem_of_getElem? (i := 48) rfl) rfl
theorem tm_49 : (.selects RX8 yX8_isRecord yX8_isRecord : Cond) ∈ tb := tb_m0 (List.mem_of_getElem? (i := 49) rfl) rfl
theorem tm_50 : (.selects RX8 yX8_differs yX8_differs : Cond) ∈ tb := tb_m0 (List.mem_of_getElem? (i := 50) rfl) rfl
theorem tm_51 : (.selects RX8 yX8_isLet yX8_isLet : Cond) ∈ tb := tb_m0 (List.mem_of_getElem? (i := 51) rfl) rfl
theorem tm_52 : (.initialized RL : Cond) ∈ tb := tb_m1 (List.mem_of_getElem? (i := 0) rfl) rfl
theorem tm_53 : (.initialized RX7 : Cond) ∈ tb := tb_m1 (List.mem_of_getElem? (i := 1) rfl) rfl
theorem tm_54 : (.initialized RX5 : Cond) ∈ tb := tb_m1 (List.mem_of_getElem? (i := 2) rfl) rfl
theorem tm_55 : (.initialized RX6 : Cond) ∈ tb := tb_m1 (List.mem_of_getElem? (i := 3) rfl) rfl
theorem tm_56 : (.initialized RX4 : Cond) ∈ tb := tb_m1 (List.mem_of_getElem? (i := 4) rfl) rfl
theorem tm_57 : (.initialized RX1 : Cond) ∈ tb := tb_m1 (List.mem_of_getElem? (i := 5) rfl) rfl
theorem tm_58 : (.initialized RX0 : Cond) ∈ tb := tb_m1 (List.mem_of_getElem? (i := 6) rfl) rfl
theorem tm_59 : (.initialized RX3 : Cond) ∈ tb := tb_m1 (List.mem_of_getElem? (i := 7) rfl) rfl
theorem tm_60 : (.initialized RX8 : Cond) ∈ tb := tb_m1 (List.mem_of_getElem? (i := 8) rfl) rfl
theorem tm_61 : (.initialized RJ9 : Cond) ∈ tb := tb_m1 (List.mem_of_getElem? (i := 9) rfl) rfl
theorem tm_62 : (.initialized RX2 : Cond) ∈ tb := tb_m1 (List.mem_of_getElem? (i := 10) rfl) rfl
theorem tm_63 : (.initialized RJ0 : Cond) ∈ tb := tb_m1 (List.mem_of_getElem? (i := 11) rfl) rfl
theorem tm_64 : (.initialized RJ1 : Cond) ∈ tb := tb_m1 (List.mem_of_getElem? (i := 12) rfl) rfl
theorem tm_65 : (.initialized RJ3 : Cond) ∈ tb := tb_m1 (List.mem_of_getElem? (i := 13) rfl) rfl
theorem tm_66 : (.initialized RJ2 : Cond) ∈ tb := tb_m1 (List.mem_of_getElem? (i := 14) rfl) rfl
theorem tm_67 : (.initialized RJ13 : Cond) ∈ tb := tb_m1 (List.mem_of_getElem? (i := 15) rfl) rfl
theorem tm_68 : (.initialized RJ6 : Cond) ∈ tb := tb_m1 (List.mem_of_getElem? (i := 16) rfl) rfl
theorem tm_69 : (.classLink RL 7 RX7 : Cond) ∈ tb := tb_m1 (List.mem_of_getElem? (i := 17) rfl) rfl
theorem tm_70 : (.instantiable RX7 5 : Cond) ∈ tb := tb_m1 (List.mem_of_getElem? (i := 18) rfl) rfl
theorem tm_71 : (.methodLink RL 9 yX7_init : Cond) ∈ tb := tb_m1 (List.mem_of_getElem? (i := 19) rfl) rfl
theorem tm_72 : (.instanceMethod yX7_init : Cond) ∈ tb := tb_m1 (List.mem_of_getElem? (i := 20) rfl) rfl
theorem tm_73 : (.code yX7_init cX7_init 1 none : Cond) ∈ tb := tb_m1 (List.mem_of_getElem? (i := 21) rfl) rfl
theorem tm_74 : (.methodLink RX7 3 objectInit : Cond) ∈ tb := tb_m1 (List.mem_of_getElem? (i := 22) rfl) rfl
theorem tm_75 : (.instanceMethod objectInit : Cond) ∈ tb := tb_m1 (List.mem_of_getElem? (i := 23) rfl) rfl
theorem tm_76 : (.code objectInit object_method_1_code 1 none : Cond) ∈ tb := tb_m1 (List.mem_of_getElem? (i := 24) rfl) rfl
theorem tm_77 : (.classLink RX7 9 RX5 : Cond) ∈ tb := tb_m1 (List.mem_of_getElem? (i := 25) rfl) rfl
theorem tm_78 : (.instantiable RX5 9 : Cond) ∈ tb := tb_m1 (List.mem_of_getElem? (i := 26) rfl) rfl
theorem tm_79 : (.methodLink RX7 11 yX5_init : Cond) ∈ tb := tb_m1 (List.mem_of_getElem? (i := 27) rfl) rfl
theorem tm_80 : (.instanceMethod yX5_init : Cond) ∈ tb := tb_m1 (List.mem_of_getElem? (i := 28) rfl) rfl
theorem tm_81 : (.code yX5_init cX5_init 1 none : Cond) ∈ tb := tb_m1 (List.mem_of_getElem? (i := 29) rfl) rfl
theorem tm_82 : (.methodLink RX5 3 objectInit : Cond) ∈ tb := tb_m1 (List.mem_of_getElem? (i := 30) rfl) rfl
theorem tm_83 : (.fieldLink RX5 9 "EclipseHouse$Sky" "moonStart" "I" : Cond) ∈ tb := tb_m1 (List.mem_of_getElem? (i := 31) rfl) rfl
theorem tm_84 : (.fieldLink RX5 15 "EclipseHouse$Sky" "sunStart" "I" : Cond) ∈ tb := tb_m1 (List.mem_of_getElem? (i := 32) rfl) rfl
theorem tm_85 : (.fieldLink RX5 18 "EclipseHouse$Sky" "nodeStart" "I" : Cond) ∈ tb := tb_m1 (List.mem_of_getElem? (i := 33) rfl) rfl
theorem tm_86 : (.fieldLink RX5 21 "EclipseHouse$Sky" "version" "I" : Cond) ∈ tb := tb_m1 (List.mem_of_getElem? (i := 34) rfl) rfl
theorem tm_87 : (.fieldLink RX5 39 "EclipseHouse$Sky" "listed" "Z" : Cond) ∈ tb := tb_m1 (List.mem_of_getElem? (i := 35) rfl) rfl
theorem tm_88 : (.fieldLink RX5 91 "EclipseHouse$Sky" "listSize" "I" : Cond) ∈ tb := tb_m1 (List.mem_of_getElem? (i := 36) rfl) rfl
theorem tm_89 : (.fieldLink RX5 24 "EclipseHouse$Sky" "listMoon" "[I" : Cond) ∈ tb := tb_m1 (List.mem_of_getElem? (i := 37) rfl) rfl
theorem tm_90 : (.fieldLink RX5 28 "EclipseHouse$Sky" "listKind" "[I" : Cond) ∈ tb := tb_m1 (List.mem_of_getElem? (i := 38) rfl) rfl
theorem tm_91 : (.fieldLink RX5 31 "EclipseHouse$Sky" "listTime" "[I" : Cond) ∈ tb := tb_m1 (List.mem_of_getElem? (i := 39) rfl) rfl
theorem tm_92 : (.lays "EclipseHouse$Sky" "EclipseHouse$Sky" "moonStart" "I" : Cond) ∈ tb := tb_m1 (List.mem_of_getElem? (i := 40) rfl) rfl
theorem tm_94 : (.lays "EclipseHouse$Sky" "EclipseHouse$Sky" "sunStart" "I" : Cond) ∈ tb := tb_m1 (List.mem_of_getElem? (i := 42) rfl) rfl
theorem tm_96 : (.lays "EclipseHouse$Sky" "EclipseHouse$Sky" "nodeStart" "I" : Cond) ∈ tb := tb_m1 (List.mem_of_getElem? (i := 44) rfl) rfl
theorem tm_98 : (.lays "EclipseHouse$Sky" "EclipseHouse$Sky" "version" "I" : Cond) ∈ tb := tb_m1 (List.mem_of_getElem? (i := 46) rfl) rfl
theorem tm_100 : (.lays "EclipseHouse$Sky" "EclipseHouse$Sky" "listed" "Z" : Cond) ∈ tb := tb_m1 (List.mem_of_getElem? (i := 48) rfl) rfl
theorem tm_102 : (.lays "EclipseHouse$Sky" "EclipseHouse$Sky" "listSize" "I" : Cond) ∈ tb := tb_m1 (List.mem_of_getElem? (i := 50) rfl) rfl
theorem tm_104 : (.laysFinal "EclipseHouse$Sky" "EclipseHouse$Sky" "listMoon" "[I" : Cond) ∈ tb := tb_m1 (List.mem_of_getElem? (i := 52) rfl) rfl
theorem tm_106 : (.laysFinal "EclipseHouse$Sky" "EclipseHouse$Sky" "listKind" "[I" : Cond) ∈ tb := tb_m1 (List.mem_of_getElem? (i := 54) rfl) rfl
theorem tm_108 : (.laysFinal "EclipseHouse$Sky" "EclipseHouse$Sky" "listTime" "[I" : Cond) ∈ tb := tb_m1 (List.mem_of_getElem? (i := 56) rfl) rfl
theorem tm_111 : (.arrayClass .int : Cond) ∈ tb := tb_m1 (List.mem_of_getElem? (i := 59) rfl) rfl
theorem tm_112 : (.classLink RX7 16 RX6 : Cond) ∈ tb := tb_m1 (List.mem_of_getElem? (i := 60) rfl) rfl
theorem tm_113 : (.instantiable RX6 2 : Cond) ∈ tb := tb_m1 (List.mem_of_getElem? (i := 61) rfl) rfl
theorem tm_114 : (.methodLink RX7 18 yX6_init : Cond) ∈ tb := tb_m1 (List.mem_of_getElem? (i := 62) rfl) rfl
theorem tm_115 : (.instanceMethod yX6_init : Cond) ∈ tb := tb_m1 (List.mem_of_getElem? (i := 63) rfl) rfl
theorem tm_116 : (.code yX6_init cX6_init 1 none : Cond) ∈ tb := tb_m1 (List.mem_of_getElem? (i := 64) rfl) rfl
theorem tm_117 : (.methodLink RX6 3 objectInit : Cond) ∈ tb := tb_m1 (List.mem_of_getElem? (i := 65) rfl) rfl
theorem tm_118 : (.fieldLink RX6 11 "EclipseHouse$Tape" "bytes" "[I" : Cond) ∈ tb := tb_m1 (List.mem_of_getElem? (i := 66) rfl) rfl
theorem tm_119 : (.fieldLink RX6 15 "EclipseHouse$Tape" "length" "I" : Cond) ∈ tb := tb_m1 (List.mem_of_getElem? (i := 67) rfl) rfl
theorem tm_120 : (.laysFinal "EclipseHouse$Tape" "EclipseHouse$Tape" "bytes" "[I" : Cond) ∈ tb := tb_m1 (List.mem_of_getElem? (i := 68) rfl) rfl
theorem tm_122 : (.lays "EclipseHouse$Tape" "EclipseHouse$Tape" "length" "I" : Cond) ∈ tb := tb_m1 (List.mem_of_getElem? (i := 70) rfl) rfl
theorem tm_125 : (.classLink RX7 23 RX4 : Cond) ∈ tb := tb_m1 (List.mem_of_getElem? (i := 73) rfl) rfl
theorem tm_126 : (.instantiable RX4 4 : Cond) ∈ tb := tb_m1 (List.mem_of_getElem? (i := 74) rfl) rfl
theorem tm_127 : (.methodLink RX7 25 yX4_init : Cond) ∈ tb := tb_m1 (List.mem_of_getElem? (i := 75) rfl) rfl
theorem tm_128 : (.instanceMethod yX4_init : Cond) ∈ tb := tb_m1 (List.mem_of_getElem? (i := 76) rfl) rfl
theorem tm_129 : (.code yX4_init cX4_init 1 none : Cond) ∈ tb := tb_m1 (List.mem_of_getElem? (i := 77) rfl) rfl
theorem tm_130 : (.methodLink RX4 3 objectInit : Cond) ∈ tb := tb_m1 (List.mem_of_getElem? (i := 78) rfl) rfl
theorem tm_131 : (.fieldLink RX4 11 "EclipseHouse$Reigns" "names" "[I" : Cond) ∈ tb := tb_m1 (List.mem_of_getElem? (i := 79) rfl) rfl
theorem tm_132 : (.fieldLink RX4 15 "EclipseHouse$Reigns" "calendars" "[I" : Cond) ∈ tb := tb_m1 (List.mem_of_getElem? (i := 80) rfl) rfl
theorem tm_133 : (.fieldLink RX4 18 "EclipseHouse$Reigns" "years" "[I" : Cond) ∈ tb := tb_m1 (List.mem_of_getElem? (i := 81) rfl) rfl
theorem tm_134 : (.fieldLink RX4 27 "EclipseHouse$Reigns" "count" "I" : Cond) ∈ tb := tb_m1 (List.mem_of_getElem? (i := 82) rfl) rfl
theorem tm_135 : (.laysFinal "EclipseHouse$Reigns" "EclipseHouse$Reigns" "names" "[I" : Cond) ∈ tb := tb_m1 (List.mem_of_getElem? (i := 83) rfl) rfl
theorem tm_137 : (.laysFinal "EclipseHouse$Reigns" "EclipseHouse$Reigns" "calendars" "[I" : Cond) ∈ tb := tb_m1 (List.mem_of_getElem? (i := 85) rfl) rfl
theorem tm_139 : (.laysFinal "EclipseHouse$Reigns" "EclipseHouse$Reigns" "years" "[I" : Cond) ∈ tb := tb_m1 (List.mem_of_getElem? (i := 87) rfl) rfl
theorem tm_141 : (.lays "EclipseHouse$Reigns" "EclipseHouse$Reigns" "count" "I" : Cond) ∈ tb := tb_m1 (List.mem_of_getElem? (i := 89) rfl) rfl
theorem tm_144 : (.classLink RX7 30 RX1 : Cond) ∈ tb := tb_m1 (List.mem_of_getElem? (i := 92) rfl) rfl
theorem tm_145 : (.instantiable RX1 2 : Cond) ∈ tb := tb_m1 (List.mem_of_getElem? (i := 93) rfl) rfl
theorem tm_146 : (.methodLink RX7 32 yX1_init : Cond) ∈ tb := tb_m1 (List.mem_of_getElem? (i := 94) rfl) rfl
theorem tm_147 : (.instanceMethod yX1_init : Cond) ∈ tb := tb_m1 (List.mem_of_getElem? (i := 95) rfl) rfl
theorem tm_148 : (.code yX1_init cX1_init 2 none : Cond) ∈ tb := tb_m1 (List.mem_of_getElem? (i := 96) rfl) rfl
theorem tm_149 : (.methodLink RX1 3 objectInit : Cond) ∈ tb := tb_m1 (List.mem_of_getElem? (i := 97) rfl) rfl
theorem tm_150 : (.classLink RX1 11 RX0 : Cond) ∈ tb := tb_m1 (List.mem_of_getElem? (i := 98) rfl) rfl
theorem tm_152 : (.instantiable RX0 7 : Cond) ∈ tb := tb_m1 (List.mem_of_getElem? (i := 100) rfl) rfl
theorem tm_153 : (.methodLink RX1 17 yX0_init : Cond) ∈ tb := tb_m1 (List.mem_of_getElem? (i := 101) rfl) rfl
theorem tm_154 : (.instanceMethod yX0_init : Cond) ∈ tb := tb_m1 (List.mem_of_getElem? (i := 102) rfl) rfl
theorem tm_155 : (.code yX0_init cX0_init 1 none : Cond) ∈ tb := tb_m1 (List.mem_of_getElem? (i := 103) rfl) rfl
theorem tm_156 : (.methodLink RX0 3 objectInit : Cond) ∈ tb := tb_m1 (List.mem_of_getElem? (i := 104) rfl) rfl
theorem tm_157 : (.fieldLink RX0 15 "EclipseHouse$Account" "kinds" "I" : Cond) ∈ tb := tb_m1 (List.mem_of_getElem? (i := 105) rfl) rfl
theorem tm_158 : (.fieldLink RX0 19 "EclipseHouse$Account" "calendar" "I" : Cond) ∈ tb := tb_m1 (List.mem_of_getElem? (i := 106) rfl) rfl
theorem tm_159 : (.fieldLink RX0 22 "EclipseHouse$Account" "east" "I" : Cond) ∈ tb := tb_m1 (List.mem_of_getElem? (i := 107) rfl) rfl
theorem tm_160 : (.fieldLink RX0 25 "EclipseHouse$Account" "yearZero" "I" : Cond) ∈ tb := tb_m1 (List.mem_of_getElem? (i := 108) rfl) rfl
theorem tm_161 : (.fieldLink RX0 9 "EclipseHouse$Account" "numbers" "[I" : Cond) ∈ tb := tb_m1 (List.mem_of_getElem? (i := 109) rfl) rfl
theorem tm_162 : (.fieldLink RX0 61 "EclipseHouse$Account" "slows" "J" : Cond) ∈ tb := tb_m1 (List.mem_of_getElem? (i := 110) rfl) rfl
theorem tm_163 : (.fieldLink RX0 28 "EclipseHouse$Account" "slowsVersion" "I" : Cond) ∈ tb := tb_m1 (List.mem_of_getElem? (i := 111) rfl) rfl
theorem tm_164 : (.lays "EclipseHouse$Account" "EclipseHouse$Account" "kinds" "I" : Cond) ∈ tb := tb_m1 (List.mem_of_getElem? (i := 112) rfl) rfl
theorem tm_166 : (.lays "EclipseHouse$Account" "EclipseHouse$Account" "calendar" "I" : Cond) ∈ tb := tb_m1 (List.mem_of_getElem? (i := 114) rfl) rfl
theorem tm_168 : (.lays "EclipseHouse$Account" "EclipseHouse$Account" "east" "I" : Cond) ∈ tb := tb_m1 (List.mem_of_getElem? (i := 116) rfl) rfl
theorem tm_170 : (.lays "EclipseHouse$Account" "EclipseHouse$Account" "yearZero" "I" : Cond) ∈ tb := tb_m1 (List.mem_of_getElem? (i := 118) rfl) rfl
theorem tm_172 : (.laysFinal "EclipseHouse$Account" "EclipseHouse$Account" "numbers" "[I" : Cond) ∈ tb := tb_m1 (List.mem_of_getElem? (i := 120) rfl) rfl
theorem tm_174 : (.lays "EclipseHouse$Account" "EclipseHouse$Account" "slows" "J" : Cond) ∈ tb := tb_m1 (List.mem_of_getElem? (i := 122) rfl) rfl
theorem tm_176 : (.lays "EclipseHouse$Account" "EclipseHouse$Account" "slowsVersion" "I" : Cond) ∈ tb := tb_m1 (List.mem_of_getElem? (i := 124) rfl) rfl
theorem tm_179 : (.fieldLink RX1 13 "EclipseHouse$Archive" "accounts" "[LEclipseHouse$Account;" : Cond) ∈ tb := tb_m1 (List.mem_of_getElem? (i := 127) rfl) rfl
theorem tm_180 : (.fieldLink RX1 18 "EclipseHouse$Archive" "count" "I" : Cond) ∈ tb := tb_m1 (List.mem_of_getElem? (i := 128) rfl) rfl
theorem tm_181 : (.laysFinal "EclipseHouse$Archive" "EclipseHouse$Archive" "accounts" "[LEclipseHouse$Account;" : Cond) ∈ tb := tb_m1 (List.mem_of_getElem? (i := 129) rfl) rfl
theorem tm_183 : (.lays "EclipseHouse$Archive" "EclipseHouse$Archive" "count" "I" : Cond) ∈ tb := tb_m1 (List.mem_of_getElem? (i := 131) rfl) rfl
theorem tm_186 : (.classLink RX7 37 RX3 : Cond) ∈ tb := tb_m1 (List.mem_of_getElem? (i := 134) rfl) rfl
theorem tm_187 : (.instantiable RX3 11 : Cond) ∈ tb := tb_m1 (List.mem_of_getElem? (i := 135) rfl) rfl
theorem tm_188 : (.methodLink RX7 39 yX3_init : Cond) ∈ tb := tb_m1 (List.mem_of_getElem? (i := 136) rfl) rfl
theorem tm_189 : (.instanceMethod yX3_init : Cond) ∈ tb := tb_m1 (List.mem_of_getElem? (i := 137) rfl) rfl
theorem tm_190 : (.code yX3_init cX3_init 3 none : Cond) ∈ tb := tb_m1 (List.mem_of_getElem? (i := 138) rfl) rfl
theorem tm_191 : (.methodLink RX3 3 objectInit : Cond) ∈ tb := tb_m1 (List.mem_of_getElem? (i := 139) rfl) rfl
theorem tm_192 : (.fieldLink RX3 9 "EclipseHouse$Reader" "tape" "LEclipseHouse$Tape;" : Cond) ∈ tb := tb_m1 (List.mem_of_getElem? (i := 140) rfl) rfl
theorem tm_193 : (.fieldLink RX3 15 "EclipseHouse$Reader" "reigns" "LEclipseHouse$Reigns;" : Cond) ∈ tb := tb_m1 (List.mem_of_getElem? (i := 141) rfl) rfl
theorem tm_194 : (.fieldLink RX3 26 "EclipseHouse$Reader" "account" "LEclipseHouse$Account;" : Cond) ∈ tb := tb_m1 (List.mem_of_getElem? (i := 142) rfl) rfl
theorem tm_195 : (.fieldLink RX3 36 "EclipseHouse$Reader" "sort" "I" : Cond) ∈ tb := tb_m1 (List.mem_of_getElem? (i := 143) rfl) rfl
theorem tm_196 : (.fieldLink RX3 67 "EclipseHouse$Reader" "start" "I" : Cond) ∈ tb := tb_m1 (List.mem_of_getElem? (i := 144) rfl) rfl
theorem tm_197 : (.fieldLink RX3 39 "EclipseHouse$Reader" "stop" "I" : Cond) ∈ tb := tb_m1 (List.mem_of_getElem? (i := 145) rfl) rfl
theorem tm_198 : (.fieldLink RX3 42 "EclipseHouse$Reader" "calendar" "I" : Cond) ∈ tb := tb_m1 (List.mem_of_getElem? (i := 146) rfl) rfl
theorem tm_199 : (.fieldLink RX3 45 "EclipseHouse$Reader" "ruler" "I" : Cond) ∈ tb := tb_m1 (List.mem_of_getElem? (i := 147) rfl) rfl
theorem tm_200 : (.fieldLink RX3 180 "EclipseHouse$Reader" "rulerPlace" "I" : Cond) ∈ tb := tb_m1 (List.mem_of_getElem? (i := 148) rfl) rfl
theorem tm_201 : (.fieldLink RX3 23 "EclipseHouse$Reader" "fault" "I" : Cond) ∈ tb := tb_m1 (List.mem_of_getElem? (i := 149) rfl) rfl
theorem tm_202 : (.fieldLink RX3 19 "EclipseHouse$Reader" "place" "I" : Cond) ∈ tb := tb_m1 (List.mem_of_getElem? (i := 150) rfl) rfl
theorem tm_203 : (.laysFinal "EclipseHouse$Reader" "EclipseHouse$Reader" "tape" "LEclipseHouse$Tape;" : Cond) ∈ tb := tb_m1 (List.mem_of_getElem? (i := 151) rfl) rfl
theorem tm_205 : (.laysFinal "EclipseHouse$Reader" "EclipseHouse$Reader" "reigns" "LEclipseHouse$Reigns;" : Cond) ∈ tb := tb_m1 (List.mem_of_getElem? (i := 153) rfl) rfl
theorem tm_207 : (.lays "EclipseHouse$Reader" "EclipseHouse$Reader" "account" "LEclipseHouse$Account;" : Cond) ∈ tb := tb_m1 (List.mem_of_getElem? (i := 155) rfl) rfl
theorem tm_209 : (.lays "EclipseHouse$Reader" "EclipseHouse$Reader" "sort" "I" : Cond) ∈ tb := tb_m1 (List.mem_of_getElem? (i := 157) rfl) rfl
theorem tm_211 : (.lays "EclipseHouse$Reader" "EclipseHouse$Reader" "start" "I" : Cond) ∈ tb := tb_m1 (List.mem_of_getElem? (i := 159) rfl) rfl
theorem tm_213 : (.lays "EclipseHouse$Reader" "EclipseHouse$Reader" "stop" "I" : Cond) ∈ tb := tb_m1 (List.mem_of_getElem? (i := 161) rfl) rfl
theorem tm_215 : (.lays "EclipseHouse$Reader" "EclipseHouse$Reader" "calendar" "I" : Cond) ∈ tb := tb_m1 (List.mem_of_getElem? (i := 163) rfl) rfl
theorem tm_217 : (.lays "EclipseHouse$Reader" "EclipseHouse$Reader" "ruler" "I" : Cond) ∈ tb := tb_m1 (List.mem_of_getElem? (i := 165) rfl) rfl
theorem tm_219 : (.lays "EclipseHouse$Reader" "EclipseHouse$Reader" "rulerPlace" "I" : Cond) ∈ tb := tb_m1 (List.mem_of_getElem? (i := 167) rfl) rfl
theorem tm_221 : (.lays "EclipseHouse$Reader" "EclipseHouse$Reader" "fault" "I" : Cond) ∈ tb := tb_m1 (List.mem_of_getElem? (i := 169) rfl) rfl
theorem tm_223 : (.lays "EclipseHouse$Reader" "EclipseHouse$Reader" "place" "I" : Cond) ∈ tb := tb_m1 (List.mem_of_getElem? (i := 171) rfl) rfl
theorem tm_226 : (.fieldLink RX7 12 "EclipseHouse" "sky" "LEclipseHouse$Sky;" : Cond) ∈ tb := tb_m1 (List.mem_of_getElem? (i := 174) rfl) rfl
theorem tm_227 : (.fieldLink RX7 19 "EclipseHouse" "tape" "LEclipseHouse$Tape;" : Cond) ∈ tb := tb_m1 (List.mem_of_getElem? (i := 175) rfl) rfl
theorem tm_228 : (.fieldLink RX7 26 "EclipseHouse" "reigns" "LEclipseHouse$Reigns;" : Cond) ∈ tb := tb_m1 (List.mem_of_getElem? (i := 176) rfl) rfl
theorem tm_229 : (.fieldLink RX7 33 "EclipseHouse" "archive" "LEclipseHouse$Archive;" : Cond) ∈ tb := tb_m1 (List.mem_of_getElem? (i := 177) rfl) rfl
theorem tm_230 : (.fieldLink RX7 42 "EclipseHouse" "reader" "LEclipseHouse$Reader;" : Cond) ∈ tb := tb_m1 (List.mem_of_getElem? (i := 178) rfl) rfl
theorem tm_231 : (.laysFinal "EclipseHouse" "EclipseHouse" "sky" "LEclipseHouse$Sky;" : Cond) ∈ tb := tb_m1 (List.mem_of_getElem? (i := 179) rfl) rfl
theorem tm_233 : (.laysFinal "EclipseHouse" "EclipseHouse" "tape" "LEclipseHouse$Tape;" : Cond) ∈ tb := tb_m1 (List.mem_of_getElem? (i := 181) rfl) rfl
theorem tm_235 : (.laysFinal "EclipseHouse" "EclipseHouse" "reigns" "LEclipseHouse$Reigns;" : Cond) ∈ tb := tb_m1 (List.mem_of_getElem? (i := 183) rfl) rfl
theorem tm_237 : (.laysFinal "EclipseHouse" "EclipseHouse" "archive" "LEclipseHouse$Archive;" : Cond) ∈ tb := tb_m1 (List.mem_of_getElem? (i := 185) rfl) rfl
theorem tm_239 : (.laysFinal "EclipseHouse" "EclipseHouse" "reader" "LEclipseHouse$Reader;" : Cond) ∈ tb := tb_m1 (List.mem_of_getElem? (i := 187) rfl) rfl
theorem tm_242 : (.methodLink RL 13 yX7_tables : Cond) ∈ tb := tb_m1 (List.mem_of_getElem? (i := 190) rfl) rfl
theorem tm_243 : (.instanceMethod yX7_tables : Cond) ∈ tb := tb_m1 (List.mem_of_getElem? (i := 191) rfl) rfl
theorem tm_244 : (.selects RX7 yX7_tables yX7_tables : Cond) ∈ tb := tb_m1 (List.mem_of_getElem? (i := 192) rfl) rfl
theorem tm_245 : (.code yX7_tables cX7_tables 4 (some .boolean) : Cond) ∈ tb := tb_m1 (List.mem_of_getElem? (i := 193) rfl) rfl
theorem tm_246 : (.methodLink RX7 46 yX5_setTables : Cond) ∈ tb := tb_m1 (List.mem_of_getElem? (i := 194) rfl) rfl
theorem tm_247 : (.instanceMethod yX5_setTables : Cond) ∈ tb := tb_m1 (List.mem_of_getElem? (i := 195) rfl) rfl
theorem tm_248 : (.selects RX5 yX5_setTables yX5_setTables : Cond) ∈ tb := tb_m1 (List.mem_of_getElem? (i := 196) rfl) rfl
theorem tm_249 : (.code yX5_setTables cX5_setTables 4 (some .boolean) : Cond) ∈ tb := tb_m1 (List.mem_of_getElem? (i := 197) rfl) rfl
theorem tm_250 : (.methodLink RX5 35 yX5_isPlace : Cond) ∈ tb := tb_m1 (List.mem_of_getElem? (i := 198) rfl) rfl
theorem tm_251 : (.static yX5_isPlace : Cond) ∈ tb := tb_m1 (List.mem_of_getElem? (i := 199) rfl) rfl
theorem tm_252 : (.code yX5_isPlace cX5_isPlace 1 (some .boolean) : Cond) ∈ tb := tb_m1 (List.mem_of_getElem? (i := 200) rfl) rfl
theorem tm_253 : (.constant RX5 34 (36000) : Cond) ∈ tb := tb_m1 (List.mem_of_getElem? (i := 201) rfl) rfl
theorem tm_254 : (.methodLink RL 18 yX7_moon : Cond) ∈ tb := tb_m1 (List.mem_of_getElem? (i := 202) rfl) rfl
theorem tm_255 : (.instanceMethod yX7_moon : Cond) ∈ tb := tb_m1 (List.mem_of_getElem? (i := 203) rfl) rfl
theorem tm_256 : (.selects RX7 yX7_moon yX7_moon : Cond) ∈ tb := tb_m1 (List.mem_of_getElem? (i := 204) rfl) rfl
theorem tm_257 : (.code yX7_moon cX7_moon 3 (some .int) : Cond) ∈ tb := tb_m1 (List.mem_of_getElem? (i := 205) rfl) rfl
theorem tm_258 : (.methodLink RX7 50 yX5_isMoon : Cond) ∈ tb := tb_m1 (List.mem_of_getElem? (i := 206) rfl) rfl
theorem tm_259 : (.static yX5_isMoon : Cond) ∈ tb := tb_m1 (List.mem_of_getElem? (i := 207) rfl) rfl
theorem tm_260 : (.code yX5_isMoon cX5_isMoon 1 (some .boolean) : Cond) ∈ tb := tb_m1 (List.mem_of_getElem? (i := 208) rfl) rfl
theorem tm_261 : (.methodLink RX7 54 yX5_moonPlace : Cond) ∈ tb := tb_m1 (List.mem_of_getElem? (i := 209) rfl) rfl
theorem tm_262 : (.instanceMethod yX5_moonPlace : Cond) ∈ tb := tb_m1 (List.mem_of_getElem? (i := 210) rfl) rfl
theorem tm_263 : (.selects RX5 yX5_moonPlace yX5_moonPlace : Cond) ∈ tb := tb_m1 (List.mem_of_getElem? (i := 211) rfl) rfl
theorem tm_264 : (.code yX5_moonPlace cX5_moonPlace 2 (some .int) : Cond) ∈ tb := tb_m1 (List.mem_of_getElem? (i := 212) rfl) rfl
theorem tm_265 : (.methodLink RX7 58 yX5_sunPlace : Cond) ∈ tb := tb_m1 (List.mem_of_getElem? (i := 213) rfl) rfl
theorem tm_266 : (.instanceMethod yX5_sunPlace : Cond) ∈ tb := tb_m1 (List.mem_of_getElem? (i := 214) rfl) rfl
theorem tm_267 : (.selects RX5 yX5_sunPlace yX5_sunPlace : Cond) ∈ tb := tb_m1 (List.mem_of_getElem? (i := 215) rfl) rfl
theorem tm_268 : (.code yX5_sunPlace cX5_sunPlace 2 (some .int) : Cond) ∈ tb := tb_m1 (List.mem_of_getElem? (i := 216) rfl) rfl
theorem tm_269 : (.methodLink RX7 61 yX5_nodePlace : Cond) ∈ tb := tb_m1 (List.mem_of_getElem? (i := 217) rfl) rfl
theorem tm_270 : (.instanceMethod yX5_nodePlace : Cond) ∈ tb := tb_m1 (List.mem_of_getElem? (i := 218) rfl) rfl
theorem tm_271 : (.selects RX5 yX5_nodePlace yX5_nodePlace : Cond) ∈ tb := tb_m1 (List.mem_of_getElem? (i := 219) rfl) rfl
theorem tm_272 : (.code yX5_nodePlace cX5_nodePlace 2 (some .int) : Cond) ∈ tb := tb_m1 (List.mem_of_getElem? (i := 220) rfl) rfl
theorem tm_273 : (.constantLong RX5 43 (1953353) : Cond) ∈ tb := tb_m1 (List.mem_of_getElem? (i := 221) rfl) rfl
theorem tm_274 : (.constantLong RX5 45 (100) : Cond) ∈ tb := tb_m1 (List.mem_of_getElem? (i := 222) rfl) rfl
theorem tm_275 : (.constantLong RX5 47 (36000) : Cond) ∈ tb := tb_m1 (List.mem_of_getElem? (i := 223) rfl) rfl
theorem tm_276 : (.methodLink RX7 64 yX5_timeOf : Cond) ∈ tb := tb_m1 (List.mem_of_getElem? (i := 224) rfl) rfl
theorem tm_277 : (.instanceMethod yX5_timeOf : Cond) ∈ tb := tb_m1 (List.mem_of_getElem? (i := 225) rfl) rfl
theorem tm_278 : (.selects RX5 yX5_timeOf yX5_timeOf : Cond) ∈ tb := tb_m1 (List.mem_of_getElem? (i := 226) rfl) rfl
theorem tm_279 : (.code yX5_timeOf cX5_timeOf 5 (some .int) : Cond) ∈ tb := tb_m1 (List.mem_of_getElem? (i := 227) rfl) rfl
theorem tm_280 : (.constantLong RX5 49 (212620236) : Cond) ∈ tb := tb_m1 (List.mem_of_getElem? (i := 228) rfl) rfl
theorem tm_281 : (.constantLong RX5 51 (10000) : Cond) ∈ tb := tb_m1 (List.mem_of_getElem? (i := 229) rfl) rfl
theorem tm_282 : (.methodLink RX5 53 yX5_moonPlace : Cond) ∈ tb := tb_m1 (List.mem_of_getElem? (i := 230) rfl) rfl
theorem tm_283 : (.methodLink RX5 57 yX5_waveOf : Cond) ∈ tb := tb_m1 (List.mem_of_getElem? (i := 231) rfl) rfl
theorem tm_284 : (.static yX5_waveOf : Cond) ∈ tb := tb_m1 (List.mem_of_getElem? (i := 232) rfl) rfl
theorem tm_285 : (.code yX5_waveOf cX5_waveOf 1 (some .int) : Cond) ∈ tb := tb_m1 (List.mem_of_getElem? (i := 233) rfl) rfl
theorem tm_286 : (.methodLink RX5 69 yX5_halfWave : Cond) ∈ tb := tb_m1 (List.mem_of_getElem? (i := 234) rfl) rfl
theorem tm_287 : (.static yX5_halfWave : Cond) ∈ tb := tb_m1 (List.mem_of_getElem? (i := 235) rfl) rfl
theorem tm_288 : (.code yX5_halfWave cX5_halfWave 3 (some .int) : Cond) ∈ tb := tb_m1 (List.mem_of_getElem? (i := 236) rfl) rfl
theorem tm_289 : (.fieldLink RX5 72 "EclipseHouse$Sky" "WAVES" "[I" : Cond) ∈ tb := tb_m1 (List.mem_of_getElem? (i := 237) rfl) rfl
theorem tm_291 : (.methodLink RX5 60 yJ9_floorDiv_7cf53 : Cond) ∈ tb := tb_m1 (List.mem_of_getElem? (i := 239) rfl) rfl
theorem tm_292 : (.static yJ9_floorDiv_7cf53 : Cond) ∈ tb := tb_m2 (List.mem_of_getElem? (i := 0) rfl) rfl
theorem tm_293 : (.code yJ9_floorDiv_7cf53 cJ9_floorDiv_7cf53 3 (some .int) : Cond) ∈ tb := tb_m2 (List.mem_of_getElem? (i := 1) rfl) rfl
theorem tm_294 : (.methodLink RX5 66 yX5_sunPlace : Cond) ∈ tb := tb_m2 (List.mem_of_getElem? (i := 2) rfl) rfl
theorem tm_295 : (.methodLink RX7 67 yX5_kindOf : Cond) ∈ tb := tb_m2 (List.mem_of_getElem? (i := 3) rfl) rfl
theorem tm_296 : (.instanceMethod yX5_kindOf : Cond) ∈ tb := tb_m2 (List.mem_of_getElem? (i := 4) rfl) rfl
theorem tm_297 : (.selects RX5 yX5_kindOf yX5_kindOf : Cond) ∈ tb := tb_m2 (List.mem_of_getElem? (i := 5) rfl) rfl
theorem tm_298 : (.code yX5_kindOf cX5_kindOf 4 (some .int) : Cond) ∈ tb := tb_m2 (List.mem_of_getElem? (i := 6) rfl) rfl
theorem tm_299 : (.methodLink RX5 75 yX5_nodePlace : Cond) ∈ tb := tb_m2 (List.mem_of_getElem? (i := 7) rfl) rfl
theorem tm_300 : (.methodLink RX5 78 yJ9_min_7cf53 : Cond) ∈ tb := tb_m2 (List.mem_of_getElem? (i := 8) rfl) rfl
theorem tm_301 : (.static yJ9_min_7cf53 : Cond) ∈ tb := tb_m2 (List.mem_of_getElem? (i := 9) rfl) rfl
theorem tm_302 : (.code yJ9_min_7cf53 cJ9_min_7cf53 2 (some .int) : Cond) ∈ tb := tb_m2 (List.mem_of_getElem? (i := 10) rfl) rfl
theorem tm_303 : (.methodLink RX5 81 yX5_sunKind : Cond) ∈ tb := tb_m2 (List.mem_of_getElem? (i := 11) rfl) rfl
theorem tm_305 : (.instanceMethod yX5_sunKind : Cond) ∈ tb := tb_m2 (List.mem_of_getElem? (i := 13) rfl) rfl
theorem tm_306 : (.code yX5_sunKind cX5_sunKind 4 (some .int) : Cond) ∈ tb := tb_m2 (List.mem_of_getElem? (i := 14) rfl) rfl
theorem tm_307 : (.methodLink RX5 84 yX5_moonKind : Cond) ∈ tb := tb_m2 (List.mem_of_getElem? (i := 15) rfl) rfl
theorem tm_308 : (.static yX5_moonKind : Cond) ∈ tb := tb_m2 (List.mem_of_getElem? (i := 16) rfl) rfl
theorem tm_309 : (.code yX5_moonKind cX5_moonKind 1 (some .int) : Cond) ∈ tb := tb_m2 (List.mem_of_getElem? (i := 17) rfl) rfl
theorem tm_310 : (.methodLink RL 23 yX7_next : Cond) ∈ tb := tb_m2 (List.mem_of_getElem? (i := 18) rfl) rfl
theorem tm_311 : (.instanceMethod yX7_next : Cond) ∈ tb := tb_m2 (List.mem_of_getElem? (i := 19) rfl) rfl
theorem tm_312 : (.selects RX7 yX7_next yX7_next : Cond) ∈ tb := tb_m2 (List.mem_of_getElem? (i := 20) rfl) rfl
theorem tm_313 : (.code yX7_next cX7_next 4 (some .int) : Cond) ∈ tb := tb_m2 (List.mem_of_getElem? (i := 21) rfl) rfl
theorem tm_314 : (.methodLink RX7 70 yX5_findEclipse : Cond) ∈ tb := tb_m2 (List.mem_of_getElem? (i := 22) rfl) rfl
theorem tm_315 : (.instanceMethod yX5_findEclipse : Cond) ∈ tb := tb_m2 (List.mem_of_getElem? (i := 23) rfl) rfl
theorem tm_316 : (.selects RX5 yX5_findEclipse yX5_findEclipse : Cond) ∈ tb := tb_m2 (List.mem_of_getElem? (i := 24) rfl) rfl
theorem tm_317 : (.code yX5_findEclipse cX5_findEclipse 7 (some .int) : Cond) ∈ tb := tb_m2 (List.mem_of_getElem? (i := 25) rfl) rfl
theorem tm_318 : (.methodLink RX5 103 yX5_listEclipses : Cond) ∈ tb := tb_m2 (List.mem_of_getElem? (i := 26) rfl) rfl
theorem tm_319 : (.instanceMethod yX5_listEclipses : Cond) ∈ tb := tb_m2 (List.mem_of_getElem? (i := 27) rfl) rfl
theorem tm_320 : (.selects RX5 yX5_listEclipses yX5_listEclipses : Cond) ∈ tb := tb_m2 (List.mem_of_getElem? (i := 28) rfl) rfl
theorem tm_321 : (.code yX5_listEclipses cX5_listEclipses 3 (some .int) : Cond) ∈ tb := tb_m2 (List.mem_of_getElem? (i := 29) rfl) rfl
theorem tm_322 : (.methodLink RX5 87 yX5_kindOf : Cond) ∈ tb := tb_m2 (List.mem_of_getElem? (i := 30) rfl) rfl
theorem tm_323 : (.methodLink RX5 94 yX5_timeOf : Cond) ∈ tb := tb_m2 (List.mem_of_getElem? (i := 31) rfl) rfl
theorem tm_324 : (.methodLink RX5 107 yX5_isAsked : Cond) ∈ tb := tb_m2 (List.mem_of_getElem? (i := 32) rfl) rfl
theorem tm_326 : (.instanceMethod yX5_isAsked : Cond) ∈ tb := tb_m2 (List.mem_of_getElem? (i := 34) rfl) rfl
theorem tm_327 : (.code yX5_isAsked cX5_isAsked 3 (some .boolean) : Cond) ∈ tb := tb_m2 (List.mem_of_getElem? (i := 35) rfl) rfl
theorem tm_328 : (.methodLink RL 28 yX7_round : Cond) ∈ tb := tb_m2 (List.mem_of_getElem? (i := 36) rfl) rfl
theorem tm_329 : (.instanceMethod yX7_round : Cond) ∈ tb := tb_m2 (List.mem_of_getElem? (i := 37) rfl) rfl
theorem tm_330 : (.selects RX7 yX7_round yX7_round : Cond) ∈ tb := tb_m2 (List.mem_of_getElem? (i := 38) rfl) rfl
theorem tm_331 : (.code yX7_round cX7_round 5 (some .int) : Cond) ∈ tb := tb_m2 (List.mem_of_getElem? (i := 39) rfl) rfl
theorem tm_332 : (.methodLink RX7 74 yX5_firstOfRound : Cond) ∈ tb := tb_m2 (List.mem_of_getElem? (i := 40) rfl) rfl
theorem tm_333 : (.instanceMethod yX5_firstOfRound : Cond) ∈ tb := tb_m2 (List.mem_of_getElem? (i := 41) rfl) rfl
theorem tm_334 : (.selects RX5 yX5_firstOfRound yX5_firstOfRound : Cond) ∈ tb := tb_m2 (List.mem_of_getElem? (i := 42) rfl) rfl
theorem tm_335 : (.code yX5_firstOfRound cX5_firstOfRound 3 (some .int) : Cond) ∈ tb := tb_m2 (List.mem_of_getElem? (i := 43) rfl) rfl
theorem tm_336 : (.methodLink RX7 77 yX5_lastOfRound : Cond) ∈ tb := tb_m2 (List.mem_of_getElem? (i := 44) rfl) rfl
theorem tm_337 : (.instanceMethod yX5_lastOfRound : Cond) ∈ tb := tb_m2 (List.mem_of_getElem? (i := 45) rfl) rfl
theorem tm_338 : (.selects RX5 yX5_lastOfRound yX5_lastOfRound : Cond) ∈ tb := tb_m2 (List.mem_of_getElem? (i := 46) rfl) rfl
theorem tm_339 : (.code yX5_lastOfRound cX5_lastOfRound 3 (some .int) : Cond) ∈ tb := tb_m2 (List.mem_of_getElem? (i := 47) rfl) rfl
theorem tm_340 : (.methodLink RL 32 yX7_many : Cond) ∈ tb := tb_m2 (List.mem_of_getElem? (i := 48) rfl) rfl
theorem tm_341 : (.instanceMethod yX7_many : Cond) ∈ tb := tb_m2 (List.mem_of_getElem? (i := 49) rfl) rfl
theorem tm_342 : (.selects RX7 yX7_many yX7_many : Cond) ∈ tb := tb_m2 (List.mem_of_getElem? (i := 50) rfl) rfl
theorem tm_343 : (.code yX7_many cX7_many 4 (some .int) : Cond) ∈ tb := tb_m2 (List.mem_of_getElem? (i := 51) rfl) rfl
theorem tm_344 : (.methodLink RX7 80 yX5_countEclipses : Cond) ∈ tb := tb_m2 (List.mem_of_getElem? (i := 52) rfl) rfl
theorem tm_345 : (.instanceMethod yX5_countEclipses : Cond) ∈ tb := tb_m2 (List.mem_of_getElem? (i := 53) rfl) rfl
theorem tm_346 : (.selects RX5 yX5_countEclipses yX5_countEclipses : Cond) ∈ tb := tb_m2 (List.mem_of_getElem? (i := 54) rfl) rfl
theorem tm_347 : (.code yX5_countEclipses cX5_countEclipses 7 (some .int) : Cond) ∈ tb := tb_m2 (List.mem_of_getElem? (i := 55) rfl) rfl
theorem tm_348 : (.methodLink RL 36 yX7_date : Cond) ∈ tb := tb_m2 (List.mem_of_getElem? (i := 56) rfl) rfl
theorem tm_349 : (.instanceMethod yX7_date : Cond) ∈ tb := tb_m2 (List.mem_of_getElem? (i := 57) rfl) rfl
theorem tm_350 : (.selects RX7 yX7_date yX7_date : Cond) ∈ tb := tb_m2 (List.mem_of_getElem? (i := 58) rfl) rfl
theorem tm_351 : (.code yX7_date cX7_date 6 (some .int) : Cond) ∈ tb := tb_m2 (List.mem_of_getElem? (i := 59) rfl) rfl
theorem tm_352 : (.constant RX7 83 (400000) : Cond) ∈ tb := tb_m2 (List.mem_of_getElem? (i := 60) rfl) rfl
theorem tm_353 : (.methodLink RX7 84 yX2_isCalendar : Cond) ∈ tb := tb_m2 (List.mem_of_getElem? (i := 61) rfl) rfl
theorem tm_354 : (.static yX2_isCalendar : Cond) ∈ tb := tb_m2 (List.mem_of_getElem? (i := 62) rfl) rfl
theorem tm_355 : (.code yX2_isCalendar cX2_isCalendar 1 (some .boolean) : Cond) ∈ tb := tb_m2 (List.mem_of_getElem? (i := 63) rfl) rfl
theorem tm_356 : (.methodLink RX7 89 yX2_yearOf : Cond) ∈ tb := tb_m2 (List.mem_of_getElem? (i := 64) rfl) rfl
theorem tm_357 : (.static yX2_yearOf : Cond) ∈ tb := tb_m2 (List.mem_of_getElem? (i := 65) rfl) rfl
theorem tm_358 : (.code yX2_yearOf cX2_yearOf 3 (some .int) : Cond) ∈ tb := tb_m2 (List.mem_of_getElem? (i := 66) rfl) rfl
theorem tm_359 : (.methodLink RX2 15 yX2_guessYear : Cond) ∈ tb := tb_m2 (List.mem_of_getElem? (i := 67) rfl) rfl
theorem tm_360 : (.static yX2_guessYear : Cond) ∈ tb := tb_m2 (List.mem_of_getElem? (i := 68) rfl) rfl
theorem tm_361 : (.code yX2_guessYear cX2_guessYear 2 (some .int) : Cond) ∈ tb := tb_m2 (List.mem_of_getElem? (i := 69) rfl) rfl
theorem tm_362 : (.methodLink RX2 19 yX2_firstDay : Cond) ∈ tb := tb_m2 (List.mem_of_getElem? (i := 70) rfl) rfl
theorem tm_363 : (.static yX2_firstDay : Cond) ∈ tb := tb_m2 (List.mem_of_getElem? (i := 71) rfl) rfl
theorem tm_364 : (.code yX2_firstDay cX2_firstDay 2 (some .int) : Cond) ∈ tb := tb_m2 (List.mem_of_getElem? (i := 72) rfl) rfl
theorem tm_365 : (.methodLink RX7 93 yX2_monthDayOf : Cond) ∈ tb := tb_m2 (List.mem_of_getElem? (i := 73) rfl) rfl
theorem tm_366 : (.static yX2_monthDayOf : Cond) ∈ tb := tb_m2 (List.mem_of_getElem? (i := 74) rfl) rfl
theorem tm_367 : (.code yX2_monthDayOf cX2_monthDayOf 6 (some .int) : Cond) ∈ tb := tb_m2 (List.mem_of_getElem? (i := 75) rfl) rfl
theorem tm_368 : (.methodLink RX2 22 yX2_monthLength : Cond) ∈ tb := tb_m2 (List.mem_of_getElem? (i := 76) rfl) rfl
theorem tm_369 : (.static yX2_monthLength : Cond) ∈ tb := tb_m2 (List.mem_of_getElem? (i := 77) rfl) rfl
theorem tm_370 : (.code yX2_monthLength cX2_monthLength 3 (some .int) : Cond) ∈ tb := tb_m2 (List.mem_of_getElem? (i := 78) rfl) rfl
theorem tm_371 : (.fieldLink RX2 11 "EclipseHouse$Calendars" "LEAP_MONTHS" "[I" : Cond) ∈ tb := tb_m2 (List.mem_of_getElem? (i := 79) rfl) rfl
theorem tm_373 : (.methodLink RX7 96 yX2_monthIn : Cond) ∈ tb := tb_m2 (List.mem_of_getElem? (i := 81) rfl) rfl
theorem tm_374 : (.static yX2_monthIn : Cond) ∈ tb := tb_m2 (List.mem_of_getElem? (i := 82) rfl) rfl
theorem tm_375 : (.code yX2_monthIn cX2_monthIn 1 (some .int) : Cond) ∈ tb := tb_m2 (List.mem_of_getElem? (i := 83) rfl) rfl
theorem tm_376 : (.methodLink RX7 99 yX2_dayIn : Cond) ∈ tb := tb_m2 (List.mem_of_getElem? (i := 84) rfl) rfl
theorem tm_377 : (.static yX2_dayIn : Cond) ∈ tb := tb_m2 (List.mem_of_getElem? (i := 85) rfl) rfl
theorem tm_378 : (.code yX2_dayIn cX2_dayIn 1 (some .int) : Cond) ∈ tb := tb_m2 (List.mem_of_getElem? (i := 86) rfl) rfl
theorem tm_379 : (.methodLink RL 40 yX7_day : Cond) ∈ tb := tb_m2 (List.mem_of_getElem? (i := 87) rfl) rfl
theorem tm_380 : (.instanceMethod yX7_day : Cond) ∈ tb := tb_m2 (List.mem_of_getElem? (i := 88) rfl) rfl
theorem tm_381 : (.selects RX7 yX7_day yX7_day : Cond) ∈ tb := tb_m2 (List.mem_of_getElem? (i := 89) rfl) rfl
theorem tm_382 : (.code yX7_day cX7_day 5 (some .int) : Cond) ∈ tb := tb_m2 (List.mem_of_getElem? (i := 90) rfl) rfl
theorem tm_383 : (.methodLink RX7 102 yX2_dayOf : Cond) ∈ tb := tb_m2 (List.mem_of_getElem? (i := 91) rfl) rfl
theorem tm_384 : (.static yX2_dayOf : Cond) ∈ tb := tb_m2 (List.mem_of_getElem? (i := 92) rfl) rfl
theorem tm_385 : (.code yX2_dayOf cX2_dayOf 6 (some .int) : Cond) ∈ tb := tb_m2 (List.mem_of_getElem? (i := 93) rfl) rfl
theorem tm_386 : (.methodLink RL 45 yX7_seen : Cond) ∈ tb := tb_m2 (List.mem_of_getElem? (i := 94) rfl) rfl
theorem tm_387 : (.instanceMethod yX7_seen : Cond) ∈ tb := tb_m2 (List.mem_of_getElem? (i := 95) rfl) rfl
theorem tm_388 : (.selects RX7 yX7_seen yX7_seen : Cond) ∈ tb := tb_m2 (List.mem_of_getElem? (i := 96) rfl) rfl
theorem tm_389 : (.code yX7_seen cX7_seen 4 (some .int) : Cond) ∈ tb := tb_m2 (List.mem_of_getElem? (i := 97) rfl) rfl
theorem tm_390 : (.methodLink RX7 106 yX7_isEast : Cond) ∈ tb := tb_m2 (List.mem_of_getElem? (i := 98) rfl) rfl
theorem tm_391 : (.static yX7_isEast : Cond) ∈ tb := tb_m2 (List.mem_of_getElem? (i := 99) rfl) rfl
theorem tm_392 : (.code yX7_isEast cX7_isEast 1 (some .boolean) : Cond) ∈ tb := tb_m2 (List.mem_of_getElem? (i := 100) rfl) rfl
theorem tm_393 : (.methodLink RX7 109 yX7_isSlow : Cond) ∈ tb := tb_m2 (List.mem_of_getElem? (i := 101) rfl) rfl
theorem tm_394 : (.static yX7_isSlow : Cond) ∈ tb := tb_m2 (List.mem_of_getElem? (i := 102) rfl) rfl
theorem tm_395 : (.code yX7_isSlow cX7_isSlow 1 (some .boolean) : Cond) ∈ tb := tb_m2 (List.mem_of_getElem? (i := 103) rfl) rfl
theorem tm_396 : (.constant RX7 112 (-1000000) : Cond) ∈ tb := tb_m2 (List.mem_of_getElem? (i := 104) rfl) rfl
theorem tm_397 : (.methodLink RX7 113 yX5_minuteSeen : Cond) ∈ tb := tb_m2 (List.mem_of_getElem? (i := 105) rfl) rfl
theorem tm_398 : (.static yX5_minuteSeen : Cond) ∈ tb := tb_m2 (List.mem_of_getElem? (i := 106) rfl) rfl
theorem tm_399 : (.code yX5_minuteSeen cX5_minuteSeen 4 (some .int) : Cond) ∈ tb := tb_m2 (List.mem_of_getElem? (i := 107) rfl) rfl
theorem tm_400 : (.constant RX5 90 (525600) : Cond) ∈ tb := tb_m2 (List.mem_of_getElem? (i := 108) rfl) rfl
theorem tm_401 : (.methodLink RL 49 yX7_feed : Cond) ∈ tb := tb_m2 (List.mem_of_getElem? (i := 109) rfl) rfl
theorem tm_402 : (.instanceMethod yX7_feed : Cond) ∈ tb := tb_m2 (List.mem_of_getElem? (i := 110) rfl) rfl
theorem tm_403 : (.selects RX7 yX7_feed yX7_feed : Cond) ∈ tb := tb_m2 (List.mem_of_getElem? (i := 111) rfl) rfl
theorem tm_404 : (.code yX7_feed cX7_feed 6 (some .int) : Cond) ∈ tb := tb_m2 (List.mem_of_getElem? (i := 112) rfl) rfl
theorem tm_405 : (.methodLink RX7 116 yX6_hasRoom : Cond) ∈ tb := tb_m2 (List.mem_of_getElem? (i := 113) rfl) rfl
theorem tm_406 : (.instanceMethod yX6_hasRoom : Cond) ∈ tb := tb_m2 (List.mem_of_getElem? (i := 114) rfl) rfl
theorem tm_407 : (.selects RX6 yX6_hasRoom yX6_hasRoom : Cond) ∈ tb := tb_m2 (List.mem_of_getElem? (i := 115) rfl) rfl
theorem tm_408 : (.code yX6_hasRoom cX6_hasRoom 1 (some .boolean) : Cond) ∈ tb := tb_m2 (List.mem_of_getElem? (i := 116) rfl) rfl
theorem tm_409 : (.methodLink RX7 120 yX6_addNumber : Cond) ∈ tb := tb_m2 (List.mem_of_getElem? (i := 117) rfl) rfl
theorem tm_410 : (.instanceMethod yX6_addNumber : Cond) ∈ tb := tb_m2 (List.mem_of_getElem? (i := 118) rfl) rfl
theorem tm_411 : (.selects RX6 yX6_addNumber yX6_addNumber : Cond) ∈ tb := tb_m2 (List.mem_of_getElem? (i := 119) rfl) rfl
theorem tm_412 : (.code yX6_addNumber cX6_addNumber 3 none : Cond) ∈ tb := tb_m2 (List.mem_of_getElem? (i := 120) rfl) rfl
theorem tm_413 : (.methodLink RX7 124 yX6_size : Cond) ∈ tb := tb_m2 (List.mem_of_getElem? (i := 121) rfl) rfl
theorem tm_414 : (.instanceMethod yX6_size : Cond) ∈ tb := tb_m2 (List.mem_of_getElem? (i := 122) rfl) rfl
theorem tm_415 : (.selects RX6 yX6_size yX6_size : Cond) ∈ tb := tb_m2 (List.mem_of_getElem? (i := 123) rfl) rfl
theorem tm_416 : (.code yX6_size cX6_size 1 (some .int) : Cond) ∈ tb := tb_m2 (List.mem_of_getElem? (i := 124) rfl) rfl
theorem tm_417 : (.methodLink RL 54 yX7_end : Cond) ∈ tb := tb_m2 (List.mem_of_getElem? (i := 125) rfl) rfl
theorem tm_418 : (.instanceMethod yX7_end : Cond) ∈ tb := tb_m2 (List.mem_of_getElem? (i := 126) rfl) rfl
theorem tm_419 : (.selects RX7 yX7_end yX7_end : Cond) ∈ tb := tb_m2 (List.mem_of_getElem? (i := 127) rfl) rfl
theorem tm_420 : (.code yX7_end cX7_end 2 (some .boolean) : Cond) ∈ tb := tb_m2 (List.mem_of_getElem? (i := 128) rfl) rfl
theorem tm_421 : (.methodLink RX7 128 yX6_cutTo : Cond) ∈ tb := tb_m2 (List.mem_of_getElem? (i := 129) rfl) rfl
theorem tm_422 : (.instanceMethod yX6_cutTo : Cond) ∈ tb := tb_m2 (List.mem_of_getElem? (i := 130) rfl) rfl
theorem tm_423 : (.selects RX6 yX6_cutTo yX6_cutTo : Cond) ∈ tb := tb_m2 (List.mem_of_getElem? (i := 131) rfl) rfl
theorem tm_424 : (.code yX6_cutTo cX6_cutTo 2 (some .boolean) : Cond) ∈ tb := tb_m2 (List.mem_of_getElem? (i := 132) rfl) rfl
theorem tm_425 : (.methodLink RL 59 yX7_reign : Cond) ∈ tb := tb_m2 (List.mem_of_getElem? (i := 133) rfl) rfl
theorem tm_426 : (.instanceMethod yX7_reign : Cond) ∈ tb := tb_m2 (List.mem_of_getElem? (i := 134) rfl) rfl
theorem tm_427 : (.selects RX7 yX7_reign yX7_reign : Cond) ∈ tb := tb_m2 (List.mem_of_getElem? (i := 135) rfl) rfl
theorem tm_428 : (.code yX7_reign cX7_reign 4 (some .int) : Cond) ∈ tb := tb_m2 (List.mem_of_getElem? (i := 136) rfl) rfl
theorem tm_429 : (.methodLink RX7 131 yX6_nameBetween : Cond) ∈ tb := tb_m2 (List.mem_of_getElem? (i := 137) rfl) rfl
theorem tm_430 : (.instanceMethod yX6_nameBetween : Cond) ∈ tb := tb_m2 (List.mem_of_getElem? (i := 138) rfl) rfl
theorem tm_431 : (.selects RX6 yX6_nameBetween yX6_nameBetween : Cond) ∈ tb := tb_m2 (List.mem_of_getElem? (i := 139) rfl) rfl
theorem tm_432 : (.code yX6_nameBetween cX6_nameBetween 6 (some .int) : Cond) ∈ tb := tb_m2 (List.mem_of_getElem? (i := 140) rfl) rfl
theorem tm_433 : (.methodLink RX6 19 yX6_byteAt : Cond) ∈ tb := tb_m2 (List.mem_of_getElem? (i := 141) rfl) rfl
theorem tm_434 : (.instanceMethod yX6_byteAt : Cond) ∈ tb := tb_m2 (List.mem_of_getElem? (i := 142) rfl) rfl
theorem tm_435 : (.selects RX6 yX6_byteAt yX6_byteAt : Cond) ∈ tb := tb_m2 (List.mem_of_getElem? (i := 143) rfl) rfl
theorem tm_436 : (.code yX6_byteAt cX6_byteAt 2 (some .int) : Cond) ∈ tb := tb_m2 (List.mem_of_getElem? (i := 144) rfl) rfl
theorem tm_437 : (.methodLink RX6 23 yX6_isLetter : Cond) ∈ tb := tb_m2 (List.mem_of_getElem? (i := 145) rfl) rfl
theorem tm_438 : (.static yX6_isLetter : Cond) ∈ tb := tb_m2 (List.mem_of_getElem? (i := 146) rfl) rfl
theorem tm_439 : (.code yX6_isLetter cX6_isLetter 1 (some .boolean) : Cond) ∈ tb := tb_m2 (List.mem_of_getElem? (i := 147) rfl) rfl
theorem tm_440 : (.methodLink RX7 134 yX6_clear : Cond) ∈ tb := tb_m2 (List.mem_of_getElem? (i := 148) rfl) rfl
theorem tm_441 : (.instanceMethod yX6_clear : Cond) ∈ tb := tb_m2 (List.mem_of_getElem? (i := 149) rfl) rfl
theorem tm_442 : (.selects RX6 yX6_clear yX6_clear : Cond) ∈ tb := tb_m2 (List.mem_of_getElem? (i := 150) rfl) rfl
theorem tm_443 : (.code yX6_clear cX6_clear 1 none : Cond) ∈ tb := tb_m2 (List.mem_of_getElem? (i := 151) rfl) rfl
theorem tm_444 : (.methodLink RX7 137 yX4_begin : Cond) ∈ tb := tb_m2 (List.mem_of_getElem? (i := 152) rfl) rfl
theorem tm_445 : (.instanceMethod yX4_begin : Cond) ∈ tb := tb_m2 (List.mem_of_getElem? (i := 153) rfl) rfl
theorem tm_446 : (.selects RX4 yX4_begin yX4_begin : Cond) ∈ tb := tb_m2 (List.mem_of_getElem? (i := 154) rfl) rfl
theorem tm_447 : (.code yX4_begin cX4_begin 5 (some .int) : Cond) ∈ tb := tb_m2 (List.mem_of_getElem? (i := 155) rfl) rfl
theorem tm_448 : (.methodLink RX4 21 yX2_isCalendar : Cond) ∈ tb := tb_m2 (List.mem_of_getElem? (i := 156) rfl) rfl
theorem tm_449 : (.methodLink RX4 31 yX4_find : Cond) ∈ tb := tb_m2 (List.mem_of_getElem? (i := 157) rfl) rfl
theorem tm_450 : (.instanceMethod yX4_find : Cond) ∈ tb := tb_m2 (List.mem_of_getElem? (i := 158) rfl) rfl
theorem tm_451 : (.selects RX4 yX4_find yX4_find : Cond) ∈ tb := tb_m2 (List.mem_of_getElem? (i := 159) rfl) rfl
theorem tm_452 : (.code yX4_find cX4_find 3 (some .int) : Cond) ∈ tb := tb_m2 (List.mem_of_getElem? (i := 160) rfl) rfl
theorem tm_453 : (.methodLink RL 63 yX7_record : Cond) ∈ tb := tb_m2 (List.mem_of_getElem? (i := 161) rfl) rfl
theorem tm_454 : (.instanceMethod yX7_record : Cond) ∈ tb := tb_m2 (List.mem_of_getElem? (i := 162) rfl) rfl
theorem tm_455 : (.selects RX7 yX7_record yX7_record : Cond) ∈ tb := tb_m2 (List.mem_of_getElem? (i := 163) rfl) rfl
theorem tm_456 : (.code yX7_record cX7_record 4 (some .int) : Cond) ∈ tb := tb_m2 (List.mem_of_getElem? (i := 164) rfl) rfl
theorem tm_457 : (.methodLink RX7 140 yX1_hasRoom : Cond) ∈ tb := tb_m2 (List.mem_of_getElem? (i := 165) rfl) rfl
theorem tm_458 : (.instanceMethod yX1_hasRoom : Cond) ∈ tb := tb_m2 (List.mem_of_getElem? (i := 166) rfl) rfl
theorem tm_459 : (.selects RX1 yX1_hasRoom yX1_hasRoom : Cond) ∈ tb := tb_m2 (List.mem_of_getElem? (i := 167) rfl) rfl
theorem tm_460 : (.code yX1_hasRoom cX1_hasRoom 1 (some .boolean) : Cond) ∈ tb := tb_m2 (List.mem_of_getElem? (i := 168) rfl) rfl
theorem tm_461 : (.methodLink RX7 141 yX1_spare : Cond) ∈ tb := tb_m2 (List.mem_of_getElem? (i := 169) rfl) rfl
theorem tm_462 : (.instanceMethod yX1_spare : Cond) ∈ tb := tb_m2 (List.mem_of_getElem? (i := 170) rfl) rfl
theorem tm_463 : (.selects RX1 yX1_spare yX1_spare : Cond) ∈ tb := tb_m2 (List.mem_of_getElem? (i := 171) rfl) rfl
theorem tm_464 : (.code yX1_spare cX1_spare 1 (some (.object "EclipseHouse$Account")) : Cond) ∈ tb := tb_m2 (List.mem_of_getElem? (i := 172) rfl) rfl
theorem tm_465 : (.methodLink RX1 22 yX1_hasRoom : Cond) ∈ tb := tb_m2 (List.mem_of_getElem? (i := 173) rfl) rfl
theorem tm_466 : (.methodLink RX7 145 yX3_read : Cond) ∈ tb := tb_m2 (List.mem_of_getElem? (i := 174) rfl) rfl
theorem tm_467 : (.instanceMethod yX3_read : Cond) ∈ tb := tb_m2 (List.mem_of_getElem? (i := 175) rfl) rfl
theorem tm_468 : (.selects RX3 yX3_read yX3_read : Cond) ∈ tb := tb_m2 (List.mem_of_getElem? (i := 176) rfl) rfl
theorem tm_469 : (.code yX3_read cX3_read 3 (some .boolean) : Cond) ∈ tb := tb_m2 (List.mem_of_getElem? (i := 177) rfl) rfl
theorem tm_470 : (.methodLink RX3 30 yX0_clear : Cond) ∈ tb := tb_m2 (List.mem_of_getElem? (i := 178) rfl) rfl
theorem tm_471 : (.instanceMethod yX0_clear : Cond) ∈ tb := tb_m2 (List.mem_of_getElem? (i := 179) rfl) rfl
theorem tm_472 : (.selects RX0 yX0_clear yX0_clear : Cond) ∈ tb := tb_m2 (List.mem_of_getElem? (i := 180) rfl) rfl
theorem tm_473 : (.code yX0_clear cX0_clear 3 none : Cond) ∈ tb := tb_m2 (List.mem_of_getElem? (i := 181) rfl) rfl
theorem tm_474 : (.methodLink RX3 48 yX3_advance : Cond) ∈ tb := tb_m2 (List.mem_of_getElem? (i := 182) rfl) rfl
theorem tm_476 : (.instanceMethod yX3_advance : Cond) ∈ tb := tb_m2 (List.mem_of_getElem? (i := 184) rfl) rfl
theorem tm_477 : (.code yX3_advance cX3_advance 3 none : Cond) ∈ tb := tb_m2 (List.mem_of_getElem? (i := 185) rfl) rfl
theorem tm_478 : (.methodLink RX3 70 yX6_size : Cond) ∈ tb := tb_m2 (List.mem_of_getElem? (i := 186) rfl) rfl
theorem tm_479 : (.methodLink RX3 76 yX6_byteAt : Cond) ∈ tb := tb_m2 (List.mem_of_getElem? (i := 187) rfl) rfl
theorem tm_480 : (.methodLink RX3 80 yX6_isBlank : Cond) ∈ tb := tb_m2 (List.mem_of_getElem? (i := 188) rfl) rfl
theorem tm_481 : (.static yX6_isBlank : Cond) ∈ tb := tb_m2 (List.mem_of_getElem? (i := 189) rfl) rfl
theorem tm_482 : (.code yX6_isBlank cX6_isBlank 1 (some .boolean) : Cond) ∈ tb := tb_m2 (List.mem_of_getElem? (i := 190) rfl) rfl
theorem tm_483 : (.methodLink RX3 84 yX3_takeSign : Cond) ∈ tb := tb_m2 (List.mem_of_getElem? (i := 191) rfl) rfl
theorem tm_485 : (.instanceMethod yX3_takeSign : Cond) ∈ tb := tb_m2 (List.mem_of_getElem? (i := 193) rfl) rfl
theorem tm_486 : (.code yX3_takeSign cX3_takeSign 2 none : Cond) ∈ tb := tb_m2 (List.mem_of_getElem? (i := 194) rfl) rfl
theorem tm_487 : (.methodLink RX3 87 yX6_isLetter : Cond) ∈ tb := tb_m2 (List.mem_of_getElem? (i := 195) rfl) rfl
theorem tm_488 : (.methodLink RX3 90 yX6_isDigit : Cond) ∈ tb := tb_m2 (List.mem_of_getElem? (i := 196) rfl) rfl
theorem tm_489 : (.static yX6_isDigit : Cond) ∈ tb := tb_m2 (List.mem_of_getElem? (i := 197) rfl) rfl
theorem tm_490 : (.code yX6_isDigit cX6_isDigit 1 (some .boolean) : Cond) ∈ tb := tb_m2 (List.mem_of_getElem? (i := 198) rfl) rfl
theorem tm_491 : (.methodLink RX3 51 yX3_readWhat : Cond) ∈ tb := tb_m2 (List.mem_of_getElem? (i := 199) rfl) rfl
theorem tm_493 : (.instanceMethod yX3_readWhat : Cond) ∈ tb := tb_m2 (List.mem_of_getElem? (i := 201) rfl) rfl
theorem tm_494 : (.code yX3_readWhat cX3_readWhat 3 (some .boolean) : Cond) ∈ tb := tb_m2 (List.mem_of_getElem? (i := 202) rfl) rfl
theorem tm_496 : (.methodLink RX3 104 yX3_isWord : Cond) ∈ tb := tb_m2 (List.mem_of_getElem? (i := 204) rfl) rfl
theorem tm_498 : (.instanceMethod yX3_isWord : Cond) ∈ tb := tb_m2 (List.mem_of_getElem? (i := 206) rfl) rfl
theorem tm_499 : (.code yX3_isWord cX3_isWord 3 (some .boolean) : Cond) ∈ tb := tb_m2 (List.mem_of_getElem? (i := 207) rfl) rfl
theorem tm_500 : (.methodLink RX3 93 yJ0_length_8abf5 : Cond) ∈ tb := tb_m2 (List.mem_of_getElem? (i := 208) rfl) rfl
theorem tm_501 : (.instanceMethod yJ0_length_8abf5 : Cond) ∈ tb := tb_m2 (List.mem_of_getElem? (i := 209) rfl) rfl
theorem tm_502 : (.selects RJ0 yJ0_length_8abf5 yJ0_length_8abf5 : Cond) ∈ tb := tb_m2 (List.mem_of_getElem? (i := 210) rfl) rfl
theorem tm_503 : (.code yJ0_length_8abf5 cJ0_length_8abf5 1 (some .int) : Cond) ∈ tb := tb_m2 (List.mem_of_getElem? (i := 211) rfl) rfl
theorem tm_504 : (.methodLink RJ0 335 yJ0_coder_7d493 : Cond) ∈ tb := tb_m2 (List.mem_of_getElem? (i := 212) rfl) rfl
theorem tm_505 : (.instanceMethod yJ0_coder_7d493 : Cond) ∈ tb := tb_m2 (List.mem_of_getElem? (i := 213) rfl) rfl
theorem tm_506 : (.selects RJ0 yJ0_coder_7d493 yJ0_coder_7d493 : Cond) ∈ tb := tb_m2 (List.mem_of_getElem? (i := 214) rfl) rfl
theorem tm_507 : (.code yJ0_coder_7d493 cJ0_coder_7d493 1 (some .byte) : Cond) ∈ tb := tb_m2 (List.mem_of_getElem? (i := 215) rfl) rfl
theorem tm_508 : (.fieldLink RJ0 38 "java/lang/String" "COMPACT_STRINGS" "Z" : Cond) ∈ tb := tb_m2 (List.mem_of_getElem? (i := 216) rfl) rfl
theorem tm_510 : (.methodLink RX3 98 yJ0_charAt_5068e : Cond) ∈ tb := tb_m2 (List.mem_of_getElem? (i := 218) rfl) rfl
theorem tm_511 : (.instanceMethod yJ0_charAt_5068e : Cond) ∈ tb := tb_m2 (List.mem_of_getElem? (i := 219) rfl) rfl
theorem tm_512 : (.selects RJ0 yJ0_charAt_5068e yJ0_charAt_5068e : Cond) ∈ tb := tb_m2 (List.mem_of_getElem? (i := 220) rfl) rfl
theorem tm_513 : (.code yJ0_charAt_5068e cJ0_charAt_5068e 2 (some .char) : Cond) ∈ tb := tb_m2 (List.mem_of_getElem? (i := 221) rfl) rfl
theorem tm_514 : (.methodLink RJ0 492 yJ0_isLatin1_aae02 : Cond) ∈ tb := tb_m2 (List.mem_of_getElem? (i := 222) rfl) rfl
theorem tm_515 : (.instanceMethod yJ0_isLatin1_aae02 : Cond) ∈ tb := tb_m2 (List.mem_of_getElem? (i := 223) rfl) rfl
theorem tm_516 : (.selects RJ0 yJ0_isLatin1_aae02 yJ0_isLatin1_aae02 : Cond) ∈ tb := tb_m2 (List.mem_of_getElem? (i := 224) rfl) rfl
theorem tm_517 : (.code yJ0_isLatin1_aae02 cJ0_isLatin1_aae02 1 (some .boolean) : Cond) ∈ tb := tb_m2 (List.mem_of_getElem? (i := 225) rfl) rfl
theorem tm_518 : (.methodLink RJ0 495 yJ1_charAt_3b067 : Cond) ∈ tb := tb_m2 (List.mem_of_getElem? (i := 226) rfl) rfl
theorem tm_519 : (.static yJ1_charAt_3b067 : Cond) ∈ tb := tb_m2 (List.mem_of_getElem? (i := 227) rfl) rfl
theorem tm_520 : (.code yJ1_charAt_3b067 cJ1_charAt_3b067 2 (some .char) : Cond) ∈ tb := tb_m2 (List.mem_of_getElem? (i := 228) rfl) rfl
theorem tm_521 : (.methodLink RJ1 9 yJ0_checkIndex_df160 : Cond) ∈ tb := tb_m2 (List.mem_of_getElem? (i := 229) rfl) rfl
theorem tm_522 : (.static yJ0_checkIndex_df160 : Cond) ∈ tb := tb_m2 (List.mem_of_getElem? (i := 230) rfl) rfl
theorem tm_523 : (.code yJ0_checkIndex_df160 cJ0_checkIndex_df160 2 none : Cond) ∈ tb := tb_m2 (List.mem_of_getElem? (i := 231) rfl) rfl
theorem tm_524 : (.fieldLink RJ0 1053 "jdk/internal/util/Preconditions" "SIOOBE_FORMATTER" "Ljava/util/function/BiFunction;" : Cond) ∈ tb := tb_m2 (List.mem_of_getElem? (i := 232) rfl) rfl
theorem tm_526 : (.methodLink RJ0 1059 yJ3_checkIndex_8e157 : Cond) ∈ tb := tb_m2 (List.mem_of_getElem? (i := 234) rfl) rfl
theorem tm_527 : (.static yJ3_checkIndex_8e157 : Cond) ∈ tb := tb_m2 (List.mem_of_getElem? (i := 235) rfl) rfl
theorem tm_528 : (.code yJ3_checkIndex_8e157 cJ3_checkIndex_8e157 3 (some .int) : Cond) ∈ tb := tb_m2 (List.mem_of_getElem? (i := 236) rfl) rfl
theorem tm_529 : (.methodLink RJ0 498 yJ2_charAt_3b067 : Cond) ∈ tb := tb_m2 (List.mem_of_getElem? (i := 237) rfl) rfl
theorem tm_530 : (.static yJ2_charAt_3b067 : Cond) ∈ tb := tb_m2 (List.mem_of_getElem? (i := 238) rfl) rfl
theorem tm_531 : (.code yJ2_charAt_3b067 cJ2_charAt_3b067 2 (some .char) : Cond) ∈ tb := tb_m2 (List.mem_of_getElem? (i := 239) rfl) rfl
theorem tm_532 : (.methodLink RJ2 67 yJ2_checkIndex_2214a : Cond) ∈ tb := tb_m3 (List.mem_of_getElem? (i := 0) rfl) rfl
theorem tm_533 : (.static yJ2_checkIndex_2214a : Cond) ∈ tb := tb_m3 (List.mem_of_getElem? (i := 1) rfl) rfl
theorem tm_534 : (.code yJ2_checkIndex_2214a cJ2_checkIndex_2214a 2 none : Cond) ∈ tb := tb_m3 (List.mem_of_getElem? (i := 2) rfl) rfl
theorem tm_535 : (.methodLink RJ2 48 yJ2_length_9d52b : Cond) ∈ tb := tb_m3 (List.mem_of_getElem? (i := 3) rfl) rfl
theorem tm_536 : (.static yJ2_length_9d52b : Cond) ∈ tb := tb_m3 (List.mem_of_getElem? (i := 4) rfl) rfl
theorem tm_537 : (.code yJ2_length_9d52b cJ2_length_9d52b 1 (some .int) : Cond) ∈ tb := tb_m3 (List.mem_of_getElem? (i := 5) rfl) rfl
theorem tm_538 : (.methodLink RJ2 414 yJ0_checkIndex_df160 : Cond) ∈ tb := tb_m3 (List.mem_of_getElem? (i := 6) rfl) rfl
theorem tm_539 : (.methodLink RJ2 71 yJ2_getChar_3b067 : Cond) ∈ tb := tb_m3 (List.mem_of_getElem? (i := 7) rfl) rfl
theorem tm_540 : (.static yJ2_getChar_3b067 : Cond) ∈ tb := tb_m3 (List.mem_of_getElem? (i := 8) rfl) rfl
theorem tm_541 : (.code yJ2_getChar_3b067 cJ2_getChar_3b067 2 (some .char) : Cond) ∈ tb := tb_m3 (List.mem_of_getElem? (i := 9) rfl) rfl
theorem tm_542 : (.fieldLink RJ2 44 "java/lang/StringUTF16" "$assertionsDisabled" "Z" : Cond) ∈ tb := tb_m3 (List.mem_of_getElem? (i := 10) rfl) rfl
theorem tm_544 : (.fieldLink RJ2 59 "java/lang/StringUTF16" "HI_BYTE_SHIFT" "I" : Cond) ∈ tb := tb_m3 (List.mem_of_getElem? (i := 12) rfl) rfl
theorem tm_546 : (.fieldLink RJ2 63 "java/lang/StringUTF16" "LO_BYTE_SHIFT" "I" : Cond) ∈ tb := tb_m3 (List.mem_of_getElem? (i := 14) rfl) rfl
theorem tm_549 : (.methodLink RX3 110 yX3_refuse : Cond) ∈ tb := tb_m3 (List.mem_of_getElem? (i := 17) rfl) rfl
theorem tm_551 : (.instanceMethod yX3_refuse : Cond) ∈ tb := tb_m3 (List.mem_of_getElem? (i := 19) rfl) rfl
theorem tm_552 : (.code yX3_refuse cX3_refuse 3 (some .boolean) : Cond) ∈ tb := tb_m3 (List.mem_of_getElem? (i := 20) rfl) rfl
theorem tm_553 : (.methodLink RX3 114 yX3_sunKind : Cond) ∈ tb := tb_m3 (List.mem_of_getElem? (i := 21) rfl) rfl
theorem tm_555 : (.instanceMethod yX3_sunKind : Cond) ∈ tb := tb_m3 (List.mem_of_getElem? (i := 23) rfl) rfl
theorem tm_556 : (.code yX3_sunKind cX3_sunKind 1 (some .int) : Cond) ∈ tb := tb_m3 (List.mem_of_getElem? (i := 24) rfl) rfl
theorem tm_560 : (.methodLink RX3 117 yX3_moonKind : Cond) ∈ tb := tb_m3 (List.mem_of_getElem? (i := 28) rfl) rfl
theorem tm_562 : (.instanceMethod yX3_moonKind : Cond) ∈ tb := tb_m3 (List.mem_of_getElem? (i := 30) rfl) rfl
theorem tm_563 : (.code yX3_moonKind cX3_moonKind 1 (some .int) : Cond) ∈ tb := tb_m3 (List.mem_of_getElem? (i := 31) rfl) rfl
theorem tm_566 : (.methodLink RX3 120 yX0_setKinds : Cond) ∈ tb := tb_m3 (List.mem_of_getElem? (i := 34) rfl) rfl
theorem tm_567 : (.instanceMethod yX0_setKinds : Cond) ∈ tb := tb_m3 (List.mem_of_getElem? (i := 35) rfl) rfl
theorem tm_568 : (.selects RX0 yX0_setKinds yX0_setKinds : Cond) ∈ tb := tb_m3 (List.mem_of_getElem? (i := 36) rfl) rfl
theorem tm_569 : (.code yX0_setKinds cX0_setKinds 2 none : Cond) ∈ tb := tb_m3 (List.mem_of_getElem? (i := 37) rfl) rfl
theorem tm_570 : (.methodLink RX3 55 yX3_readParts : Cond) ∈ tb := tb_m3 (List.mem_of_getElem? (i := 38) rfl) rfl
theorem tm_572 : (.instanceMethod yX3_readParts : Cond) ∈ tb := tb_m3 (List.mem_of_getElem? (i := 40) rfl) rfl
theorem tm_573 : (.code yX3_readParts cX3_readParts 2 (some .boolean) : Cond) ∈ tb := tb_m3 (List.mem_of_getElem? (i := 41) rfl) rfl
theorem tm_575 : (.methodLink RX3 135 yX3_readPart : Cond) ∈ tb := tb_m3 (List.mem_of_getElem? (i := 43) rfl) rfl
theorem tm_577 : (.instanceMethod yX3_readPart : Cond) ∈ tb := tb_m3 (List.mem_of_getElem? (i := 45) rfl) rfl
theorem tm_578 : (.code yX3_readPart cX3_readPart 2 (some .boolean) : Cond) ∈ tb := tb_m3 (List.mem_of_getElem? (i := 46) rfl) rfl
theorem tm_579 : (.methodLink RX3 146 yX3_partHere : Cond) ∈ tb := tb_m3 (List.mem_of_getElem? (i := 47) rfl) rfl
theorem tm_581 : (.instanceMethod yX3_partHere : Cond) ∈ tb := tb_m3 (List.mem_of_getElem? (i := 49) rfl) rfl
theorem tm_582 : (.code yX3_partHere cX3_partHere 1 (some .int) : Cond) ∈ tb := tb_m3 (List.mem_of_getElem? (i := 50) rfl) rfl
theorem tm_587 : (.methodLink RX3 149 yX0_has : Cond) ∈ tb := tb_m3 (List.mem_of_getElem? (i := 55) rfl) rfl
theorem tm_588 : (.instanceMethod yX0_has : Cond) ∈ tb := tb_m3 (List.mem_of_getElem? (i := 56) rfl) rfl
theorem tm_589 : (.selects RX0 yX0_has yX0_has : Cond) ∈ tb := tb_m3 (List.mem_of_getElem? (i := 57) rfl) rfl
theorem tm_590 : (.code yX0_has cX0_has 2 (some .boolean) : Cond) ∈ tb := tb_m3 (List.mem_of_getElem? (i := 58) rfl) rfl
theorem tm_591 : (.methodLink RX3 152 yX3_readNumber : Cond) ∈ tb := tb_m3 (List.mem_of_getElem? (i := 59) rfl) rfl
theorem tm_593 : (.instanceMethod yX3_readNumber : Cond) ∈ tb := tb_m3 (List.mem_of_getElem? (i := 61) rfl) rfl
theorem tm_594 : (.code yX3_readNumber cX3_readNumber 4 (some .boolean) : Cond) ∈ tb := tb_m3 (List.mem_of_getElem? (i := 62) rfl) rfl
theorem tm_595 : (.fieldLink RX3 160 "EclipseHouse$Reader" "LEAST" "[I" : Cond) ∈ tb := tb_m3 (List.mem_of_getElem? (i := 63) rfl) rfl
theorem tm_597 : (.fieldLink RX3 164 "EclipseHouse$Reader" "GREATEST" "[I" : Cond) ∈ tb := tb_m3 (List.mem_of_getElem? (i := 65) rfl) rfl
theorem tm_599 : (.methodLink RX3 167 yX0_setNumber : Cond) ∈ tb := tb_m3 (List.mem_of_getElem? (i := 67) rfl) rfl
theorem tm_600 : (.instanceMethod yX0_setNumber : Cond) ∈ tb := tb_m3 (List.mem_of_getElem? (i := 68) rfl) rfl
theorem tm_601 : (.selects RX0 yX0_setNumber yX0_setNumber : Cond) ∈ tb := tb_m3 (List.mem_of_getElem? (i := 69) rfl) rfl
theorem tm_602 : (.code yX0_setNumber cX0_setNumber 3 none : Cond) ∈ tb := tb_m3 (List.mem_of_getElem? (i := 70) rfl) rfl
theorem tm_604 : (.methodLink RX3 157 yX3_readRuler : Cond) ∈ tb := tb_m3 (List.mem_of_getElem? (i := 72) rfl) rfl
theorem tm_606 : (.instanceMethod yX3_readRuler : Cond) ∈ tb := tb_m3 (List.mem_of_getElem? (i := 74) rfl) rfl
theorem tm_607 : (.code yX3_readRuler cX3_readRuler 2 (some .boolean) : Cond) ∈ tb := tb_m3 (List.mem_of_getElem? (i := 75) rfl) rfl
theorem tm_608 : (.methodLink RX3 171 yX6_nameBetween : Cond) ∈ tb := tb_m3 (List.mem_of_getElem? (i := 76) rfl) rfl
theorem tm_609 : (.methodLink RX3 175 yX4_find : Cond) ∈ tb := tb_m3 (List.mem_of_getElem? (i := 77) rfl) rfl
theorem tm_610 : (.methodLink RX3 58 yX3_readCalendar : Cond) ∈ tb := tb_m3 (List.mem_of_getElem? (i := 78) rfl) rfl
theorem tm_612 : (.instanceMethod yX3_readCalendar : Cond) ∈ tb := tb_m3 (List.mem_of_getElem? (i := 80) rfl) rfl
theorem tm_613 : (.code yX3_readCalendar cX3_readCalendar 1 (some .boolean) : Cond) ∈ tb := tb_m3 (List.mem_of_getElem? (i := 81) rfl) rfl
theorem tm_617 : (.methodLink RX3 191 yX0_setCalendar : Cond) ∈ tb := tb_m3 (List.mem_of_getElem? (i := 85) rfl) rfl
theorem tm_618 : (.instanceMethod yX0_setCalendar : Cond) ∈ tb := tb_m3 (List.mem_of_getElem? (i := 86) rfl) rfl
theorem tm_619 : (.selects RX0 yX0_setCalendar yX0_setCalendar : Cond) ∈ tb := tb_m3 (List.mem_of_getElem? (i := 87) rfl) rfl
theorem tm_620 : (.code yX0_setCalendar cX0_setCalendar 2 none : Cond) ∈ tb := tb_m3 (List.mem_of_getElem? (i := 88) rfl) rfl
theorem tm_621 : (.methodLink RX3 61 yX3_readClose : Cond) ∈ tb := tb_m3 (List.mem_of_getElem? (i := 89) rfl) rfl
theorem tm_623 : (.instanceMethod yX3_readClose : Cond) ∈ tb := tb_m3 (List.mem_of_getElem? (i := 91) rfl) rfl
theorem tm_624 : (.code yX3_readClose cX3_readClose 1 (some .boolean) : Cond) ∈ tb := tb_m3 (List.mem_of_getElem? (i := 92) rfl) rfl
theorem tm_625 : (.methodLink RX3 64 yX3_joinRuler : Cond) ∈ tb := tb_m3 (List.mem_of_getElem? (i := 93) rfl) rfl
theorem tm_627 : (.instanceMethod yX3_joinRuler : Cond) ∈ tb := tb_m3 (List.mem_of_getElem? (i := 95) rfl) rfl
theorem tm_628 : (.code yX3_joinRuler cX3_joinRuler 1 (some .boolean) : Cond) ∈ tb := tb_m3 (List.mem_of_getElem? (i := 96) rfl) rfl
theorem tm_629 : (.methodLink RX3 194 yX4_calendarOf : Cond) ∈ tb := tb_m3 (List.mem_of_getElem? (i := 97) rfl) rfl
theorem tm_630 : (.instanceMethod yX4_calendarOf : Cond) ∈ tb := tb_m3 (List.mem_of_getElem? (i := 98) rfl) rfl
theorem tm_631 : (.selects RX4 yX4_calendarOf yX4_calendarOf : Cond) ∈ tb := tb_m3 (List.mem_of_getElem? (i := 99) rfl) rfl
theorem tm_632 : (.code yX4_calendarOf cX4_calendarOf 2 (some .int) : Cond) ∈ tb := tb_m3 (List.mem_of_getElem? (i := 100) rfl) rfl
theorem tm_633 : (.methodLink RX4 35 yX4_isThere : Cond) ∈ tb := tb_m3 (List.mem_of_getElem? (i := 101) rfl) rfl
theorem tm_635 : (.instanceMethod yX4_isThere : Cond) ∈ tb := tb_m3 (List.mem_of_getElem? (i := 103) rfl) rfl
theorem tm_636 : (.code yX4_isThere cX4_isThere 2 (some .boolean) : Cond) ∈ tb := tb_m3 (List.mem_of_getElem? (i := 104) rfl) rfl
theorem tm_637 : (.methodLink RX3 197 yX4_firstYearOf : Cond) ∈ tb := tb_m3 (List.mem_of_getElem? (i := 105) rfl) rfl
theorem tm_638 : (.instanceMethod yX4_firstYearOf : Cond) ∈ tb := tb_m3 (List.mem_of_getElem? (i := 106) rfl) rfl
theorem tm_639 : (.selects RX4 yX4_firstYearOf yX4_firstYearOf : Cond) ∈ tb := tb_m3 (List.mem_of_getElem? (i := 107) rfl) rfl
theorem tm_640 : (.code yX4_firstYearOf cX4_firstYearOf 2 (some .int) : Cond) ∈ tb := tb_m3 (List.mem_of_getElem? (i := 108) rfl) rfl
theorem tm_641 : (.methodLink RX3 200 yX0_setYearZero : Cond) ∈ tb := tb_m3 (List.mem_of_getElem? (i := 109) rfl) rfl
theorem tm_642 : (.instanceMethod yX0_setYearZero : Cond) ∈ tb := tb_m3 (List.mem_of_getElem? (i := 110) rfl) rfl
theorem tm_643 : (.selects RX0 yX0_setYearZero yX0_setYearZero : Cond) ∈ tb := tb_m3 (List.mem_of_getElem? (i := 111) rfl) rfl
theorem tm_644 : (.code yX0_setYearZero cX0_setYearZero 2 none : Cond) ∈ tb := tb_m3 (List.mem_of_getElem? (i := 112) rfl) rfl
theorem tm_645 : (.methodLink RX7 149 yX1_keepSpare : Cond) ∈ tb := tb_m3 (List.mem_of_getElem? (i := 113) rfl) rfl
theorem tm_646 : (.instanceMethod yX1_keepSpare : Cond) ∈ tb := tb_m3 (List.mem_of_getElem? (i := 114) rfl) rfl
theorem tm_647 : (.selects RX1 yX1_keepSpare yX1_keepSpare : Cond) ∈ tb := tb_m3 (List.mem_of_getElem? (i := 115) rfl) rfl
theorem tm_648 : (.code yX1_keepSpare cX1_keepSpare 1 (some .int) : Cond) ∈ tb := tb_m3 (List.mem_of_getElem? (i := 116) rfl) rfl
theorem tm_649 : (.arrayClass .byte : Cond) ∈ tb := tb_m3 (List.mem_of_getElem? (i := 117) rfl) rfl
theorem tm_650 : (.methodLink RL 68 yX7_fault : Cond) ∈ tb := tb_m3 (List.mem_of_getElem? (i := 118) rfl) rfl
theorem tm_651 : (.instanceMethod yX7_fault : Cond) ∈ tb := tb_m3 (List.mem_of_getElem? (i := 119) rfl) rfl
theorem tm_652 : (.selects RX7 yX7_fault yX7_fault : Cond) ∈ tb := tb_m3 (List.mem_of_getElem? (i := 120) rfl) rfl
theorem tm_653 : (.code yX7_fault cX7_fault 2 (some .int) : Cond) ∈ tb := tb_m3 (List.mem_of_getElem? (i := 121) rfl) rfl
theorem tm_654 : (.methodLink RX7 152 yX3_faultKind : Cond) ∈ tb := tb_m3 (List.mem_of_getElem? (i := 122) rfl) rfl
theorem tm_655 : (.instanceMethod yX3_faultKind : Cond) ∈ tb := tb_m3 (List.mem_of_getElem? (i := 123) rfl) rfl
theorem tm_656 : (.selects RX3 yX3_faultKind yX3_faultKind : Cond) ∈ tb := tb_m3 (List.mem_of_getElem? (i := 124) rfl) rfl
theorem tm_657 : (.code yX3_faultKind cX3_faultKind 1 (some .int) : Cond) ∈ tb := tb_m3 (List.mem_of_getElem? (i := 125) rfl) rfl
theorem tm_658 : (.methodLink RX7 155 yX3_faultPlace : Cond) ∈ tb := tb_m3 (List.mem_of_getElem? (i := 126) rfl) rfl
theorem tm_659 : (.instanceMethod yX3_faultPlace : Cond) ∈ tb := tb_m3 (List.mem_of_getElem? (i := 127) rfl) rfl
theorem tm_660 : (.selects RX3 yX3_faultPlace yX3_faultPlace : Cond) ∈ tb := tb_m3 (List.mem_of_getElem? (i := 128) rfl) rfl
theorem tm_661 : (.code yX3_faultPlace cX3_faultPlace 1 (some .int) : Cond) ∈ tb := tb_m3 (List.mem_of_getElem? (i := 129) rfl) rfl
theorem tm_662 : (.methodLink RL 72 yX7_means : Cond) ∈ tb := tb_m3 (List.mem_of_getElem? (i := 130) rfl) rfl
theorem tm_663 : (.instanceMethod yX7_means : Cond) ∈ tb := tb_m3 (List.mem_of_getElem? (i := 131) rfl) rfl
theorem tm_664 : (.selects RX7 yX7_means yX7_means : Cond) ∈ tb := tb_m3 (List.mem_of_getElem? (i := 132) rfl) rfl
theorem tm_665 : (.code yX7_means cX7_means 4 (some .int) : Cond) ∈ tb := tb_m3 (List.mem_of_getElem? (i := 133) rfl) rfl
theorem tm_666 : (.methodLink RX7 158 yX1_find : Cond) ∈ tb := tb_m3 (List.mem_of_getElem? (i := 134) rfl) rfl
theorem tm_667 : (.instanceMethod yX1_find : Cond) ∈ tb := tb_m3 (List.mem_of_getElem? (i := 135) rfl) rfl
theorem tm_668 : (.selects RX1 yX1_find yX1_find : Cond) ∈ tb := tb_m3 (List.mem_of_getElem? (i := 136) rfl) rfl
theorem tm_669 : (.code yX1_find cX1_find 2 (some (.object "EclipseHouse$Account")) : Cond) ∈ tb := tb_m3 (List.mem_of_getElem? (i := 137) rfl) rfl
theorem tm_670 : (.methodLink RX7 162 yX0_countMeant : Cond) ∈ tb := tb_m3 (List.mem_of_getElem? (i := 138) rfl) rfl
theorem tm_671 : (.instanceMethod yX0_countMeant : Cond) ∈ tb := tb_m3 (List.mem_of_getElem? (i := 139) rfl) rfl
theorem tm_672 : (.selects RX0 yX0_countMeant yX0_countMeant : Cond) ∈ tb := tb_m3 (List.mem_of_getElem? (i := 140) rfl) rfl
theorem tm_673 : (.code yX0_countMeant cX0_countMeant 6 (some .int) : Cond) ∈ tb := tb_m3 (List.mem_of_getElem? (i := 141) rfl) rfl
theorem tm_674 : (.methodLink RX0 31 yX5_listEclipses : Cond) ∈ tb := tb_m3 (List.mem_of_getElem? (i := 142) rfl) rfl
theorem tm_675 : (.methodLink RX0 37 yX0_isMeant : Cond) ∈ tb := tb_m3 (List.mem_of_getElem? (i := 143) rfl) rfl
theorem tm_677 : (.instanceMethod yX0_isMeant : Cond) ∈ tb := tb_m3 (List.mem_of_getElem? (i := 145) rfl) rfl
theorem tm_678 : (.code yX0_isMeant cX0_isMeant 5 (some .boolean) : Cond) ∈ tb := tb_m3 (List.mem_of_getElem? (i := 146) rfl) rfl
theorem tm_679 : (.methodLink RX0 45 yX0_hoursSeen : Cond) ∈ tb := tb_m3 (List.mem_of_getElem? (i := 147) rfl) rfl
theorem tm_681 : (.instanceMethod yX0_hoursSeen : Cond) ∈ tb := tb_m3 (List.mem_of_getElem? (i := 149) rfl) rfl
theorem tm_682 : (.code yX0_hoursSeen cX0_hoursSeen 5 (some .int) : Cond) ∈ tb := tb_m3 (List.mem_of_getElem? (i := 150) rfl) rfl
theorem tm_683 : (.methodLink RX0 67 yX0_isOfKind : Cond) ∈ tb := tb_m3 (List.mem_of_getElem? (i := 151) rfl) rfl
theorem tm_685 : (.instanceMethod yX0_isOfKind : Cond) ∈ tb := tb_m3 (List.mem_of_getElem? (i := 153) rfl) rfl
theorem tm_686 : (.code yX0_isOfKind cX0_isOfKind 3 (some .boolean) : Cond) ∈ tb := tb_m3 (List.mem_of_getElem? (i := 154) rfl) rfl
theorem tm_687 : (.methodLink RX0 100 yX5_kindAt : Cond) ∈ tb := tb_m3 (List.mem_of_getElem? (i := 155) rfl) rfl
theorem tm_688 : (.instanceMethod yX5_kindAt : Cond) ∈ tb := tb_m3 (List.mem_of_getElem? (i := 156) rfl) rfl
theorem tm_689 : (.selects RX5 yX5_kindAt yX5_kindAt : Cond) ∈ tb := tb_m3 (List.mem_of_getElem? (i := 157) rfl) rfl
theorem tm_690 : (.code yX5_kindAt cX5_kindAt 2 (some .int) : Cond) ∈ tb := tb_m3 (List.mem_of_getElem? (i := 158) rfl) rfl
theorem tm_691 : (.methodLink RX5 97 yX5_isListed : Cond) ∈ tb := tb_m3 (List.mem_of_getElem? (i := 159) rfl) rfl
theorem tm_693 : (.instanceMethod yX5_isListed : Cond) ∈ tb := tb_m3 (List.mem_of_getElem? (i := 161) rfl) rfl
theorem tm_694 : (.code yX5_isListed cX5_isListed 2 (some .boolean) : Cond) ∈ tb := tb_m3 (List.mem_of_getElem? (i := 162) rfl) rfl
theorem tm_695 : (.methodLink RX0 75 yX5_timeAt : Cond) ∈ tb := tb_m3 (List.mem_of_getElem? (i := 163) rfl) rfl
theorem tm_696 : (.instanceMethod yX5_timeAt : Cond) ∈ tb := tb_m3 (List.mem_of_getElem? (i := 164) rfl) rfl
theorem tm_697 : (.selects RX5 yX5_timeAt yX5_timeAt : Cond) ∈ tb := tb_m3 (List.mem_of_getElem? (i := 165) rfl) rfl
theorem tm_698 : (.code yX5_timeAt cX5_timeAt 2 (some .int) : Cond) ∈ tb := tb_m3 (List.mem_of_getElem? (i := 166) rfl) rfl
theorem tm_699 : (.methodLink RX0 82 yX0_hoursAt : Cond) ∈ tb := tb_m3 (List.mem_of_getElem? (i := 167) rfl) rfl
theorem tm_701 : (.instanceMethod yX0_hoursAt : Cond) ∈ tb := tb_m3 (List.mem_of_getElem? (i := 169) rfl) rfl
theorem tm_702 : (.code yX0_hoursAt cX0_hoursAt 3 (some .int) : Cond) ∈ tb := tb_m3 (List.mem_of_getElem? (i := 170) rfl) rfl
theorem tm_703 : (.methodLink RX0 93 yX5_minuteSeen : Cond) ∈ tb := tb_m3 (List.mem_of_getElem? (i := 171) rfl) rfl
theorem tm_704 : (.methodLink RX0 97 yJ9_floorDiv_7cf53 : Cond) ∈ tb := tb_m3 (List.mem_of_getElem? (i := 172) rfl) rfl
theorem tm_705 : (.methodLink RX0 78 yX5_isOfSunAt : Cond) ∈ tb := tb_m3 (List.mem_of_getElem? (i := 173) rfl) rfl
theorem tm_706 : (.instanceMethod yX5_isOfSunAt : Cond) ∈ tb := tb_m3 (List.mem_of_getElem? (i := 174) rfl) rfl
theorem tm_707 : (.selects RX5 yX5_isOfSunAt yX5_isOfSunAt : Cond) ∈ tb := tb_m3 (List.mem_of_getElem? (i := 175) rfl) rfl
theorem tm_708 : (.code yX5_isOfSunAt cX5_isOfSunAt 2 (some .boolean) : Cond) ∈ tb := tb_m3 (List.mem_of_getElem? (i := 176) rfl) rfl
theorem tm_709 : (.methodLink RX5 100 yX5_moonAt : Cond) ∈ tb := tb_m3 (List.mem_of_getElem? (i := 177) rfl) rfl
theorem tm_710 : (.instanceMethod yX5_moonAt : Cond) ∈ tb := tb_m3 (List.mem_of_getElem? (i := 178) rfl) rfl
theorem tm_711 : (.selects RX5 yX5_moonAt yX5_moonAt : Cond) ∈ tb := tb_m3 (List.mem_of_getElem? (i := 179) rfl) rfl
theorem tm_712 : (.code yX5_moonAt cX5_moonAt 2 (some .int) : Cond) ∈ tb := tb_m3 (List.mem_of_getElem? (i := 180) rfl) rfl
theorem tm_713 : (.methodLink RX0 85 yX0_isSeenAt : Cond) ∈ tb := tb_m3 (List.mem_of_getElem? (i := 181) rfl) rfl
theorem tm_714 : (.static yX0_isSeenAt : Cond) ∈ tb := tb_m3 (List.mem_of_getElem? (i := 182) rfl) rfl
theorem tm_715 : (.code yX0_isSeenAt cX0_isSeenAt 4 (some .boolean) : Cond) ∈ tb := tb_m3 (List.mem_of_getElem? (i := 183) rfl) rfl
theorem tm_716 : (.methodLink RX0 49 yX0_slipsAt : Cond) ∈ tb := tb_m3 (List.mem_of_getElem? (i := 184) rfl) rfl
theorem tm_718 : (.instanceMethod yX0_slipsAt : Cond) ∈ tb := tb_m3 (List.mem_of_getElem? (i := 186) rfl) rfl
theorem tm_719 : (.code yX0_slipsAt cX0_slipsAt 7 (some .int) : Cond) ∈ tb := tb_m3 (List.mem_of_getElem? (i := 187) rfl) rfl
theorem tm_720 : (.methodLink RX0 103 yX0_slipOf : Cond) ∈ tb := tb_m3 (List.mem_of_getElem? (i := 188) rfl) rfl
theorem tm_722 : (.instanceMethod yX0_slipOf : Cond) ∈ tb := tb_m3 (List.mem_of_getElem? (i := 190) rfl) rfl
theorem tm_723 : (.code yX0_slipOf cX0_slipOf 3 (some .int) : Cond) ∈ tb := tb_m3 (List.mem_of_getElem? (i := 191) rfl) rfl
theorem tm_724 : (.methodLink RX0 106 yX0_has : Cond) ∈ tb := tb_m3 (List.mem_of_getElem? (i := 192) rfl) rfl
theorem tm_725 : (.methodLink RX0 109 yX2_yearOf : Cond) ∈ tb := tb_m3 (List.mem_of_getElem? (i := 193) rfl) rfl
theorem tm_726 : (.methodLink RX0 114 yX0_canTell : Cond) ∈ tb := tb_m3 (List.mem_of_getElem? (i := 194) rfl) rfl
theorem tm_727 : (.static yX0_canTell : Cond) ∈ tb := tb_m3 (List.mem_of_getElem? (i := 195) rfl) rfl
theorem tm_728 : (.code yX0_canTell cX0_canTell 1 (some .boolean) : Cond) ∈ tb := tb_m3 (List.mem_of_getElem? (i := 196) rfl) rfl
theorem tm_729 : (.methodLink RX0 117 yX2_monthDayOf : Cond) ∈ tb := tb_m3 (List.mem_of_getElem? (i := 197) rfl) rfl
theorem tm_730 : (.methodLink RX0 120 yX2_monthIn : Cond) ∈ tb := tb_m3 (List.mem_of_getElem? (i := 198) rfl) rfl
theorem tm_731 : (.methodLink RX0 123 yX2_dayIn : Cond) ∈ tb := tb_m3 (List.mem_of_getElem? (i := 199) rfl) rfl
theorem tm_732 : (.methodLink RL 76 yX7_meant : Cond) ∈ tb := tb_m3 (List.mem_of_getElem? (i := 200) rfl) rfl
theorem tm_733 : (.instanceMethod yX7_meant : Cond) ∈ tb := tb_m3 (List.mem_of_getElem? (i := 201) rfl) rfl
theorem tm_734 : (.selects RX7 yX7_meant yX7_meant : Cond) ∈ tb := tb_m3 (List.mem_of_getElem? (i := 202) rfl) rfl
theorem tm_735 : (.code yX7_meant cX7_meant 5 (some .int) : Cond) ∈ tb := tb_m3 (List.mem_of_getElem? (i := 203) rfl) rfl
theorem tm_736 : (.methodLink RX7 168 yX0_findMeant : Cond) ∈ tb := tb_m3 (List.mem_of_getElem? (i := 204) rfl) rfl
theorem tm_737 : (.instanceMethod yX0_findMeant : Cond) ∈ tb := tb_m3 (List.mem_of_getElem? (i := 205) rfl) rfl
theorem tm_738 : (.selects RX0 yX0_findMeant yX0_findMeant : Cond) ∈ tb := tb_m3 (List.mem_of_getElem? (i := 206) rfl) rfl
theorem tm_739 : (.code yX0_findMeant cX0_findMeant 7 (some .int) : Cond) ∈ tb := tb_m3 (List.mem_of_getElem? (i := 207) rfl) rfl
theorem tm_740 : (.methodLink RX0 41 yX5_moonAt : Cond) ∈ tb := tb_m3 (List.mem_of_getElem? (i := 208) rfl) rfl
theorem tm_741 : (.methodLink RL 80 yX7_slips : Cond) ∈ tb := tb_m3 (List.mem_of_getElem? (i := 209) rfl) rfl
theorem tm_742 : (.instanceMethod yX7_slips : Cond) ∈ tb := tb_m3 (List.mem_of_getElem? (i := 210) rfl) rfl
theorem tm_743 : (.selects RX7 yX7_slips yX7_slips : Cond) ∈ tb := tb_m3 (List.mem_of_getElem? (i := 211) rfl) rfl
theorem tm_744 : (.code yX7_slips cX7_slips 4 (some .int) : Cond) ∈ tb := tb_m3 (List.mem_of_getElem? (i := 212) rfl) rfl
theorem tm_745 : (.methodLink RX7 172 yX0_leastSlips : Cond) ∈ tb := tb_m3 (List.mem_of_getElem? (i := 213) rfl) rfl
theorem tm_746 : (.instanceMethod yX0_leastSlips : Cond) ∈ tb := tb_m3 (List.mem_of_getElem? (i := 214) rfl) rfl
theorem tm_747 : (.selects RX0 yX0_leastSlips yX0_leastSlips : Cond) ∈ tb := tb_m3 (List.mem_of_getElem? (i := 215) rfl) rfl
theorem tm_748 : (.code yX0_leastSlips cX0_leastSlips 7 (some .int) : Cond) ∈ tb := tb_m3 (List.mem_of_getElem? (i := 216) rfl) rfl
theorem tm_749 : (.methodLink RX0 53 yJ9_min_7cf53 : Cond) ∈ tb := tb_m3 (List.mem_of_getElem? (i := 217) rfl) rfl
theorem tm_750 : (.methodLink RL 84 yX7_lets : Cond) ∈ tb := tb_m3 (List.mem_of_getElem? (i := 218) rfl) rfl
theorem tm_751 : (.instanceMethod yX7_lets : Cond) ∈ tb := tb_m3 (List.mem_of_getElem? (i := 219) rfl) rfl
theorem tm_752 : (.selects RX7 yX7_lets yX7_lets : Cond) ∈ tb := tb_m3 (List.mem_of_getElem? (i := 220) rfl) rfl
theorem tm_753 : (.code yX7_lets cX7_lets 3 (some .int) : Cond) ∈ tb := tb_m3 (List.mem_of_getElem? (i := 221) rfl) rfl
theorem tm_754 : (.methodLink RX7 175 yX0_slowsLet : Cond) ∈ tb := tb_m3 (List.mem_of_getElem? (i := 222) rfl) rfl
theorem tm_755 : (.instanceMethod yX0_slowsLet : Cond) ∈ tb := tb_m3 (List.mem_of_getElem? (i := 223) rfl) rfl
theorem tm_756 : (.selects RX0 yX0_slowsLet yX0_slowsLet : Cond) ∈ tb := tb_m3 (List.mem_of_getElem? (i := 224) rfl) rfl
theorem tm_757 : (.code yX0_slowsLet cX0_slowsLet 4 (some .long) : Cond) ∈ tb := tb_m3 (List.mem_of_getElem? (i := 225) rfl) rfl
theorem tm_758 : (.methodLink RX0 58 yX5_tablesVersion : Cond) ∈ tb := tb_m3 (List.mem_of_getElem? (i := 226) rfl) rfl
theorem tm_759 : (.instanceMethod yX5_tablesVersion : Cond) ∈ tb := tb_m3 (List.mem_of_getElem? (i := 227) rfl) rfl
theorem tm_760 : (.selects RX5 yX5_tablesVersion yX5_tablesVersion : Cond) ∈ tb := tb_m3 (List.mem_of_getElem? (i := 228) rfl) rfl
theorem tm_761 : (.code yX5_tablesVersion cX5_tablesVersion 1 (some .int) : Cond) ∈ tb := tb_m3 (List.mem_of_getElem? (i := 229) rfl) rfl
theorem tm_762 : (.constantLong RX0 65 (2305843009213693951) : Cond) ∈ tb := tb_m3 (List.mem_of_getElem? (i := 230) rfl) rfl
theorem tm_763 : (.methodLink RX0 71 yX0_slowsMeaning : Cond) ∈ tb := tb_m3 (List.mem_of_getElem? (i := 231) rfl) rfl
theorem tm_765 : (.instanceMethod yX0_slowsMeaning : Cond) ∈ tb := tb_m3 (List.mem_of_getElem? (i := 233) rfl) rfl
theorem tm_766 : (.code yX0_slowsMeaning cX0_slowsMeaning 9 (some .long) : Cond) ∈ tb := tb_m3 (List.mem_of_getElem? (i := 234) rfl) rfl
theorem tm_767 : (.methodLink RX0 89 yX0_slowsWithin : Cond) ∈ tb := tb_m3 (List.mem_of_getElem? (i := 235) rfl) rfl
theorem tm_769 : (.instanceMethod yX0_slowsWithin : Cond) ∈ tb := tb_m3 (List.mem_of_getElem? (i := 237) rfl) rfl
theorem tm_770 : (.code yX0_slowsWithin cX0_slowsWithin 6 (some .long) : Cond) ∈ tb := tb_m3 (List.mem_of_getElem? (i := 238) rfl) rfl
theorem tm_771 : (.methodLink RX7 179 yJ13_bitCount_95d88 : Cond) ∈ tb := tb_m3 (List.mem_of_getElem? (i := 239) rfl) rfl
theorem tm_772 : (.static yJ13_bitCount_95d88 : Cond) ∈ tb := tb_m4 (List.mem_of_getElem? (i := 0) rfl) rfl
theorem tm_773 : (.code yJ13_bitCount_95d88 cJ13_bitCount_95d88 2 (some .int) : Cond) ∈ tb := tb_m4 (List.mem_of_getElem? (i := 1) rfl) rfl
theorem tm_774 : (.constantLong RJ13 314 (6148914691236517205) : Cond) ∈ tb := tb_m4 (List.mem_of_getElem? (i := 2) rfl) rfl
theorem tm_775 : (.constantLong RJ13 316 (3689348814741910323) : Cond) ∈ tb := tb_m4 (List.mem_of_getElem? (i := 3) rfl) rfl
theorem tm_776 : (.constantLong RJ13 318 (1085102592571150095) : Cond) ∈ tb := tb_m4 (List.mem_of_getElem? (i := 4) rfl) rfl
theorem tm_777 : (.methodLink RL 88 yX7_slow : Cond) ∈ tb := tb_m4 (List.mem_of_getElem? (i := 5) rfl) rfl
theorem tm_778 : (.instanceMethod yX7_slow : Cond) ∈ tb := tb_m4 (List.mem_of_getElem? (i := 6) rfl) rfl
theorem tm_779 : (.selects RX7 yX7_slow yX7_slow : Cond) ∈ tb := tb_m4 (List.mem_of_getElem? (i := 7) rfl) rfl
theorem tm_780 : (.code yX7_slow cX7_slow 4 (some .int) : Cond) ∈ tb := tb_m4 (List.mem_of_getElem? (i := 8) rfl) rfl
theorem tm_781 : (.methodLink RX7 185 yX1_slowsOfAll : Cond) ∈ tb := tb_m4 (List.mem_of_getElem? (i := 9) rfl) rfl
theorem tm_782 : (.instanceMethod yX1_slowsOfAll : Cond) ∈ tb := tb_m4 (List.mem_of_getElem? (i := 10) rfl) rfl
theorem tm_783 : (.selects RX1 yX1_slowsOfAll yX1_slowsOfAll : Cond) ∈ tb := tb_m4 (List.mem_of_getElem? (i := 11) rfl) rfl
theorem tm_784 : (.code yX1_slowsOfAll cX1_slowsOfAll 6 (some .long) : Cond) ∈ tb := tb_m4 (List.mem_of_getElem? (i := 12) rfl) rfl
theorem tm_785 : (.constantLong RX1 30 (2305843009213693951) : Cond) ∈ tb := tb_m4 (List.mem_of_getElem? (i := 13) rfl) rfl
theorem tm_786 : (.methodLink RX1 26 yX1_find : Cond) ∈ tb := tb_m4 (List.mem_of_getElem? (i := 14) rfl) rfl
theorem tm_787 : (.methodLink RX1 32 yX0_slowsLet : Cond) ∈ tb := tb_m4 (List.mem_of_getElem? (i := 15) rfl) rfl
theorem tm_788 : (.methodLink RX7 188 yJ13_numberOfTrailingZeros_95d88 : Cond) ∈ tb := tb_m4 (List.mem_of_getElem? (i := 16) rfl) rfl
theorem tm_789 : (.static yJ13_numberOfTrailingZeros_95d88 : Cond) ∈ tb := tb_m4 (List.mem_of_getElem? (i := 17) rfl) rfl
theorem tm_790 : (.code yJ13_numberOfTrailingZeros_95d88 cJ13_numberOfTrailingZeros_95d88 3 (some .int) : Cond) ∈ tb := tb_m4 (List.mem_of_getElem? (i := 18) rfl) rfl
theorem tm_791 : (.methodLink RJ13 311 yJ6_numberOfTrailingZeros_0f7a4 : Cond) ∈ tb := tb_m4 (List.mem_of_getElem? (i := 19) rfl) rfl
theorem tm_792 : (.static yJ6_numberOfTrailingZeros_0f7a4 : Cond) ∈ tb := tb_m4 (List.mem_of_getElem? (i := 20) rfl) rfl
theorem tm_793 : (.code yJ6_numberOfTrailingZeros_0f7a4 cJ6_numberOfTrailingZeros_0f7a4 2 (some .int) : Cond) ∈ tb := tb_m4 (List.mem_of_getElem? (i := 21) rfl) rfl
theorem tm_794 : (.constant RJ6 264 (65536) : Cond) ∈ tb := tb_m4 (List.mem_of_getElem? (i := 22) rfl) rfl
theorem tm_795 : (.methodLink RX7 191 yJ13_numberOfLeadingZeros_95d88 : Cond) ∈ tb := tb_m4 (List.mem_of_getElem? (i := 23) rfl) rfl
theorem tm_796 : (.static yJ13_numberOfLeadingZeros_95d88 : Cond) ∈ tb := tb_m4 (List.mem_of_getElem? (i := 24) rfl) rfl
theorem tm_797 : (.code yJ13_numberOfLeadingZeros_95d88 cJ13_numberOfLeadingZeros_95d88 3 (some .int) : Cond) ∈ tb := tb_m4 (List.mem_of_getElem? (i := 25) rfl) rfl
theorem tm_798 : (.methodLink RJ13 308 yJ6_numberOfLeadingZeros_0f7a4 : Cond) ∈ tb := tb_m4 (List.mem_of_getElem? (i := 26) rfl) rfl
theorem tm_799 : (.static yJ6_numberOfLeadingZeros_0f7a4 : Cond) ∈ tb := tb_m4 (List.mem_of_getElem? (i := 27) rfl) rfl
theorem tm_800 : (.code yJ6_numberOfLeadingZeros_0f7a4 cJ6_numberOfLeadingZeros_0f7a4 2 (some .int) : Cond) ∈ tb := tb_m4 (List.mem_of_getElem? (i := 28) rfl) rfl
theorem tm_801 : (.methodLink RL 92 yX7_drop : Cond) ∈ tb := tb_m4 (List.mem_of_getElem? (i := 29) rfl) rfl
theorem tm_802 : (.instanceMethod yX7_drop : Cond) ∈ tb := tb_m4 (List.mem_of_getElem? (i := 30) rfl) rfl
theorem tm_803 : (.selects RX7 yX7_drop yX7_drop : Cond) ∈ tb := tb_m4 (List.mem_of_getElem? (i := 31) rfl) rfl
theorem tm_804 : (.code yX7_drop cX7_drop 2 (some .int) : Cond) ∈ tb := tb_m4 (List.mem_of_getElem? (i := 32) rfl) rfl
theorem tm_805 : (.methodLink RX7 194 yX1_remove : Cond) ∈ tb := tb_m4 (List.mem_of_getElem? (i := 33) rfl) rfl
theorem tm_806 : (.instanceMethod yX1_remove : Cond) ∈ tb := tb_m4 (List.mem_of_getElem? (i := 34) rfl) rfl
theorem tm_807 : (.selects RX1 yX1_remove yX1_remove : Cond) ∈ tb := tb_m4 (List.mem_of_getElem? (i := 35) rfl) rfl
theorem tm_808 : (.code yX1_remove cX1_remove 4 (some .int) : Cond) ∈ tb := tb_m4 (List.mem_of_getElem? (i := 36) rfl) rfl
theorem tm_809 : (.classLink RL 10 RX8 : Cond) ∈ tb := tb_m4 (List.mem_of_getElem? (i := 37) rfl) rfl
theorem tm_810 : (.instantiable RX8 50 : Cond) ∈ tb := tb_m4 (List.mem_of_getElem? (i := 38) rfl) rfl
theorem tm_811 : (.methodLink RL 12 yX8_init : Cond) ∈ tb := tb_m4 (List.mem_of_getElem? (i := 39) rfl) rfl
theorem tm_812 : (.instanceMethod yX8_init : Cond) ∈ tb := tb_m4 (List.mem_of_getElem? (i := 40) rfl) rfl
theorem tm_813 : (.code yX8_init cX8_init 1 none : Cond) ∈ tb := tb_m4 (List.mem_of_getElem? (i := 41) rfl) rfl
theorem tm_814 : (.methodLink RX8 1 objectInit : Cond) ∈ tb := tb_m4 (List.mem_of_getElem? (i := 42) rfl) rfl
theorem tm_815 : (.fieldLink RX8 7 "EclipseHouseModel" "a" "I" : Cond) ∈ tb := tb_m4 (List.mem_of_getElem? (i := 43) rfl) rfl
theorem tm_816 : (.fieldLink RX8 117 "EclipseHouseModel" "b" "I" : Cond) ∈ tb := tb_m4 (List.mem_of_getElem? (i := 44) rfl) rfl
theorem tm_817 : (.fieldLink RX8 13 "EclipseHouseModel" "f" "I" : Cond) ∈ tb := tb_m4 (List.mem_of_getElem? (i := 45) rfl) rfl
theorem tm_818 : (.fieldLink RX8 120 "EclipseHouseModel" "isNoted" "Z" : Cond) ∈ tb := tb_m4 (List.mem_of_getElem? (i := 46) rfl) rfl
theorem tm_819 : (.fieldLink RX8 174 "EclipseHouseModel" "eclipses" "I" : Cond) ∈ tb := tb_m4 (List.mem_of_getElem? (i := 47) rfl) rfl
theorem tm_820 : (.fieldLink RX8 16 "EclipseHouseModel" "eclipse" "[I" : Cond) ∈ tb := tb_m4 (List.mem_of_getElem? (i := 48) rfl) rfl
theorem tm_821 : (.fieldLink RX8 20 "EclipseHouseModel" "sort" "[I" : Cond) ∈ tb := tb_m4 (List.mem_of_getElem? (i := 49) rfl) rfl
theorem tm_822 : (.fieldLink RX8 23 "EclipseHouseModel" "minute" "[I" : Cond) ∈ tb := tb_m4 (List.mem_of_getElem? (i := 50) rfl) rfl
theorem tm_823 : (.fieldLink RX8 26 "EclipseHouseModel" "waveRow" "[I" : Cond) ∈ tb := tb_m4 (List.mem_of_getElem? (i := 51) rfl) rfl
theorem tm_824 : (.fieldLink RX8 29 "EclipseHouseModel" "leapMonths" "[I" : Cond) ∈ tb := tb_m4 (List.mem_of_getElem? (i := 52) rfl) rfl
theorem tm_825 : (.fieldLink RX8 184 "EclipseHouseModel" "dateYear" "I" : Cond) ∈ tb := tb_m4 (List.mem_of_getElem? (i := 53) rfl) rfl
theorem tm_826 : (.fieldLink RX8 191 "EclipseHouseModel" "dateMonth" "I" : Cond) ∈ tb := tb_m4 (List.mem_of_getElem? (i := 54) rfl) rfl
theorem tm_827 : (.fieldLink RX8 198 "EclipseHouseModel" "dateDay" "I" : Cond) ∈ tb := tb_m4 (List.mem_of_getElem? (i := 55) rfl) rfl
theorem tm_828 : (.fieldLink RX8 32 "EclipseHouseModel" "tape" "[I" : Cond) ∈ tb := tb_m4 (List.mem_of_getElem? (i := 56) rfl) rfl
theorem tm_829 : (.fieldLink RX8 211 "EclipseHouseModel" "taped" "I" : Cond) ∈ tb := tb_m4 (List.mem_of_getElem? (i := 57) rfl) rfl
theorem tm_830 : (.fieldLink RX8 220 "EclipseHouseModel" "at" "I" : Cond) ∈ tb := tb_m4 (List.mem_of_getElem? (i := 58) rfl) rfl
theorem tm_831 : (.fieldLink RX8 223 "EclipseHouseModel" "size" "I" : Cond) ∈ tb := tb_m4 (List.mem_of_getElem? (i := 59) rfl) rfl
theorem tm_832 : (.fieldLink RX8 233 "EclipseHouseModel" "ended" "I" : Cond) ∈ tb := tb_m4 (List.mem_of_getElem? (i := 60) rfl) rfl
theorem tm_833 : (.fieldLink RX8 214 "EclipseHouseModel" "bad" "I" : Cond) ∈ tb := tb_m4 (List.mem_of_getElem? (i := 61) rfl) rfl
theorem tm_834 : (.fieldLink RX8 217 "EclipseHouseModel" "badPlace" "I" : Cond) ∈ tb := tb_m4 (List.mem_of_getElem? (i := 62) rfl) rfl
theorem tm_835 : (.fieldLink RX8 289 "EclipseHouseModel" "fault" "I" : Cond) ∈ tb := tb_m4 (List.mem_of_getElem? (i := 63) rfl) rfl
theorem tm_836 : (.fieldLink RX8 35 "EclipseHouseModel" "faultPlace" "I" : Cond) ∈ tb := tb_m4 (List.mem_of_getElem? (i := 64) rfl) rfl
theorem tm_837 : (.fieldLink RX8 249 "EclipseHouseModel" "reigns" "I" : Cond) ∈ tb := tb_m4 (List.mem_of_getElem? (i := 65) rfl) rfl
theorem tm_838 : (.fieldLink RX8 38 "EclipseHouseModel" "reignName" "[J" : Cond) ∈ tb := tb_m4 (List.mem_of_getElem? (i := 66) rfl) rfl
theorem tm_839 : (.fieldLink RX8 42 "EclipseHouseModel" "reignCalendar" "[I" : Cond) ∈ tb := tb_m4 (List.mem_of_getElem? (i := 67) rfl) rfl
theorem tm_840 : (.fieldLink RX8 45 "EclipseHouseModel" "reignYear" "[I" : Cond) ∈ tb := tb_m4 (List.mem_of_getElem? (i := 68) rfl) rfl
theorem tm_841 : (.fieldLink RX8 282 "EclipseHouseModel" "records" "I" : Cond) ∈ tb := tb_m4 (List.mem_of_getElem? (i := 69) rfl) rfl
theorem tm_842 : (.fieldLink RX8 48 "EclipseHouseModel" "sorts" "[I" : Cond) ∈ tb := tb_m4 (List.mem_of_getElem? (i := 70) rfl) rfl
theorem tm_843 : (.fieldLink RX8 51 "EclipseHouseModel" "numbers" "[I" : Cond) ∈ tb := tb_m4 (List.mem_of_getElem? (i := 71) rfl) rfl
theorem tm_844 : (.fieldLink RX8 54 "EclipseHouseModel" "began" "[I" : Cond) ∈ tb := tb_m4 (List.mem_of_getElem? (i := 72) rfl) rfl
theorem tm_845 : (.fieldLink RX8 57 "EclipseHouseModel" "calendarOf" "[I" : Cond) ∈ tb := tb_m4 (List.mem_of_getElem? (i := 73) rfl) rfl
theorem tm_846 : (.fieldLink RX8 60 "EclipseHouseModel" "eastOf" "[I" : Cond) ∈ tb := tb_m4 (List.mem_of_getElem? (i := 74) rfl) rfl
theorem tm_847 : (.fieldLink RX8 264 "EclipseHouseModel" "namePlace" "I" : Cond) ∈ tb := tb_m4 (List.mem_of_getElem? (i := 75) rfl) rfl
theorem tm_848 : (.fieldLink RX8 267 "EclipseHouseModel" "nameReign" "I" : Cond) ∈ tb := tb_m4 (List.mem_of_getElem? (i := 76) rfl) rfl
theorem tm_849 : (.fieldLink RX8 63 "EclipseHouseModel" "sunWord" "[C" : Cond) ∈ tb := tb_m4 (List.mem_of_getElem? (i := 77) rfl) rfl
theorem tm_850 : (.fieldLink RX8 67 "EclipseHouseModel" "moonWord" "[C" : Cond) ∈ tb := tb_m4 (List.mem_of_getElem? (i := 78) rfl) rfl
theorem tm_851 : (.fieldLink RX8 70 "EclipseHouseModel" "totalWord" "[C" : Cond) ∈ tb := tb_m4 (List.mem_of_getElem? (i := 79) rfl) rfl
theorem tm_852 : (.fieldLink RX8 73 "EclipseHouseModel" "ringWord" "[C" : Cond) ∈ tb := tb_m4 (List.mem_of_getElem? (i := 80) rfl) rfl
theorem tm_853 : (.fieldLink RX8 76 "EclipseHouseModel" "partWord" "[C" : Cond) ∈ tb := tb_m4 (List.mem_of_getElem? (i := 81) rfl) rfl
theorem tm_854 : (.fieldLink RX8 79 "EclipseHouseModel" "wholeWord" "[C" : Cond) ∈ tb := tb_m4 (List.mem_of_getElem? (i := 82) rfl) rfl
theorem tm_855 : (.fieldLink RX8 82 "EclipseHouseModel" "halfWord" "[C" : Cond) ∈ tb := tb_m4 (List.mem_of_getElem? (i := 83) rfl) rfl
theorem tm_856 : (.fieldLink RX8 85 "EclipseHouseModel" "yearWord" "[C" : Cond) ∈ tb := tb_m4 (List.mem_of_getElem? (i := 84) rfl) rfl
theorem tm_857 : (.fieldLink RX8 88 "EclipseHouseModel" "monthWord" "[C" : Cond) ∈ tb := tb_m4 (List.mem_of_getElem? (i := 85) rfl) rfl
theorem tm_858 : (.fieldLink RX8 91 "EclipseHouseModel" "dayWord" "[C" : Cond) ∈ tb := tb_m4 (List.mem_of_getElem? (i := 86) rfl) rfl
theorem tm_859 : (.fieldLink RX8 94 "EclipseHouseModel" "hourWord" "[C" : Cond) ∈ tb := tb_m4 (List.mem_of_getElem? (i := 87) rfl) rfl
theorem tm_860 : (.fieldLink RX8 97 "EclipseHouseModel" "ofWord" "[C" : Cond) ∈ tb := tb_m4 (List.mem_of_getElem? (i := 88) rfl) rfl
theorem tm_861 : (.fieldLink RX8 100 "EclipseHouseModel" "inWord" "[C" : Cond) ∈ tb := tb_m4 (List.mem_of_getElem? (i := 89) rfl) rfl
theorem tm_862 : (.fieldLink RX8 103 "EclipseHouseModel" "evenWord" "[C" : Cond) ∈ tb := tb_m4 (List.mem_of_getElem? (i := 90) rfl) rfl
theorem tm_863 : (.fieldLink RX8 106 "EclipseHouseModel" "leapWord" "[C" : Cond) ∈ tb := tb_m4 (List.mem_of_getElem? (i := 91) rfl) rfl
theorem tm_864 : (.fieldLink RX8 109 "EclipseHouseModel" "moonsWord" "[C" : Cond) ∈ tb := tb_m4 (List.mem_of_getElem? (i := 92) rfl) rfl
theorem tm_865 : (.lays "EclipseHouseModel" "EclipseHouseModel" "a" "I" : Cond) ∈ tb := tb_m4 (List.mem_of_getElem? (i := 93) rfl) rfl
theorem tm_867 : (.lays "EclipseHouseModel" "EclipseHouseModel" "b" "I" : Cond) ∈ tb := tb_m4 (List.mem_of_getElem? (i := 95) rfl) rfl
theorem tm_869 : (.lays "EclipseHouseModel" "EclipseHouseModel" "f" "I" : Cond) ∈ tb := tb_m4 (List.mem_of_getElem? (i := 97) rfl) rfl
theorem tm_871 : (.lays "EclipseHouseModel" "EclipseHouseModel" "isNoted" "Z" : Cond) ∈ tb := tb_m4 (List.mem_of_getElem? (i := 99) rfl) rfl
theorem tm_873 : (.lays "EclipseHouseModel" "EclipseHouseModel" "eclipses" "I" : Cond) ∈ tb := tb_m4 (List.mem_of_getElem? (i := 101) rfl) rfl
theorem tm_875 : (.laysFinal "EclipseHouseModel" "EclipseHouseModel" "eclipse" "[I" : Cond) ∈ tb := tb_m4 (List.mem_of_getElem? (i := 103) rfl) rfl
theorem tm_877 : (.laysFinal "EclipseHouseModel" "EclipseHouseModel" "sort" "[I" : Cond) ∈ tb := tb_m4 (List.mem_of_getElem? (i := 105) rfl) rfl
theorem tm_879 : (.laysFinal "EclipseHouseModel" "EclipseHouseModel" "minute" "[I" : Cond) ∈ tb := tb_m4 (List.mem_of_getElem? (i := 107) rfl) rfl
theorem tm_881 : (.laysFinal "EclipseHouseModel" "EclipseHouseModel" "waveRow" "[I" : Cond) ∈ tb := tb_m4 (List.mem_of_getElem? (i := 109) rfl) rfl
theorem tm_883 : (.laysFinal "EclipseHouseModel" "EclipseHouseModel" "leapMonths" "[I" : Cond) ∈ tb := tb_m4 (List.mem_of_getElem? (i := 111) rfl) rfl
theorem tm_885 : (.lays "EclipseHouseModel" "EclipseHouseModel" "dateYear" "I" : Cond) ∈ tb := tb_m4 (List.mem_of_getElem? (i := 113) rfl) rfl
theorem tm_887 : (.lays "EclipseHouseModel" "EclipseHouseModel" "dateMonth" "I" : Cond) ∈ tb := tb_m4 (List.mem_of_getElem? (i := 115) rfl) rfl
theorem tm_889 : (.lays "EclipseHouseModel" "EclipseHouseModel" "dateDay" "I" : Cond) ∈ tb := tb_m4 (List.mem_of_getElem? (i := 117) rfl) rfl
theorem tm_891 : (.laysFinal "EclipseHouseModel" "EclipseHouseModel" "tape" "[I" : Cond) ∈ tb := tb_m4 (List.mem_of_getElem? (i := 119) rfl) rfl
theorem tm_893 : (.lays "EclipseHouseModel" "EclipseHouseModel" "taped" "I" : Cond) ∈ tb := tb_m4 (List.mem_of_getElem? (i := 121) rfl) rfl
theorem tm_895 : (.lays "EclipseHouseModel" "EclipseHouseModel" "at" "I" : Cond) ∈ tb := tb_m4 (List.mem_of_getElem? (i := 123) rfl) rfl
theorem tm_897 : (.lays "EclipseHouseModel" "EclipseHouseModel" "size" "I" : Cond) ∈ tb := tb_m4 (List.mem_of_getElem? (i := 125) rfl) rfl
theorem tm_899 : (.lays "EclipseHouseModel" "EclipseHouseModel" "ended" "I" : Cond) ∈ tb := tb_m4 (List.mem_of_getElem? (i := 127) rfl) rfl
theorem tm_901 : (.lays "EclipseHouseModel" "EclipseHouseModel" "bad" "I" : Cond) ∈ tb := tb_m4 (List.mem_of_getElem? (i := 129) rfl) rfl
theorem tm_903 : (.lays "EclipseHouseModel" "EclipseHouseModel" "badPlace" "I" : Cond) ∈ tb := tb_m4 (List.mem_of_getElem? (i := 131) rfl) rfl
theorem tm_905 : (.lays "EclipseHouseModel" "EclipseHouseModel" "fault" "I" : Cond) ∈ tb := tb_m4 (List.mem_of_getElem? (i := 133) rfl) rfl
theorem tm_907 : (.lays "EclipseHouseModel" "EclipseHouseModel" "faultPlace" "I" : Cond) ∈ tb := tb_m4 (List.mem_of_getElem? (i := 135) rfl) rfl
theorem tm_909 : (.lays "EclipseHouseModel" "EclipseHouseModel" "reigns" "I" : Cond) ∈ tb := tb_m4 (List.mem_of_getElem? (i := 137) rfl) rfl
theorem tm_911 : (.laysFinal "EclipseHouseModel" "EclipseHouseModel" "reignName" "[J" : Cond) ∈ tb := tb_m4 (List.mem_of_getElem? (i := 139) rfl) rfl
theorem tm_913 : (.laysFinal "EclipseHouseModel" "EclipseHouseModel" "reignCalendar" "[I" : Cond) ∈ tb := tb_m4 (List.mem_of_getElem? (i := 141) rfl) rfl
theorem tm_915 : (.laysFinal "EclipseHouseModel" "EclipseHouseModel" "reignYear" "[I" : Cond) ∈ tb := tb_m4 (List.mem_of_getElem? (i := 143) rfl) rfl
theorem tm_917 : (.lays "EclipseHouseModel" "EclipseHouseModel" "records" "I" : Cond) ∈ tb := tb_m4 (List.mem_of_getElem? (i := 145) rfl) rfl
theorem tm_919 : (.laysFinal "EclipseHouseModel" "EclipseHouseModel" "sorts" "[I" : Cond) ∈ tb := tb_m4 (List.mem_of_getElem? (i := 147) rfl) rfl
theorem tm_921 : (.laysFinal "EclipseHouseModel" "EclipseHouseModel" "numbers" "[I" : Cond) ∈ tb := tb_m4 (List.mem_of_getElem? (i := 149) rfl) rfl
theorem tm_923 : (.laysFinal "EclipseHouseModel" "EclipseHouseModel" "began" "[I" : Cond) ∈ tb := tb_m4 (List.mem_of_getElem? (i := 151) rfl) rfl
theorem tm_925 : (.laysFinal "EclipseHouseModel" "EclipseHouseModel" "calendarOf" "[I" : Cond) ∈ tb := tb_m4 (List.mem_of_getElem? (i := 153) rfl) rfl
theorem tm_927 : (.laysFinal "EclipseHouseModel" "EclipseHouseModel" "eastOf" "[I" : Cond) ∈ tb := tb_m4 (List.mem_of_getElem? (i := 155) rfl) rfl
theorem tm_929 : (.lays "EclipseHouseModel" "EclipseHouseModel" "namePlace" "I" : Cond) ∈ tb := tb_m4 (List.mem_of_getElem? (i := 157) rfl) rfl
theorem tm_931 : (.lays "EclipseHouseModel" "EclipseHouseModel" "nameReign" "I" : Cond) ∈ tb := tb_m4 (List.mem_of_getElem? (i := 159) rfl) rfl
theorem tm_933 : (.laysFinal "EclipseHouseModel" "EclipseHouseModel" "sunWord" "[C" : Cond) ∈ tb := tb_m4 (List.mem_of_getElem? (i := 161) rfl) rfl
theorem tm_935 : (.laysFinal "EclipseHouseModel" "EclipseHouseModel" "moonWord" "[C" : Cond) ∈ tb := tb_m4 (List.mem_of_getElem? (i := 163) rfl) rfl
theorem tm_937 : (.laysFinal "EclipseHouseModel" "EclipseHouseModel" "totalWord" "[C" : Cond) ∈ tb := tb_m4 (List.mem_of_getElem? (i := 165) rfl) rfl
theorem tm_939 : (.laysFinal "EclipseHouseModel" "EclipseHouseModel" "ringWord" "[C" : Cond) ∈ tb := tb_m4 (List.mem_of_getElem? (i := 167) rfl) rfl
theorem tm_941 : (.laysFinal "EclipseHouseModel" "EclipseHouseModel" "partWord" "[C" : Cond) ∈ tb := tb_m4 (List.mem_of_getElem? (i := 169) rfl) rfl
theorem tm_943 : (.laysFinal "EclipseHouseModel" "EclipseHouseModel" "wholeWord" "[C" : Cond) ∈ tb := tb_m4 (List.mem_of_getElem? (i := 171) rfl) rfl
theorem tm_945 : (.laysFinal "EclipseHouseModel" "EclipseHouseModel" "halfWord" "[C" : Cond) ∈ tb := tb_m4 (List.mem_of_getElem? (i := 173) rfl) rfl
theorem tm_947 : (.laysFinal "EclipseHouseModel" "EclipseHouseModel" "yearWord" "[C" : Cond) ∈ tb := tb_m4 (List.mem_of_getElem? (i := 175) rfl) rfl
theorem tm_949 : (.laysFinal "EclipseHouseModel" "EclipseHouseModel" "monthWord" "[C" : Cond) ∈ tb := tb_m4 (List.mem_of_getElem? (i := 177) rfl) rfl
theorem tm_951 : (.laysFinal "EclipseHouseModel" "EclipseHouseModel" "dayWord" "[C" : Cond) ∈ tb := tb_m4 (List.mem_of_getElem? (i := 179) rfl) rfl
theorem tm_953 : (.laysFinal "EclipseHouseModel" "EclipseHouseModel" "hourWord" "[C" : Cond) ∈ tb := tb_m4 (List.mem_of_getElem? (i := 181) rfl) rfl
theorem tm_955 : (.laysFinal "EclipseHouseModel" "EclipseHouseModel" "ofWord" "[C" : Cond) ∈ tb := tb_m4 (List.mem_of_getElem? (i := 183) rfl) rfl
theorem tm_957 : (.laysFinal "EclipseHouseModel" "EclipseHouseModel" "inWord" "[C" : Cond) ∈ tb := tb_m4 (List.mem_of_getElem? (i := 185) rfl) rfl
theorem tm_959 : (.laysFinal "EclipseHouseModel" "EclipseHouseModel" "evenWord" "[C" : Cond) ∈ tb := tb_m4 (List.mem_of_getElem? (i := 187) rfl) rfl
theorem tm_961 : (.laysFinal "EclipseHouseModel" "EclipseHouseModel" "leapWord" "[C" : Cond) ∈ tb := tb_m4 (List.mem_of_getElem? (i := 189) rfl) rfl
theorem tm_963 : (.laysFinal "EclipseHouseModel" "EclipseHouseModel" "moonsWord" "[C" : Cond) ∈ tb := tb_m4 (List.mem_of_getElem? (i := 191) rfl) rfl
theorem tm_966 : (.arrayClass .long : Cond) ∈ tb := tb_m4 (List.mem_of_getElem? (i := 194) rfl) rfl
theorem tm_967 : (.arrayClass .char : Cond) ∈ tb := tb_m4 (List.mem_of_getElem? (i := 195) rfl) rfl
theorem tm_968 : (.methodLink RL 17 yX8_tables : Cond) ∈ tb := tb_m4 (List.mem_of_getElem? (i := 196) rfl) rfl
theorem tm_969 : (.instanceMethod yX8_tables : Cond) ∈ tb := tb_m4 (List.mem_of_getElem? (i := 197) rfl) rfl
theorem tm_970 : (.selects RX8 yX8_tables yX8_tables : Cond) ∈ tb := tb_m4 (List.mem_of_getElem? (i := 198) rfl) rfl
theorem tm_971 : (.code yX8_tables cX8_tables 4 (some .boolean) : Cond) ∈ tb := tb_m4 (List.mem_of_getElem? (i := 199) rfl) rfl
theorem tm_972 : (.constant RX8 112 (35999) : Cond) ∈ tb := tb_m4 (List.mem_of_getElem? (i := 200) rfl) rfl
theorem tm_973 : (.methodLink RX8 113 yX8_isIn : Cond) ∈ tb := tb_m4 (List.mem_of_getElem? (i := 201) rfl) rfl
theorem tm_974 : (.static yX8_isIn : Cond) ∈ tb := tb_m4 (List.mem_of_getElem? (i := 202) rfl) rfl
theorem tm_975 : (.code yX8_isIn cX8_isIn 3 (some .boolean) : Cond) ∈ tb := tb_m4 (List.mem_of_getElem? (i := 203) rfl) rfl
theorem tm_976 : (.methodLink RL 22 yX8_moon : Cond) ∈ tb := tb_m4 (List.mem_of_getElem? (i := 204) rfl) rfl
theorem tm_977 : (.instanceMethod yX8_moon : Cond) ∈ tb := tb_m4 (List.mem_of_getElem? (i := 205) rfl) rfl
theorem tm_978 : (.selects RX8 yX8_moon yX8_moon : Cond) ∈ tb := tb_m4 (List.mem_of_getElem? (i := 206) rfl) rfl
theorem tm_979 : (.code yX8_moon cX8_moon 3 (some .int) : Cond) ∈ tb := tb_m4 (List.mem_of_getElem? (i := 207) rfl) rfl
theorem tm_980 : (.methodLink RX8 164 yX8_isMoon : Cond) ∈ tb := tb_m4 (List.mem_of_getElem? (i := 208) rfl) rfl
theorem tm_981 : (.static yX8_isMoon : Cond) ∈ tb := tb_m4 (List.mem_of_getElem? (i := 209) rfl) rfl
theorem tm_982 : (.code yX8_isMoon cX8_isMoon 1 (some .boolean) : Cond) ∈ tb := tb_m4 (List.mem_of_getElem? (i := 210) rfl) rfl
theorem tm_983 : (.methodLink RX8 144 yX8_moonAt : Cond) ∈ tb := tb_m4 (List.mem_of_getElem? (i := 211) rfl) rfl
theorem tm_985 : (.instanceMethod yX8_moonAt : Cond) ∈ tb := tb_m4 (List.mem_of_getElem? (i := 213) rfl) rfl
theorem tm_986 : (.code yX8_moonAt cX8_moonAt 2 (some .int) : Cond) ∈ tb := tb_m4 (List.mem_of_getElem? (i := 214) rfl) rfl
theorem tm_987 : (.constantLong RX8 124 (19291) : Cond) ∈ tb := tb_m4 (List.mem_of_getElem? (i := 215) rfl) rfl
theorem tm_988 : (.constantLong RX8 126 (36000) : Cond) ∈ tb := tb_m4 (List.mem_of_getElem? (i := 216) rfl) rfl
theorem tm_989 : (.methodLink RX8 158 yX8_sunAt : Cond) ∈ tb := tb_m4 (List.mem_of_getElem? (i := 217) rfl) rfl
theorem tm_991 : (.instanceMethod yX8_sunAt : Cond) ∈ tb := tb_m4 (List.mem_of_getElem? (i := 219) rfl) rfl
theorem tm_992 : (.code yX8_sunAt cX8_sunAt 2 (some .int) : Cond) ∈ tb := tb_m4 (List.mem_of_getElem? (i := 220) rfl) rfl
theorem tm_993 : (.constantLong RX8 128 (1455) : Cond) ∈ tb := tb_m4 (List.mem_of_getElem? (i := 221) rfl) rfl
theorem tm_994 : (.methodLink RX8 161 yX8_nodeAt : Cond) ∈ tb := tb_m4 (List.mem_of_getElem? (i := 222) rfl) rfl
theorem tm_996 : (.instanceMethod yX8_nodeAt : Cond) ∈ tb := tb_m4 (List.mem_of_getElem? (i := 224) rfl) rfl
theorem tm_997 : (.code yX8_nodeAt cX8_nodeAt 2 (some .int) : Cond) ∈ tb := tb_m4 (List.mem_of_getElem? (i := 225) rfl) rfl
theorem tm_998 : (.constantLong RX8 130 (1953353) : Cond) ∈ tb := tb_m4 (List.mem_of_getElem? (i := 226) rfl) rfl
theorem tm_999 : (.constantLong RX8 132 (100) : Cond) ∈ tb := tb_m4 (List.mem_of_getElem? (i := 227) rfl) rfl
theorem tm_1000 : (.methodLink RX8 168 yX8_timeOf : Cond) ∈ tb := tb_m4 (List.mem_of_getElem? (i := 228) rfl) rfl
theorem tm_1002 : (.instanceMethod yX8_timeOf : Cond) ∈ tb := tb_m4 (List.mem_of_getElem? (i := 230) rfl) rfl
theorem tm_1003 : (.code yX8_timeOf cX8_timeOf 2 (some .int) : Cond) ∈ tb := tb_m4 (List.mem_of_getElem? (i := 231) rfl) rfl
theorem tm_1004 : (.constantLong RX8 138 (212620236) : Cond) ∈ tb := tb_m4 (List.mem_of_getElem? (i := 232) rfl) rfl
theorem tm_1005 : (.constantLong RX8 140 (10000) : Cond) ∈ tb := tb_m4 (List.mem_of_getElem? (i := 233) rfl) rfl
theorem tm_1006 : (.constantLong RX8 142 (586) : Cond) ∈ tb := tb_m4 (List.mem_of_getElem? (i := 234) rfl) rfl
theorem tm_1007 : (.methodLink RX8 147 yX8_wave : Cond) ∈ tb := tb_m4 (List.mem_of_getElem? (i := 235) rfl) rfl
theorem tm_1009 : (.instanceMethod yX8_wave : Cond) ∈ tb := tb_m4 (List.mem_of_getElem? (i := 237) rfl) rfl
theorem tm_1010 : (.code yX8_wave cX8_wave 4 (some .int) : Cond) ∈ tb := tb_m4 (List.mem_of_getElem? (i := 238) rfl) rfl
theorem tm_1011 : (.methodLink RX8 134 yX8_quarter : Cond) ∈ tb := tb_m4 (List.mem_of_getElem? (i := 239) rfl) rfl
theorem tm_1013 : (.instanceMethod yX8_quarter : Cond) ∈ tb := tb_m5 (List.mem_of_getElem? (i := 1) rfl) rfl
theorem tm_1014 : (.code yX8_quarter cX8_quarter 3 (some .int) : Cond) ∈ tb := tb_m5 (List.mem_of_getElem? (i := 2) rfl) rfl
theorem tm_1015 : (.constantLong RX8 150 (1000) : Cond) ∈ tb := tb_m5 (List.mem_of_getElem? (i := 3) rfl) rfl
theorem tm_1016 : (.methodLink RX8 152 yX8_floor : Cond) ∈ tb := tb_m5 (List.mem_of_getElem? (i := 4) rfl) rfl
theorem tm_1017 : (.static yX8_floor : Cond) ∈ tb := tb_m5 (List.mem_of_getElem? (i := 5) rfl) rfl
theorem tm_1018 : (.code yX8_floor cX8_floor 6 (some .long) : Cond) ∈ tb := tb_m5 (List.mem_of_getElem? (i := 6) rfl) rfl
theorem tm_1019 : (.constantLong RX8 156 (248) : Cond) ∈ tb := tb_m5 (List.mem_of_getElem? (i := 7) rfl) rfl
theorem tm_1020 : (.methodLink RX8 171 yX8_sortOf : Cond) ∈ tb := tb_m5 (List.mem_of_getElem? (i := 8) rfl) rfl
theorem tm_1022 : (.instanceMethod yX8_sortOf : Cond) ∈ tb := tb_m5 (List.mem_of_getElem? (i := 10) rfl) rfl
theorem tm_1023 : (.code yX8_sortOf cX8_sortOf 5 (some .int) : Cond) ∈ tb := tb_m5 (List.mem_of_getElem? (i := 11) rfl) rfl
theorem tm_1024 : (.methodLink RL 27 yX8_next : Cond) ∈ tb := tb_m5 (List.mem_of_getElem? (i := 12) rfl) rfl
theorem tm_1025 : (.instanceMethod yX8_next : Cond) ∈ tb := tb_m5 (List.mem_of_getElem? (i := 13) rfl) rfl
theorem tm_1026 : (.selects RX8 yX8_next yX8_next : Cond) ∈ tb := tb_m5 (List.mem_of_getElem? (i := 14) rfl) rfl
theorem tm_1027 : (.code yX8_next cX8_next 6 (some .int) : Cond) ∈ tb := tb_m5 (List.mem_of_getElem? (i := 15) rfl) rfl
theorem tm_1028 : (.methodLink RX8 177 yX8_notes : Cond) ∈ tb := tb_m5 (List.mem_of_getElem? (i := 16) rfl) rfl
theorem tm_1030 : (.instanceMethod yX8_notes : Cond) ∈ tb := tb_m5 (List.mem_of_getElem? (i := 18) rfl) rfl
theorem tm_1031 : (.code yX8_notes cX8_notes 3 none : Cond) ∈ tb := tb_m5 (List.mem_of_getElem? (i := 19) rfl) rfl
theorem tm_1032 : (.methodLink RL 35 yX8_many : Cond) ∈ tb := tb_m5 (List.mem_of_getElem? (i := 20) rfl) rfl
theorem tm_1033 : (.instanceMethod yX8_many : Cond) ∈ tb := tb_m5 (List.mem_of_getElem? (i := 21) rfl) rfl
theorem tm_1034 : (.selects RX8 yX8_many yX8_many : Cond) ∈ tb := tb_m5 (List.mem_of_getElem? (i := 22) rfl) rfl
theorem tm_1035 : (.code yX8_many cX8_many 6 (some .int) : Cond) ∈ tb := tb_m5 (List.mem_of_getElem? (i := 23) rfl) rfl
theorem tm_1036 : (.methodLink RL 31 yX8_round : Cond) ∈ tb := tb_m5 (List.mem_of_getElem? (i := 24) rfl) rfl
theorem tm_1037 : (.instanceMethod yX8_round : Cond) ∈ tb := tb_m5 (List.mem_of_getElem? (i := 25) rfl) rfl
theorem tm_1038 : (.selects RX8 yX8_round yX8_round : Cond) ∈ tb := tb_m5 (List.mem_of_getElem? (i := 26) rfl) rfl
theorem tm_1039 : (.code yX8_round cX8_round 5 (some .int) : Cond) ∈ tb := tb_m5 (List.mem_of_getElem? (i := 27) rfl) rfl
theorem tm_1040 : (.methodLink RL 39 yX8_date : Cond) ∈ tb := tb_m5 (List.mem_of_getElem? (i := 28) rfl) rfl
theorem tm_1041 : (.instanceMethod yX8_date : Cond) ∈ tb := tb_m5 (List.mem_of_getElem? (i := 29) rfl) rfl
theorem tm_1042 : (.selects RX8 yX8_date yX8_date : Cond) ∈ tb := tb_m5 (List.mem_of_getElem? (i := 30) rfl) rfl
theorem tm_1043 : (.code yX8_date cX8_date 4 (some .int) : Cond) ∈ tb := tb_m5 (List.mem_of_getElem? (i := 31) rfl) rfl
theorem tm_1044 : (.constant RX8 201 (400000) : Cond) ∈ tb := tb_m5 (List.mem_of_getElem? (i := 32) rfl) rfl
theorem tm_1045 : (.methodLink RX8 202 yX8_dates : Cond) ∈ tb := tb_m5 (List.mem_of_getElem? (i := 33) rfl) rfl
theorem tm_1047 : (.instanceMethod yX8_dates : Cond) ∈ tb := tb_m5 (List.mem_of_getElem? (i := 35) rfl) rfl
theorem tm_1048 : (.code yX8_dates cX8_dates 6 none : Cond) ∈ tb := tb_m5 (List.mem_of_getElem? (i := 36) rfl) rfl
theorem tm_1049 : (.methodLink RX8 187 yX8_yearDays : Cond) ∈ tb := tb_m5 (List.mem_of_getElem? (i := 37) rfl) rfl
theorem tm_1050 : (.static yX8_yearDays : Cond) ∈ tb := tb_m5 (List.mem_of_getElem? (i := 38) rfl) rfl
theorem tm_1051 : (.code yX8_yearDays cX8_yearDays 2 (some .int) : Cond) ∈ tb := tb_m5 (List.mem_of_getElem? (i := 39) rfl) rfl
theorem tm_1052 : (.methodLink RX8 180 yX8_isLong : Cond) ∈ tb := tb_m5 (List.mem_of_getElem? (i := 40) rfl) rfl
theorem tm_1053 : (.static yX8_isLong : Cond) ∈ tb := tb_m5 (List.mem_of_getElem? (i := 41) rfl) rfl
theorem tm_1054 : (.code yX8_isLong cX8_isLong 2 (some .boolean) : Cond) ∈ tb := tb_m5 (List.mem_of_getElem? (i := 42) rfl) rfl
theorem tm_1055 : (.methodLink RX8 194 yX8_monthDays : Cond) ∈ tb := tb_m5 (List.mem_of_getElem? (i := 43) rfl) rfl
theorem tm_1057 : (.instanceMethod yX8_monthDays : Cond) ∈ tb := tb_m5 (List.mem_of_getElem? (i := 45) rfl) rfl
theorem tm_1058 : (.code yX8_monthDays cX8_monthDays 4 (some .int) : Cond) ∈ tb := tb_m5 (List.mem_of_getElem? (i := 46) rfl) rfl
theorem tm_1059 : (.methodLink RL 44 yX8_day : Cond) ∈ tb := tb_m5 (List.mem_of_getElem? (i := 47) rfl) rfl
theorem tm_1060 : (.instanceMethod yX8_day : Cond) ∈ tb := tb_m5 (List.mem_of_getElem? (i := 48) rfl) rfl
theorem tm_1061 : (.selects RX8 yX8_day yX8_day : Cond) ∈ tb := tb_m5 (List.mem_of_getElem? (i := 49) rfl) rfl
theorem tm_1062 : (.code yX8_day cX8_day 7 (some .int) : Cond) ∈ tb := tb_m5 (List.mem_of_getElem? (i := 50) rfl) rfl
theorem tm_1063 : (.methodLink RL 48 yX8_seen : Cond) ∈ tb := tb_m5 (List.mem_of_getElem? (i := 51) rfl) rfl
theorem tm_1064 : (.instanceMethod yX8_seen : Cond) ∈ tb := tb_m5 (List.mem_of_getElem? (i := 52) rfl) rfl
theorem tm_1065 : (.selects RX8 yX8_seen yX8_seen : Cond) ∈ tb := tb_m5 (List.mem_of_getElem? (i := 53) rfl) rfl
theorem tm_1066 : (.code yX8_seen cX8_seen 4 (some .int) : Cond) ∈ tb := tb_m5 (List.mem_of_getElem? (i := 54) rfl) rfl
theorem tm_1067 : (.methodLink RX8 207 yX8_seenAt : Cond) ∈ tb := tb_m5 (List.mem_of_getElem? (i := 55) rfl) rfl
theorem tm_1068 : (.static yX8_seenAt : Cond) ∈ tb := tb_m5 (List.mem_of_getElem? (i := 56) rfl) rfl
theorem tm_1069 : (.code yX8_seenAt cX8_seenAt 4 (some .int) : Cond) ∈ tb := tb_m5 (List.mem_of_getElem? (i := 57) rfl) rfl
theorem tm_1070 : (.constant RX8 206 (525600) : Cond) ∈ tb := tb_m5 (List.mem_of_getElem? (i := 58) rfl) rfl
theorem tm_1071 : (.constant RX8 210 (-1000000) : Cond) ∈ tb := tb_m5 (List.mem_of_getElem? (i := 59) rfl) rfl
theorem tm_1072 : (.methodLink RL 53 yX8_feed : Cond) ∈ tb := tb_m5 (List.mem_of_getElem? (i := 60) rfl) rfl
theorem tm_1073 : (.instanceMethod yX8_feed : Cond) ∈ tb := tb_m5 (List.mem_of_getElem? (i := 61) rfl) rfl
theorem tm_1074 : (.selects RX8 yX8_feed yX8_feed : Cond) ∈ tb := tb_m5 (List.mem_of_getElem? (i := 62) rfl) rfl
theorem tm_1075 : (.code yX8_feed cX8_feed 8 (some .int) : Cond) ∈ tb := tb_m5 (List.mem_of_getElem? (i := 63) rfl) rfl
theorem tm_1076 : (.methodLink RL 58 yX8_end : Cond) ∈ tb := tb_m5 (List.mem_of_getElem? (i := 64) rfl) rfl
theorem tm_1077 : (.instanceMethod yX8_end : Cond) ∈ tb := tb_m5 (List.mem_of_getElem? (i := 65) rfl) rfl
theorem tm_1078 : (.selects RX8 yX8_end yX8_end : Cond) ∈ tb := tb_m5 (List.mem_of_getElem? (i := 66) rfl) rfl
theorem tm_1079 : (.code yX8_end cX8_end 2 (some .boolean) : Cond) ∈ tb := tb_m5 (List.mem_of_getElem? (i := 67) rfl) rfl
theorem tm_1080 : (.methodLink RL 62 yX8_reign : Cond) ∈ tb := tb_m5 (List.mem_of_getElem? (i := 68) rfl) rfl
theorem tm_1081 : (.instanceMethod yX8_reign : Cond) ∈ tb := tb_m5 (List.mem_of_getElem? (i := 69) rfl) rfl
theorem tm_1082 : (.selects RX8 yX8_reign yX8_reign : Cond) ∈ tb := tb_m5 (List.mem_of_getElem? (i := 70) rfl) rfl
theorem tm_1083 : (.code yX8_reign cX8_reign 6 (some .int) : Cond) ∈ tb := tb_m5 (List.mem_of_getElem? (i := 71) rfl) rfl
theorem tm_1084 : (.methodLink RX8 226 yX8_isLetter : Cond) ∈ tb := tb_m5 (List.mem_of_getElem? (i := 72) rfl) rfl
theorem tm_1085 : (.static yX8_isLetter : Cond) ∈ tb := tb_m5 (List.mem_of_getElem? (i := 73) rfl) rfl
theorem tm_1086 : (.code yX8_isLetter cX8_isLetter 1 (some .boolean) : Cond) ∈ tb := tb_m5 (List.mem_of_getElem? (i := 74) rfl) rfl
theorem tm_1087 : (.methodLink RX8 252 yX8_packed : Cond) ∈ tb := tb_m5 (List.mem_of_getElem? (i := 75) rfl) rfl
theorem tm_1089 : (.instanceMethod yX8_packed : Cond) ∈ tb := tb_m5 (List.mem_of_getElem? (i := 77) rfl) rfl
theorem tm_1090 : (.code yX8_packed cX8_packed 6 (some .long) : Cond) ∈ tb := tb_m5 (List.mem_of_getElem? (i := 78) rfl) rfl
theorem tm_1091 : (.constantLong RX8 245 (27) : Cond) ∈ tb := tb_m5 (List.mem_of_getElem? (i := 79) rfl) rfl
theorem tm_1092 : (.constantLong RX8 247 (97) : Cond) ∈ tb := tb_m5 (List.mem_of_getElem? (i := 80) rfl) rfl
theorem tm_1093 : (.methodLink RX8 256 yX8_reignOf : Cond) ∈ tb := tb_m5 (List.mem_of_getElem? (i := 81) rfl) rfl
theorem tm_1095 : (.instanceMethod yX8_reignOf : Cond) ∈ tb := tb_m5 (List.mem_of_getElem? (i := 83) rfl) rfl
theorem tm_1096 : (.code yX8_reignOf cX8_reignOf 4 (some .int) : Cond) ∈ tb := tb_m5 (List.mem_of_getElem? (i := 84) rfl) rfl
theorem tm_1097 : (.methodLink RL 67 yX8_record : Cond) ∈ tb := tb_m5 (List.mem_of_getElem? (i := 85) rfl) rfl
theorem tm_1098 : (.instanceMethod yX8_record : Cond) ∈ tb := tb_m5 (List.mem_of_getElem? (i := 86) rfl) rfl
theorem tm_1099 : (.selects RX8 yX8_record yX8_record : Cond) ∈ tb := tb_m5 (List.mem_of_getElem? (i := 87) rfl) rfl
theorem tm_1100 : (.code yX8_record cX8_record 2 (some .int) : Cond) ∈ tb := tb_m5 (List.mem_of_getElem? (i := 88) rfl) rfl
theorem tm_1101 : (.methodLink RX8 285 yX8_reads : Cond) ∈ tb := tb_m5 (List.mem_of_getElem? (i := 89) rfl) rfl
theorem tm_1103 : (.instanceMethod yX8_reads : Cond) ∈ tb := tb_m5 (List.mem_of_getElem? (i := 91) rfl) rfl
theorem tm_1104 : (.code yX8_reads cX8_reads 5 none : Cond) ∈ tb := tb_m5 (List.mem_of_getElem? (i := 92) rfl) rfl
theorem tm_1105 : (.methodLink RX8 270 yX8_whats : Cond) ∈ tb := tb_m5 (List.mem_of_getElem? (i := 93) rfl) rfl
theorem tm_1107 : (.instanceMethod yX8_whats : Cond) ∈ tb := tb_m5 (List.mem_of_getElem? (i := 95) rfl) rfl
theorem tm_1108 : (.code yX8_whats cX8_whats 1 (some .int) : Cond) ∈ tb := tb_m5 (List.mem_of_getElem? (i := 96) rfl) rfl
theorem tm_1109 : (.methodLink RX8 260 yX8_takes : Cond) ∈ tb := tb_m5 (List.mem_of_getElem? (i := 97) rfl) rfl
theorem tm_1111 : (.instanceMethod yX8_takes : Cond) ∈ tb := tb_m5 (List.mem_of_getElem? (i := 99) rfl) rfl
theorem tm_1112 : (.code yX8_takes cX8_takes 3 (some .boolean) : Cond) ∈ tb := tb_m5 (List.mem_of_getElem? (i := 100) rfl) rfl
theorem tm_1113 : (.methodLink RX8 229 yX8_next_ : Cond) ∈ tb := tb_m5 (List.mem_of_getElem? (i := 101) rfl) rfl
theorem tm_1115 : (.instanceMethod yX8_next_ : Cond) ∈ tb := tb_m5 (List.mem_of_getElem? (i := 103) rfl) rfl
theorem tm_1116 : (.code yX8_next_ cX8_next_ 1 (some .int) : Cond) ∈ tb := tb_m5 (List.mem_of_getElem? (i := 104) rfl) rfl
theorem tm_1117 : (.methodLink RX8 236 yX8_wordEnd : Cond) ∈ tb := tb_m5 (List.mem_of_getElem? (i := 105) rfl) rfl
theorem tm_1119 : (.instanceMethod yX8_wordEnd : Cond) ∈ tb := tb_m5 (List.mem_of_getElem? (i := 107) rfl) rfl
theorem tm_1120 : (.code yX8_wordEnd cX8_wordEnd 2 (some .int) : Cond) ∈ tb := tb_m5 (List.mem_of_getElem? (i := 108) rfl) rfl
theorem tm_1121 : (.methodLink RX8 242 yX8_fail : Cond) ∈ tb := tb_m5 (List.mem_of_getElem? (i := 109) rfl) rfl
theorem tm_1123 : (.instanceMethod yX8_fail : Cond) ∈ tb := tb_m5 (List.mem_of_getElem? (i := 111) rfl) rfl
theorem tm_1124 : (.code yX8_fail cX8_fail 3 none : Cond) ∈ tb := tb_m5 (List.mem_of_getElem? (i := 112) rfl) rfl
theorem tm_1125 : (.methodLink RX8 273 yX8_partOf : Cond) ∈ tb := tb_m5 (List.mem_of_getElem? (i := 113) rfl) rfl
theorem tm_1127 : (.instanceMethod yX8_partOf : Cond) ∈ tb := tb_m5 (List.mem_of_getElem? (i := 115) rfl) rfl
theorem tm_1128 : (.code yX8_partOf cX8_partOf 1 (some .int) : Cond) ∈ tb := tb_m5 (List.mem_of_getElem? (i := 116) rfl) rfl
theorem tm_1129 : (.methodLink RX8 276 yX8_number : Cond) ∈ tb := tb_m5 (List.mem_of_getElem? (i := 117) rfl) rfl
theorem tm_1131 : (.instanceMethod yX8_number : Cond) ∈ tb := tb_m5 (List.mem_of_getElem? (i := 119) rfl) rfl
theorem tm_1132 : (.code yX8_number cX8_number 5 (some .int) : Cond) ∈ tb := tb_m5 (List.mem_of_getElem? (i := 120) rfl) rfl
theorem tm_1133 : (.methodLink RX8 239 yX8_isDigit : Cond) ∈ tb := tb_m5 (List.mem_of_getElem? (i := 121) rfl) rfl
theorem tm_1134 : (.static yX8_isDigit : Cond) ∈ tb := tb_m5 (List.mem_of_getElem? (i := 122) rfl) rfl
theorem tm_1135 : (.code yX8_isDigit cX8_isDigit 1 (some .boolean) : Cond) ∈ tb := tb_m5 (List.mem_of_getElem? (i := 123) rfl) rfl
theorem tm_1136 : (.methodLink RX8 279 yX8_name : Cond) ∈ tb := tb_m5 (List.mem_of_getElem? (i := 124) rfl) rfl
theorem tm_1138 : (.instanceMethod yX8_name : Cond) ∈ tb := tb_m5 (List.mem_of_getElem? (i := 126) rfl) rfl
theorem tm_1139 : (.code yX8_name cX8_name 3 none : Cond) ∈ tb := tb_m5 (List.mem_of_getElem? (i := 127) rfl) rfl
theorem tm_1140 : (.methodLink RL 71 yX8_fault : Cond) ∈ tb := tb_m5 (List.mem_of_getElem? (i := 128) rfl) rfl
theorem tm_1141 : (.instanceMethod yX8_fault : Cond) ∈ tb := tb_m5 (List.mem_of_getElem? (i := 129) rfl) rfl
theorem tm_1142 : (.selects RX8 yX8_fault yX8_fault : Cond) ∈ tb := tb_m5 (List.mem_of_getElem? (i := 130) rfl) rfl
theorem tm_1143 : (.code yX8_fault cX8_fault 2 (some .int) : Cond) ∈ tb := tb_m5 (List.mem_of_getElem? (i := 131) rfl) rfl
theorem tm_1144 : (.methodLink RL 75 yX8_means : Cond) ∈ tb := tb_m5 (List.mem_of_getElem? (i := 132) rfl) rfl
theorem tm_1145 : (.instanceMethod yX8_means : Cond) ∈ tb := tb_m5 (List.mem_of_getElem? (i := 133) rfl) rfl
theorem tm_1146 : (.selects RX8 yX8_means yX8_means : Cond) ∈ tb := tb_m5 (List.mem_of_getElem? (i := 134) rfl) rfl
theorem tm_1147 : (.code yX8_means cX8_means 5 (some .int) : Cond) ∈ tb := tb_m5 (List.mem_of_getElem? (i := 135) rfl) rfl
theorem tm_1148 : (.methodLink RX8 295 yX8_isAsked : Cond) ∈ tb := tb_m5 (List.mem_of_getElem? (i := 136) rfl) rfl
theorem tm_1150 : (.instanceMethod yX8_isAsked : Cond) ∈ tb := tb_m5 (List.mem_of_getElem? (i := 138) rfl) rfl
theorem tm_1151 : (.code yX8_isAsked cX8_isAsked 3 (some .boolean) : Cond) ∈ tb := tb_m5 (List.mem_of_getElem? (i := 139) rfl) rfl
theorem tm_1152 : (.methodLink RX8 292 yX8_isRecord : Cond) ∈ tb := tb_m5 (List.mem_of_getElem? (i := 140) rfl) rfl
theorem tm_1154 : (.instanceMethod yX8_isRecord : Cond) ∈ tb := tb_m5 (List.mem_of_getElem? (i := 142) rfl) rfl
theorem tm_1155 : (.code yX8_isRecord cX8_isRecord 2 (some .boolean) : Cond) ∈ tb := tb_m5 (List.mem_of_getElem? (i := 143) rfl) rfl
theorem tm_1156 : (.methodLink RX8 298 yX8_differs : Cond) ∈ tb := tb_m5 (List.mem_of_getElem? (i := 144) rfl) rfl
theorem tm_1158 : (.instanceMethod yX8_differs : Cond) ∈ tb := tb_m5 (List.mem_of_getElem? (i := 146) rfl) rfl
theorem tm_1159 : (.code yX8_differs cX8_differs 11 (some .int) : Cond) ∈ tb := tb_m5 (List.mem_of_getElem? (i := 147) rfl) rfl
theorem tm_1160 : (.methodLink RL 79 yX8_meant : Cond) ∈ tb := tb_m5 (List.mem_of_getElem? (i := 148) rfl) rfl
theorem tm_1161 : (.instanceMethod yX8_meant : Cond) ∈ tb := tb_m5 (List.mem_of_getElem? (i := 149) rfl) rfl
theorem tm_1162 : (.selects RX8 yX8_meant yX8_meant : Cond) ∈ tb := tb_m5 (List.mem_of_getElem? (i := 150) rfl) rfl
theorem tm_1163 : (.code yX8_meant cX8_meant 6 (some .int) : Cond) ∈ tb := tb_m5 (List.mem_of_getElem? (i := 151) rfl) rfl
theorem tm_1164 : (.methodLink RL 83 yX8_slips : Cond) ∈ tb := tb_m5 (List.mem_of_getElem? (i := 152) rfl) rfl
theorem tm_1165 : (.instanceMethod yX8_slips : Cond) ∈ tb := tb_m5 (List.mem_of_getElem? (i := 153) rfl) rfl
theorem tm_1166 : (.selects RX8 yX8_slips yX8_slips : Cond) ∈ tb := tb_m5 (List.mem_of_getElem? (i := 154) rfl) rfl
theorem tm_1167 : (.code yX8_slips cX8_slips 6 (some .int) : Cond) ∈ tb := tb_m5 (List.mem_of_getElem? (i := 155) rfl) rfl
theorem tm_1168 : (.methodLink RL 87 yX8_lets : Cond) ∈ tb := tb_m5 (List.mem_of_getElem? (i := 156) rfl) rfl
theorem tm_1169 : (.instanceMethod yX8_lets : Cond) ∈ tb := tb_m5 (List.mem_of_getElem? (i := 157) rfl) rfl
theorem tm_1170 : (.selects RX8 yX8_lets yX8_lets : Cond) ∈ tb := tb_m5 (List.mem_of_getElem? (i := 158) rfl) rfl
theorem tm_1171 : (.code yX8_lets cX8_lets 4 (some .int) : Cond) ∈ tb := tb_m5 (List.mem_of_getElem? (i := 159) rfl) rfl
theorem tm_1172 : (.methodLink RX8 301 yX8_isLet : Cond) ∈ tb := tb_m5 (List.mem_of_getElem? (i := 160) rfl) rfl
theorem tm_1174 : (.instanceMethod yX8_isLet : Cond) ∈ tb := tb_m5 (List.mem_of_getElem? (i := 162) rfl) rfl
theorem tm_1175 : (.code yX8_isLet cX8_isLet 4 (some .boolean) : Cond) ∈ tb := tb_m5 (List.mem_of_getElem? (i := 163) rfl) rfl
theorem tm_1176 : (.methodLink RL 91 yX8_slow : Cond) ∈ tb := tb_m5 (List.mem_of_getElem? (i := 164) rfl) rfl
theorem tm_1177 : (.instanceMethod yX8_slow : Cond) ∈ tb := tb_m5 (List.mem_of_getElem? (i := 165) rfl) rfl
theorem tm_1178 : (.selects RX8 yX8_slow yX8_slow : Cond) ∈ tb := tb_m5 (List.mem_of_getElem? (i := 166) rfl) rfl
theorem tm_1179 : (.code yX8_slow cX8_slow 8 (some .int) : Cond) ∈ tb := tb_m5 (List.mem_of_getElem? (i := 167) rfl) rfl
theorem tm_1180 : (.methodLink RL 95 yX8_drop : Cond) ∈ tb := tb_m5 (List.mem_of_getElem? (i := 168) rfl) rfl
theorem tm_1181 : (.instanceMethod yX8_drop : Cond) ∈ tb := tb_m5 (List.mem_of_getElem? (i := 169) rfl) rfl
theorem tm_1182 : (.selects RX8 yX8_drop yX8_drop : Cond) ∈ tb := tb_m5 (List.mem_of_getElem? (i := 170) rfl) rfl
theorem tm_1183 : (.code yX8_drop cX8_drop 4 (some .int) : Cond) ∈ tb := tb_m5 (List.mem_of_getElem? (i := 171) rfl) rfl
theorem tm_1184 : (.fieldLink RJ0 9 "java/lang/String" "value" "[B" : Cond) ∈ tb := tb_m5 (List.mem_of_getElem? (i := 172) rfl) rfl
theorem tm_1185 : (.fieldLink RJ0 15 "java/lang/String" "coder" "B" : Cond) ∈ tb := tb_m5 (List.mem_of_getElem? (i := 173) rfl) rfl
theorem ix_0 : ∀ w ∈ u_ws RX0 TX0 7, w ∈ tb := by decide +kernel
theorem ix_1 : ∀ w ∈ u_ws RX1 TX1 2, w ∈ tb := by decide +kernel
theorem ix_3 : ∀ w ∈ u_ws RX3 TX3 11, w ∈ tb := by decide +kernel
theorem ix_4 : ∀ w ∈ u_ws RX4 TX4 4, w ∈ tb := by decide +kernel
theorem ix_5 : ∀ w ∈ u_ws RX5 TX5 9, w ∈ tb := by decide +kernel
theorem ix_6 : ∀ w ∈ u_ws RX6 TX6 2, w ∈ tb := by decide +kernel
theorem ix_7 : ∀ w ∈ u_ws RX7 TX7 5, w ∈ tb := by decide +kernel
theorem ix_8 : ∀ w ∈ u_ws RX8 TX8 50, w ∈ tb := by decide +kernel
