theorem dX4_calendarOf_2 : decode cX4_calendarOf 2 = .ok (.invokevirtual 35, 3) := by decide +kernel
theorem dX4_calendarOf_5 : decode cX4_calendarOf 5 = .ok (.ifCond .eq 12, 3) := by decide +kernel
theorem dX4_calendarOf_8 : decode cX4_calendarOf 8 = .ok (.aload_n 0, 1) := by decide +kernel
theorem dX4_calendarOf_9 : decode cX4_calendarOf 9 = .ok (.getfield 15, 3) := by decide +kernel
theorem dX4_calendarOf_12 : decode cX4_calendarOf 12 = .ok (.iload_n 1, 1) := by decide +kernel
theorem dX4_calendarOf_13 : decode cX4_calendarOf 13 = .ok (.iaload, 1) := by decide +kernel
theorem dX4_calendarOf_14 : decode cX4_calendarOf 14 = .ok (.goto 4, 3) := by decide +kernel
theorem dX4_calendarOf_17 : decode cX4_calendarOf 17 = .ok (.iconst (-1), 1) := by decide +kernel
theorem dX4_calendarOf_18 : decode cX4_calendarOf 18 = .ok (.ireturn, 1) := by decide +kernel
theorem dX4_firstYearOf_0 : decode cX4_firstYearOf 0 = .ok (.aload_n 0, 1) := by decide +kernel
theorem dX4_firstYearOf_1 : decode cX4_firstYearOf 1 = .ok (.iload_n 1, 1) := by decide +kernel
theorem dX4_firstYearOf_2 : decode cX4_firstYearOf 2 = .ok (.invokevirtual 35, 3) := by decide +kernel
theorem dX4_firstYearOf_5 : decode cX4_firstYearOf 5 = .ok (.ifCond .eq 12, 3) := by decide +kernel
theorem dX4_firstYearOf_8 : decode cX4_firstYearOf 8 = .ok (.aload_n 0, 1) := by decide +kernel
theorem dX4_firstYearOf_9 : decode cX4_firstYearOf 9 = .ok (.getfield 18, 3) := by decide +kernel
theorem dX4_firstYearOf_12 : decode cX4_firstYearOf 12 = .ok (.iload_n 1, 1) := by decide +kernel
theorem dX4_firstYearOf_13 : decode cX4_firstYearOf 13 = .ok (.iaload, 1) := by decide +kernel
theorem dX4_firstYearOf_14 : decode cX4_firstYearOf 14 = .ok (.goto 4, 3) := by decide +kernel
theorem dX4_firstYearOf_17 : decode cX4_firstYearOf 17 = .ok (.iconst (-1), 1) := by decide +kernel
theorem dX4_firstYearOf_18 : decode cX4_firstYearOf 18 = .ok (.ireturn, 1) := by decide +kernel
theorem dX5_init_0 : decode cX5_init 0 = .ok (.aload_n 0, 1) := by decide +kernel
theorem dX5_init_1 : decode cX5_init 1 = .ok (.invokespecial 3, 3) := by decide +kernel
theorem dX5_init_4 : decode cX5_init 4 = .ok (.aload_n 0, 1) := by decide +kernel
theorem dX5_init_5 : decode cX5_init 5 = .ok (.sipush 9000, 3) := by decide +kernel
theorem dX5_init_8 : decode cX5_init 8 = .ok (.putfield 9, 3) := by decide +kernel
theorem dX5_init_11 : decode cX5_init 11 = .ok (.aload_n 0, 1) := by decide +kernel
theorem dX5_init_12 : decode cX5_init 12 = .ok (.iconst 0, 1) := by decide +kernel
theorem dX5_init_13 : decode cX5_init 13 = .ok (.putfield 15, 3) := by decide +kernel
theorem dX5_init_16 : decode cX5_init 16 = .ok (.aload_n 0, 1) := by decide +kernel
theorem dX5_init_17 : decode cX5_init 17 = .ok (.sipush 400, 3) := by decide +kernel
theorem dX5_init_20 : decode cX5_init 20 = .ok (.putfield 18, 3) := by decide +kernel
theorem dX5_init_23 : decode cX5_init 23 = .ok (.aload_n 0, 1) := by decide +kernel
theorem dX5_init_24 : decode cX5_init 24 = .ok (.iconst 1, 1) := by decide +kernel
theorem dX5_init_25 : decode cX5_init 25 = .ok (.putfield 21, 3) := by decide +kernel
theorem dX5_init_28 : decode cX5_init 28 = .ok (.aload_n 0, 1) := by decide +kernel
theorem dX5_init_29 : decode cX5_init 29 = .ok (.sipush 1800, 3) := by decide +kernel
theorem dX5_init_32 : decode cX5_init 32 = .ok (.newarray .int, 2) := by decide +kernel
theorem dX5_init_34 : decode cX5_init 34 = .ok (.putfield 24, 3) := by decide +kernel
theorem dX5_init_37 : decode cX5_init 37 = .ok (.aload_n 0, 1) := by decide +kernel
theorem dX5_init_38 : decode cX5_init 38 = .ok (.sipush 1800, 3) := by decide +kernel
theorem dX5_init_41 : decode cX5_init 41 = .ok (.newarray .int, 2) := by decide +kernel
theorem dX5_init_43 : decode cX5_init 43 = .ok (.putfield 28, 3) := by decide +kernel
theorem dX5_init_46 : decode cX5_init 46 = .ok (.aload_n 0, 1) := by decide +kernel
theorem dX5_init_47 : decode cX5_init 47 = .ok (.sipush 1800, 3) := by decide +kernel
theorem dX5_init_50 : decode cX5_init 50 = .ok (.newarray .int, 2) := by decide +kernel
theorem dX5_init_52 : decode cX5_init 52 = .ok (.putfield 31, 3) := by decide +kernel
theorem dX5_init_55 : decode cX5_init 55 = .ok (.return_, 1) := by decide +kernel
theorem dX5_isMoon_0 : decode cX5_isMoon 0 = .ok (.iload_n 0, 1) := by decide +kernel
theorem dX5_isMoon_1 : decode cX5_isMoon 1 = .ok (.ifCond .lt 14, 3) := by decide +kernel
theorem dX5_isMoon_4 : decode cX5_isMoon 4 = .ok (.iload_n 0, 1) := by decide +kernel
theorem dX5_isMoon_5 : decode cX5_isMoon 5 = .ok (.sipush 12000, 3) := by decide +kernel
theorem dX5_isMoon_8 : decode cX5_isMoon 8 = .ok (.if_icmp .gt 7, 3) := by decide +kernel
theorem dX5_isMoon_11 : decode cX5_isMoon 11 = .ok (.iconst 1, 1) := by decide +kernel
theorem dX5_isMoon_12 : decode cX5_isMoon 12 = .ok (.goto 4, 3) := by decide +kernel
theorem dX5_isMoon_15 : decode cX5_isMoon 15 = .ok (.iconst 0, 1) := by decide +kernel
theorem dX5_isMoon_16 : decode cX5_isMoon 16 = .ok (.ireturn, 1) := by decide +kernel
theorem dX5_isPlace_0 : decode cX5_isPlace 0 = .ok (.iload_n 0, 1) := by decide +kernel
theorem dX5_isPlace_1 : decode cX5_isPlace 1 = .ok (.ifCond .lt 13, 3) := by decide +kernel
theorem dX5_isPlace_4 : decode cX5_isPlace 4 = .ok (.iload_n 0, 1) := by decide +kernel
theorem dX5_isPlace_5 : decode cX5_isPlace 5 = .ok (.ldc 34, 2) := by decide +kernel
theorem dX5_isPlace_7 : decode cX5_isPlace 7 = .ok (.if_icmp .ge 7, 3) := by decide +kernel
theorem dX5_isPlace_10 : decode cX5_isPlace 10 = .ok (.iconst 1, 1) := by decide +kernel
theorem dX5_isPlace_11 : decode cX5_isPlace 11 = .ok (.goto 4, 3) := by decide +kernel
theorem dX5_isPlace_14 : decode cX5_isPlace 14 = .ok (.iconst 0, 1) := by decide +kernel
theorem dX5_isPlace_15 : decode cX5_isPlace 15 = .ok (.ireturn, 1) := by decide +kernel
theorem dX5_setTables_0 : decode cX5_setTables 0 = .ok (.iload_n 1, 1) := by decide +kernel
theorem dX5_setTables_1 : decode cX5_setTables 1 = .ok (.invokestatic 35, 3) := by decide +kernel
theorem dX5_setTables_4 : decode cX5_setTables 4 = .ok (.ifCond .eq 17, 3) := by decide +kernel
theorem dX5_setTables_7 : decode cX5_setTables 7 = .ok (.iload_n 2, 1) := by decide +kernel
theorem dX5_setTables_8 : decode cX5_setTables 8 = .ok (.invokestatic 35, 3) := by decide +kernel
theorem dX5_setTables_11 : decode cX5_setTables 11 = .ok (.ifCond .eq 10, 3) := by decide +kernel
theorem dX5_setTables_14 : decode cX5_setTables 14 = .ok (.iload_n 3, 1) := by decide +kernel
theorem dX5_setTables_15 : decode cX5_setTables 15 = .ok (.invokestatic 35, 3) := by decide +kernel
theorem dX5_setTables_18 : decode cX5_setTables 18 = .ok (.ifCond .ne 5, 3) := by decide +kernel
theorem dX5_setTables_21 : decode cX5_setTables 21 = .ok (.iconst 0, 1) := by decide +kernel
theorem dX5_setTables_22 : decode cX5_setTables 22 = .ok (.ireturn, 1) := by decide +kernel
theorem dX5_setTables_23 : decode cX5_setTables 23 = .ok (.aload_n 0, 1) := by decide +kernel
theorem dX5_setTables_24 : decode cX5_setTables 24 = .ok (.iload_n 1, 1) := by decide +kernel
theorem dX5_setTables_25 : decode cX5_setTables 25 = .ok (.putfield 9, 3) := by decide +kernel
theorem dX5_setTables_28 : decode cX5_setTables 28 = .ok (.aload_n 0, 1) := by decide +kernel
theorem dX5_setTables_29 : decode cX5_setTables 29 = .ok (.iload_n 2, 1) := by decide +kernel
theorem dX5_setTables_30 : decode cX5_setTables 30 = .ok (.putfield 15, 3) := by decide +kernel
theorem dX5_setTables_33 : decode cX5_setTables 33 = .ok (.aload_n 0, 1) := by decide +kernel
theorem dX5_setTables_34 : decode cX5_setTables 34 = .ok (.iload_n 3, 1) := by decide +kernel
theorem dX5_setTables_35 : decode cX5_setTables 35 = .ok (.putfield 18, 3) := by decide +kernel
theorem dX5_setTables_38 : decode cX5_setTables 38 = .ok (.aload_n 0, 1) := by decide +kernel
theorem dX5_setTables_39 : decode cX5_setTables 39 = .ok (.iconst 0, 1) := by decide +kernel
theorem dX5_setTables_40 : decode cX5_setTables 40 = .ok (.putfield 39, 3) := by decide +kernel
theorem dX5_setTables_43 : decode cX5_setTables 43 = .ok (.aload_n 0, 1) := by decide +kernel
theorem dX5_setTables_44 : decode cX5_setTables 44 = .ok (.dup, 1) := by decide +kernel
theorem dX5_setTables_45 : decode cX5_setTables 45 = .ok (.getfield 21, 3) := by decide +kernel
theorem dX5_setTables_48 : decode cX5_setTables 48 = .ok (.iconst 1, 1) := by decide +kernel
theorem dX5_setTables_49 : decode cX5_setTables 49 = .ok (.iadd, 1) := by decide +kernel
theorem dX5_setTables_50 : decode cX5_setTables 50 = .ok (.putfield 21, 3) := by decide +kernel
theorem dX5_setTables_53 : decode cX5_setTables 53 = .ok (.iconst 1, 1) := by decide +kernel
theorem dX5_setTables_54 : decode cX5_setTables 54 = .ok (.ireturn, 1) := by decide +kernel
theorem dX5_tablesVersion_0 : decode cX5_tablesVersion 0 = .ok (.aload_n 0, 1) := by decide +kernel
theorem dX5_tablesVersion_1 : decode cX5_tablesVersion 1 = .ok (.getfield 21, 3) := by decide +kernel
theorem dX5_tablesVersion_4 : decode cX5_tablesVersion 4 = .ok (.ireturn, 1) := by decide +kernel
theorem dX5_moonPlace_0 : decode cX5_moonPlace 0 = .ok (.sipush 19291, 3) := by decide +kernel
theorem dX5_moonPlace_3 : decode cX5_moonPlace 3 = .ok (.iload_n 1, 1) := by decide +kernel
theorem dX5_moonPlace_4 : decode cX5_moonPlace 4 = .ok (.imul, 1) := by decide +kernel
theorem dX5_moonPlace_5 : decode cX5_moonPlace 5 = .ok (.aload_n 0, 1) := by decide +kernel
theorem dX5_moonPlace_6 : decode cX5_moonPlace 6 = .ok (.getfield 9, 3) := by decide +kernel
theorem dX5_moonPlace_9 : decode cX5_moonPlace 9 = .ok (.iadd, 1) := by decide +kernel
theorem dX5_moonPlace_10 : decode cX5_moonPlace 10 = .ok (.ldc 34, 2) := by decide +kernel
theorem dX5_moonPlace_12 : decode cX5_moonPlace 12 = .ok (.irem, 1) := by decide +kernel
theorem dX5_moonPlace_13 : decode cX5_moonPlace 13 = .ok (.ireturn, 1) := by decide +kernel
theorem dX5_sunPlace_0 : decode cX5_sunPlace 0 = .ok (.sipush 1455, 3) := by decide +kernel
theorem dX5_sunPlace_3 : decode cX5_sunPlace 3 = .ok (.iload_n 1, 1) := by decide +kernel
theorem dX5_sunPlace_4 : decode cX5_sunPlace 4 = .ok (.imul, 1) := by decide +kernel
theorem dX5_sunPlace_5 : decode cX5_sunPlace 5 = .ok (.aload_n 0, 1) := by decide +kernel
theorem dX5_sunPlace_6 : decode cX5_sunPlace 6 = .ok (.getfield 15, 3) := by decide +kernel
theorem dX5_sunPlace_9 : decode cX5_sunPlace 9 = .ok (.iadd, 1) := by decide +kernel
theorem dX5_sunPlace_10 : decode cX5_sunPlace 10 = .ok (.ldc 34, 2) := by decide +kernel
theorem dX5_sunPlace_12 : decode cX5_sunPlace 12 = .ok (.irem, 1) := by decide +kernel
theorem dX5_sunPlace_13 : decode cX5_sunPlace 13 = .ok (.ireturn, 1) := by decide +kernel
theorem dX5_nodePlace_0 : decode cX5_nodePlace 0 = .ok (.ldc2_w 43, 3) := by decide +kernel
theorem dX5_nodePlace_3 : decode cX5_nodePlace 3 = .ok (.iload_n 1, 1) := by decide +kernel
theorem dX5_nodePlace_4 : decode cX5_nodePlace 4 = .ok (.i2l, 1) := by decide +kernel
theorem dX5_nodePlace_5 : decode cX5_nodePlace 5 = .ok (.lmul, 1) := by decide +kernel
theorem dX5_nodePlace_6 : decode cX5_nodePlace 6 = .ok (.ldc2_w 45, 3) := by decide +kernel
theorem dX5_nodePlace_9 : decode cX5_nodePlace 9 = .ok (.ldiv, 1) := by decide +kernel
theorem dX5_nodePlace_10 : decode cX5_nodePlace 10 = .ok (.aload_n 0, 1) := by decide +kernel
theorem dX5_nodePlace_11 : decode cX5_nodePlace 11 = .ok (.getfield 18, 3) := by decide +kernel
theorem dX5_nodePlace_14 : decode cX5_nodePlace 14 = .ok (.i2l, 1) := by decide +kernel
theorem dX5_nodePlace_15 : decode cX5_nodePlace 15 = .ok (.ladd, 1) := by decide +kernel
theorem dX5_nodePlace_16 : decode cX5_nodePlace 16 = .ok (.ldc2_w 47, 3) := by decide +kernel
theorem dX5_nodePlace_19 : decode cX5_nodePlace 19 = .ok (.lrem, 1) := by decide +kernel
theorem dX5_nodePlace_20 : decode cX5_nodePlace 20 = .ok (.l2i, 1) := by decide +kernel
theorem dX5_nodePlace_21 : decode cX5_nodePlace 21 = .ok (.ireturn, 1) := by decide +kernel
theorem dX5_timeOf_0 : decode cX5_timeOf 0 = .ok (.ldc2_w 49, 3) := by decide +kernel
theorem dX5_timeOf_3 : decode cX5_timeOf 3 = .ok (.iload_n 1, 1) := by decide +kernel
theorem dX5_timeOf_4 : decode cX5_timeOf 4 = .ok (.i2l, 1) := by decide +kernel
theorem dX5_timeOf_5 : decode cX5_timeOf 5 = .ok (.lmul, 1) := by decide +kernel
theorem dX5_timeOf_6 : decode cX5_timeOf 6 = .ok (.ldc2_w 51, 3) := by decide +kernel
theorem dX5_timeOf_9 : decode cX5_timeOf 9 = .ok (.ldiv, 1) := by decide +kernel
theorem dX5_timeOf_10 : decode cX5_timeOf 10 = .ok (.l2i, 1) := by decide +kernel
theorem dX5_timeOf_11 : decode cX5_timeOf 11 = .ok (.istore_n 2, 1) := by decide +kernel
theorem dX5_timeOf_12 : decode cX5_timeOf 12 = .ok (.sipush 586, 3) := by decide +kernel
theorem dX5_timeOf_15 : decode cX5_timeOf 15 = .ok (.aload_n 0, 1) := by decide +kernel
theorem dX5_timeOf_16 : decode cX5_timeOf 16 = .ok (.iload_n 1, 1) := by decide +kernel
theorem dX5_timeOf_17 : decode cX5_timeOf 17 = .ok (.invokevirtual 53, 3) := by decide +kernel
theorem dX5_timeOf_20 : decode cX5_timeOf 20 = .ok (.invokestatic 57, 3) := by decide +kernel
theorem dX5_timeOf_23 : decode cX5_timeOf 23 = .ok (.imul, 1) := by decide +kernel
theorem dX5_timeOf_24 : decode cX5_timeOf 24 = .ok (.sipush 1000, 3) := by decide +kernel
theorem dX5_timeOf_27 : decode cX5_timeOf 27 = .ok (.invokestatic 60, 3) := by decide +kernel
theorem dX5_timeOf_30 : decode cX5_timeOf 30 = .ok (.istore_n 3, 1) := by decide +kernel
theorem dX5_timeOf_31 : decode cX5_timeOf 31 = .ok (.sipush 248, 3) := by decide +kernel
theorem dX5_timeOf_34 : decode cX5_timeOf 34 = .ok (.aload_n 0, 1) := by decide +kernel
theorem dX5_timeOf_35 : decode cX5_timeOf 35 = .ok (.iload_n 1, 1) := by decide +kernel
theorem dX5_timeOf_36 : decode cX5_timeOf 36 = .ok (.invokevirtual 66, 3) := by decide +kernel
theorem dX5_timeOf_39 : decode cX5_timeOf 39 = .ok (.invokestatic 57, 3) := by decide +kernel
theorem dX5_timeOf_42 : decode cX5_timeOf 42 = .ok (.imul, 1) := by decide +kernel
theorem dX5_timeOf_43 : decode cX5_timeOf 43 = .ok (.sipush 1000, 3) := by decide +kernel
theorem dX5_timeOf_46 : decode cX5_timeOf 46 = .ok (.invokestatic 60, 3) := by decide +kernel
theorem dX5_timeOf_49 : decode cX5_timeOf 49 = .ok (.istore 4, 2) := by decide +kernel
theorem dX5_timeOf_51 : decode cX5_timeOf 51 = .ok (.iload_n 2, 1) := by decide +kernel
theorem dX5_timeOf_52 : decode cX5_timeOf 52 = .ok (.iload_n 3, 1) := by decide +kernel
theorem dX5_timeOf_53 : decode cX5_timeOf 53 = .ok (.isub, 1) := by decide +kernel
theorem dX5_timeOf_54 : decode cX5_timeOf 54 = .ok (.iload 4, 2) := by decide +kernel
theorem dX5_timeOf_56 : decode cX5_timeOf 56 = .ok (.iadd, 1) := by decide +kernel
theorem dX5_timeOf_57 : decode cX5_timeOf 57 = .ok (.sipush 1000, 3) := by decide +kernel
theorem dX5_timeOf_60 : decode cX5_timeOf 60 = .ok (.iadd, 1) := by decide +kernel
theorem dX5_timeOf_61 : decode cX5_timeOf 61 = .ok (.ireturn, 1) := by decide +kernel
theorem dX5_waveOf_0 : decode cX5_waveOf 0 = .ok (.iload_n 0, 1) := by decide +kernel
theorem dX5_waveOf_1 : decode cX5_waveOf 1 = .ok (.sipush 18000, 3) := by decide +kernel
theorem dX5_waveOf_4 : decode cX5_waveOf 4 = .ok (.if_icmp .le 15, 3) := by decide +kernel
theorem dX5_waveOf_7 : decode cX5_waveOf 7 = .ok (.iload_n 0, 1) := by decide +kernel
theorem dX5_waveOf_8 : decode cX5_waveOf 8 = .ok (.sipush 18000, 3) := by decide +kernel
theorem dX5_waveOf_11 : decode cX5_waveOf 11 = .ok (.isub, 1) := by decide +kernel
theorem dX5_waveOf_12 : decode cX5_waveOf 12 = .ok (.invokestatic 69, 3) := by decide +kernel
theorem dX5_waveOf_15 : decode cX5_waveOf 15 = .ok (.ineg, 1) := by decide +kernel
theorem dX5_waveOf_16 : decode cX5_waveOf 16 = .ok (.goto 7, 3) := by decide +kernel
theorem dX5_waveOf_19 : decode cX5_waveOf 19 = .ok (.iload_n 0, 1) := by decide +kernel
theorem dX5_waveOf_20 : decode cX5_waveOf 20 = .ok (.invokestatic 69, 3) := by decide +kernel
theorem dX5_waveOf_23 : decode cX5_waveOf 23 = .ok (.ireturn, 1) := by decide +kernel
theorem dX5_halfWave_0 : decode cX5_halfWave 0 = .ok (.iload_n 0, 1) := by decide +kernel
theorem dX5_halfWave_1 : decode cX5_halfWave 1 = .ok (.sipush 9000, 3) := by decide +kernel
theorem dX5_halfWave_4 : decode cX5_halfWave 4 = .ok (.if_icmp .le 11, 3) := by decide +kernel
theorem dX5_halfWave_7 : decode cX5_halfWave 7 = .ok (.sipush 18000, 3) := by decide +kernel
theorem dX5_halfWave_10 : decode cX5_halfWave 10 = .ok (.iload_n 0, 1) := by decide +kernel
theorem dX5_halfWave_11 : decode cX5_halfWave 11 = .ok (.isub, 1) := by decide +kernel
theorem dX5_halfWave_12 : decode cX5_halfWave 12 = .ok (.goto 4, 3) := by decide +kernel
theorem dX5_halfWave_15 : decode cX5_halfWave 15 = .ok (.iload_n 0, 1) := by decide +kernel
theorem dX5_halfWave_16 : decode cX5_halfWave 16 = .ok (.istore_n 1, 1) := by decide +kernel
theorem dX5_halfWave_17 : decode cX5_halfWave 17 = .ok (.iload_n 1, 1) := by decide +kernel
theorem dX5_halfWave_18 : decode cX5_halfWave 18 = .ok (.sipush 1000, 3) := by decide +kernel
theorem dX5_halfWave_21 : decode cX5_halfWave 21 = .ok (.idiv, 1) := by decide +kernel
theorem dX5_halfWave_22 : decode cX5_halfWave 22 = .ok (.istore_n 2, 1) := by decide +kernel
theorem dX5_halfWave_23 : decode cX5_halfWave 23 = .ok (.iload_n 2, 1) := by decide +kernel
theorem dX5_halfWave_24 : decode cX5_halfWave 24 = .ok (.ifCond .lt 13, 3) := by decide +kernel
theorem dX5_halfWave_27 : decode cX5_halfWave 27 = .ok (.iload_n 2, 1) := by decide +kernel
theorem dX5_halfWave_28 : decode cX5_halfWave 28 = .ok (.getstatic 72, 3) := by decide +kernel
theorem dX5_halfWave_31 : decode cX5_halfWave 31 = .ok (.arraylength, 1) := by decide +kernel
theorem dX5_halfWave_32 : decode cX5_halfWave 32 = .ok (.iconst 1, 1) := by decide +kernel
theorem dX5_halfWave_33 : decode cX5_halfWave 33 = .ok (.isub, 1) := by decide +kernel
theorem dX5_halfWave_34 : decode cX5_halfWave 34 = .ok (.if_icmp .lt 14, 3) := by decide +kernel
theorem dX5_halfWave_37 : decode cX5_halfWave 37 = .ok (.getstatic 72, 3) := by decide +kernel
theorem dX5_halfWave_40 : decode cX5_halfWave 40 = .ok (.getstatic 72, 3) := by decide +kernel
theorem dX5_halfWave_43 : decode cX5_halfWave 43 = .ok (.arraylength, 1) := by decide +kernel
theorem dX5_halfWave_44 : decode cX5_halfWave 44 = .ok (.iconst 1, 1) := by decide +kernel
theorem dX5_halfWave_45 : decode cX5_halfWave 45 = .ok (.isub, 1) := by decide +kernel
theorem dX5_halfWave_46 : decode cX5_halfWave 46 = .ok (.iaload, 1) := by decide +kernel
theorem dX5_halfWave_47 : decode cX5_halfWave 47 = .ok (.ireturn, 1) := by decide +kernel
theorem dX5_halfWave_48 : decode cX5_halfWave 48 = .ok (.getstatic 72, 3) := by decide +kernel
theorem dX5_halfWave_51 : decode cX5_halfWave 51 = .ok (.iload_n 2, 1) := by decide +kernel
theorem dX5_halfWave_52 : decode cX5_halfWave 52 = .ok (.iaload, 1) := by decide +kernel
theorem dX5_halfWave_53 : decode cX5_halfWave 53 = .ok (.getstatic 72, 3) := by decide +kernel
theorem dX5_halfWave_56 : decode cX5_halfWave 56 = .ok (.iload_n 2, 1) := by decide +kernel
theorem dX5_halfWave_57 : decode cX5_halfWave 57 = .ok (.iconst 1, 1) := by decide +kernel
theorem dX5_halfWave_58 : decode cX5_halfWave 58 = .ok (.iadd, 1) := by decide +kernel
theorem dX5_halfWave_59 : decode cX5_halfWave 59 = .ok (.iaload, 1) := by decide +kernel
theorem dX5_halfWave_60 : decode cX5_halfWave 60 = .ok (.getstatic 72, 3) := by decide +kernel
theorem dX5_halfWave_63 : decode cX5_halfWave 63 = .ok (.iload_n 2, 1) := by decide +kernel
theorem dX5_halfWave_64 : decode cX5_halfWave 64 = .ok (.iaload, 1) := by decide +kernel
theorem dX5_halfWave_65 : decode cX5_halfWave 65 = .ok (.isub, 1) := by decide +kernel
theorem dX5_halfWave_66 : decode cX5_halfWave 66 = .ok (.iload_n 1, 1) := by decide +kernel
theorem dX5_halfWave_67 : decode cX5_halfWave 67 = .ok (.sipush 1000, 3) := by decide +kernel
theorem dX5_halfWave_70 : decode cX5_halfWave 70 = .ok (.irem, 1) := by decide +kernel
theorem dX5_halfWave_71 : decode cX5_halfWave 71 = .ok (.imul, 1) := by decide +kernel
theorem dX5_halfWave_72 : decode cX5_halfWave 72 = .ok (.sipush 1000, 3) := by decide +kernel
theorem dX5_halfWave_75 : decode cX5_halfWave 75 = .ok (.idiv, 1) := by decide +kernel
theorem dX5_halfWave_76 : decode cX5_halfWave 76 = .ok (.iadd, 1) := by decide +kernel
theorem dX5_halfWave_77 : decode cX5_halfWave 77 = .ok (.ireturn, 1) := by decide +kernel
theorem dX5_kindOf_0 : decode cX5_kindOf 0 = .ok (.aload_n 0, 1) := by decide +kernel
theorem dX5_kindOf_1 : decode cX5_kindOf 1 = .ok (.iload_n 1, 1) := by decide +kernel
theorem dX5_kindOf_2 : decode cX5_kindOf 2 = .ok (.invokevirtual 75, 3) := by decide +kernel
theorem dX5_kindOf_5 : decode cX5_kindOf 5 = .ok (.sipush 18000, 3) := by decide +kernel
theorem dX5_kindOf_8 : decode cX5_kindOf 8 = .ok (.irem, 1) := by decide +kernel
theorem dX5_kindOf_9 : decode cX5_kindOf 9 = .ok (.istore_n 2, 1) := by decide +kernel
theorem dX5_kindOf_10 : decode cX5_kindOf 10 = .ok (.iload_n 2, 1) := by decide +kernel
theorem dX5_kindOf_11 : decode cX5_kindOf 11 = .ok (.sipush 18000, 3) := by decide +kernel
theorem dX5_kindOf_14 : decode cX5_kindOf 14 = .ok (.iload_n 2, 1) := by decide +kernel
theorem dX5_kindOf_15 : decode cX5_kindOf 15 = .ok (.isub, 1) := by decide +kernel
theorem dX5_kindOf_16 : decode cX5_kindOf 16 = .ok (.invokestatic 78, 3) := by decide +kernel
theorem dX5_kindOf_19 : decode cX5_kindOf 19 = .ok (.istore_n 3, 1) := by decide +kernel
theorem dX5_kindOf_20 : decode cX5_kindOf 20 = .ok (.iload_n 1, 1) := by decide +kernel
theorem dX5_kindOf_21 : decode cX5_kindOf 21 = .ok (.iconst 2, 1) := by decide +kernel
theorem dX5_kindOf_22 : decode cX5_kindOf 22 = .ok (.irem, 1) := by decide +kernel
theorem dX5_kindOf_23 : decode cX5_kindOf 23 = .ok (.ifCond .ne 12, 3) := by decide +kernel
theorem dX5_kindOf_26 : decode cX5_kindOf 26 = .ok (.aload_n 0, 1) := by decide +kernel
theorem dX5_kindOf_27 : decode cX5_kindOf 27 = .ok (.iload_n 3, 1) := by decide +kernel
theorem dX5_kindOf_28 : decode cX5_kindOf 28 = .ok (.iload_n 1, 1) := by decide +kernel
theorem dX5_kindOf_29 : decode cX5_kindOf 29 = .ok (.invokevirtual 81, 3) := by decide +kernel
theorem dX5_kindOf_32 : decode cX5_kindOf 32 = .ok (.goto 7, 3) := by decide +kernel
theorem dX5_kindOf_35 : decode cX5_kindOf 35 = .ok (.iload_n 3, 1) := by decide +kernel
theorem dX5_kindOf_36 : decode cX5_kindOf 36 = .ok (.invokestatic 84, 3) := by decide +kernel
theorem dX5_kindOf_39 : decode cX5_kindOf 39 = .ok (.ireturn, 1) := by decide +kernel
theorem dX5_sunKind_0 : decode cX5_sunKind 0 = .ok (.iload_n 1, 1) := by decide +kernel
theorem dX5_sunKind_1 : decode cX5_sunKind 1 = .ok (.sipush 1000, 3) := by decide +kernel
theorem dX5_sunKind_4 : decode cX5_sunKind 4 = .ok (.if_icmp .le 16, 3) := by decide +kernel
theorem dX5_sunKind_7 : decode cX5_sunKind 7 = .ok (.iload_n 1, 1) := by decide +kernel
theorem dX5_sunKind_8 : decode cX5_sunKind 8 = .ok (.sipush 1550, 3) := by decide +kernel
theorem dX5_sunKind_11 : decode cX5_sunKind 11 = .ok (.if_icmp .gt 7, 3) := by decide +kernel
theorem dX5_sunKind_14 : decode cX5_sunKind 14 = .ok (.iconst 3, 1) := by decide +kernel
theorem dX5_sunKind_15 : decode cX5_sunKind 15 = .ok (.goto 4, 3) := by decide +kernel
theorem dX5_sunKind_18 : decode cX5_sunKind 18 = .ok (.iconst 0, 1) := by decide +kernel
theorem dX5_sunKind_19 : decode cX5_sunKind 19 = .ok (.ireturn, 1) := by decide +kernel
theorem dX5_sunKind_20 : decode cX5_sunKind 20 = .ok (.aload_n 0, 1) := by decide +kernel
theorem dX5_sunKind_21 : decode cX5_sunKind 21 = .ok (.iload_n 2, 1) := by decide +kernel
theorem dX5_sunKind_22 : decode cX5_sunKind 22 = .ok (.invokevirtual 53, 3) := by decide +kernel
theorem dX5_sunKind_25 : decode cX5_sunKind 25 = .ok (.istore_n 3, 1) := by decide +kernel
theorem dX5_sunKind_26 : decode cX5_sunKind 26 = .ok (.iload_n 3, 1) := by decide +kernel
theorem dX5_sunKind_27 : decode cX5_sunKind 27 = .ok (.sipush 9000, 3) := by decide +kernel
theorem dX5_sunKind_30 : decode cX5_sunKind 30 = .ok (.if_icmp .lt 10, 3) := by decide +kernel
theorem dX5_sunKind_33 : decode cX5_sunKind 33 = .ok (.iload_n 3, 1) := by decide +kernel
theorem dX5_sunKind_34 : decode cX5_sunKind 34 = .ok (.sipush 27000, 3) := by decide +kernel
theorem dX5_sunKind_37 : decode cX5_sunKind 37 = .ok (.if_icmp .lt 7, 3) := by decide +kernel
theorem dX5_sunKind_40 : decode cX5_sunKind 40 = .ok (.iconst 1, 1) := by decide +kernel
theorem dX5_sunKind_41 : decode cX5_sunKind 41 = .ok (.goto 4, 3) := by decide +kernel
theorem dX5_sunKind_44 : decode cX5_sunKind 44 = .ok (.iconst 2, 1) := by decide +kernel
theorem dX5_sunKind_45 : decode cX5_sunKind 45 = .ok (.ireturn, 1) := by decide +kernel
theorem dX5_moonKind_0 : decode cX5_moonKind 0 = .ok (.iload_n 0, 1) := by decide +kernel
theorem dX5_moonKind_1 : decode cX5_moonKind 1 = .ok (.sipush 480, 3) := by decide +kernel
theorem dX5_moonKind_4 : decode cX5_moonKind 4 = .ok (.if_icmp .gt 5, 3) := by decide +kernel
theorem dX5_moonKind_7 : decode cX5_moonKind 7 = .ok (.iconst 4, 1) := by decide +kernel
theorem dX5_moonKind_8 : decode cX5_moonKind 8 = .ok (.ireturn, 1) := by decide +kernel
theorem dX5_moonKind_9 : decode cX5_moonKind 9 = .ok (.iload_n 0, 1) := by decide +kernel
theorem dX5_moonKind_10 : decode cX5_moonKind 10 = .ok (.sipush 1080, 3) := by decide +kernel
theorem dX5_moonKind_13 : decode cX5_moonKind 13 = .ok (.if_icmp .gt 7, 3) := by decide +kernel
theorem dX5_moonKind_16 : decode cX5_moonKind 16 = .ok (.iconst 5, 1) := by decide +kernel
theorem dX5_moonKind_17 : decode cX5_moonKind 17 = .ok (.goto 4, 3) := by decide +kernel
theorem dX5_moonKind_20 : decode cX5_moonKind 20 = .ok (.iconst 0, 1) := by decide +kernel
theorem dX5_moonKind_21 : decode cX5_moonKind 21 = .ok (.ireturn, 1) := by decide +kernel
theorem dX5_firstOfRound_0 : decode cX5_firstOfRound 0 = .ok (.iload_n 1, 1) := by decide +kernel
theorem dX5_firstOfRound_1 : decode cX5_firstOfRound 1 = .ok (.istore_n 2, 1) := by decide +kernel
theorem dX5_firstOfRound_2 : decode cX5_firstOfRound 2 = .ok (.iload_n 2, 1) := by decide +kernel
theorem dX5_firstOfRound_3 : decode cX5_firstOfRound 3 = .ok (.sipush 446, 3) := by decide +kernel
theorem dX5_firstOfRound_6 : decode cX5_firstOfRound 6 = .ok (.if_icmp .lt 24, 3) := by decide +kernel
theorem dX5_firstOfRound_9 : decode cX5_firstOfRound 9 = .ok (.aload_n 0, 1) := by decide +kernel
theorem dX5_firstOfRound_10 : decode cX5_firstOfRound 10 = .ok (.iload_n 2, 1) := by decide +kernel
theorem dX5_firstOfRound_11 : decode cX5_firstOfRound 11 = .ok (.sipush 446, 3) := by decide +kernel
theorem dX5_firstOfRound_14 : decode cX5_firstOfRound 14 = .ok (.isub, 1) := by decide +kernel
theorem dX5_firstOfRound_15 : decode cX5_firstOfRound 15 = .ok (.invokevirtual 87, 3) := by decide +kernel
theorem dX5_firstOfRound_18 : decode cX5_firstOfRound 18 = .ok (.ifCond .eq 12, 3) := by decide +kernel
theorem dX5_firstOfRound_21 : decode cX5_firstOfRound 21 = .ok (.iinc 2 (-446), 6) := by decide +kernel
theorem dX5_firstOfRound_27 : decode cX5_firstOfRound 27 = .ok (.goto (-25), 3) := by decide +kernel
theorem dX5_firstOfRound_30 : decode cX5_firstOfRound 30 = .ok (.iload_n 2, 1) := by decide +kernel
theorem dX5_firstOfRound_31 : decode cX5_firstOfRound 31 = .ok (.ireturn, 1) := by decide +kernel
theorem dX5_lastOfRound_0 : decode cX5_lastOfRound 0 = .ok (.iload_n 1, 1) := by decide +kernel
theorem dX5_lastOfRound_1 : decode cX5_lastOfRound 1 = .ok (.istore_n 2, 1) := by decide +kernel
theorem dX5_lastOfRound_2 : decode cX5_lastOfRound 2 = .ok (.iload_n 2, 1) := by decide +kernel
theorem dX5_lastOfRound_3 : decode cX5_lastOfRound 3 = .ok (.sipush 446, 3) := by decide +kernel
theorem dX5_lastOfRound_6 : decode cX5_lastOfRound 6 = .ok (.iadd, 1) := by decide +kernel
theorem dX5_lastOfRound_7 : decode cX5_lastOfRound 7 = .ok (.sipush 12000, 3) := by decide +kernel
theorem dX5_lastOfRound_10 : decode cX5_lastOfRound 10 = .ok (.if_icmp .gt 24, 3) := by decide +kernel
theorem dX5_lastOfRound_13 : decode cX5_lastOfRound 13 = .ok (.aload_n 0, 1) := by decide +kernel
theorem dX5_lastOfRound_14 : decode cX5_lastOfRound 14 = .ok (.iload_n 2, 1) := by decide +kernel
theorem dX5_lastOfRound_15 : decode cX5_lastOfRound 15 = .ok (.sipush 446, 3) := by decide +kernel
theorem dX5_lastOfRound_18 : decode cX5_lastOfRound 18 = .ok (.iadd, 1) := by decide +kernel
theorem dX5_lastOfRound_19 : decode cX5_lastOfRound 19 = .ok (.invokevirtual 87, 3) := by decide +kernel
theorem dX5_lastOfRound_22 : decode cX5_lastOfRound 22 = .ok (.ifCond .eq 12, 3) := by decide +kernel
theorem dX5_lastOfRound_25 : decode cX5_lastOfRound 25 = .ok (.iinc 2 446, 6) := by decide +kernel
theorem dX5_lastOfRound_31 : decode cX5_lastOfRound 31 = .ok (.goto (-29), 3) := by decide +kernel
theorem dX5_lastOfRound_34 : decode cX5_lastOfRound 34 = .ok (.iload_n 2, 1) := by decide +kernel
theorem dX5_lastOfRound_35 : decode cX5_lastOfRound 35 = .ok (.ireturn, 1) := by decide +kernel
theorem dX5_minuteSeen_0 : decode cX5_minuteSeen 0 = .ok (.iload_n 0, 1) := by decide +kernel
theorem dX5_minuteSeen_1 : decode cX5_minuteSeen 1 = .ok (.ldc 90, 2) := by decide +kernel
theorem dX5_minuteSeen_3 : decode cX5_minuteSeen 3 = .ok (.idiv, 1) := by decide +kernel
theorem dX5_minuteSeen_4 : decode cX5_minuteSeen 4 = .ok (.istore_n 3, 1) := by decide +kernel
theorem dX5_minuteSeen_5 : decode cX5_minuteSeen 5 = .ok (.iload_n 0, 1) := by decide +kernel
theorem dX5_minuteSeen_6 : decode cX5_minuteSeen 6 = .ok (.iload_n 1, 1) := by decide +kernel
theorem dX5_minuteSeen_7 : decode cX5_minuteSeen 7 = .ok (.iadd, 1) := by decide +kernel
theorem dX5_minuteSeen_8 : decode cX5_minuteSeen 8 = .ok (.iload_n 2, 1) := by decide +kernel
theorem dX5_minuteSeen_9 : decode cX5_minuteSeen 9 = .ok (.iload_n 3, 1) := by decide +kernel
theorem dX5_minuteSeen_10 : decode cX5_minuteSeen 10 = .ok (.imul, 1) := by decide +kernel
theorem dX5_minuteSeen_11 : decode cX5_minuteSeen 11 = .ok (.iload_n 3, 1) := by decide +kernel
theorem dX5_minuteSeen_12 : decode cX5_minuteSeen 12 = .ok (.imul, 1) := by decide +kernel
theorem dX5_minuteSeen_13 : decode cX5_minuteSeen 13 = .ok (.sipush 10000, 3) := by decide +kernel
theorem dX5_minuteSeen_16 : decode cX5_minuteSeen 16 = .ok (.idiv, 1) := by decide +kernel
theorem dX5_minuteSeen_17 : decode cX5_minuteSeen 17 = .ok (.iadd, 1) := by decide +kernel
theorem dX5_minuteSeen_18 : decode cX5_minuteSeen 18 = .ok (.ireturn, 1) := by decide +kernel
theorem dX5_listEclipses_0 : decode cX5_listEclipses 0 = .ok (.aload_n 0, 1) := by decide +kernel
theorem dX5_listEclipses_1 : decode cX5_listEclipses 1 = .ok (.getfield 39, 3) := by decide +kernel
theorem dX5_listEclipses_4 : decode cX5_listEclipses 4 = .ok (.ifCond .eq 8, 3) := by decide +kernel
theorem dX5_listEclipses_7 : decode cX5_listEclipses 7 = .ok (.aload_n 0, 1) := by decide +kernel
theorem dX5_listEclipses_8 : decode cX5_listEclipses 8 = .ok (.getfield 91, 3) := by decide +kernel
theorem dX5_listEclipses_11 : decode cX5_listEclipses 11 = .ok (.ireturn, 1) := by decide +kernel
theorem dX5_listEclipses_12 : decode cX5_listEclipses 12 = .ok (.aload_n 0, 1) := by decide +kernel
theorem dX5_listEclipses_13 : decode cX5_listEclipses 13 = .ok (.iconst 0, 1) := by decide +kernel
theorem dX5_listEclipses_14 : decode cX5_listEclipses 14 = .ok (.putfield 91, 3) := by decide +kernel
theorem dX5_listEclipses_17 : decode cX5_listEclipses 17 = .ok (.iconst 0, 1) := by decide +kernel
theorem dX5_listEclipses_18 : decode cX5_listEclipses 18 = .ok (.istore_n 1, 1) := by decide +kernel
theorem dX5_listEclipses_19 : decode cX5_listEclipses 19 = .ok (.iload_n 1, 1) := by decide +kernel
theorem dX5_listEclipses_20 : decode cX5_listEclipses 20 = .ok (.sipush 12000, 3) := by decide +kernel
theorem dX5_listEclipses_23 : decode cX5_listEclipses 23 = .ok (.if_icmp .gt 73, 3) := by decide +kernel
theorem dX5_listEclipses_26 : decode cX5_listEclipses 26 = .ok (.aload_n 0, 1) := by decide +kernel
theorem dX5_listEclipses_27 : decode cX5_listEclipses 27 = .ok (.getfield 91, 3) := by decide +kernel
theorem dX5_listEclipses_30 : decode cX5_listEclipses 30 = .ok (.sipush 1800, 3) := by decide +kernel
theorem dX5_listEclipses_33 : decode cX5_listEclipses 33 = .ok (.if_icmp .ge 63, 3) := by decide +kernel
theorem dX5_listEclipses_36 : decode cX5_listEclipses 36 = .ok (.aload_n 0, 1) := by decide +kernel
theorem dX5_listEclipses_37 : decode cX5_listEclipses 37 = .ok (.iload_n 1, 1) := by decide +kernel
theorem dX5_listEclipses_38 : decode cX5_listEclipses 38 = .ok (.invokevirtual 87, 3) := by decide +kernel
theorem dX5_listEclipses_41 : decode cX5_listEclipses 41 = .ok (.istore_n 2, 1) := by decide +kernel
theorem dX5_listEclipses_42 : decode cX5_listEclipses 42 = .ok (.iload_n 2, 1) := by decide +kernel
theorem dX5_listEclipses_43 : decode cX5_listEclipses 43 = .ok (.ifCond .eq 47, 3) := by decide +kernel
theorem dX5_listEclipses_46 : decode cX5_listEclipses 46 = .ok (.aload_n 0, 1) := by decide +kernel
theorem dX5_listEclipses_47 : decode cX5_listEclipses 47 = .ok (.getfield 24, 3) := by decide +kernel
theorem dX5_listEclipses_50 : decode cX5_listEclipses 50 = .ok (.aload_n 0, 1) := by decide +kernel
theorem dX5_listEclipses_51 : decode cX5_listEclipses 51 = .ok (.getfield 91, 3) := by decide +kernel
theorem dX5_listEclipses_54 : decode cX5_listEclipses 54 = .ok (.iload_n 1, 1) := by decide +kernel
theorem dX5_listEclipses_55 : decode cX5_listEclipses 55 = .ok (.iastore, 1) := by decide +kernel
theorem dX5_listEclipses_56 : decode cX5_listEclipses 56 = .ok (.aload_n 0, 1) := by decide +kernel
theorem dX5_listEclipses_57 : decode cX5_listEclipses 57 = .ok (.getfield 28, 3) := by decide +kernel
theorem dX5_listEclipses_60 : decode cX5_listEclipses 60 = .ok (.aload_n 0, 1) := by decide +kernel
theorem dX5_listEclipses_61 : decode cX5_listEclipses 61 = .ok (.getfield 91, 3) := by decide +kernel
theorem dX5_listEclipses_64 : decode cX5_listEclipses 64 = .ok (.iload_n 2, 1) := by decide +kernel
theorem dX5_listEclipses_65 : decode cX5_listEclipses 65 = .ok (.iastore, 1) := by decide +kernel
theorem dX5_listEclipses_66 : decode cX5_listEclipses 66 = .ok (.aload_n 0, 1) := by decide +kernel
theorem dX5_listEclipses_67 : decode cX5_listEclipses 67 = .ok (.getfield 31, 3) := by decide +kernel
theorem dX5_listEclipses_70 : decode cX5_listEclipses 70 = .ok (.aload_n 0, 1) := by decide +kernel
theorem dX5_listEclipses_71 : decode cX5_listEclipses 71 = .ok (.getfield 91, 3) := by decide +kernel
theorem dX5_listEclipses_74 : decode cX5_listEclipses 74 = .ok (.aload_n 0, 1) := by decide +kernel
theorem dX5_listEclipses_75 : decode cX5_listEclipses 75 = .ok (.iload_n 1, 1) := by decide +kernel
theorem dX5_listEclipses_76 : decode cX5_listEclipses 76 = .ok (.invokevirtual 94, 3) := by decide +kernel
theorem dX5_listEclipses_79 : decode cX5_listEclipses 79 = .ok (.iastore, 1) := by decide +kernel
theorem dX5_listEclipses_80 : decode cX5_listEclipses 80 = .ok (.aload_n 0, 1) := by decide +kernel
theorem dX5_listEclipses_81 : decode cX5_listEclipses 81 = .ok (.dup, 1) := by decide +kernel
theorem dX5_listEclipses_82 : decode cX5_listEclipses 82 = .ok (.getfield 91, 3) := by decide +kernel
theorem dX5_listEclipses_85 : decode cX5_listEclipses 85 = .ok (.iconst 1, 1) := by decide +kernel
theorem dX5_listEclipses_86 : decode cX5_listEclipses 86 = .ok (.iadd, 1) := by decide +kernel
theorem dX5_listEclipses_87 : decode cX5_listEclipses 87 = .ok (.putfield 91, 3) := by decide +kernel
theorem dX5_listEclipses_90 : decode cX5_listEclipses 90 = .ok (.iinc 1 1, 3) := by decide +kernel
theorem dX5_listEclipses_93 : decode cX5_listEclipses 93 = .ok (.goto (-74), 3) := by decide +kernel
theorem dX5_listEclipses_96 : decode cX5_listEclipses 96 = .ok (.aload_n 0, 1) := by decide +kernel
theorem dX5_listEclipses_97 : decode cX5_listEclipses 97 = .ok (.iconst 1, 1) := by decide +kernel
theorem dX5_listEclipses_98 : decode cX5_listEclipses 98 = .ok (.putfield 39, 3) := by decide +kernel
theorem dX5_listEclipses_101 : decode cX5_listEclipses 101 = .ok (.aload_n 0, 1) := by decide +kernel
theorem dX5_listEclipses_102 : decode cX5_listEclipses 102 = .ok (.getfield 91, 3) := by decide +kernel
theorem dX5_listEclipses_105 : decode cX5_listEclipses 105 = .ok (.ireturn, 1) := by decide +kernel
theorem dX5_isListed_0 : decode cX5_isListed 0 = .ok (.iload_n 1, 1) := by decide +kernel
theorem dX5_isListed_1 : decode cX5_isListed 1 = .ok (.ifCond .lt 15, 3) := by decide +kernel
theorem dX5_isListed_4 : decode cX5_isListed 4 = .ok (.iload_n 1, 1) := by decide +kernel
theorem dX5_isListed_5 : decode cX5_isListed 5 = .ok (.aload_n 0, 1) := by decide +kernel
theorem dX5_isListed_6 : decode cX5_isListed 6 = .ok (.getfield 91, 3) := by decide +kernel
theorem dX5_isListed_9 : decode cX5_isListed 9 = .ok (.if_icmp .ge 7, 3) := by decide +kernel
theorem dX5_isListed_12 : decode cX5_isListed 12 = .ok (.iconst 1, 1) := by decide +kernel
theorem dX5_isListed_13 : decode cX5_isListed 13 = .ok (.goto 4, 3) := by decide +kernel
theorem dX5_isListed_16 : decode cX5_isListed 16 = .ok (.iconst 0, 1) := by decide +kernel
theorem dX5_isListed_17 : decode cX5_isListed 17 = .ok (.ireturn, 1) := by decide +kernel
theorem dX5_moonAt_0 : decode cX5_moonAt 0 = .ok (.aload_n 0, 1) := by decide +kernel
theorem dX5_moonAt_1 : decode cX5_moonAt 1 = .ok (.iload_n 1, 1) := by decide +kernel
theorem dX5_moonAt_2 : decode cX5_moonAt 2 = .ok (.invokevirtual 97, 3) := by decide +kernel
theorem dX5_moonAt_5 : decode cX5_moonAt 5 = .ok (.ifCond .eq 12, 3) := by decide +kernel
theorem dX5_moonAt_8 : decode cX5_moonAt 8 = .ok (.aload_n 0, 1) := by decide +kernel
theorem dX5_moonAt_9 : decode cX5_moonAt 9 = .ok (.getfield 24, 3) := by decide +kernel
theorem dX5_moonAt_12 : decode cX5_moonAt 12 = .ok (.iload_n 1, 1) := by decide +kernel
theorem dX5_moonAt_13 : decode cX5_moonAt 13 = .ok (.iaload, 1) := by decide +kernel
theorem dX5_moonAt_14 : decode cX5_moonAt 14 = .ok (.goto 4, 3) := by decide +kernel
theorem dX5_moonAt_17 : decode cX5_moonAt 17 = .ok (.iconst (-1), 1) := by decide +kernel
theorem dX5_moonAt_18 : decode cX5_moonAt 18 = .ok (.ireturn, 1) := by decide +kernel
theorem dX5_kindAt_0 : decode cX5_kindAt 0 = .ok (.aload_n 0, 1) := by decide +kernel
theorem dX5_kindAt_1 : decode cX5_kindAt 1 = .ok (.iload_n 1, 1) := by decide +kernel
theorem dX5_kindAt_2 : decode cX5_kindAt 2 = .ok (.invokevirtual 97, 3) := by decide +kernel
theorem dX5_kindAt_5 : decode cX5_kindAt 5 = .ok (.ifCond .eq 12, 3) := by decide +kernel
theorem dX5_kindAt_8 : decode cX5_kindAt 8 = .ok (.aload_n 0, 1) := by decide +kernel
theorem dX5_kindAt_9 : decode cX5_kindAt 9 = .ok (.getfield 28, 3) := by decide +kernel
theorem dX5_kindAt_12 : decode cX5_kindAt 12 = .ok (.iload_n 1, 1) := by decide +kernel
theorem dX5_kindAt_13 : decode cX5_kindAt 13 = .ok (.iaload, 1) := by decide +kernel
theorem dX5_kindAt_14 : decode cX5_kindAt 14 = .ok (.goto 4, 3) := by decide +kernel
theorem dX5_kindAt_17 : decode cX5_kindAt 17 = .ok (.iconst 0, 1) := by decide +kernel
theorem dX5_kindAt_18 : decode cX5_kindAt 18 = .ok (.ireturn, 1) := by decide +kernel
theorem dX5_isOfSunAt_0 : decode cX5_isOfSunAt 0 = .ok (.aload_n 0, 1) := by decide +kernel
theorem dX5_isOfSunAt_1 : decode cX5_isOfSunAt 1 = .ok (.iload_n 1, 1) := by decide +kernel
theorem dX5_isOfSunAt_2 : decode cX5_isOfSunAt 2 = .ok (.invokevirtual 100, 3) := by decide +kernel
theorem dX5_isOfSunAt_5 : decode cX5_isOfSunAt 5 = .ok (.iconst 2, 1) := by decide +kernel
theorem dX5_isOfSunAt_6 : decode cX5_isOfSunAt 6 = .ok (.irem, 1) := by decide +kernel
theorem dX5_isOfSunAt_7 : decode cX5_isOfSunAt 7 = .ok (.ifCond .ne 7, 3) := by decide +kernel
theorem dX5_isOfSunAt_10 : decode cX5_isOfSunAt 10 = .ok (.iconst 1, 1) := by decide +kernel
theorem dX5_isOfSunAt_11 : decode cX5_isOfSunAt 11 = .ok (.goto 4, 3) := by decide +kernel
theorem dX5_isOfSunAt_14 : decode cX5_isOfSunAt 14 = .ok (.iconst 0, 1) := by decide +kernel
theorem dX5_isOfSunAt_15 : decode cX5_isOfSunAt 15 = .ok (.ireturn, 1) := by decide +kernel
theorem dX5_timeAt_0 : decode cX5_timeAt 0 = .ok (.aload_n 0, 1) := by decide +kernel
theorem dX5_timeAt_1 : decode cX5_timeAt 1 = .ok (.iload_n 1, 1) := by decide +kernel
theorem dX5_timeAt_2 : decode cX5_timeAt 2 = .ok (.invokevirtual 97, 3) := by decide +kernel
theorem dX5_timeAt_5 : decode cX5_timeAt 5 = .ok (.ifCond .eq 12, 3) := by decide +kernel
theorem dX5_timeAt_8 : decode cX5_timeAt 8 = .ok (.aload_n 0, 1) := by decide +kernel
theorem dX5_timeAt_9 : decode cX5_timeAt 9 = .ok (.getfield 31, 3) := by decide +kernel
theorem dX5_timeAt_12 : decode cX5_timeAt 12 = .ok (.iload_n 1, 1) := by decide +kernel
theorem dX5_timeAt_13 : decode cX5_timeAt 13 = .ok (.iaload, 1) := by decide +kernel
theorem dX5_timeAt_14 : decode cX5_timeAt 14 = .ok (.goto 4, 3) := by decide +kernel
theorem dX5_timeAt_17 : decode cX5_timeAt 17 = .ok (.iconst 0, 1) := by decide +kernel
theorem dX5_timeAt_18 : decode cX5_timeAt 18 = .ok (.ireturn, 1) := by decide +kernel
theorem dX5_isAsked_0 : decode cX5_isAsked 0 = .ok (.iload_n 2, 1) := by decide +kernel
theorem dX5_isAsked_1 : decode cX5_isAsked 1 = .ok (.aload_n 0, 1) := by decide +kernel
theorem dX5_isAsked_2 : decode cX5_isAsked 2 = .ok (.getfield 28, 3) := by decide +kernel
theorem dX5_isAsked_5 : decode cX5_isAsked 5 = .ok (.iload_n 1, 1) := by decide +kernel
theorem dX5_isAsked_6 : decode cX5_isAsked 6 = .ok (.iaload, 1) := by decide +kernel
theorem dX5_isAsked_7 : decode cX5_isAsked 7 = .ok (.ishr, 1) := by decide +kernel
theorem dX5_isAsked_8 : decode cX5_isAsked 8 = .ok (.iconst 1, 1) := by decide +kernel
theorem dX5_isAsked_9 : decode cX5_isAsked 9 = .ok (.iand, 1) := by decide +kernel
theorem dX5_isAsked_10 : decode cX5_isAsked 10 = .ok (.ifCond .eq 7, 3) := by decide +kernel
theorem dX5_isAsked_13 : decode cX5_isAsked 13 = .ok (.iconst 1, 1) := by decide +kernel
theorem dX5_isAsked_14 : decode cX5_isAsked 14 = .ok (.goto 4, 3) := by decide +kernel
theorem dX5_isAsked_17 : decode cX5_isAsked 17 = .ok (.iconst 0, 1) := by decide +kernel
theorem dX5_isAsked_18 : decode cX5_isAsked 18 = .ok (.ireturn, 1) := by decide +kernel
theorem dX5_findEclipse_0 : decode cX5_findEclipse 0 = .ok (.aload_n 0, 1) := by decide +kernel
theorem dX5_findEclipse_1 : decode cX5_findEclipse 1 = .ok (.invokevirtual 103, 3) := by decide +kernel
theorem dX5_findEclipse_4 : decode cX5_findEclipse 4 = .ok (.istore 4, 2) := by decide +kernel
theorem dX5_findEclipse_6 : decode cX5_findEclipse 6 = .ok (.iload_n 2, 1) := by decide +kernel
theorem dX5_findEclipse_7 : decode cX5_findEclipse 7 = .ok (.istore 5, 2) := by decide +kernel
theorem dX5_findEclipse_9 : decode cX5_findEclipse 9 = .ok (.iconst 0, 1) := by decide +kernel
theorem dX5_findEclipse_10 : decode cX5_findEclipse 10 = .ok (.istore 6, 2) := by decide +kernel
theorem dX5_findEclipse_12 : decode cX5_findEclipse 12 = .ok (.iload 6, 2) := by decide +kernel
theorem dX5_findEclipse_14 : decode cX5_findEclipse 14 = .ok (.iload 4, 2) := by decide +kernel
theorem dX5_findEclipse_16 : decode cX5_findEclipse 16 = .ok (.if_icmp .ge 46, 3) := by decide +kernel
theorem dX5_findEclipse_19 : decode cX5_findEclipse 19 = .ok (.aload_n 0, 1) := by decide +kernel
theorem dX5_findEclipse_20 : decode cX5_findEclipse 20 = .ok (.getfield 24, 3) := by decide +kernel
theorem dX5_findEclipse_23 : decode cX5_findEclipse 23 = .ok (.iload 6, 2) := by decide +kernel
theorem dX5_findEclipse_25 : decode cX5_findEclipse 25 = .ok (.iaload, 1) := by decide +kernel
theorem dX5_findEclipse_26 : decode cX5_findEclipse 26 = .ok (.iload_n 1, 1) := by decide +kernel
theorem dX5_findEclipse_27 : decode cX5_findEclipse 27 = .ok (.if_icmp .lt 29, 3) := by decide +kernel
theorem dX5_findEclipse_30 : decode cX5_findEclipse 30 = .ok (.aload_n 0, 1) := by decide +kernel
theorem dX5_findEclipse_31 : decode cX5_findEclipse 31 = .ok (.iload 6, 2) := by decide +kernel
theorem dX5_findEclipse_33 : decode cX5_findEclipse 33 = .ok (.iload_n 3, 1) := by decide +kernel
theorem dX5_findEclipse_34 : decode cX5_findEclipse 34 = .ok (.invokevirtual 107, 3) := by decide +kernel
theorem dX5_findEclipse_37 : decode cX5_findEclipse 37 = .ok (.ifCond .eq 19, 3) := by decide +kernel
theorem dX5_findEclipse_40 : decode cX5_findEclipse 40 = .ok (.iinc 5 (-1), 3) := by decide +kernel
theorem dX5_findEclipse_43 : decode cX5_findEclipse 43 = .ok (.iload 5, 2) := by decide +kernel
theorem dX5_findEclipse_45 : decode cX5_findEclipse 45 = .ok (.ifCond .ne 11, 3) := by decide +kernel
theorem dX5_findEclipse_48 : decode cX5_findEclipse 48 = .ok (.aload_n 0, 1) := by decide +kernel
theorem dX5_findEclipse_49 : decode cX5_findEclipse 49 = .ok (.getfield 24, 3) := by decide +kernel
theorem dX5_findEclipse_52 : decode cX5_findEclipse 52 = .ok (.iload 6, 2) := by decide +kernel
theorem dX5_findEclipse_54 : decode cX5_findEclipse 54 = .ok (.iaload, 1) := by decide +kernel
theorem dX5_findEclipse_55 : decode cX5_findEclipse 55 = .ok (.ireturn, 1) := by decide +kernel
theorem dX5_findEclipse_56 : decode cX5_findEclipse 56 = .ok (.iinc 6 1, 3) := by decide +kernel
theorem dX5_findEclipse_59 : decode cX5_findEclipse 59 = .ok (.goto (-47), 3) := by decide +kernel
theorem dX5_findEclipse_62 : decode cX5_findEclipse 62 = .ok (.iconst (-1), 1) := by decide +kernel
theorem dX5_findEclipse_63 : decode cX5_findEclipse 63 = .ok (.ireturn, 1) := by decide +kernel
theorem dX5_countEclipses_0 : decode cX5_countEclipses 0 = .ok (.aload_n 0, 1) := by decide +kernel
theorem dX5_countEclipses_1 : decode cX5_countEclipses 1 = .ok (.invokevirtual 103, 3) := by decide +kernel
theorem dX5_countEclipses_4 : decode cX5_countEclipses 4 = .ok (.istore 4, 2) := by decide +kernel
theorem dX5_countEclipses_6 : decode cX5_countEclipses 6 = .ok (.iconst 0, 1) := by decide +kernel
theorem dX5_countEclipses_7 : decode cX5_countEclipses 7 = .ok (.istore 5, 2) := by decide +kernel
theorem dX5_countEclipses_9 : decode cX5_countEclipses 9 = .ok (.iconst 0, 1) := by decide +kernel
theorem dX5_countEclipses_10 : decode cX5_countEclipses 10 = .ok (.istore 6, 2) := by decide +kernel
theorem dX5_countEclipses_12 : decode cX5_countEclipses 12 = .ok (.iload 6, 2) := by decide +kernel
theorem dX5_countEclipses_14 : decode cX5_countEclipses 14 = .ok (.iload 4, 2) := by decide +kernel
theorem dX5_countEclipses_16 : decode cX5_countEclipses 16 = .ok (.if_icmp .ge 44, 3) := by decide +kernel
theorem dX5_countEclipses_19 : decode cX5_countEclipses 19 = .ok (.aload_n 0, 1) := by decide +kernel
theorem dX5_countEclipses_20 : decode cX5_countEclipses 20 = .ok (.getfield 24, 3) := by decide +kernel
theorem dX5_countEclipses_23 : decode cX5_countEclipses 23 = .ok (.iload 6, 2) := by decide +kernel
theorem dX5_countEclipses_25 : decode cX5_countEclipses 25 = .ok (.iaload, 1) := by decide +kernel
theorem dX5_countEclipses_26 : decode cX5_countEclipses 26 = .ok (.iload_n 2, 1) := by decide +kernel
theorem dX5_countEclipses_27 : decode cX5_countEclipses 27 = .ok (.if_icmp .gt 33, 3) := by decide +kernel
theorem dX5_countEclipses_30 : decode cX5_countEclipses 30 = .ok (.aload_n 0, 1) := by decide +kernel
theorem dX5_countEclipses_31 : decode cX5_countEclipses 31 = .ok (.getfield 24, 3) := by decide +kernel
theorem dX5_countEclipses_34 : decode cX5_countEclipses 34 = .ok (.iload 6, 2) := by decide +kernel
theorem dX5_countEclipses_36 : decode cX5_countEclipses 36 = .ok (.iaload, 1) := by decide +kernel
theorem dX5_countEclipses_37 : decode cX5_countEclipses 37 = .ok (.iload_n 1, 1) := by decide +kernel
theorem dX5_countEclipses_38 : decode cX5_countEclipses 38 = .ok (.if_icmp .lt 16, 3) := by decide +kernel
theorem dX5_countEclipses_41 : decode cX5_countEclipses 41 = .ok (.aload_n 0, 1) := by decide +kernel
theorem dX5_countEclipses_42 : decode cX5_countEclipses 42 = .ok (.iload 6, 2) := by decide +kernel
theorem dX5_countEclipses_44 : decode cX5_countEclipses 44 = .ok (.iload_n 3, 1) := by decide +kernel
theorem dX5_countEclipses_45 : decode cX5_countEclipses 45 = .ok (.invokevirtual 107, 3) := by decide +kernel
theorem dX5_countEclipses_48 : decode cX5_countEclipses 48 = .ok (.ifCond .eq 6, 3) := by decide +kernel
theorem dX5_countEclipses_51 : decode cX5_countEclipses 51 = .ok (.iinc 5 1, 3) := by decide +kernel
theorem dX5_countEclipses_54 : decode cX5_countEclipses 54 = .ok (.iinc 6 1, 3) := by decide +kernel
theorem dX5_countEclipses_57 : decode cX5_countEclipses 57 = .ok (.goto (-45), 3) := by decide +kernel
theorem dX5_countEclipses_60 : decode cX5_countEclipses 60 = .ok (.iload 5, 2) := by decide +kernel
theorem dX5_countEclipses_62 : decode cX5_countEclipses 62 = .ok (.ireturn, 1) := by decide +kernel
theorem dX6_init_0 : decode cX6_init 0 = .ok (.aload_n 0, 1) := by decide +kernel
theorem dX6_init_1 : decode cX6_init 1 = .ok (.invokespecial 3, 3) := by decide +kernel
theorem dX6_init_4 : decode cX6_init 4 = .ok (.aload_n 0, 1) := by decide +kernel
theorem dX6_init_5 : decode cX6_init 5 = .ok (.sipush 200, 3) := by decide +kernel
theorem dX6_init_8 : decode cX6_init 8 = .ok (.newarray .int, 2) := by decide +kernel
theorem dX6_init_10 : decode cX6_init 10 = .ok (.putfield 11, 3) := by decide +kernel
theorem dX6_init_13 : decode cX6_init 13 = .ok (.return_, 1) := by decide +kernel
theorem dX6_size_0 : decode cX6_size 0 = .ok (.aload_n 0, 1) := by decide +kernel
theorem dX6_size_1 : decode cX6_size 1 = .ok (.getfield 15, 3) := by decide +kernel
theorem dX6_size_4 : decode cX6_size 4 = .ok (.ireturn, 1) := by decide +kernel
theorem dX6_hasRoom_0 : decode cX6_hasRoom 0 = .ok (.aload_n 0, 1) := by decide +kernel
theorem dX6_hasRoom_1 : decode cX6_hasRoom 1 = .ok (.getfield 15, 3) := by decide +kernel
theorem dX6_hasRoom_4 : decode cX6_hasRoom 4 = .ok (.bipush 20, 2) := by decide +kernel
theorem dX6_hasRoom_6 : decode cX6_hasRoom 6 = .ok (.iadd, 1) := by decide +kernel
theorem dX6_hasRoom_7 : decode cX6_hasRoom 7 = .ok (.sipush 200, 3) := by decide +kernel
theorem dX6_hasRoom_10 : decode cX6_hasRoom 10 = .ok (.if_icmp .gt 7, 3) := by decide +kernel
theorem dX6_hasRoom_13 : decode cX6_hasRoom 13 = .ok (.iconst 1, 1) := by decide +kernel
theorem dX6_hasRoom_14 : decode cX6_hasRoom 14 = .ok (.goto 4, 3) := by decide +kernel
theorem dX6_hasRoom_17 : decode cX6_hasRoom 17 = .ok (.iconst 0, 1) := by decide +kernel
theorem dX6_hasRoom_18 : decode cX6_hasRoom 18 = .ok (.ireturn, 1) := by decide +kernel
theorem dX6_addNumber_0 : decode cX6_addNumber 0 = .ok (.bipush 24, 2) := by decide +kernel
theorem dX6_addNumber_2 : decode cX6_addNumber 2 = .ok (.istore_n 2, 1) := by decide +kernel
theorem dX6_addNumber_3 : decode cX6_addNumber 3 = .ok (.iload_n 2, 1) := by decide +kernel
theorem dX6_addNumber_4 : decode cX6_addNumber 4 = .ok (.ifCond .lt 45, 3) := by decide +kernel
theorem dX6_addNumber_7 : decode cX6_addNumber 7 = .ok (.aload_n 0, 1) := by decide +kernel
theorem dX6_addNumber_8 : decode cX6_addNumber 8 = .ok (.getfield 15, 3) := by decide +kernel
theorem dX6_addNumber_11 : decode cX6_addNumber 11 = .ok (.sipush 200, 3) := by decide +kernel
theorem dX6_addNumber_14 : decode cX6_addNumber 14 = .ok (.if_icmp .ge 35, 3) := by decide +kernel
theorem dX6_addNumber_17 : decode cX6_addNumber 17 = .ok (.aload_n 0, 1) := by decide +kernel
theorem dX6_addNumber_18 : decode cX6_addNumber 18 = .ok (.getfield 11, 3) := by decide +kernel
theorem dX6_addNumber_21 : decode cX6_addNumber 21 = .ok (.aload_n 0, 1) := by decide +kernel
theorem dX6_addNumber_22 : decode cX6_addNumber 22 = .ok (.getfield 15, 3) := by decide +kernel
theorem dX6_addNumber_25 : decode cX6_addNumber 25 = .ok (.iload_n 1, 1) := by decide +kernel
theorem dX6_addNumber_26 : decode cX6_addNumber 26 = .ok (.iload_n 2, 1) := by decide +kernel
theorem dX6_addNumber_27 : decode cX6_addNumber 27 = .ok (.ishr, 1) := by decide +kernel
theorem dX6_addNumber_28 : decode cX6_addNumber 28 = .ok (.sipush 255, 3) := by decide +kernel
theorem dX6_addNumber_31 : decode cX6_addNumber 31 = .ok (.iand, 1) := by decide +kernel
theorem dX6_addNumber_32 : decode cX6_addNumber 32 = .ok (.iastore, 1) := by decide +kernel
theorem dX6_addNumber_33 : decode cX6_addNumber 33 = .ok (.aload_n 0, 1) := by decide +kernel
theorem dX6_addNumber_34 : decode cX6_addNumber 34 = .ok (.dup, 1) := by decide +kernel
theorem dX6_addNumber_35 : decode cX6_addNumber 35 = .ok (.getfield 15, 3) := by decide +kernel
theorem dX6_addNumber_38 : decode cX6_addNumber 38 = .ok (.iconst 1, 1) := by decide +kernel
theorem dX6_addNumber_39 : decode cX6_addNumber 39 = .ok (.iadd, 1) := by decide +kernel
theorem dX6_addNumber_40 : decode cX6_addNumber 40 = .ok (.putfield 15, 3) := by decide +kernel
theorem dX6_addNumber_43 : decode cX6_addNumber 43 = .ok (.iinc 2 (-8), 3) := by decide +kernel
theorem dX6_addNumber_46 : decode cX6_addNumber 46 = .ok (.goto (-43), 3) := by decide +kernel
theorem dX6_addNumber_49 : decode cX6_addNumber 49 = .ok (.return_, 1) := by decide +kernel
theorem dX6_cutTo_0 : decode cX6_cutTo 0 = .ok (.iload_n 1, 1) := by decide +kernel
theorem dX6_cutTo_1 : decode cX6_cutTo 1 = .ok (.ifCond .lt 11, 3) := by decide +kernel
theorem dX6_cutTo_4 : decode cX6_cutTo 4 = .ok (.iload_n 1, 1) := by decide +kernel
theorem dX6_cutTo_5 : decode cX6_cutTo 5 = .ok (.aload_n 0, 1) := by decide +kernel
theorem dX6_cutTo_6 : decode cX6_cutTo 6 = .ok (.getfield 15, 3) := by decide +kernel
theorem dX6_cutTo_9 : decode cX6_cutTo 9 = .ok (.if_icmp .le 5, 3) := by decide +kernel
theorem dX6_cutTo_12 : decode cX6_cutTo 12 = .ok (.iconst 0, 1) := by decide +kernel
theorem dX6_cutTo_13 : decode cX6_cutTo 13 = .ok (.ireturn, 1) := by decide +kernel
theorem dX6_cutTo_14 : decode cX6_cutTo 14 = .ok (.aload_n 0, 1) := by decide +kernel
theorem dX6_cutTo_15 : decode cX6_cutTo 15 = .ok (.iload_n 1, 1) := by decide +kernel
theorem dX6_cutTo_16 : decode cX6_cutTo 16 = .ok (.putfield 15, 3) := by decide +kernel
theorem dX6_cutTo_19 : decode cX6_cutTo 19 = .ok (.iconst 1, 1) := by decide +kernel
theorem dX6_cutTo_20 : decode cX6_cutTo 20 = .ok (.ireturn, 1) := by decide +kernel
theorem dX6_clear_0 : decode cX6_clear 0 = .ok (.aload_n 0, 1) := by decide +kernel
theorem dX6_clear_1 : decode cX6_clear 1 = .ok (.iconst 0, 1) := by decide +kernel
theorem dX6_clear_2 : decode cX6_clear 2 = .ok (.putfield 15, 3) := by decide +kernel
theorem dX6_clear_5 : decode cX6_clear 5 = .ok (.return_, 1) := by decide +kernel
theorem dX6_byteAt_0 : decode cX6_byteAt 0 = .ok (.iload_n 1, 1) := by decide +kernel
theorem dX6_byteAt_1 : decode cX6_byteAt 1 = .ok (.ifCond .lt 20, 3) := by decide +kernel
theorem dX6_byteAt_4 : decode cX6_byteAt 4 = .ok (.iload_n 1, 1) := by decide +kernel
theorem dX6_byteAt_5 : decode cX6_byteAt 5 = .ok (.aload_n 0, 1) := by decide +kernel
theorem dX6_byteAt_6 : decode cX6_byteAt 6 = .ok (.getfield 15, 3) := by decide +kernel
theorem dX6_byteAt_9 : decode cX6_byteAt 9 = .ok (.if_icmp .ge 12, 3) := by decide +kernel
theorem dX6_byteAt_12 : decode cX6_byteAt 12 = .ok (.aload_n 0, 1) := by decide +kernel
theorem dX6_byteAt_13 : decode cX6_byteAt 13 = .ok (.getfield 11, 3) := by decide +kernel
theorem dX6_byteAt_16 : decode cX6_byteAt 16 = .ok (.iload_n 1, 1) := by decide +kernel
theorem dX6_byteAt_17 : decode cX6_byteAt 17 = .ok (.iaload, 1) := by decide +kernel
theorem dX6_byteAt_18 : decode cX6_byteAt 18 = .ok (.goto 4, 3) := by decide +kernel
theorem dX6_byteAt_21 : decode cX6_byteAt 21 = .ok (.iconst (-1), 1) := by decide +kernel
theorem dX6_byteAt_22 : decode cX6_byteAt 22 = .ok (.ireturn, 1) := by decide +kernel
theorem dX6_isLetter_0 : decode cX6_isLetter 0 = .ok (.iload_n 0, 1) := by decide +kernel
theorem dX6_isLetter_1 : decode cX6_isLetter 1 = .ok (.bipush 97, 2) := by decide +kernel
theorem dX6_isLetter_3 : decode cX6_isLetter 3 = .ok (.if_icmp .lt 13, 3) := by decide +kernel
theorem dX6_isLetter_6 : decode cX6_isLetter 6 = .ok (.iload_n 0, 1) := by decide +kernel
theorem dX6_isLetter_7 : decode cX6_isLetter 7 = .ok (.bipush 122, 2) := by decide +kernel
theorem dX6_isLetter_9 : decode cX6_isLetter 9 = .ok (.if_icmp .gt 7, 3) := by decide +kernel
theorem dX6_isLetter_12 : decode cX6_isLetter 12 = .ok (.iconst 1, 1) := by decide +kernel
theorem dX6_isLetter_13 : decode cX6_isLetter 13 = .ok (.goto 4, 3) := by decide +kernel
theorem dX6_isLetter_16 : decode cX6_isLetter 16 = .ok (.iconst 0, 1) := by decide +kernel
theorem dX6_isLetter_17 : decode cX6_isLetter 17 = .ok (.ireturn, 1) := by decide +kernel
theorem dX6_isDigit_0 : decode cX6_isDigit 0 = .ok (.iload_n 0, 1) := by decide +kernel
theorem dX6_isDigit_1 : decode cX6_isDigit 1 = .ok (.bipush 48, 2) := by decide +kernel
theorem dX6_isDigit_3 : decode cX6_isDigit 3 = .ok (.if_icmp .lt 13, 3) := by decide +kernel
theorem dX6_isDigit_6 : decode cX6_isDigit 6 = .ok (.iload_n 0, 1) := by decide +kernel
theorem dX6_isDigit_7 : decode cX6_isDigit 7 = .ok (.bipush 57, 2) := by decide +kernel
theorem dX6_isDigit_9 : decode cX6_isDigit 9 = .ok (.if_icmp .gt 7, 3) := by decide +kernel
theorem dX6_isDigit_12 : decode cX6_isDigit 12 = .ok (.iconst 1, 1) := by decide +kernel
theorem dX6_isDigit_13 : decode cX6_isDigit 13 = .ok (.goto 4, 3) := by decide +kernel
theorem dX6_isDigit_16 : decode cX6_isDigit 16 = .ok (.iconst 0, 1) := by decide +kernel
theorem dX6_isDigit_17 : decode cX6_isDigit 17 = .ok (.ireturn, 1) := by decide +kernel
theorem dX6_isBlank_0 : decode cX6_isBlank 0 = .ok (.iload_n 0, 1) := by decide +kernel
theorem dX6_isBlank_1 : decode cX6_isBlank 1 = .ok (.bipush 10, 2) := by decide +kernel
theorem dX6_isBlank_3 : decode cX6_isBlank 3 = .ok (.if_icmp .eq 9, 3) := by decide +kernel
theorem dX6_isBlank_6 : decode cX6_isBlank 6 = .ok (.iload_n 0, 1) := by decide +kernel
theorem dX6_isBlank_7 : decode cX6_isBlank 7 = .ok (.bipush 32, 2) := by decide +kernel
theorem dX6_isBlank_9 : decode cX6_isBlank 9 = .ok (.if_icmp .ne 7, 3) := by decide +kernel
theorem dX6_isBlank_12 : decode cX6_isBlank 12 = .ok (.iconst 1, 1) := by decide +kernel
theorem dX6_isBlank_13 : decode cX6_isBlank 13 = .ok (.goto 4, 3) := by decide +kernel
theorem dX6_isBlank_16 : decode cX6_isBlank 16 = .ok (.iconst 0, 1) := by decide +kernel
theorem dX6_isBlank_17 : decode cX6_isBlank 17 = .ok (.ireturn, 1) := by decide +kernel
theorem dX6_nameBetween_0 : decode cX6_nameBetween 0 = .ok (.iload_n 2, 1) := by decide +kernel
theorem dX6_nameBetween_1 : decode cX6_nameBetween 1 = .ok (.iload_n 1, 1) := by decide +kernel
theorem dX6_nameBetween_2 : decode cX6_nameBetween 2 = .ok (.if_icmp .le 11, 3) := by decide +kernel
theorem dX6_nameBetween_5 : decode cX6_nameBetween 5 = .ok (.iload_n 2, 1) := by decide +kernel
theorem dX6_nameBetween_6 : decode cX6_nameBetween 6 = .ok (.iload_n 1, 1) := by decide +kernel
theorem dX6_nameBetween_7 : decode cX6_nameBetween 7 = .ok (.isub, 1) := by decide +kernel
theorem dX6_nameBetween_8 : decode cX6_nameBetween 8 = .ok (.bipush 6, 2) := by decide +kernel
theorem dX6_nameBetween_10 : decode cX6_nameBetween 10 = .ok (.if_icmp .le 5, 3) := by decide +kernel
theorem dX6_nameBetween_13 : decode cX6_nameBetween 13 = .ok (.iconst (-1), 1) := by decide +kernel
theorem dX6_nameBetween_14 : decode cX6_nameBetween 14 = .ok (.ireturn, 1) := by decide +kernel
theorem dX6_nameBetween_15 : decode cX6_nameBetween 15 = .ok (.iconst 0, 1) := by decide +kernel
theorem dX6_nameBetween_16 : decode cX6_nameBetween 16 = .ok (.istore_n 3, 1) := by decide +kernel
theorem dX6_nameBetween_17 : decode cX6_nameBetween 17 = .ok (.iload_n 1, 1) := by decide +kernel
theorem dX6_nameBetween_18 : decode cX6_nameBetween 18 = .ok (.istore 4, 2) := by decide +kernel
theorem dX6_nameBetween_20 : decode cX6_nameBetween 20 = .ok (.iload 4, 2) := by decide +kernel
theorem dX6_nameBetween_22 : decode cX6_nameBetween 22 = .ok (.iload_n 2, 1) := by decide +kernel
theorem dX6_nameBetween_23 : decode cX6_nameBetween 23 = .ok (.if_icmp .ge 39, 3) := by decide +kernel
theorem dX6_nameBetween_26 : decode cX6_nameBetween 26 = .ok (.aload_n 0, 1) := by decide +kernel
theorem dX6_nameBetween_27 : decode cX6_nameBetween 27 = .ok (.iload 4, 2) := by decide +kernel
theorem dX6_nameBetween_29 : decode cX6_nameBetween 29 = .ok (.invokevirtual 19, 3) := by decide +kernel
theorem dX6_nameBetween_32 : decode cX6_nameBetween 32 = .ok (.istore 5, 2) := by decide +kernel
theorem dX6_nameBetween_34 : decode cX6_nameBetween 34 = .ok (.iload 5, 2) := by decide +kernel
theorem dX6_nameBetween_36 : decode cX6_nameBetween 36 = .ok (.invokestatic 23, 3) := by decide +kernel
theorem dX6_nameBetween_39 : decode cX6_nameBetween 39 = .ok (.ifCond .ne 5, 3) := by decide +kernel
theorem dX6_nameBetween_42 : decode cX6_nameBetween 42 = .ok (.iconst (-1), 1) := by decide +kernel
theorem dX6_nameBetween_43 : decode cX6_nameBetween 43 = .ok (.ireturn, 1) := by decide +kernel
theorem dX6_nameBetween_44 : decode cX6_nameBetween 44 = .ok (.iload_n 3, 1) := by decide +kernel
theorem dX6_nameBetween_45 : decode cX6_nameBetween 45 = .ok (.iconst 5, 1) := by decide +kernel
theorem dX6_nameBetween_46 : decode cX6_nameBetween 46 = .ok (.ishl, 1) := by decide +kernel
theorem dX6_nameBetween_47 : decode cX6_nameBetween 47 = .ok (.iload 5, 2) := by decide +kernel
theorem dX6_nameBetween_49 : decode cX6_nameBetween 49 = .ok (.bipush 97, 2) := by decide +kernel
theorem dX6_nameBetween_51 : decode cX6_nameBetween 51 = .ok (.isub, 1) := by decide +kernel
theorem dX6_nameBetween_52 : decode cX6_nameBetween 52 = .ok (.iconst 1, 1) := by decide +kernel
theorem dX6_nameBetween_53 : decode cX6_nameBetween 53 = .ok (.iadd, 1) := by decide +kernel
theorem dX6_nameBetween_54 : decode cX6_nameBetween 54 = .ok (.ior, 1) := by decide +kernel
theorem dX6_nameBetween_55 : decode cX6_nameBetween 55 = .ok (.istore_n 3, 1) := by decide +kernel
theorem dX6_nameBetween_56 : decode cX6_nameBetween 56 = .ok (.iinc 4 1, 3) := by decide +kernel
theorem dX6_nameBetween_59 : decode cX6_nameBetween 59 = .ok (.goto (-39), 3) := by decide +kernel
theorem dX6_nameBetween_62 : decode cX6_nameBetween 62 = .ok (.iload_n 3, 1) := by decide +kernel
theorem dX6_nameBetween_63 : decode cX6_nameBetween 63 = .ok (.ireturn, 1) := by decide +kernel
theorem dX7_init_0 : decode cX7_init 0 = .ok (.aload_n 0, 1) := by decide +kernel
theorem dX7_init_1 : decode cX7_init 1 = .ok (.invokespecial 3, 3) := by decide +kernel
theorem dX7_init_4 : decode cX7_init 4 = .ok (.aload_n 0, 1) := by decide +kernel
theorem dX7_init_5 : decode cX7_init 5 = .ok (.new 9, 3) := by decide +kernel
theorem dX7_init_8 : decode cX7_init 8 = .ok (.dup, 1) := by decide +kernel
theorem dX7_init_9 : decode cX7_init 9 = .ok (.invokespecial 11, 3) := by decide +kernel
theorem dX7_init_12 : decode cX7_init 12 = .ok (.putfield 12, 3) := by decide +kernel
theorem dX7_init_15 : decode cX7_init 15 = .ok (.aload_n 0, 1) := by decide +kernel
theorem dX7_init_16 : decode cX7_init 16 = .ok (.new 16, 3) := by decide +kernel
theorem dX7_init_19 : decode cX7_init 19 = .ok (.dup, 1) := by decide +kernel
theorem dX7_init_20 : decode cX7_init 20 = .ok (.invokespecial 18, 3) := by decide +kernel
theorem dX7_init_23 : decode cX7_init 23 = .ok (.putfield 19, 3) := by decide +kernel
theorem dX7_init_26 : decode cX7_init 26 = .ok (.aload_n 0, 1) := by decide +kernel
theorem dX7_init_27 : decode cX7_init 27 = .ok (.new 23, 3) := by decide +kernel
theorem dX7_init_30 : decode cX7_init 30 = .ok (.dup, 1) := by decide +kernel
theorem dX7_init_31 : decode cX7_init 31 = .ok (.invokespecial 25, 3) := by decide +kernel
theorem dX7_init_34 : decode cX7_init 34 = .ok (.putfield 26, 3) := by decide +kernel
theorem dX7_init_37 : decode cX7_init 37 = .ok (.aload_n 0, 1) := by decide +kernel
theorem dX7_init_38 : decode cX7_init 38 = .ok (.new 30, 3) := by decide +kernel
theorem dX7_init_41 : decode cX7_init 41 = .ok (.dup, 1) := by decide +kernel
theorem dX7_init_42 : decode cX7_init 42 = .ok (.invokespecial 32, 3) := by decide +kernel
theorem dX7_init_45 : decode cX7_init 45 = .ok (.putfield 33, 3) := by decide +kernel
theorem dX7_init_48 : decode cX7_init 48 = .ok (.aload_n 0, 1) := by decide +kernel
theorem dX7_init_49 : decode cX7_init 49 = .ok (.new 37, 3) := by decide +kernel
theorem dX7_init_52 : decode cX7_init 52 = .ok (.dup, 1) := by decide +kernel
theorem dX7_init_53 : decode cX7_init 53 = .ok (.aload_n 0, 1) := by decide +kernel
theorem dX7_init_54 : decode cX7_init 54 = .ok (.getfield 19, 3) := by decide +kernel
theorem dX7_init_57 : decode cX7_init 57 = .ok (.aload_n 0, 1) := by decide +kernel
theorem dX7_init_58 : decode cX7_init 58 = .ok (.getfield 26, 3) := by decide +kernel
theorem dX7_init_61 : decode cX7_init 61 = .ok (.invokespecial 39, 3) := by decide +kernel
theorem dX7_init_64 : decode cX7_init 64 = .ok (.putfield 42, 3) := by decide +kernel
theorem dX7_init_67 : decode cX7_init 67 = .ok (.return_, 1) := by decide +kernel
theorem dX7_tables_0 : decode cX7_tables 0 = .ok (.aload_n 0, 1) := by decide +kernel
theorem dX7_tables_1 : decode cX7_tables 1 = .ok (.getfield 12, 3) := by decide +kernel
theorem dX7_tables_4 : decode cX7_tables 4 = .ok (.iload_n 1, 1) := by decide +kernel
theorem dX7_tables_5 : decode cX7_tables 5 = .ok (.iload_n 2, 1) := by decide +kernel
theorem dX7_tables_6 : decode cX7_tables 6 = .ok (.iload_n 3, 1) := by decide +kernel
theorem dX7_tables_7 : decode cX7_tables 7 = .ok (.invokevirtual 46, 3) := by decide +kernel
theorem dX7_tables_10 : decode cX7_tables 10 = .ok (.ireturn, 1) := by decide +kernel
theorem dX7_moon_0 : decode cX7_moon 0 = .ok (.iload_n 1, 1) := by decide +kernel
theorem dX7_moon_1 : decode cX7_moon 1 = .ok (.invokestatic 50, 3) := by decide +kernel
theorem dX7_moon_4 : decode cX7_moon 4 = .ok (.ifCond .ne 5, 3) := by decide +kernel
theorem dX7_moon_7 : decode cX7_moon 7 = .ok (.iconst (-1), 1) := by decide +kernel
theorem dX7_moon_8 : decode cX7_moon 8 = .ok (.ireturn, 1) := by decide +kernel
theorem dX7_moon_9 : decode cX7_moon 9 = .ok (.iload_n 2, 1) := by decide +kernel
theorem dX7_moon_10 : decode cX7_moon 10 = .ok (.tableswitch 79 0 4 #[34, 43, 52, 61, 70], 34) := by decide +kernel
theorem dX7_moon_44 : decode cX7_moon 44 = .ok (.aload_n 0, 1) := by decide +kernel
theorem dX7_moon_45 : decode cX7_moon 45 = .ok (.getfield 12, 3) := by decide +kernel
theorem dX7_moon_48 : decode cX7_moon 48 = .ok (.iload_n 1, 1) := by decide +kernel
theorem dX7_moon_49 : decode cX7_moon 49 = .ok (.invokevirtual 54, 3) := by decide +kernel
theorem dX7_moon_52 : decode cX7_moon 52 = .ok (.ireturn, 1) := by decide +kernel
theorem dX7_moon_53 : decode cX7_moon 53 = .ok (.aload_n 0, 1) := by decide +kernel
theorem dX7_moon_54 : decode cX7_moon 54 = .ok (.getfield 12, 3) := by decide +kernel
theorem dX7_moon_57 : decode cX7_moon 57 = .ok (.iload_n 1, 1) := by decide +kernel
theorem dX7_moon_58 : decode cX7_moon 58 = .ok (.invokevirtual 58, 3) := by decide +kernel
theorem dX7_moon_61 : decode cX7_moon 61 = .ok (.ireturn, 1) := by decide +kernel
theorem dX7_moon_62 : decode cX7_moon 62 = .ok (.aload_n 0, 1) := by decide +kernel
theorem dX7_moon_63 : decode cX7_moon 63 = .ok (.getfield 12, 3) := by decide +kernel
theorem dX7_moon_66 : decode cX7_moon 66 = .ok (.iload_n 1, 1) := by decide +kernel
theorem dX7_moon_67 : decode cX7_moon 67 = .ok (.invokevirtual 61, 3) := by decide +kernel
theorem dX7_moon_70 : decode cX7_moon 70 = .ok (.ireturn, 1) := by decide +kernel
theorem dX7_moon_71 : decode cX7_moon 71 = .ok (.aload_n 0, 1) := by decide +kernel
theorem dX7_moon_72 : decode cX7_moon 72 = .ok (.getfield 12, 3) := by decide +kernel
theorem dX7_moon_75 : decode cX7_moon 75 = .ok (.iload_n 1, 1) := by decide +kernel
theorem dX7_moon_76 : decode cX7_moon 76 = .ok (.invokevirtual 64, 3) := by decide +kernel
theorem dX7_moon_79 : decode cX7_moon 79 = .ok (.ireturn, 1) := by decide +kernel
theorem dX7_moon_80 : decode cX7_moon 80 = .ok (.aload_n 0, 1) := by decide +kernel
theorem dX7_moon_81 : decode cX7_moon 81 = .ok (.getfield 12, 3) := by decide +kernel
theorem dX7_moon_84 : decode cX7_moon 84 = .ok (.iload_n 1, 1) := by decide +kernel
theorem dX7_moon_85 : decode cX7_moon 85 = .ok (.invokevirtual 67, 3) := by decide +kernel
theorem dX7_moon_88 : decode cX7_moon 88 = .ok (.ireturn, 1) := by decide +kernel
theorem dX7_moon_89 : decode cX7_moon 89 = .ok (.iconst (-1), 1) := by decide +kernel
theorem dX7_moon_90 : decode cX7_moon 90 = .ok (.ireturn, 1) := by decide +kernel
theorem dX7_next_0 : decode cX7_next 0 = .ok (.iload_n 1, 1) := by decide +kernel
theorem dX7_next_1 : decode cX7_next 1 = .ok (.invokestatic 50, 3) := by decide +kernel
theorem dX7_next_4 : decode cX7_next 4 = .ok (.ifCond .eq 8, 3) := by decide +kernel
theorem dX7_next_7 : decode cX7_next 7 = .ok (.iload_n 2, 1) := by decide +kernel
theorem dX7_next_8 : decode cX7_next 8 = .ok (.iconst 1, 1) := by decide +kernel
theorem dX7_next_9 : decode cX7_next 9 = .ok (.if_icmp .ge 5, 3) := by decide +kernel
theorem dX7_next_12 : decode cX7_next 12 = .ok (.iconst (-1), 1) := by decide +kernel
theorem dX7_next_13 : decode cX7_next 13 = .ok (.ireturn, 1) := by decide +kernel
theorem dX7_next_14 : decode cX7_next 14 = .ok (.aload_n 0, 1) := by decide +kernel
theorem dX7_next_15 : decode cX7_next 15 = .ok (.getfield 12, 3) := by decide +kernel
theorem dX7_next_18 : decode cX7_next 18 = .ok (.iload_n 1, 1) := by decide +kernel
theorem dX7_next_19 : decode cX7_next 19 = .ok (.iload_n 2, 1) := by decide +kernel
theorem dX7_next_20 : decode cX7_next 20 = .ok (.iload_n 3, 1) := by decide +kernel
theorem dX7_next_21 : decode cX7_next 21 = .ok (.invokevirtual 70, 3) := by decide +kernel
theorem dX7_next_24 : decode cX7_next 24 = .ok (.ireturn, 1) := by decide +kernel
theorem dX7_round_0 : decode cX7_round 0 = .ok (.iload_n 1, 1) := by decide +kernel
theorem dX7_round_1 : decode cX7_round 1 = .ok (.invokestatic 50, 3) := by decide +kernel
theorem dX7_round_4 : decode cX7_round 4 = .ok (.ifCond .eq 14, 3) := by decide +kernel
theorem dX7_round_7 : decode cX7_round 7 = .ok (.aload_n 0, 1) := by decide +kernel
theorem dX7_round_8 : decode cX7_round 8 = .ok (.getfield 12, 3) := by decide +kernel
theorem dX7_round_11 : decode cX7_round 11 = .ok (.iload_n 1, 1) := by decide +kernel
theorem dX7_round_12 : decode cX7_round 12 = .ok (.invokevirtual 67, 3) := by decide +kernel
theorem dX7_round_15 : decode cX7_round 15 = .ok (.ifCond .ne 5, 3) := by decide +kernel
theorem dX7_round_18 : decode cX7_round 18 = .ok (.iconst (-1), 1) := by decide +kernel
theorem dX7_round_19 : decode cX7_round 19 = .ok (.ireturn, 1) := by decide +kernel
theorem dX7_round_20 : decode cX7_round 20 = .ok (.aload_n 0, 1) := by decide +kernel
theorem dX7_round_21 : decode cX7_round 21 = .ok (.getfield 12, 3) := by decide +kernel
theorem dX7_round_24 : decode cX7_round 24 = .ok (.iload_n 1, 1) := by decide +kernel
theorem dX7_round_25 : decode cX7_round 25 = .ok (.invokevirtual 74, 3) := by decide +kernel
theorem dX7_round_28 : decode cX7_round 28 = .ok (.istore_n 3, 1) := by decide +kernel
theorem dX7_round_29 : decode cX7_round 29 = .ok (.aload_n 0, 1) := by decide +kernel
theorem dX7_round_30 : decode cX7_round 30 = .ok (.getfield 12, 3) := by decide +kernel
theorem dX7_round_33 : decode cX7_round 33 = .ok (.iload_n 1, 1) := by decide +kernel
theorem dX7_round_34 : decode cX7_round 34 = .ok (.invokevirtual 77, 3) := by decide +kernel
theorem dX7_round_37 : decode cX7_round 37 = .ok (.istore 4, 2) := by decide +kernel
theorem dX7_round_39 : decode cX7_round 39 = .ok (.iload_n 2, 1) := by decide +kernel
theorem dX7_round_40 : decode cX7_round 40 = .ok (.tableswitch 58 0 3 #[32, 34, 37, 48], 32) := by decide +kernel
theorem dX7_round_72 : decode cX7_round 72 = .ok (.iload_n 3, 1) := by decide +kernel
theorem dX7_round_73 : decode cX7_round 73 = .ok (.ireturn, 1) := by decide +kernel
theorem dX7_round_74 : decode cX7_round 74 = .ok (.iload 4, 2) := by decide +kernel
theorem dX7_round_76 : decode cX7_round 76 = .ok (.ireturn, 1) := by decide +kernel
theorem dX7_round_77 : decode cX7_round 77 = .ok (.iload 4, 2) := by decide +kernel
theorem dX7_round_79 : decode cX7_round 79 = .ok (.iload_n 3, 1) := by decide +kernel
theorem dX7_round_80 : decode cX7_round 80 = .ok (.isub, 1) := by decide +kernel
theorem dX7_round_81 : decode cX7_round 81 = .ok (.sipush 446, 3) := by decide +kernel
theorem dX7_round_84 : decode cX7_round 84 = .ok (.idiv, 1) := by decide +kernel
theorem dX7_round_85 : decode cX7_round 85 = .ok (.iconst 1, 1) := by decide +kernel
theorem dX7_round_86 : decode cX7_round 86 = .ok (.iadd, 1) := by decide +kernel
theorem dX7_round_87 : decode cX7_round 87 = .ok (.ireturn, 1) := by decide +kernel
theorem dX7_round_88 : decode cX7_round 88 = .ok (.iload_n 1, 1) := by decide +kernel
theorem dX7_round_89 : decode cX7_round 89 = .ok (.iload_n 3, 1) := by decide +kernel
theorem dX7_round_90 : decode cX7_round 90 = .ok (.isub, 1) := by decide +kernel
theorem dX7_round_91 : decode cX7_round 91 = .ok (.sipush 446, 3) := by decide +kernel
theorem dX7_round_94 : decode cX7_round 94 = .ok (.idiv, 1) := by decide +kernel
theorem dX7_round_95 : decode cX7_round 95 = .ok (.iconst 1, 1) := by decide +kernel
theorem dX7_round_96 : decode cX7_round 96 = .ok (.iadd, 1) := by decide +kernel
theorem dX7_round_97 : decode cX7_round 97 = .ok (.ireturn, 1) := by decide +kernel
theorem dX7_round_98 : decode cX7_round 98 = .ok (.iconst (-1), 1) := by decide +kernel
theorem dX7_round_99 : decode cX7_round 99 = .ok (.ireturn, 1) := by decide +kernel
theorem dX7_many_0 : decode cX7_many 0 = .ok (.iload_n 1, 1) := by decide +kernel
theorem dX7_many_1 : decode cX7_many 1 = .ok (.invokestatic 50, 3) := by decide +kernel
theorem dX7_many_4 : decode cX7_many 4 = .ok (.ifCond .eq 15, 3) := by decide +kernel
theorem dX7_many_7 : decode cX7_many 7 = .ok (.iload_n 2, 1) := by decide +kernel
theorem dX7_many_8 : decode cX7_many 8 = .ok (.invokestatic 50, 3) := by decide +kernel
theorem dX7_many_11 : decode cX7_many 11 = .ok (.ifCond .eq 8, 3) := by decide +kernel
theorem dX7_many_14 : decode cX7_many 14 = .ok (.iload_n 1, 1) := by decide +kernel
theorem dX7_many_15 : decode cX7_many 15 = .ok (.iload_n 2, 1) := by decide +kernel
theorem dX7_many_16 : decode cX7_many 16 = .ok (.if_icmp .le 5, 3) := by decide +kernel
theorem dX7_many_19 : decode cX7_many 19 = .ok (.iconst (-1), 1) := by decide +kernel
theorem dX7_many_20 : decode cX7_many 20 = .ok (.ireturn, 1) := by decide +kernel
theorem dX7_many_21 : decode cX7_many 21 = .ok (.aload_n 0, 1) := by decide +kernel
theorem dX7_many_22 : decode cX7_many 22 = .ok (.getfield 12, 3) := by decide +kernel
theorem dX7_many_25 : decode cX7_many 25 = .ok (.iload_n 1, 1) := by decide +kernel
theorem dX7_many_26 : decode cX7_many 26 = .ok (.iload_n 2, 1) := by decide +kernel
theorem dX7_many_27 : decode cX7_many 27 = .ok (.iload_n 3, 1) := by decide +kernel
theorem dX7_many_28 : decode cX7_many 28 = .ok (.invokevirtual 80, 3) := by decide +kernel
theorem dX7_many_31 : decode cX7_many 31 = .ok (.ireturn, 1) := by decide +kernel
theorem dX7_date_0 : decode cX7_date 0 = .ok (.iload_n 1, 1) := by decide +kernel
theorem dX7_date_1 : decode cX7_date 1 = .ok (.ifCond .lt 16, 3) := by decide +kernel
theorem dX7_date_4 : decode cX7_date 4 = .ok (.iload_n 1, 1) := by decide +kernel
theorem dX7_date_5 : decode cX7_date 5 = .ok (.ldc 83, 2) := by decide +kernel
theorem dX7_date_7 : decode cX7_date 7 = .ok (.if_icmp .gt 10, 3) := by decide +kernel
theorem dX7_date_10 : decode cX7_date 10 = .ok (.iload_n 2, 1) := by decide +kernel
theorem dX7_date_11 : decode cX7_date 11 = .ok (.invokestatic 84, 3) := by decide +kernel
theorem dX7_date_14 : decode cX7_date 14 = .ok (.ifCond .ne 5, 3) := by decide +kernel
theorem dX7_date_17 : decode cX7_date 17 = .ok (.iconst (-1), 1) := by decide +kernel
theorem dX7_date_18 : decode cX7_date 18 = .ok (.ireturn, 1) := by decide +kernel
theorem dX7_date_19 : decode cX7_date 19 = .ok (.iload_n 2, 1) := by decide +kernel
theorem dX7_date_20 : decode cX7_date 20 = .ok (.iload_n 1, 1) := by decide +kernel
theorem dX7_date_21 : decode cX7_date 21 = .ok (.invokestatic 89, 3) := by decide +kernel
theorem dX7_date_24 : decode cX7_date 24 = .ok (.istore 4, 2) := by decide +kernel
theorem dX7_date_26 : decode cX7_date 26 = .ok (.iload_n 2, 1) := by decide +kernel
theorem dX7_date_27 : decode cX7_date 27 = .ok (.iload 4, 2) := by decide +kernel
theorem dX7_date_29 : decode cX7_date 29 = .ok (.iload_n 1, 1) := by decide +kernel
theorem dX7_date_30 : decode cX7_date 30 = .ok (.invokestatic 93, 3) := by decide +kernel
theorem dX7_date_33 : decode cX7_date 33 = .ok (.istore 5, 2) := by decide +kernel
theorem dX7_date_35 : decode cX7_date 35 = .ok (.iload_n 3, 1) := by decide +kernel
theorem dX7_date_36 : decode cX7_date 36 = .ok (.tableswitch 43 0 2 #[28, 31, 37], 28) := by decide +kernel
theorem dX7_date_64 : decode cX7_date 64 = .ok (.iload 4, 2) := by decide +kernel
theorem dX7_date_66 : decode cX7_date 66 = .ok (.ireturn, 1) := by decide +kernel
theorem dX7_date_67 : decode cX7_date 67 = .ok (.iload 5, 2) := by decide +kernel
theorem dX7_date_69 : decode cX7_date 69 = .ok (.invokestatic 96, 3) := by decide +kernel
theorem dX7_date_72 : decode cX7_date 72 = .ok (.ireturn, 1) := by decide +kernel
theorem dX7_date_73 : decode cX7_date 73 = .ok (.iload 5, 2) := by decide +kernel
theorem dX7_date_75 : decode cX7_date 75 = .ok (.invokestatic 99, 3) := by decide +kernel
theorem dX7_date_78 : decode cX7_date 78 = .ok (.ireturn, 1) := by decide +kernel
theorem dX7_date_79 : decode cX7_date 79 = .ok (.iconst (-1), 1) := by decide +kernel
theorem dX7_date_80 : decode cX7_date 80 = .ok (.ireturn, 1) := by decide +kernel
theorem dX7_day_0 : decode cX7_day 0 = .ok (.iload_n 1, 1) := by decide +kernel
theorem dX7_day_1 : decode cX7_day 1 = .ok (.invokestatic 84, 3) := by decide +kernel
theorem dX7_day_4 : decode cX7_day 4 = .ok (.ifCond .eq 14, 3) := by decide +kernel
theorem dX7_day_7 : decode cX7_day 7 = .ok (.iload_n 2, 1) := by decide +kernel
theorem dX7_day_8 : decode cX7_day 8 = .ok (.ifCond .lt 10, 3) := by decide +kernel
theorem dX7_day_11 : decode cX7_day 11 = .ok (.iload_n 2, 1) := by decide +kernel
theorem dX7_day_12 : decode cX7_day 12 = .ok (.sipush 1100, 3) := by decide +kernel
theorem dX7_day_15 : decode cX7_day 15 = .ok (.if_icmp .le 5, 3) := by decide +kernel
theorem dX7_day_18 : decode cX7_day 18 = .ok (.iconst (-1), 1) := by decide +kernel
theorem dX7_day_19 : decode cX7_day 19 = .ok (.ireturn, 1) := by decide +kernel
theorem dX7_day_20 : decode cX7_day 20 = .ok (.iload_n 1, 1) := by decide +kernel
theorem dX7_day_21 : decode cX7_day 21 = .ok (.iload_n 2, 1) := by decide +kernel
theorem dX7_day_22 : decode cX7_day 22 = .ok (.iload_n 3, 1) := by decide +kernel
theorem dX7_day_23 : decode cX7_day 23 = .ok (.iload 4, 2) := by decide +kernel
theorem dX7_day_25 : decode cX7_day 25 = .ok (.invokestatic 102, 3) := by decide +kernel
theorem dX7_day_28 : decode cX7_day 28 = .ok (.ireturn, 1) := by decide +kernel
theorem dX7_seen_0 : decode cX7_seen 0 = .ok (.iload_n 1, 1) := by decide +kernel
theorem dX7_seen_1 : decode cX7_seen 1 = .ok (.invokestatic 50, 3) := by decide +kernel
theorem dX7_seen_4 : decode cX7_seen 4 = .ok (.ifCond .eq 17, 3) := by decide +kernel
theorem dX7_seen_7 : decode cX7_seen 7 = .ok (.iload_n 2, 1) := by decide +kernel
theorem dX7_seen_8 : decode cX7_seen 8 = .ok (.invokestatic 106, 3) := by decide +kernel
theorem dX7_seen_11 : decode cX7_seen 11 = .ok (.ifCond .eq 10, 3) := by decide +kernel
theorem dX7_seen_14 : decode cX7_seen 14 = .ok (.iload_n 3, 1) := by decide +kernel
theorem dX7_seen_15 : decode cX7_seen 15 = .ok (.invokestatic 109, 3) := by decide +kernel
theorem dX7_seen_18 : decode cX7_seen 18 = .ok (.ifCond .ne 6, 3) := by decide +kernel
theorem dX7_seen_21 : decode cX7_seen 21 = .ok (.ldc 112, 2) := by decide +kernel
theorem dX7_seen_23 : decode cX7_seen 23 = .ok (.ireturn, 1) := by decide +kernel
theorem dX7_seen_24 : decode cX7_seen 24 = .ok (.aload_n 0, 1) := by decide +kernel
theorem dX7_seen_25 : decode cX7_seen 25 = .ok (.getfield 12, 3) := by decide +kernel
theorem dX7_seen_28 : decode cX7_seen 28 = .ok (.iload_n 1, 1) := by decide +kernel
theorem dX7_seen_29 : decode cX7_seen 29 = .ok (.invokevirtual 64, 3) := by decide +kernel
theorem dX7_seen_32 : decode cX7_seen 32 = .ok (.iload_n 2, 1) := by decide +kernel
theorem dX7_seen_33 : decode cX7_seen 33 = .ok (.iload_n 3, 1) := by decide +kernel
theorem dX7_seen_34 : decode cX7_seen 34 = .ok (.invokestatic 113, 3) := by decide +kernel
theorem dX7_seen_37 : decode cX7_seen 37 = .ok (.ireturn, 1) := by decide +kernel
theorem dX7_feed_0 : decode cX7_feed 0 = .ok (.aload_n 0, 1) := by decide +kernel
theorem dX7_feed_1 : decode cX7_feed 1 = .ok (.getfield 19, 3) := by decide +kernel
theorem dX7_feed_4 : decode cX7_feed 4 = .ok (.invokevirtual 116, 3) := by decide +kernel
theorem dX7_feed_7 : decode cX7_feed 7 = .ok (.ifCond .ne 5, 3) := by decide +kernel
theorem dX7_feed_10 : decode cX7_feed 10 = .ok (.iconst (-1), 1) := by decide +kernel
theorem dX7_feed_11 : decode cX7_feed 11 = .ok (.ireturn, 1) := by decide +kernel
theorem dX7_feed_12 : decode cX7_feed 12 = .ok (.aload_n 0, 1) := by decide +kernel
theorem dX7_feed_13 : decode cX7_feed 13 = .ok (.getfield 19, 3) := by decide +kernel
theorem dX7_feed_16 : decode cX7_feed 16 = .ok (.iload_n 1, 1) := by decide +kernel
theorem dX7_feed_17 : decode cX7_feed 17 = .ok (.invokevirtual 120, 3) := by decide +kernel
theorem dX7_feed_20 : decode cX7_feed 20 = .ok (.aload_n 0, 1) := by decide +kernel
theorem dX7_feed_21 : decode cX7_feed 21 = .ok (.getfield 19, 3) := by decide +kernel
theorem dX7_feed_24 : decode cX7_feed 24 = .ok (.iload_n 2, 1) := by decide +kernel
theorem dX7_feed_25 : decode cX7_feed 25 = .ok (.invokevirtual 120, 3) := by decide +kernel
theorem dX7_feed_28 : decode cX7_feed 28 = .ok (.aload_n 0, 1) := by decide +kernel
theorem dX7_feed_29 : decode cX7_feed 29 = .ok (.getfield 19, 3) := by decide +kernel
theorem dX7_feed_32 : decode cX7_feed 32 = .ok (.iload_n 3, 1) := by decide +kernel
theorem dX7_feed_33 : decode cX7_feed 33 = .ok (.invokevirtual 120, 3) := by decide +kernel
theorem dX7_feed_36 : decode cX7_feed 36 = .ok (.aload_n 0, 1) := by decide +kernel
theorem dX7_feed_37 : decode cX7_feed 37 = .ok (.getfield 19, 3) := by decide +kernel
theorem dX7_feed_40 : decode cX7_feed 40 = .ok (.iload 4, 2) := by decide +kernel
theorem dX7_feed_42 : decode cX7_feed 42 = .ok (.invokevirtual 120, 3) := by decide +kernel
theorem dX7_feed_45 : decode cX7_feed 45 = .ok (.aload_n 0, 1) := by decide +kernel
theorem dX7_feed_46 : decode cX7_feed 46 = .ok (.getfield 19, 3) := by decide +kernel
theorem dX7_feed_49 : decode cX7_feed 49 = .ok (.iload 5, 2) := by decide +kernel
theorem dX7_feed_51 : decode cX7_feed 51 = .ok (.invokevirtual 120, 3) := by decide +kernel
theorem dX7_feed_54 : decode cX7_feed 54 = .ok (.aload_n 0, 1) := by decide +kernel
theorem dX7_feed_55 : decode cX7_feed 55 = .ok (.getfield 19, 3) := by decide +kernel
theorem dX7_feed_58 : decode cX7_feed 58 = .ok (.invokevirtual 124, 3) := by decide +kernel
theorem dX7_feed_61 : decode cX7_feed 61 = .ok (.ireturn, 1) := by decide +kernel
theorem dX7_end_0 : decode cX7_end 0 = .ok (.aload_n 0, 1) := by decide +kernel
theorem dX7_end_1 : decode cX7_end 1 = .ok (.getfield 19, 3) := by decide +kernel
theorem dX7_end_4 : decode cX7_end 4 = .ok (.iload_n 1, 1) := by decide +kernel
theorem dX7_end_5 : decode cX7_end 5 = .ok (.invokevirtual 128, 3) := by decide +kernel
theorem dX7_end_8 : decode cX7_end 8 = .ok (.ireturn, 1) := by decide +kernel
theorem dX7_reign_0 : decode cX7_reign 0 = .ok (.aload_n 0, 1) := by decide +kernel
theorem dX7_reign_1 : decode cX7_reign 1 = .ok (.getfield 19, 3) := by decide +kernel
theorem dX7_reign_4 : decode cX7_reign 4 = .ok (.iconst 0, 1) := by decide +kernel
theorem dX7_reign_5 : decode cX7_reign 5 = .ok (.aload_n 0, 1) := by decide +kernel
theorem dX7_reign_6 : decode cX7_reign 6 = .ok (.getfield 19, 3) := by decide +kernel
theorem dX7_reign_9 : decode cX7_reign 9 = .ok (.invokevirtual 124, 3) := by decide +kernel
theorem dX7_reign_12 : decode cX7_reign 12 = .ok (.invokevirtual 131, 3) := by decide +kernel
theorem dX7_reign_15 : decode cX7_reign 15 = .ok (.istore_n 3, 1) := by decide +kernel
theorem dX7_reign_16 : decode cX7_reign 16 = .ok (.aload_n 0, 1) := by decide +kernel
theorem dX7_reign_17 : decode cX7_reign 17 = .ok (.getfield 19, 3) := by decide +kernel
theorem dX7_reign_20 : decode cX7_reign 20 = .ok (.invokevirtual 134, 3) := by decide +kernel
theorem dX7_reign_23 : decode cX7_reign 23 = .ok (.aload_n 0, 1) := by decide +kernel
theorem dX7_reign_24 : decode cX7_reign 24 = .ok (.getfield 26, 3) := by decide +kernel
theorem dX7_reign_27 : decode cX7_reign 27 = .ok (.iload_n 3, 1) := by decide +kernel
theorem dX7_reign_28 : decode cX7_reign 28 = .ok (.iload_n 1, 1) := by decide +kernel
theorem dX7_reign_29 : decode cX7_reign 29 = .ok (.iload_n 2, 1) := by decide +kernel
theorem dX7_reign_30 : decode cX7_reign 30 = .ok (.invokevirtual 137, 3) := by decide +kernel
theorem dX7_reign_33 : decode cX7_reign 33 = .ok (.ireturn, 1) := by decide +kernel
theorem dX7_record_0 : decode cX7_record 0 = .ok (.iload_n 1, 1) := by decide +kernel
theorem dX7_record_1 : decode cX7_record 1 = .ok (.invokestatic 106, 3) := by decide +kernel
theorem dX7_record_4 : decode cX7_record 4 = .ok (.ifCond .eq 13, 3) := by decide +kernel
theorem dX7_record_7 : decode cX7_record 7 = .ok (.aload_n 0, 1) := by decide +kernel
theorem dX7_record_8 : decode cX7_record 8 = .ok (.getfield 33, 3) := by decide +kernel
theorem dX7_record_11 : decode cX7_record 11 = .ok (.invokevirtual 140, 3) := by decide +kernel
theorem dX7_record_14 : decode cX7_record 14 = .ok (.ifCond .ne 13, 3) := by decide +kernel
theorem dX7_record_17 : decode cX7_record 17 = .ok (.aload_n 0, 1) := by decide +kernel
theorem dX7_record_18 : decode cX7_record 18 = .ok (.getfield 19, 3) := by decide +kernel
theorem dX7_record_21 : decode cX7_record 21 = .ok (.invokevirtual 134, 3) := by decide +kernel
theorem dX7_record_24 : decode cX7_record 24 = .ok (.bipush (-2), 2) := by decide +kernel
theorem dX7_record_26 : decode cX7_record 26 = .ok (.ireturn, 1) := by decide +kernel
theorem dX7_record_27 : decode cX7_record 27 = .ok (.aload_n 0, 1) := by decide +kernel
theorem dX7_record_28 : decode cX7_record 28 = .ok (.getfield 33, 3) := by decide +kernel
theorem dX7_record_31 : decode cX7_record 31 = .ok (.invokevirtual 141, 3) := by decide +kernel
theorem dX7_record_34 : decode cX7_record 34 = .ok (.astore_n 2, 1) := by decide +kernel
theorem dX7_record_35 : decode cX7_record 35 = .ok (.aload_n 2, 1) := by decide +kernel
theorem dX7_record_36 : decode cX7_record 36 = .ok (.ifnull 19, 3) := by decide +kernel
theorem dX7_record_39 : decode cX7_record 39 = .ok (.aload_n 0, 1) := by decide +kernel
theorem dX7_record_40 : decode cX7_record 40 = .ok (.getfield 42, 3) := by decide +kernel
theorem dX7_record_43 : decode cX7_record 43 = .ok (.aload_n 2, 1) := by decide +kernel
theorem dX7_record_44 : decode cX7_record 44 = .ok (.iload_n 1, 1) := by decide +kernel
theorem dX7_record_45 : decode cX7_record 45 = .ok (.invokevirtual 145, 3) := by decide +kernel
theorem dX7_record_48 : decode cX7_record 48 = .ok (.ifCond .eq 7, 3) := by decide +kernel
theorem dX7_record_51 : decode cX7_record 51 = .ok (.iconst 1, 1) := by decide +kernel
theorem dX7_record_52 : decode cX7_record 52 = .ok (.goto 4, 3) := by decide +kernel
theorem dX7_record_55 : decode cX7_record 55 = .ok (.iconst 0, 1) := by decide +kernel
theorem dX7_record_56 : decode cX7_record 56 = .ok (.istore_n 3, 1) := by decide +kernel
theorem dX7_record_57 : decode cX7_record 57 = .ok (.aload_n 0, 1) := by decide +kernel
theorem dX7_record_58 : decode cX7_record 58 = .ok (.getfield 19, 3) := by decide +kernel
theorem dX7_record_61 : decode cX7_record 61 = .ok (.invokevirtual 134, 3) := by decide +kernel
theorem dX7_record_64 : decode cX7_record 64 = .ok (.iload_n 3, 1) := by decide +kernel
theorem dX7_record_65 : decode cX7_record 65 = .ok (.ifCond .eq 13, 3) := by decide +kernel
theorem dX7_record_68 : decode cX7_record 68 = .ok (.aload_n 0, 1) := by decide +kernel
theorem dX7_record_69 : decode cX7_record 69 = .ok (.getfield 33, 3) := by decide +kernel
theorem dX7_record_72 : decode cX7_record 72 = .ok (.invokevirtual 149, 3) := by decide +kernel
theorem dX7_record_75 : decode cX7_record 75 = .ok (.goto 4, 3) := by decide +kernel
theorem dX7_record_78 : decode cX7_record 78 = .ok (.iconst (-1), 1) := by decide +kernel
theorem dX7_record_79 : decode cX7_record 79 = .ok (.ireturn, 1) := by decide +kernel
theorem dX7_fault_0 : decode cX7_fault 0 = .ok (.iload_n 1, 1) := by decide +kernel
theorem dX7_fault_1 : decode cX7_fault 1 = .ok (.lookupswitch 43 #[(0, 27), (1, 35)], 27) := by decide +kernel
theorem dX7_fault_28 : decode cX7_fault 28 = .ok (.aload_n 0, 1) := by decide +kernel
theorem dX7_fault_29 : decode cX7_fault 29 = .ok (.getfield 42, 3) := by decide +kernel
theorem dX7_fault_32 : decode cX7_fault 32 = .ok (.invokevirtual 152, 3) := by decide +kernel
theorem dX7_fault_35 : decode cX7_fault 35 = .ok (.ireturn, 1) := by decide +kernel
theorem dX7_fault_36 : decode cX7_fault 36 = .ok (.aload_n 0, 1) := by decide +kernel
theorem dX7_fault_37 : decode cX7_fault 37 = .ok (.getfield 42, 3) := by decide +kernel
theorem dX7_fault_40 : decode cX7_fault 40 = .ok (.invokevirtual 155, 3) := by decide +kernel
theorem dX7_fault_43 : decode cX7_fault 43 = .ok (.ireturn, 1) := by decide +kernel
theorem dX7_fault_44 : decode cX7_fault 44 = .ok (.iconst (-1), 1) := by decide +kernel
theorem dX7_fault_45 : decode cX7_fault 45 = .ok (.ireturn, 1) := by decide +kernel
theorem dX7_means_0 : decode cX7_means 0 = .ok (.aload_n 0, 1) := by decide +kernel
theorem dX7_means_1 : decode cX7_means 1 = .ok (.getfield 33, 3) := by decide +kernel
theorem dX7_means_4 : decode cX7_means 4 = .ok (.iload_n 1, 1) := by decide +kernel
theorem dX7_means_5 : decode cX7_means 5 = .ok (.invokevirtual 158, 3) := by decide +kernel
theorem dX7_means_8 : decode cX7_means 8 = .ok (.astore_n 3, 1) := by decide +kernel
theorem dX7_means_9 : decode cX7_means 9 = .ok (.aload_n 3, 1) := by decide +kernel
theorem dX7_means_10 : decode cX7_means 10 = .ok (.ifnull 10, 3) := by decide +kernel
theorem dX7_means_13 : decode cX7_means 13 = .ok (.iload_n 2, 1) := by decide +kernel
theorem dX7_means_14 : decode cX7_means 14 = .ok (.invokestatic 109, 3) := by decide +kernel
theorem dX7_means_17 : decode cX7_means 17 = .ok (.ifCond .ne 5, 3) := by decide +kernel
theorem dX7_means_20 : decode cX7_means 20 = .ok (.iconst (-1), 1) := by decide +kernel
theorem dX7_means_21 : decode cX7_means 21 = .ok (.ireturn, 1) := by decide +kernel
theorem dX7_means_22 : decode cX7_means 22 = .ok (.aload_n 3, 1) := by decide +kernel
theorem dX7_means_23 : decode cX7_means 23 = .ok (.aload_n 0, 1) := by decide +kernel
theorem dX7_means_24 : decode cX7_means 24 = .ok (.getfield 12, 3) := by decide +kernel
theorem dX7_means_27 : decode cX7_means 27 = .ok (.iload_n 2, 1) := by decide +kernel
theorem dX7_means_28 : decode cX7_means 28 = .ok (.invokevirtual 162, 3) := by decide +kernel
theorem dX7_means_31 : decode cX7_means 31 = .ok (.ireturn, 1) := by decide +kernel
theorem dX7_meant_0 : decode cX7_meant 0 = .ok (.aload_n 0, 1) := by decide +kernel
theorem dX7_meant_1 : decode cX7_meant 1 = .ok (.getfield 33, 3) := by decide +kernel
theorem dX7_meant_4 : decode cX7_meant 4 = .ok (.iload_n 1, 1) := by decide +kernel
theorem dX7_meant_5 : decode cX7_meant 5 = .ok (.invokevirtual 158, 3) := by decide +kernel
theorem dX7_meant_8 : decode cX7_meant 8 = .ok (.astore 4, 2) := by decide +kernel
theorem dX7_meant_10 : decode cX7_meant 10 = .ok (.aload 4, 2) := by decide +kernel
theorem dX7_meant_12 : decode cX7_meant 12 = .ok (.ifnull 14, 3) := by decide +kernel
theorem dX7_meant_15 : decode cX7_meant 15 = .ok (.iload_n 2, 1) := by decide +kernel
theorem dX7_meant_16 : decode cX7_meant 16 = .ok (.invokestatic 109, 3) := by decide +kernel
theorem dX7_meant_19 : decode cX7_meant 19 = .ok (.ifCond .eq 7, 3) := by decide +kernel
theorem dX7_meant_22 : decode cX7_meant 22 = .ok (.iload_n 3, 1) := by decide +kernel
theorem dX7_meant_23 : decode cX7_meant 23 = .ok (.ifCond .ge 5, 3) := by decide +kernel
theorem dX7_meant_26 : decode cX7_meant 26 = .ok (.iconst (-1), 1) := by decide +kernel
theorem dX7_meant_27 : decode cX7_meant 27 = .ok (.ireturn, 1) := by decide +kernel
theorem dX7_meant_28 : decode cX7_meant 28 = .ok (.aload 4, 2) := by decide +kernel
theorem dX7_meant_30 : decode cX7_meant 30 = .ok (.aload_n 0, 1) := by decide +kernel
theorem dX7_meant_31 : decode cX7_meant 31 = .ok (.getfield 12, 3) := by decide +kernel
theorem dX7_meant_34 : decode cX7_meant 34 = .ok (.iload_n 2, 1) := by decide +kernel
theorem dX7_meant_35 : decode cX7_meant 35 = .ok (.iload_n 3, 1) := by decide +kernel
theorem dX7_meant_36 : decode cX7_meant 36 = .ok (.invokevirtual 168, 3) := by decide +kernel
theorem dX7_meant_39 : decode cX7_meant 39 = .ok (.ireturn, 1) := by decide +kernel
theorem dX7_slips_0 : decode cX7_slips 0 = .ok (.aload_n 0, 1) := by decide +kernel
theorem dX7_slips_1 : decode cX7_slips 1 = .ok (.getfield 33, 3) := by decide +kernel
theorem dX7_slips_4 : decode cX7_slips 4 = .ok (.iload_n 1, 1) := by decide +kernel
theorem dX7_slips_5 : decode cX7_slips 5 = .ok (.invokevirtual 158, 3) := by decide +kernel
theorem dX7_slips_8 : decode cX7_slips 8 = .ok (.astore_n 3, 1) := by decide +kernel
theorem dX7_slips_9 : decode cX7_slips 9 = .ok (.aload_n 3, 1) := by decide +kernel
theorem dX7_slips_10 : decode cX7_slips 10 = .ok (.ifnull 10, 3) := by decide +kernel
theorem dX7_slips_13 : decode cX7_slips 13 = .ok (.iload_n 2, 1) := by decide +kernel
theorem dX7_slips_14 : decode cX7_slips 14 = .ok (.invokestatic 109, 3) := by decide +kernel
theorem dX7_slips_17 : decode cX7_slips 17 = .ok (.ifCond .ne 5, 3) := by decide +kernel
theorem dX7_slips_20 : decode cX7_slips 20 = .ok (.iconst (-1), 1) := by decide +kernel
theorem dX7_slips_21 : decode cX7_slips 21 = .ok (.ireturn, 1) := by decide +kernel
theorem dX7_slips_22 : decode cX7_slips 22 = .ok (.aload_n 3, 1) := by decide +kernel
theorem dX7_slips_23 : decode cX7_slips 23 = .ok (.aload_n 0, 1) := by decide +kernel
theorem dX7_slips_24 : decode cX7_slips 24 = .ok (.getfield 12, 3) := by decide +kernel
theorem dX7_slips_27 : decode cX7_slips 27 = .ok (.iload_n 2, 1) := by decide +kernel
theorem dX7_slips_28 : decode cX7_slips 28 = .ok (.invokevirtual 172, 3) := by decide +kernel
theorem dX7_slips_31 : decode cX7_slips 31 = .ok (.ireturn, 1) := by decide +kernel
theorem dX7_lets_0 : decode cX7_lets 0 = .ok (.aload_n 0, 1) := by decide +kernel
theorem dX7_lets_1 : decode cX7_lets 1 = .ok (.getfield 33, 3) := by decide +kernel
theorem dX7_lets_4 : decode cX7_lets 4 = .ok (.iload_n 1, 1) := by decide +kernel
theorem dX7_lets_5 : decode cX7_lets 5 = .ok (.invokevirtual 158, 3) := by decide +kernel
theorem dX7_lets_8 : decode cX7_lets 8 = .ok (.astore_n 2, 1) := by decide +kernel
theorem dX7_lets_9 : decode cX7_lets 9 = .ok (.aload_n 2, 1) := by decide +kernel
theorem dX7_lets_10 : decode cX7_lets 10 = .ok (.ifnonnull 5, 3) := by decide +kernel
theorem dX7_lets_13 : decode cX7_lets 13 = .ok (.iconst (-1), 1) := by decide +kernel
theorem dX7_lets_14 : decode cX7_lets 14 = .ok (.ireturn, 1) := by decide +kernel
theorem dX7_lets_15 : decode cX7_lets 15 = .ok (.aload_n 2, 1) := by decide +kernel
theorem dX7_lets_16 : decode cX7_lets 16 = .ok (.aload_n 0, 1) := by decide +kernel
theorem dX7_lets_17 : decode cX7_lets 17 = .ok (.getfield 12, 3) := by decide +kernel
theorem dX7_lets_20 : decode cX7_lets 20 = .ok (.invokevirtual 175, 3) := by decide +kernel
theorem dX7_lets_23 : decode cX7_lets 23 = .ok (.invokestatic 179, 3) := by decide +kernel
theorem dX7_lets_26 : decode cX7_lets 26 = .ok (.ireturn, 1) := by decide +kernel
theorem dX7_slow_0 : decode cX7_slow 0 = .ok (.aload_n 0, 1) := by decide +kernel
theorem dX7_slow_1 : decode cX7_slow 1 = .ok (.getfield 33, 3) := by decide +kernel
theorem dX7_slow_4 : decode cX7_slow 4 = .ok (.aload_n 0, 1) := by decide +kernel
theorem dX7_slow_5 : decode cX7_slow 5 = .ok (.getfield 12, 3) := by decide +kernel
theorem dX7_slow_8 : decode cX7_slow 8 = .ok (.invokevirtual 185, 3) := by decide +kernel
theorem dX7_slow_11 : decode cX7_slow 11 = .ok (.lstore_n 2, 1) := by decide +kernel
theorem dX7_slow_12 : decode cX7_slow 12 = .ok (.lload_n 2, 1) := by decide +kernel
theorem dX7_slow_13 : decode cX7_slow 13 = .ok (.lconst 0, 1) := by decide +kernel
theorem dX7_slow_14 : decode cX7_slow 14 = .ok (.lcmp, 1) := by decide +kernel
theorem dX7_slow_15 : decode cX7_slow 15 = .ok (.ifCond .ne 5, 3) := by decide +kernel
theorem dX7_slow_18 : decode cX7_slow 18 = .ok (.iconst (-1), 1) := by decide +kernel
theorem dX7_slow_19 : decode cX7_slow 19 = .ok (.ireturn, 1) := by decide +kernel
theorem dX7_slow_20 : decode cX7_slow 20 = .ok (.iload_n 1, 1) := by decide +kernel
theorem dX7_slow_21 : decode cX7_slow 21 = .ok (.tableswitch 45 0 2 #[27, 32, 40], 27) := by decide +kernel
theorem dX7_slow_48 : decode cX7_slow 48 = .ok (.lload_n 2, 1) := by decide +kernel
theorem dX7_slow_49 : decode cX7_slow 49 = .ok (.invokestatic 188, 3) := by decide +kernel
theorem dX7_slow_52 : decode cX7_slow 52 = .ok (.ireturn, 1) := by decide +kernel
theorem dX7_slow_53 : decode cX7_slow 53 = .ok (.bipush 63, 2) := by decide +kernel
theorem dX7_slow_55 : decode cX7_slow 55 = .ok (.lload_n 2, 1) := by decide +kernel
theorem dX7_slow_56 : decode cX7_slow 56 = .ok (.invokestatic 191, 3) := by decide +kernel
theorem dX7_slow_59 : decode cX7_slow 59 = .ok (.isub, 1) := by decide +kernel
theorem dX7_slow_60 : decode cX7_slow 60 = .ok (.ireturn, 1) := by decide +kernel
theorem dX7_slow_61 : decode cX7_slow 61 = .ok (.lload_n 2, 1) := by decide +kernel
theorem dX7_slow_62 : decode cX7_slow 62 = .ok (.invokestatic 179, 3) := by decide +kernel
theorem dX7_slow_65 : decode cX7_slow 65 = .ok (.ireturn, 1) := by decide +kernel
theorem dX7_slow_66 : decode cX7_slow 66 = .ok (.iconst (-1), 1) := by decide +kernel
theorem dX7_slow_67 : decode cX7_slow 67 = .ok (.ireturn, 1) := by decide +kernel
theorem dX7_drop_0 : decode cX7_drop 0 = .ok (.aload_n 0, 1) := by decide +kernel
theorem dX7_drop_1 : decode cX7_drop 1 = .ok (.getfield 33, 3) := by decide +kernel
theorem dX7_drop_4 : decode cX7_drop 4 = .ok (.iload_n 1, 1) := by decide +kernel
theorem dX7_drop_5 : decode cX7_drop 5 = .ok (.invokevirtual 194, 3) := by decide +kernel
theorem dX7_drop_8 : decode cX7_drop 8 = .ok (.ireturn, 1) := by decide +kernel
theorem dX7_isEast_0 : decode cX7_isEast 0 = .ok (.iload_n 0, 1) := by decide +kernel
theorem dX7_isEast_1 : decode cX7_isEast 1 = .ok (.sipush (-720), 3) := by decide +kernel
theorem dX7_isEast_4 : decode cX7_isEast 4 = .ok (.if_icmp .lt 14, 3) := by decide +kernel
theorem dX7_isEast_7 : decode cX7_isEast 7 = .ok (.iload_n 0, 1) := by decide +kernel
theorem dX7_isEast_8 : decode cX7_isEast 8 = .ok (.sipush 720, 3) := by decide +kernel
theorem dX7_isEast_11 : decode cX7_isEast 11 = .ok (.if_icmp .gt 7, 3) := by decide +kernel
theorem dX7_isEast_14 : decode cX7_isEast 14 = .ok (.iconst 1, 1) := by decide +kernel
theorem dX7_isEast_15 : decode cX7_isEast 15 = .ok (.goto 4, 3) := by decide +kernel
theorem dX7_isEast_18 : decode cX7_isEast 18 = .ok (.iconst 0, 1) := by decide +kernel
theorem dX7_isEast_19 : decode cX7_isEast 19 = .ok (.ireturn, 1) := by decide +kernel
theorem dX7_isSlow_0 : decode cX7_isSlow 0 = .ok (.iload_n 0, 1) := by decide +kernel
theorem dX7_isSlow_1 : decode cX7_isSlow 1 = .ok (.ifCond .lt 13, 3) := by decide +kernel
theorem dX7_isSlow_4 : decode cX7_isSlow 4 = .ok (.iload_n 0, 1) := by decide +kernel
theorem dX7_isSlow_5 : decode cX7_isSlow 5 = .ok (.bipush 60, 2) := by decide +kernel
theorem dX7_isSlow_7 : decode cX7_isSlow 7 = .ok (.if_icmp .gt 7, 3) := by decide +kernel
theorem dX7_isSlow_10 : decode cX7_isSlow 10 = .ok (.iconst 1, 1) := by decide +kernel
theorem dX7_isSlow_11 : decode cX7_isSlow 11 = .ok (.goto 4, 3) := by decide +kernel
theorem dX7_isSlow_14 : decode cX7_isSlow 14 = .ok (.iconst 0, 1) := by decide +kernel
theorem dX7_isSlow_15 : decode cX7_isSlow 15 = .ok (.ireturn, 1) := by decide +kernel
theorem dX8_init_0 : decode cX8_init 0 = .ok (.aload_n 0, 1) := by decide +kernel
theorem dX8_init_1 : decode cX8_init 1 = .ok (.invokespecial 1, 3) := by decide +kernel
theorem dX8_init_4 : decode cX8_init 4 = .ok (.aload_n 0, 1) := by decide +kernel
theorem dX8_init_5 : decode cX8_init 5 = .ok (.sipush 9000, 3) := by decide +kernel
theorem dX8_init_8 : decode cX8_init 8 = .ok (.putfield 7, 3) := by decide +kernel
theorem dX8_init_11 : decode cX8_init 11 = .ok (.aload_n 0, 1) := by decide +kernel
theorem dX8_init_12 : decode cX8_init 12 = .ok (.sipush 400, 3) := by decide +kernel
theorem dX8_init_15 : decode cX8_init 15 = .ok (.putfield 13, 3) := by decide +kernel
theorem dX8_init_18 : decode cX8_init 18 = .ok (.aload_n 0, 1) := by decide +kernel
theorem dX8_init_19 : decode cX8_init 19 = .ok (.sipush 12001, 3) := by decide +kernel
theorem dX8_init_22 : decode cX8_init 22 = .ok (.newarray .int, 2) := by decide +kernel
theorem dX8_init_24 : decode cX8_init 24 = .ok (.putfield 16, 3) := by decide +kernel
theorem dX8_init_27 : decode cX8_init 27 = .ok (.aload_n 0, 1) := by decide +kernel
theorem dX8_init_28 : decode cX8_init 28 = .ok (.sipush 12001, 3) := by decide +kernel
theorem dX8_init_31 : decode cX8_init 31 = .ok (.newarray .int, 2) := by decide +kernel
theorem dX8_init_33 : decode cX8_init 33 = .ok (.putfield 20, 3) := by decide +kernel
theorem dX8_init_36 : decode cX8_init 36 = .ok (.aload_n 0, 1) := by decide +kernel
theorem dX8_init_37 : decode cX8_init 37 = .ok (.sipush 12001, 3) := by decide +kernel
theorem dX8_init_40 : decode cX8_init 40 = .ok (.newarray .int, 2) := by decide +kernel
theorem dX8_init_42 : decode cX8_init 42 = .ok (.putfield 23, 3) := by decide +kernel
theorem dX8_init_45 : decode cX8_init 45 = .ok (.aload_n 0, 1) := by decide +kernel
theorem dX8_init_46 : decode cX8_init 46 = .ok (.bipush 10, 2) := by decide +kernel
theorem dX8_init_48 : decode cX8_init 48 = .ok (.newarray .int, 2) := by decide +kernel
theorem dX8_init_50 : decode cX8_init 50 = .ok (.dup, 1) := by decide +kernel
theorem dX8_init_51 : decode cX8_init 51 = .ok (.iconst 0, 1) := by decide +kernel
theorem dX8_init_52 : decode cX8_init 52 = .ok (.iconst 0, 1) := by decide +kernel
theorem dX8_init_53 : decode cX8_init 53 = .ok (.iastore, 1) := by decide +kernel
theorem dX8_init_54 : decode cX8_init 54 = .ok (.dup, 1) := by decide +kernel
theorem dX8_init_55 : decode cX8_init 55 = .ok (.iconst 1, 1) := by decide +kernel
theorem dX8_init_56 : decode cX8_init 56 = .ok (.sipush 174, 3) := by decide +kernel
theorem dX8_init_59 : decode cX8_init 59 = .ok (.iastore, 1) := by decide +kernel
theorem dX8_init_60 : decode cX8_init 60 = .ok (.dup, 1) := by decide +kernel
theorem dX8_init_61 : decode cX8_init 61 = .ok (.iconst 2, 1) := by decide +kernel
theorem dX8_init_62 : decode cX8_init 62 = .ok (.sipush 342, 3) := by decide +kernel
theorem dX8_init_65 : decode cX8_init 65 = .ok (.iastore, 1) := by decide +kernel
theorem dX8_init_66 : decode cX8_init 66 = .ok (.dup, 1) := by decide +kernel
theorem dX8_init_67 : decode cX8_init 67 = .ok (.iconst 3, 1) := by decide +kernel
theorem dX8_init_68 : decode cX8_init 68 = .ok (.sipush 500, 3) := by decide +kernel
theorem dX8_init_71 : decode cX8_init 71 = .ok (.iastore, 1) := by decide +kernel
theorem dX8_init_72 : decode cX8_init 72 = .ok (.dup, 1) := by decide +kernel
theorem dX8_init_73 : decode cX8_init 73 = .ok (.iconst 4, 1) := by decide +kernel
theorem dX8_init_74 : decode cX8_init 74 = .ok (.sipush 643, 3) := by decide +kernel
theorem dX8_init_77 : decode cX8_init 77 = .ok (.iastore, 1) := by decide +kernel
theorem dX8_init_78 : decode cX8_init 78 = .ok (.dup, 1) := by decide +kernel
theorem dX8_init_79 : decode cX8_init 79 = .ok (.iconst 5, 1) := by decide +kernel
theorem dX8_init_80 : decode cX8_init 80 = .ok (.sipush 766, 3) := by decide +kernel
theorem dX8_init_83 : decode cX8_init 83 = .ok (.iastore, 1) := by decide +kernel
theorem dX8_init_84 : decode cX8_init 84 = .ok (.dup, 1) := by decide +kernel
theorem dX8_init_85 : decode cX8_init 85 = .ok (.bipush 6, 2) := by decide +kernel
theorem dX8_init_87 : decode cX8_init 87 = .ok (.sipush 866, 3) := by decide +kernel
theorem dX8_init_90 : decode cX8_init 90 = .ok (.iastore, 1) := by decide +kernel
theorem dX8_init_91 : decode cX8_init 91 = .ok (.dup, 1) := by decide +kernel
theorem dX8_init_92 : decode cX8_init 92 = .ok (.bipush 7, 2) := by decide +kernel
theorem dX8_init_94 : decode cX8_init 94 = .ok (.sipush 940, 3) := by decide +kernel
theorem dX8_init_97 : decode cX8_init 97 = .ok (.iastore, 1) := by decide +kernel
theorem dX8_init_98 : decode cX8_init 98 = .ok (.dup, 1) := by decide +kernel
theorem dX8_init_99 : decode cX8_init 99 = .ok (.bipush 8, 2) := by decide +kernel
theorem dX8_init_101 : decode cX8_init 101 = .ok (.sipush 985, 3) := by decide +kernel
theorem dX8_init_104 : decode cX8_init 104 = .ok (.iastore, 1) := by decide +kernel
theorem dX8_init_105 : decode cX8_init 105 = .ok (.dup, 1) := by decide +kernel
theorem dX8_init_106 : decode cX8_init 106 = .ok (.bipush 9, 2) := by decide +kernel
theorem dX8_init_108 : decode cX8_init 108 = .ok (.sipush 1000, 3) := by decide +kernel
theorem dX8_init_111 : decode cX8_init 111 = .ok (.iastore, 1) := by decide +kernel
theorem dX8_init_112 : decode cX8_init 112 = .ok (.putfield 26, 3) := by decide +kernel
theorem dX8_init_115 : decode cX8_init 115 = .ok (.aload_n 0, 1) := by decide +kernel
theorem dX8_init_116 : decode cX8_init 116 = .ok (.bipush 12, 2) := by decide +kernel
theorem dX8_init_118 : decode cX8_init 118 = .ok (.newarray .int, 2) := by decide +kernel
theorem dX8_init_120 : decode cX8_init 120 = .ok (.dup, 1) := by decide +kernel
theorem dX8_init_121 : decode cX8_init 121 = .ok (.iconst 0, 1) := by decide +kernel
theorem dX8_init_122 : decode cX8_init 122 = .ok (.bipush 31, 2) := by decide +kernel
theorem dX8_init_124 : decode cX8_init 124 = .ok (.iastore, 1) := by decide +kernel
theorem dX8_init_125 : decode cX8_init 125 = .ok (.dup, 1) := by decide +kernel
theorem dX8_init_126 : decode cX8_init 126 = .ok (.iconst 1, 1) := by decide +kernel
theorem dX8_init_127 : decode cX8_init 127 = .ok (.bipush 28, 2) := by decide +kernel
theorem dX8_init_129 : decode cX8_init 129 = .ok (.iastore, 1) := by decide +kernel
theorem dX8_init_130 : decode cX8_init 130 = .ok (.dup, 1) := by decide +kernel
theorem dX8_init_131 : decode cX8_init 131 = .ok (.iconst 2, 1) := by decide +kernel
theorem dX8_init_132 : decode cX8_init 132 = .ok (.bipush 31, 2) := by decide +kernel
theorem dX8_init_134 : decode cX8_init 134 = .ok (.iastore, 1) := by decide +kernel
theorem dX8_init_135 : decode cX8_init 135 = .ok (.dup, 1) := by decide +kernel
theorem dX8_init_136 : decode cX8_init 136 = .ok (.iconst 3, 1) := by decide +kernel
theorem dX8_init_137 : decode cX8_init 137 = .ok (.bipush 30, 2) := by decide +kernel
theorem dX8_init_139 : decode cX8_init 139 = .ok (.iastore, 1) := by decide +kernel
theorem dX8_init_140 : decode cX8_init 140 = .ok (.dup, 1) := by decide +kernel
theorem dX8_init_141 : decode cX8_init 141 = .ok (.iconst 4, 1) := by decide +kernel
theorem dX8_init_142 : decode cX8_init 142 = .ok (.bipush 31, 2) := by decide +kernel
theorem dX8_init_144 : decode cX8_init 144 = .ok (.iastore, 1) := by decide +kernel
theorem dX8_init_145 : decode cX8_init 145 = .ok (.dup, 1) := by decide +kernel
theorem dX8_init_146 : decode cX8_init 146 = .ok (.iconst 5, 1) := by decide +kernel
theorem dX8_init_147 : decode cX8_init 147 = .ok (.bipush 30, 2) := by decide +kernel
theorem dX8_init_149 : decode cX8_init 149 = .ok (.iastore, 1) := by decide +kernel
theorem dX8_init_150 : decode cX8_init 150 = .ok (.dup, 1) := by decide +kernel
theorem dX8_init_151 : decode cX8_init 151 = .ok (.bipush 6, 2) := by decide +kernel
theorem dX8_init_153 : decode cX8_init 153 = .ok (.bipush 31, 2) := by decide +kernel
theorem dX8_init_155 : decode cX8_init 155 = .ok (.iastore, 1) := by decide +kernel
theorem dX8_init_156 : decode cX8_init 156 = .ok (.dup, 1) := by decide +kernel
theorem dX8_init_157 : decode cX8_init 157 = .ok (.bipush 7, 2) := by decide +kernel
theorem dX8_init_159 : decode cX8_init 159 = .ok (.bipush 31, 2) := by decide +kernel
theorem dX8_init_161 : decode cX8_init 161 = .ok (.iastore, 1) := by decide +kernel
theorem dX8_init_162 : decode cX8_init 162 = .ok (.dup, 1) := by decide +kernel
theorem dX8_init_163 : decode cX8_init 163 = .ok (.bipush 8, 2) := by decide +kernel
theorem dX8_init_165 : decode cX8_init 165 = .ok (.bipush 30, 2) := by decide +kernel
theorem dX8_init_167 : decode cX8_init 167 = .ok (.iastore, 1) := by decide +kernel
theorem dX8_init_168 : decode cX8_init 168 = .ok (.dup, 1) := by decide +kernel
theorem dX8_init_169 : decode cX8_init 169 = .ok (.bipush 9, 2) := by decide +kernel
theorem dX8_init_171 : decode cX8_init 171 = .ok (.bipush 31, 2) := by decide +kernel
theorem dX8_init_173 : decode cX8_init 173 = .ok (.iastore, 1) := by decide +kernel
theorem dX8_init_174 : decode cX8_init 174 = .ok (.dup, 1) := by decide +kernel
theorem dX8_init_175 : decode cX8_init 175 = .ok (.bipush 10, 2) := by decide +kernel
theorem dX8_init_177 : decode cX8_init 177 = .ok (.bipush 30, 2) := by decide +kernel
theorem dX8_init_179 : decode cX8_init 179 = .ok (.iastore, 1) := by decide +kernel
theorem dX8_init_180 : decode cX8_init 180 = .ok (.dup, 1) := by decide +kernel
theorem dX8_init_181 : decode cX8_init 181 = .ok (.bipush 11, 2) := by decide +kernel
theorem dX8_init_183 : decode cX8_init 183 = .ok (.bipush 31, 2) := by decide +kernel
theorem dX8_init_185 : decode cX8_init 185 = .ok (.iastore, 1) := by decide +kernel
theorem dX8_init_186 : decode cX8_init 186 = .ok (.putfield 29, 3) := by decide +kernel
theorem dX8_init_189 : decode cX8_init 189 = .ok (.aload_n 0, 1) := by decide +kernel
theorem dX8_init_190 : decode cX8_init 190 = .ok (.sipush 200, 3) := by decide +kernel
theorem dX8_init_193 : decode cX8_init 193 = .ok (.newarray .int, 2) := by decide +kernel
theorem dX8_init_195 : decode cX8_init 195 = .ok (.putfield 32, 3) := by decide +kernel
theorem dX8_init_198 : decode cX8_init 198 = .ok (.aload_n 0, 1) := by decide +kernel
theorem dX8_init_199 : decode cX8_init 199 = .ok (.iconst (-1), 1) := by decide +kernel
theorem dX8_init_200 : decode cX8_init 200 = .ok (.putfield 35, 3) := by decide +kernel
theorem dX8_init_203 : decode cX8_init 203 = .ok (.aload_n 0, 1) := by decide +kernel
theorem dX8_init_204 : decode cX8_init 204 = .ok (.bipush 12, 2) := by decide +kernel
theorem dX8_init_206 : decode cX8_init 206 = .ok (.newarray .long, 2) := by decide +kernel
theorem dX8_init_208 : decode cX8_init 208 = .ok (.putfield 38, 3) := by decide +kernel
theorem dX8_init_211 : decode cX8_init 211 = .ok (.aload_n 0, 1) := by decide +kernel
theorem dX8_init_212 : decode cX8_init 212 = .ok (.bipush 12, 2) := by decide +kernel
theorem dX8_init_214 : decode cX8_init 214 = .ok (.newarray .int, 2) := by decide +kernel
theorem dX8_init_216 : decode cX8_init 216 = .ok (.putfield 42, 3) := by decide +kernel
theorem dX8_init_219 : decode cX8_init 219 = .ok (.aload_n 0, 1) := by decide +kernel
theorem dX8_init_220 : decode cX8_init 220 = .ok (.bipush 12, 2) := by decide +kernel
theorem dX8_init_222 : decode cX8_init 222 = .ok (.newarray .int, 2) := by decide +kernel
theorem dX8_init_224 : decode cX8_init 224 = .ok (.putfield 45, 3) := by decide +kernel
theorem dX8_init_227 : decode cX8_init 227 = .ok (.aload_n 0, 1) := by decide +kernel
theorem dX8_init_228 : decode cX8_init 228 = .ok (.bipush 9, 2) := by decide +kernel
theorem dX8_init_230 : decode cX8_init 230 = .ok (.newarray .int, 2) := by decide +kernel
theorem dX8_init_232 : decode cX8_init 232 = .ok (.putfield 48, 3) := by decide +kernel
theorem dX8_init_235 : decode cX8_init 235 = .ok (.aload_n 0, 1) := by decide +kernel
theorem dX8_init_236 : decode cX8_init 236 = .ok (.bipush 36, 2) := by decide +kernel
theorem dX8_init_238 : decode cX8_init 238 = .ok (.newarray .int, 2) := by decide +kernel
theorem dX8_init_240 : decode cX8_init 240 = .ok (.putfield 51, 3) := by decide +kernel
theorem dX8_init_243 : decode cX8_init 243 = .ok (.aload_n 0, 1) := by decide +kernel
theorem dX8_init_244 : decode cX8_init 244 = .ok (.bipush 9, 2) := by decide +kernel
theorem dX8_init_246 : decode cX8_init 246 = .ok (.newarray .int, 2) := by decide +kernel
theorem dX8_init_248 : decode cX8_init 248 = .ok (.putfield 54, 3) := by decide +kernel
theorem dX8_init_251 : decode cX8_init 251 = .ok (.aload_n 0, 1) := by decide +kernel
theorem dX8_init_252 : decode cX8_init 252 = .ok (.bipush 9, 2) := by decide +kernel
theorem dX8_init_254 : decode cX8_init 254 = .ok (.newarray .int, 2) := by decide +kernel
theorem dX8_init_256 : decode cX8_init 256 = .ok (.putfield 57, 3) := by decide +kernel
theorem dX8_init_259 : decode cX8_init 259 = .ok (.aload_n 0, 1) := by decide +kernel
theorem dX8_init_260 : decode cX8_init 260 = .ok (.bipush 9, 2) := by decide +kernel
theorem dX8_init_262 : decode cX8_init 262 = .ok (.newarray .int, 2) := by decide +kernel
theorem dX8_init_264 : decode cX8_init 264 = .ok (.putfield 60, 3) := by decide +kernel
theorem dX8_init_267 : decode cX8_init 267 = .ok (.aload_n 0, 1) := by decide +kernel
theorem dX8_init_268 : decode cX8_init 268 = .ok (.iconst 3, 1) := by decide +kernel
theorem dX8_init_269 : decode cX8_init 269 = .ok (.newarray .char, 2) := by decide +kernel
theorem dX8_init_271 : decode cX8_init 271 = .ok (.dup, 1) := by decide +kernel
theorem dX8_init_272 : decode cX8_init 272 = .ok (.iconst 0, 1) := by decide +kernel
theorem dX8_init_273 : decode cX8_init 273 = .ok (.bipush 115, 2) := by decide +kernel
theorem dX8_init_275 : decode cX8_init 275 = .ok (.castore, 1) := by decide +kernel
theorem dX8_init_276 : decode cX8_init 276 = .ok (.dup, 1) := by decide +kernel
theorem dX8_init_277 : decode cX8_init 277 = .ok (.iconst 1, 1) := by decide +kernel
theorem dX8_init_278 : decode cX8_init 278 = .ok (.bipush 117, 2) := by decide +kernel
theorem dX8_init_280 : decode cX8_init 280 = .ok (.castore, 1) := by decide +kernel
theorem dX8_init_281 : decode cX8_init 281 = .ok (.dup, 1) := by decide +kernel
theorem dX8_init_282 : decode cX8_init 282 = .ok (.iconst 2, 1) := by decide +kernel
theorem dX8_init_283 : decode cX8_init 283 = .ok (.bipush 110, 2) := by decide +kernel
theorem dX8_init_285 : decode cX8_init 285 = .ok (.castore, 1) := by decide +kernel
theorem dX8_init_286 : decode cX8_init 286 = .ok (.putfield 63, 3) := by decide +kernel
theorem dX8_init_289 : decode cX8_init 289 = .ok (.aload_n 0, 1) := by decide +kernel
theorem dX8_init_290 : decode cX8_init 290 = .ok (.iconst 4, 1) := by decide +kernel
theorem dX8_init_291 : decode cX8_init 291 = .ok (.newarray .char, 2) := by decide +kernel
theorem dX8_init_293 : decode cX8_init 293 = .ok (.dup, 1) := by decide +kernel
theorem dX8_init_294 : decode cX8_init 294 = .ok (.iconst 0, 1) := by decide +kernel
theorem dX8_init_295 : decode cX8_init 295 = .ok (.bipush 109, 2) := by decide +kernel
theorem dX8_init_297 : decode cX8_init 297 = .ok (.castore, 1) := by decide +kernel
theorem dX8_init_298 : decode cX8_init 298 = .ok (.dup, 1) := by decide +kernel
theorem dX8_init_299 : decode cX8_init 299 = .ok (.iconst 1, 1) := by decide +kernel
theorem dX8_init_300 : decode cX8_init 300 = .ok (.bipush 111, 2) := by decide +kernel
theorem dX8_init_302 : decode cX8_init 302 = .ok (.castore, 1) := by decide +kernel
theorem dX8_init_303 : decode cX8_init 303 = .ok (.dup, 1) := by decide +kernel
theorem dX8_init_304 : decode cX8_init 304 = .ok (.iconst 2, 1) := by decide +kernel
theorem dX8_init_305 : decode cX8_init 305 = .ok (.bipush 111, 2) := by decide +kernel
theorem dX8_init_307 : decode cX8_init 307 = .ok (.castore, 1) := by decide +kernel
theorem dX8_init_308 : decode cX8_init 308 = .ok (.dup, 1) := by decide +kernel
theorem dX8_init_309 : decode cX8_init 309 = .ok (.iconst 3, 1) := by decide +kernel
theorem dX8_init_310 : decode cX8_init 310 = .ok (.bipush 110, 2) := by decide +kernel
theorem dX8_init_312 : decode cX8_init 312 = .ok (.castore, 1) := by decide +kernel
theorem dX8_init_313 : decode cX8_init 313 = .ok (.putfield 67, 3) := by decide +kernel
theorem dX8_init_316 : decode cX8_init 316 = .ok (.aload_n 0, 1) := by decide +kernel
theorem dX8_init_317 : decode cX8_init 317 = .ok (.iconst 5, 1) := by decide +kernel
theorem dX8_init_318 : decode cX8_init 318 = .ok (.newarray .char, 2) := by decide +kernel
theorem dX8_init_320 : decode cX8_init 320 = .ok (.dup, 1) := by decide +kernel
theorem dX8_init_321 : decode cX8_init 321 = .ok (.iconst 0, 1) := by decide +kernel
theorem dX8_init_322 : decode cX8_init 322 = .ok (.bipush 116, 2) := by decide +kernel
theorem dX8_init_324 : decode cX8_init 324 = .ok (.castore, 1) := by decide +kernel
theorem dX8_init_325 : decode cX8_init 325 = .ok (.dup, 1) := by decide +kernel
theorem dX8_init_326 : decode cX8_init 326 = .ok (.iconst 1, 1) := by decide +kernel
theorem dX8_init_327 : decode cX8_init 327 = .ok (.bipush 111, 2) := by decide +kernel
theorem dX8_init_329 : decode cX8_init 329 = .ok (.castore, 1) := by decide +kernel
theorem dX8_init_330 : decode cX8_init 330 = .ok (.dup, 1) := by decide +kernel
theorem dX8_init_331 : decode cX8_init 331 = .ok (.iconst 2, 1) := by decide +kernel
theorem dX8_init_332 : decode cX8_init 332 = .ok (.bipush 116, 2) := by decide +kernel
theorem dX8_init_334 : decode cX8_init 334 = .ok (.castore, 1) := by decide +kernel
theorem dX8_init_335 : decode cX8_init 335 = .ok (.dup, 1) := by decide +kernel
theorem dX8_init_336 : decode cX8_init 336 = .ok (.iconst 3, 1) := by decide +kernel
theorem dX8_init_337 : decode cX8_init 337 = .ok (.bipush 97, 2) := by decide +kernel
theorem dX8_init_339 : decode cX8_init 339 = .ok (.castore, 1) := by decide +kernel
theorem dX8_init_340 : decode cX8_init 340 = .ok (.dup, 1) := by decide +kernel
theorem dX8_init_341 : decode cX8_init 341 = .ok (.iconst 4, 1) := by decide +kernel
theorem dX8_init_342 : decode cX8_init 342 = .ok (.bipush 108, 2) := by decide +kernel
theorem dX8_init_344 : decode cX8_init 344 = .ok (.castore, 1) := by decide +kernel
theorem dX8_init_345 : decode cX8_init 345 = .ok (.putfield 70, 3) := by decide +kernel
theorem dX8_init_348 : decode cX8_init 348 = .ok (.aload_n 0, 1) := by decide +kernel
theorem dX8_init_349 : decode cX8_init 349 = .ok (.iconst 4, 1) := by decide +kernel
theorem dX8_init_350 : decode cX8_init 350 = .ok (.newarray .char, 2) := by decide +kernel
theorem dX8_init_352 : decode cX8_init 352 = .ok (.dup, 1) := by decide +kernel
theorem dX8_init_353 : decode cX8_init 353 = .ok (.iconst 0, 1) := by decide +kernel
theorem dX8_init_354 : decode cX8_init 354 = .ok (.bipush 114, 2) := by decide +kernel
theorem dX8_init_356 : decode cX8_init 356 = .ok (.castore, 1) := by decide +kernel
theorem dX8_init_357 : decode cX8_init 357 = .ok (.dup, 1) := by decide +kernel
theorem dX8_init_358 : decode cX8_init 358 = .ok (.iconst 1, 1) := by decide +kernel
theorem dX8_init_359 : decode cX8_init 359 = .ok (.bipush 105, 2) := by decide +kernel
theorem dX8_init_361 : decode cX8_init 361 = .ok (.castore, 1) := by decide +kernel
theorem dX8_init_362 : decode cX8_init 362 = .ok (.dup, 1) := by decide +kernel
theorem dX8_init_363 : decode cX8_init 363 = .ok (.iconst 2, 1) := by decide +kernel
theorem dX8_init_364 : decode cX8_init 364 = .ok (.bipush 110, 2) := by decide +kernel
theorem dX8_init_366 : decode cX8_init 366 = .ok (.castore, 1) := by decide +kernel
theorem dX8_init_367 : decode cX8_init 367 = .ok (.dup, 1) := by decide +kernel
theorem dX8_init_368 : decode cX8_init 368 = .ok (.iconst 3, 1) := by decide +kernel
theorem dX8_init_369 : decode cX8_init 369 = .ok (.bipush 103, 2) := by decide +kernel
theorem dX8_init_371 : decode cX8_init 371 = .ok (.castore, 1) := by decide +kernel
theorem dX8_init_372 : decode cX8_init 372 = .ok (.putfield 73, 3) := by decide +kernel
theorem dX8_init_375 : decode cX8_init 375 = .ok (.aload_n 0, 1) := by decide +kernel
theorem dX8_init_376 : decode cX8_init 376 = .ok (.iconst 4, 1) := by decide +kernel
theorem dX8_init_377 : decode cX8_init 377 = .ok (.newarray .char, 2) := by decide +kernel
theorem dX8_init_379 : decode cX8_init 379 = .ok (.dup, 1) := by decide +kernel
theorem dX8_init_380 : decode cX8_init 380 = .ok (.iconst 0, 1) := by decide +kernel
theorem dX8_init_381 : decode cX8_init 381 = .ok (.bipush 112, 2) := by decide +kernel
theorem dX8_init_383 : decode cX8_init 383 = .ok (.castore, 1) := by decide +kernel
theorem dX8_init_384 : decode cX8_init 384 = .ok (.dup, 1) := by decide +kernel
theorem dX8_init_385 : decode cX8_init 385 = .ok (.iconst 1, 1) := by decide +kernel
theorem dX8_init_386 : decode cX8_init 386 = .ok (.bipush 97, 2) := by decide +kernel
theorem dX8_init_388 : decode cX8_init 388 = .ok (.castore, 1) := by decide +kernel
theorem dX8_init_389 : decode cX8_init 389 = .ok (.dup, 1) := by decide +kernel
theorem dX8_init_390 : decode cX8_init 390 = .ok (.iconst 2, 1) := by decide +kernel
theorem dX8_init_391 : decode cX8_init 391 = .ok (.bipush 114, 2) := by decide +kernel
theorem dX8_init_393 : decode cX8_init 393 = .ok (.castore, 1) := by decide +kernel
theorem dX8_init_394 : decode cX8_init 394 = .ok (.dup, 1) := by decide +kernel
theorem dX8_init_395 : decode cX8_init 395 = .ok (.iconst 3, 1) := by decide +kernel
theorem dX8_init_396 : decode cX8_init 396 = .ok (.bipush 116, 2) := by decide +kernel
theorem dX8_init_398 : decode cX8_init 398 = .ok (.castore, 1) := by decide +kernel
theorem dX8_init_399 : decode cX8_init 399 = .ok (.putfield 76, 3) := by decide +kernel
theorem dX8_init_402 : decode cX8_init 402 = .ok (.aload_n 0, 1) := by decide +kernel
theorem dX8_init_403 : decode cX8_init 403 = .ok (.iconst 5, 1) := by decide +kernel
theorem dX8_init_404 : decode cX8_init 404 = .ok (.newarray .char, 2) := by decide +kernel
theorem dX8_init_406 : decode cX8_init 406 = .ok (.dup, 1) := by decide +kernel
theorem dX8_init_407 : decode cX8_init 407 = .ok (.iconst 0, 1) := by decide +kernel
theorem dX8_init_408 : decode cX8_init 408 = .ok (.bipush 119, 2) := by decide +kernel
theorem dX8_init_410 : decode cX8_init 410 = .ok (.castore, 1) := by decide +kernel
theorem dX8_init_411 : decode cX8_init 411 = .ok (.dup, 1) := by decide +kernel
theorem dX8_init_412 : decode cX8_init 412 = .ok (.iconst 1, 1) := by decide +kernel
theorem dX8_init_413 : decode cX8_init 413 = .ok (.bipush 104, 2) := by decide +kernel
theorem dX8_init_415 : decode cX8_init 415 = .ok (.castore, 1) := by decide +kernel
theorem dX8_init_416 : decode cX8_init 416 = .ok (.dup, 1) := by decide +kernel
theorem dX8_init_417 : decode cX8_init 417 = .ok (.iconst 2, 1) := by decide +kernel
theorem dX8_init_418 : decode cX8_init 418 = .ok (.bipush 111, 2) := by decide +kernel
theorem dX8_init_420 : decode cX8_init 420 = .ok (.castore, 1) := by decide +kernel
theorem dX8_init_421 : decode cX8_init 421 = .ok (.dup, 1) := by decide +kernel
theorem dX8_init_422 : decode cX8_init 422 = .ok (.iconst 3, 1) := by decide +kernel
theorem dX8_init_423 : decode cX8_init 423 = .ok (.bipush 108, 2) := by decide +kernel
theorem dX8_init_425 : decode cX8_init 425 = .ok (.castore, 1) := by decide +kernel
theorem dX8_init_426 : decode cX8_init 426 = .ok (.dup, 1) := by decide +kernel
theorem dX8_init_427 : decode cX8_init 427 = .ok (.iconst 4, 1) := by decide +kernel
theorem dX8_init_428 : decode cX8_init 428 = .ok (.bipush 101, 2) := by decide +kernel
theorem dX8_init_430 : decode cX8_init 430 = .ok (.castore, 1) := by decide +kernel
theorem dX8_init_431 : decode cX8_init 431 = .ok (.putfield 79, 3) := by decide +kernel
theorem dX8_init_434 : decode cX8_init 434 = .ok (.aload_n 0, 1) := by decide +kernel
theorem dX8_init_435 : decode cX8_init 435 = .ok (.iconst 4, 1) := by decide +kernel
theorem dX8_init_436 : decode cX8_init 436 = .ok (.newarray .char, 2) := by decide +kernel
theorem dX8_init_438 : decode cX8_init 438 = .ok (.dup, 1) := by decide +kernel
theorem dX8_init_439 : decode cX8_init 439 = .ok (.iconst 0, 1) := by decide +kernel
theorem dX8_init_440 : decode cX8_init 440 = .ok (.bipush 104, 2) := by decide +kernel
theorem dX8_init_442 : decode cX8_init 442 = .ok (.castore, 1) := by decide +kernel
theorem dX8_init_443 : decode cX8_init 443 = .ok (.dup, 1) := by decide +kernel
theorem dX8_init_444 : decode cX8_init 444 = .ok (.iconst 1, 1) := by decide +kernel
theorem dX8_init_445 : decode cX8_init 445 = .ok (.bipush 97, 2) := by decide +kernel
theorem dX8_init_447 : decode cX8_init 447 = .ok (.castore, 1) := by decide +kernel
theorem dX8_init_448 : decode cX8_init 448 = .ok (.dup, 1) := by decide +kernel
theorem dX8_init_449 : decode cX8_init 449 = .ok (.iconst 2, 1) := by decide +kernel
theorem dX8_init_450 : decode cX8_init 450 = .ok (.bipush 108, 2) := by decide +kernel
theorem dX8_init_452 : decode cX8_init 452 = .ok (.castore, 1) := by decide +kernel
theorem dX8_init_453 : decode cX8_init 453 = .ok (.dup, 1) := by decide +kernel
theorem dX8_init_454 : decode cX8_init 454 = .ok (.iconst 3, 1) := by decide +kernel
theorem dX8_init_455 : decode cX8_init 455 = .ok (.bipush 102, 2) := by decide +kernel
theorem dX8_init_457 : decode cX8_init 457 = .ok (.castore, 1) := by decide +kernel
theorem dX8_init_458 : decode cX8_init 458 = .ok (.putfield 82, 3) := by decide +kernel
theorem dX8_init_461 : decode cX8_init 461 = .ok (.aload_n 0, 1) := by decide +kernel
theorem dX8_init_462 : decode cX8_init 462 = .ok (.iconst 4, 1) := by decide +kernel
theorem dX8_init_463 : decode cX8_init 463 = .ok (.newarray .char, 2) := by decide +kernel
theorem dX8_init_465 : decode cX8_init 465 = .ok (.dup, 1) := by decide +kernel
theorem dX8_init_466 : decode cX8_init 466 = .ok (.iconst 0, 1) := by decide +kernel
theorem dX8_init_467 : decode cX8_init 467 = .ok (.bipush 121, 2) := by decide +kernel
theorem dX8_init_469 : decode cX8_init 469 = .ok (.castore, 1) := by decide +kernel
theorem dX8_init_470 : decode cX8_init 470 = .ok (.dup, 1) := by decide +kernel
theorem dX8_init_471 : decode cX8_init 471 = .ok (.iconst 1, 1) := by decide +kernel
theorem dX8_init_472 : decode cX8_init 472 = .ok (.bipush 101, 2) := by decide +kernel
theorem dX8_init_474 : decode cX8_init 474 = .ok (.castore, 1) := by decide +kernel
theorem dX8_init_475 : decode cX8_init 475 = .ok (.dup, 1) := by decide +kernel
theorem dX8_init_476 : decode cX8_init 476 = .ok (.iconst 2, 1) := by decide +kernel
theorem dX8_init_477 : decode cX8_init 477 = .ok (.bipush 97, 2) := by decide +kernel
theorem dX8_init_479 : decode cX8_init 479 = .ok (.castore, 1) := by decide +kernel
theorem dX8_init_480 : decode cX8_init 480 = .ok (.dup, 1) := by decide +kernel
theorem dX8_init_481 : decode cX8_init 481 = .ok (.iconst 3, 1) := by decide +kernel
theorem dX8_init_482 : decode cX8_init 482 = .ok (.bipush 114, 2) := by decide +kernel
theorem dX8_init_484 : decode cX8_init 484 = .ok (.castore, 1) := by decide +kernel
theorem dX8_init_485 : decode cX8_init 485 = .ok (.putfield 85, 3) := by decide +kernel
theorem dX8_init_488 : decode cX8_init 488 = .ok (.aload_n 0, 1) := by decide +kernel
theorem dX8_init_489 : decode cX8_init 489 = .ok (.iconst 5, 1) := by decide +kernel
theorem dX8_init_490 : decode cX8_init 490 = .ok (.newarray .char, 2) := by decide +kernel
theorem dX8_init_492 : decode cX8_init 492 = .ok (.dup, 1) := by decide +kernel
theorem dX8_init_493 : decode cX8_init 493 = .ok (.iconst 0, 1) := by decide +kernel
theorem dX8_init_494 : decode cX8_init 494 = .ok (.bipush 109, 2) := by decide +kernel
theorem dX8_init_496 : decode cX8_init 496 = .ok (.castore, 1) := by decide +kernel
theorem dX8_init_497 : decode cX8_init 497 = .ok (.dup, 1) := by decide +kernel
theorem dX8_init_498 : decode cX8_init 498 = .ok (.iconst 1, 1) := by decide +kernel
theorem dX8_init_499 : decode cX8_init 499 = .ok (.bipush 111, 2) := by decide +kernel
theorem dX8_init_501 : decode cX8_init 501 = .ok (.castore, 1) := by decide +kernel
theorem dX8_init_502 : decode cX8_init 502 = .ok (.dup, 1) := by decide +kernel
theorem dX8_init_503 : decode cX8_init 503 = .ok (.iconst 2, 1) := by decide +kernel
theorem dX8_init_504 : decode cX8_init 504 = .ok (.bipush 110, 2) := by decide +kernel
theorem dX8_init_506 : decode cX8_init 506 = .ok (.castore, 1) := by decide +kernel
theorem dX8_init_507 : decode cX8_init 507 = .ok (.dup, 1) := by decide +kernel
theorem dX8_init_508 : decode cX8_init 508 = .ok (.iconst 3, 1) := by decide +kernel
theorem dX8_init_509 : decode cX8_init 509 = .ok (.bipush 116, 2) := by decide +kernel
theorem dX8_init_511 : decode cX8_init 511 = .ok (.castore, 1) := by decide +kernel
theorem dX8_init_512 : decode cX8_init 512 = .ok (.dup, 1) := by decide +kernel
theorem dX8_init_513 : decode cX8_init 513 = .ok (.iconst 4, 1) := by decide +kernel
theorem dX8_init_514 : decode cX8_init 514 = .ok (.bipush 104, 2) := by decide +kernel
theorem dX8_init_516 : decode cX8_init 516 = .ok (.castore, 1) := by decide +kernel
theorem dX8_init_517 : decode cX8_init 517 = .ok (.putfield 88, 3) := by decide +kernel
theorem dX8_init_520 : decode cX8_init 520 = .ok (.aload_n 0, 1) := by decide +kernel
theorem dX8_init_521 : decode cX8_init 521 = .ok (.iconst 3, 1) := by decide +kernel
theorem dX8_init_522 : decode cX8_init 522 = .ok (.newarray .char, 2) := by decide +kernel
theorem dX8_init_524 : decode cX8_init 524 = .ok (.dup, 1) := by decide +kernel
theorem dX8_init_525 : decode cX8_init 525 = .ok (.iconst 0, 1) := by decide +kernel
theorem dX8_init_526 : decode cX8_init 526 = .ok (.bipush 100, 2) := by decide +kernel
theorem dX8_init_528 : decode cX8_init 528 = .ok (.castore, 1) := by decide +kernel
theorem dX8_init_529 : decode cX8_init 529 = .ok (.dup, 1) := by decide +kernel
theorem dX8_init_530 : decode cX8_init 530 = .ok (.iconst 1, 1) := by decide +kernel
theorem dX8_init_531 : decode cX8_init 531 = .ok (.bipush 97, 2) := by decide +kernel
theorem dX8_init_533 : decode cX8_init 533 = .ok (.castore, 1) := by decide +kernel
theorem dX8_init_534 : decode cX8_init 534 = .ok (.dup, 1) := by decide +kernel
theorem dX8_init_535 : decode cX8_init 535 = .ok (.iconst 2, 1) := by decide +kernel
theorem dX8_init_536 : decode cX8_init 536 = .ok (.bipush 121, 2) := by decide +kernel
theorem dX8_init_538 : decode cX8_init 538 = .ok (.castore, 1) := by decide +kernel
theorem dX8_init_539 : decode cX8_init 539 = .ok (.putfield 91, 3) := by decide +kernel
theorem dX8_init_542 : decode cX8_init 542 = .ok (.aload_n 0, 1) := by decide +kernel
theorem dX8_init_543 : decode cX8_init 543 = .ok (.iconst 4, 1) := by decide +kernel
theorem dX8_init_544 : decode cX8_init 544 = .ok (.newarray .char, 2) := by decide +kernel
theorem dX8_init_546 : decode cX8_init 546 = .ok (.dup, 1) := by decide +kernel
theorem dX8_init_547 : decode cX8_init 547 = .ok (.iconst 0, 1) := by decide +kernel
theorem dX8_init_548 : decode cX8_init 548 = .ok (.bipush 104, 2) := by decide +kernel
theorem dX8_init_550 : decode cX8_init 550 = .ok (.castore, 1) := by decide +kernel
theorem dX8_init_551 : decode cX8_init 551 = .ok (.dup, 1) := by decide +kernel
theorem dX8_init_552 : decode cX8_init 552 = .ok (.iconst 1, 1) := by decide +kernel
theorem dX8_init_553 : decode cX8_init 553 = .ok (.bipush 111, 2) := by decide +kernel
theorem dX8_init_555 : decode cX8_init 555 = .ok (.castore, 1) := by decide +kernel
theorem dX8_init_556 : decode cX8_init 556 = .ok (.dup, 1) := by decide +kernel
theorem dX8_init_557 : decode cX8_init 557 = .ok (.iconst 2, 1) := by decide +kernel
theorem dX8_init_558 : decode cX8_init 558 = .ok (.bipush 117, 2) := by decide +kernel
theorem dX8_init_560 : decode cX8_init 560 = .ok (.castore, 1) := by decide +kernel
theorem dX8_init_561 : decode cX8_init 561 = .ok (.dup, 1) := by decide +kernel
theorem dX8_init_562 : decode cX8_init 562 = .ok (.iconst 3, 1) := by decide +kernel
theorem dX8_init_563 : decode cX8_init 563 = .ok (.bipush 114, 2) := by decide +kernel
theorem dX8_init_565 : decode cX8_init 565 = .ok (.castore, 1) := by decide +kernel
theorem dX8_init_566 : decode cX8_init 566 = .ok (.putfield 94, 3) := by decide +kernel
theorem dX8_init_569 : decode cX8_init 569 = .ok (.aload_n 0, 1) := by decide +kernel
theorem dX8_init_570 : decode cX8_init 570 = .ok (.iconst 2, 1) := by decide +kernel
theorem dX8_init_571 : decode cX8_init 571 = .ok (.newarray .char, 2) := by decide +kernel
theorem dX8_init_573 : decode cX8_init 573 = .ok (.dup, 1) := by decide +kernel
theorem dX8_init_574 : decode cX8_init 574 = .ok (.iconst 0, 1) := by decide +kernel
theorem dX8_init_575 : decode cX8_init 575 = .ok (.bipush 111, 2) := by decide +kernel
theorem dX8_init_577 : decode cX8_init 577 = .ok (.castore, 1) := by decide +kernel
theorem dX8_init_578 : decode cX8_init 578 = .ok (.dup, 1) := by decide +kernel
theorem dX8_init_579 : decode cX8_init 579 = .ok (.iconst 1, 1) := by decide +kernel
theorem dX8_init_580 : decode cX8_init 580 = .ok (.bipush 102, 2) := by decide +kernel
theorem dX8_init_582 : decode cX8_init 582 = .ok (.castore, 1) := by decide +kernel
theorem dX8_init_583 : decode cX8_init 583 = .ok (.putfield 97, 3) := by decide +kernel
theorem dX8_init_586 : decode cX8_init 586 = .ok (.aload_n 0, 1) := by decide +kernel
theorem dX8_init_587 : decode cX8_init 587 = .ok (.iconst 2, 1) := by decide +kernel
theorem dX8_init_588 : decode cX8_init 588 = .ok (.newarray .char, 2) := by decide +kernel
theorem dX8_init_590 : decode cX8_init 590 = .ok (.dup, 1) := by decide +kernel
theorem dX8_init_591 : decode cX8_init 591 = .ok (.iconst 0, 1) := by decide +kernel
theorem dX8_init_592 : decode cX8_init 592 = .ok (.bipush 105, 2) := by decide +kernel
theorem dX8_init_594 : decode cX8_init 594 = .ok (.castore, 1) := by decide +kernel
theorem dX8_init_595 : decode cX8_init 595 = .ok (.dup, 1) := by decide +kernel
theorem dX8_init_596 : decode cX8_init 596 = .ok (.iconst 1, 1) := by decide +kernel
theorem dX8_init_597 : decode cX8_init 597 = .ok (.bipush 110, 2) := by decide +kernel
theorem dX8_init_599 : decode cX8_init 599 = .ok (.castore, 1) := by decide +kernel
theorem dX8_init_600 : decode cX8_init 600 = .ok (.putfield 100, 3) := by decide +kernel
theorem dX8_init_603 : decode cX8_init 603 = .ok (.aload_n 0, 1) := by decide +kernel
theorem dX8_init_604 : decode cX8_init 604 = .ok (.iconst 4, 1) := by decide +kernel
theorem dX8_init_605 : decode cX8_init 605 = .ok (.newarray .char, 2) := by decide +kernel
theorem dX8_init_607 : decode cX8_init 607 = .ok (.dup, 1) := by decide +kernel
theorem dX8_init_608 : decode cX8_init 608 = .ok (.iconst 0, 1) := by decide +kernel
theorem dX8_init_609 : decode cX8_init 609 = .ok (.bipush 101, 2) := by decide +kernel
theorem dX8_init_611 : decode cX8_init 611 = .ok (.castore, 1) := by decide +kernel
theorem dX8_init_612 : decode cX8_init 612 = .ok (.dup, 1) := by decide +kernel
theorem dX8_init_613 : decode cX8_init 613 = .ok (.iconst 1, 1) := by decide +kernel
theorem dX8_init_614 : decode cX8_init 614 = .ok (.bipush 118, 2) := by decide +kernel
theorem dX8_init_616 : decode cX8_init 616 = .ok (.castore, 1) := by decide +kernel
theorem dX8_init_617 : decode cX8_init 617 = .ok (.dup, 1) := by decide +kernel
theorem dX8_init_618 : decode cX8_init 618 = .ok (.iconst 2, 1) := by decide +kernel
theorem dX8_init_619 : decode cX8_init 619 = .ok (.bipush 101, 2) := by decide +kernel
theorem dX8_init_621 : decode cX8_init 621 = .ok (.castore, 1) := by decide +kernel
theorem dX8_init_622 : decode cX8_init 622 = .ok (.dup, 1) := by decide +kernel
theorem dX8_init_623 : decode cX8_init 623 = .ok (.iconst 3, 1) := by decide +kernel
theorem dX8_init_624 : decode cX8_init 624 = .ok (.bipush 110, 2) := by decide +kernel
theorem dX8_init_626 : decode cX8_init 626 = .ok (.castore, 1) := by decide +kernel
theorem dX8_init_627 : decode cX8_init 627 = .ok (.putfield 103, 3) := by decide +kernel
theorem dX8_init_630 : decode cX8_init 630 = .ok (.aload_n 0, 1) := by decide +kernel
theorem dX8_init_631 : decode cX8_init 631 = .ok (.iconst 4, 1) := by decide +kernel
theorem dX8_init_632 : decode cX8_init 632 = .ok (.newarray .char, 2) := by decide +kernel
theorem dX8_init_634 : decode cX8_init 634 = .ok (.dup, 1) := by decide +kernel
theorem dX8_init_635 : decode cX8_init 635 = .ok (.iconst 0, 1) := by decide +kernel
theorem dX8_init_636 : decode cX8_init 636 = .ok (.bipush 108, 2) := by decide +kernel
theorem dX8_init_638 : decode cX8_init 638 = .ok (.castore, 1) := by decide +kernel
theorem dX8_init_639 : decode cX8_init 639 = .ok (.dup, 1) := by decide +kernel
theorem dX8_init_640 : decode cX8_init 640 = .ok (.iconst 1, 1) := by decide +kernel
theorem dX8_init_641 : decode cX8_init 641 = .ok (.bipush 101, 2) := by decide +kernel
theorem dX8_init_643 : decode cX8_init 643 = .ok (.castore, 1) := by decide +kernel
theorem dX8_init_644 : decode cX8_init 644 = .ok (.dup, 1) := by decide +kernel
theorem dX8_init_645 : decode cX8_init 645 = .ok (.iconst 2, 1) := by decide +kernel
theorem dX8_init_646 : decode cX8_init 646 = .ok (.bipush 97, 2) := by decide +kernel
theorem dX8_init_648 : decode cX8_init 648 = .ok (.castore, 1) := by decide +kernel
theorem dX8_init_649 : decode cX8_init 649 = .ok (.dup, 1) := by decide +kernel
theorem dX8_init_650 : decode cX8_init 650 = .ok (.iconst 3, 1) := by decide +kernel
theorem dX8_init_651 : decode cX8_init 651 = .ok (.bipush 112, 2) := by decide +kernel
theorem dX8_init_653 : decode cX8_init 653 = .ok (.castore, 1) := by decide +kernel
theorem dX8_init_654 : decode cX8_init 654 = .ok (.putfield 106, 3) := by decide +kernel
theorem dX8_init_657 : decode cX8_init 657 = .ok (.aload_n 0, 1) := by decide +kernel
theorem dX8_init_658 : decode cX8_init 658 = .ok (.iconst 5, 1) := by decide +kernel
theorem dX8_init_659 : decode cX8_init 659 = .ok (.newarray .char, 2) := by decide +kernel
theorem dX8_init_661 : decode cX8_init 661 = .ok (.dup, 1) := by decide +kernel
theorem dX8_init_662 : decode cX8_init 662 = .ok (.iconst 0, 1) := by decide +kernel
theorem dX8_init_663 : decode cX8_init 663 = .ok (.bipush 109, 2) := by decide +kernel
theorem dX8_init_665 : decode cX8_init 665 = .ok (.castore, 1) := by decide +kernel
theorem dX8_init_666 : decode cX8_init 666 = .ok (.dup, 1) := by decide +kernel
theorem dX8_init_667 : decode cX8_init 667 = .ok (.iconst 1, 1) := by decide +kernel
theorem dX8_init_668 : decode cX8_init 668 = .ok (.bipush 111, 2) := by decide +kernel
theorem dX8_init_670 : decode cX8_init 670 = .ok (.castore, 1) := by decide +kernel
theorem dX8_init_671 : decode cX8_init 671 = .ok (.dup, 1) := by decide +kernel
theorem dX8_init_672 : decode cX8_init 672 = .ok (.iconst 2, 1) := by decide +kernel
theorem dX8_init_673 : decode cX8_init 673 = .ok (.bipush 111, 2) := by decide +kernel
theorem dX8_init_675 : decode cX8_init 675 = .ok (.castore, 1) := by decide +kernel
theorem dX8_init_676 : decode cX8_init 676 = .ok (.dup, 1) := by decide +kernel
theorem dX8_init_677 : decode cX8_init 677 = .ok (.iconst 3, 1) := by decide +kernel
theorem dX8_init_678 : decode cX8_init 678 = .ok (.bipush 110, 2) := by decide +kernel
theorem dX8_init_680 : decode cX8_init 680 = .ok (.castore, 1) := by decide +kernel
theorem dX8_init_681 : decode cX8_init 681 = .ok (.dup, 1) := by decide +kernel
theorem dX8_init_682 : decode cX8_init 682 = .ok (.iconst 4, 1) := by decide +kernel
theorem dX8_init_683 : decode cX8_init 683 = .ok (.bipush 115, 2) := by decide +kernel
theorem dX8_init_685 : decode cX8_init 685 = .ok (.castore, 1) := by decide +kernel
theorem dX8_init_686 : decode cX8_init 686 = .ok (.putfield 109, 3) := by decide +kernel
theorem dX8_init_689 : decode cX8_init 689 = .ok (.return_, 1) := by decide +kernel
theorem dX8_isIn_0 : decode cX8_isIn 0 = .ok (.iload_n 0, 1) := by decide +kernel
theorem dX8_isIn_1 : decode cX8_isIn 1 = .ok (.iload_n 1, 1) := by decide +kernel
theorem dX8_isIn_2 : decode cX8_isIn 2 = .ok (.if_icmp .lt 12, 3) := by decide +kernel
theorem dX8_isIn_5 : decode cX8_isIn 5 = .ok (.iload_n 0, 1) := by decide +kernel
theorem dX8_isIn_6 : decode cX8_isIn 6 = .ok (.iload_n 2, 1) := by decide +kernel
theorem dX8_isIn_7 : decode cX8_isIn 7 = .ok (.if_icmp .gt 7, 3) := by decide +kernel
theorem dX8_isIn_10 : decode cX8_isIn 10 = .ok (.iconst 1, 1) := by decide +kernel
theorem dX8_isIn_11 : decode cX8_isIn 11 = .ok (.goto 4, 3) := by decide +kernel
theorem dX8_isIn_14 : decode cX8_isIn 14 = .ok (.iconst 0, 1) := by decide +kernel
theorem dX8_isIn_15 : decode cX8_isIn 15 = .ok (.ireturn, 1) := by decide +kernel
theorem dX8_floor_0 : decode cX8_floor 0 = .ok (.lload_n 0, 1) := by decide +kernel
theorem dX8_floor_1 : decode cX8_floor 1 = .ok (.lload_n 2, 1) := by decide +kernel
theorem dX8_floor_2 : decode cX8_floor 2 = .ok (.ldiv, 1) := by decide +kernel
theorem dX8_floor_3 : decode cX8_floor 3 = .ok (.lstore 4, 2) := by decide +kernel
theorem dX8_floor_5 : decode cX8_floor 5 = .ok (.lload_n 0, 1) := by decide +kernel
theorem dX8_floor_6 : decode cX8_floor 6 = .ok (.lload_n 2, 1) := by decide +kernel
theorem dX8_floor_7 : decode cX8_floor 7 = .ok (.lrem, 1) := by decide +kernel
theorem dX8_floor_8 : decode cX8_floor 8 = .ok (.lconst 0, 1) := by decide +kernel
theorem dX8_floor_9 : decode cX8_floor 9 = .ok (.lcmp, 1) := by decide +kernel
theorem dX8_floor_10 : decode cX8_floor 10 = .ok (.ifCond .ge 10, 3) := by decide +kernel
