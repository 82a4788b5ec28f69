theorem dX8_floor_13 : decode cX8_floor 13 = .ok (.lload 4, 2) := by decide +kernel
theorem dX8_floor_15 : decode cX8_floor 15 = .ok (.lconst 1, 1) := by decide +kernel
theorem dX8_floor_16 : decode cX8_floor 16 = .ok (.lsub, 1) := by decide +kernel
theorem dX8_floor_17 : decode cX8_floor 17 = .ok (.goto 5, 3) := by decide +kernel
theorem dX8_floor_20 : decode cX8_floor 20 = .ok (.lload 4, 2) := by decide +kernel
theorem dX8_floor_22 : decode cX8_floor 22 = .ok (.lreturn, 1) := by decide +kernel
theorem dX8_tables_0 : decode cX8_tables 0 = .ok (.iload_n 1, 1) := by decide +kernel
theorem dX8_tables_1 : decode cX8_tables 1 = .ok (.iconst 0, 1) := by decide +kernel
theorem dX8_tables_2 : decode cX8_tables 2 = .ok (.ldc 112, 2) := by decide +kernel
theorem dX8_tables_4 : decode cX8_tables 4 = .ok (.invokestatic 113, 3) := by decide +kernel
theorem dX8_tables_7 : decode cX8_tables 7 = .ok (.ifCond .eq 23, 3) := by decide +kernel
theorem dX8_tables_10 : decode cX8_tables 10 = .ok (.iload_n 2, 1) := by decide +kernel
theorem dX8_tables_11 : decode cX8_tables 11 = .ok (.iconst 0, 1) := by decide +kernel
theorem dX8_tables_12 : decode cX8_tables 12 = .ok (.ldc 112, 2) := by decide +kernel
theorem dX8_tables_14 : decode cX8_tables 14 = .ok (.invokestatic 113, 3) := by decide +kernel
theorem dX8_tables_17 : decode cX8_tables 17 = .ok (.ifCond .eq 13, 3) := by decide +kernel
theorem dX8_tables_20 : decode cX8_tables 20 = .ok (.iload_n 3, 1) := by decide +kernel
theorem dX8_tables_21 : decode cX8_tables 21 = .ok (.iconst 0, 1) := by decide +kernel
theorem dX8_tables_22 : decode cX8_tables 22 = .ok (.ldc 112, 2) := by decide +kernel
theorem dX8_tables_24 : decode cX8_tables 24 = .ok (.invokestatic 113, 3) := by decide +kernel
theorem dX8_tables_27 : decode cX8_tables 27 = .ok (.ifCond .ne 5, 3) := by decide +kernel
theorem dX8_tables_30 : decode cX8_tables 30 = .ok (.iconst 0, 1) := by decide +kernel
theorem dX8_tables_31 : decode cX8_tables 31 = .ok (.ireturn, 1) := by decide +kernel
theorem dX8_tables_32 : decode cX8_tables 32 = .ok (.aload_n 0, 1) := by decide +kernel
theorem dX8_tables_33 : decode cX8_tables 33 = .ok (.iload_n 1, 1) := by decide +kernel
theorem dX8_tables_34 : decode cX8_tables 34 = .ok (.putfield 7, 3) := by decide +kernel
theorem dX8_tables_37 : decode cX8_tables 37 = .ok (.aload_n 0, 1) := by decide +kernel
theorem dX8_tables_38 : decode cX8_tables 38 = .ok (.iload_n 2, 1) := by decide +kernel
theorem dX8_tables_39 : decode cX8_tables 39 = .ok (.putfield 117, 3) := by decide +kernel
theorem dX8_tables_42 : decode cX8_tables 42 = .ok (.aload_n 0, 1) := by decide +kernel
theorem dX8_tables_43 : decode cX8_tables 43 = .ok (.iload_n 3, 1) := by decide +kernel
theorem dX8_tables_44 : decode cX8_tables 44 = .ok (.putfield 13, 3) := by decide +kernel
theorem dX8_tables_47 : decode cX8_tables 47 = .ok (.aload_n 0, 1) := by decide +kernel
theorem dX8_tables_48 : decode cX8_tables 48 = .ok (.iconst 0, 1) := by decide +kernel
theorem dX8_tables_49 : decode cX8_tables 49 = .ok (.putfield 120, 3) := by decide +kernel
theorem dX8_tables_52 : decode cX8_tables 52 = .ok (.iconst 1, 1) := by decide +kernel
theorem dX8_tables_53 : decode cX8_tables 53 = .ok (.ireturn, 1) := by decide +kernel
theorem dX8_moonAt_0 : decode cX8_moonAt 0 = .ok (.ldc2_w 124, 3) := by decide +kernel
theorem dX8_moonAt_3 : decode cX8_moonAt 3 = .ok (.iload_n 1, 1) := by decide +kernel
theorem dX8_moonAt_4 : decode cX8_moonAt 4 = .ok (.i2l, 1) := by decide +kernel
theorem dX8_moonAt_5 : decode cX8_moonAt 5 = .ok (.lmul, 1) := by decide +kernel
theorem dX8_moonAt_6 : decode cX8_moonAt 6 = .ok (.aload_n 0, 1) := by decide +kernel
theorem dX8_moonAt_7 : decode cX8_moonAt 7 = .ok (.getfield 7, 3) := by decide +kernel
theorem dX8_moonAt_10 : decode cX8_moonAt 10 = .ok (.i2l, 1) := by decide +kernel
theorem dX8_moonAt_11 : decode cX8_moonAt 11 = .ok (.ladd, 1) := by decide +kernel
theorem dX8_moonAt_12 : decode cX8_moonAt 12 = .ok (.ldc2_w 126, 3) := by decide +kernel
theorem dX8_moonAt_15 : decode cX8_moonAt 15 = .ok (.lrem, 1) := by decide +kernel
theorem dX8_moonAt_16 : decode cX8_moonAt 16 = .ok (.l2i, 1) := by decide +kernel
theorem dX8_moonAt_17 : decode cX8_moonAt 17 = .ok (.ireturn, 1) := by decide +kernel
theorem dX8_sunAt_0 : decode cX8_sunAt 0 = .ok (.ldc2_w 128, 3) := by decide +kernel
theorem dX8_sunAt_3 : decode cX8_sunAt 3 = .ok (.iload_n 1, 1) := by decide +kernel
theorem dX8_sunAt_4 : decode cX8_sunAt 4 = .ok (.i2l, 1) := by decide +kernel
theorem dX8_sunAt_5 : decode cX8_sunAt 5 = .ok (.lmul, 1) := by decide +kernel
theorem dX8_sunAt_6 : decode cX8_sunAt 6 = .ok (.aload_n 0, 1) := by decide +kernel
theorem dX8_sunAt_7 : decode cX8_sunAt 7 = .ok (.getfield 117, 3) := by decide +kernel
theorem dX8_sunAt_10 : decode cX8_sunAt 10 = .ok (.i2l, 1) := by decide +kernel
theorem dX8_sunAt_11 : decode cX8_sunAt 11 = .ok (.ladd, 1) := by decide +kernel
theorem dX8_sunAt_12 : decode cX8_sunAt 12 = .ok (.ldc2_w 126, 3) := by decide +kernel
theorem dX8_sunAt_15 : decode cX8_sunAt 15 = .ok (.lrem, 1) := by decide +kernel
theorem dX8_sunAt_16 : decode cX8_sunAt 16 = .ok (.l2i, 1) := by decide +kernel
theorem dX8_sunAt_17 : decode cX8_sunAt 17 = .ok (.ireturn, 1) := by decide +kernel
theorem dX8_nodeAt_0 : decode cX8_nodeAt 0 = .ok (.ldc2_w 130, 3) := by decide +kernel
theorem dX8_nodeAt_3 : decode cX8_nodeAt 3 = .ok (.iload_n 1, 1) := by decide +kernel
theorem dX8_nodeAt_4 : decode cX8_nodeAt 4 = .ok (.i2l, 1) := by decide +kernel
theorem dX8_nodeAt_5 : decode cX8_nodeAt 5 = .ok (.lmul, 1) := by decide +kernel
theorem dX8_nodeAt_6 : decode cX8_nodeAt 6 = .ok (.ldc2_w 132, 3) := by decide +kernel
theorem dX8_nodeAt_9 : decode cX8_nodeAt 9 = .ok (.ldiv, 1) := by decide +kernel
theorem dX8_nodeAt_10 : decode cX8_nodeAt 10 = .ok (.aload_n 0, 1) := by decide +kernel
theorem dX8_nodeAt_11 : decode cX8_nodeAt 11 = .ok (.getfield 13, 3) := by decide +kernel
theorem dX8_nodeAt_14 : decode cX8_nodeAt 14 = .ok (.i2l, 1) := by decide +kernel
theorem dX8_nodeAt_15 : decode cX8_nodeAt 15 = .ok (.ladd, 1) := by decide +kernel
theorem dX8_nodeAt_16 : decode cX8_nodeAt 16 = .ok (.ldc2_w 126, 3) := by decide +kernel
theorem dX8_nodeAt_19 : decode cX8_nodeAt 19 = .ok (.lrem, 1) := by decide +kernel
theorem dX8_nodeAt_20 : decode cX8_nodeAt 20 = .ok (.l2i, 1) := by decide +kernel
theorem dX8_nodeAt_21 : decode cX8_nodeAt 21 = .ok (.ireturn, 1) := by decide +kernel
theorem dX8_quarter_0 : decode cX8_quarter 0 = .ok (.iload_n 1, 1) := by decide +kernel
theorem dX8_quarter_1 : decode cX8_quarter 1 = .ok (.sipush 1000, 3) := by decide +kernel
theorem dX8_quarter_4 : decode cX8_quarter 4 = .ok (.idiv, 1) := by decide +kernel
theorem dX8_quarter_5 : decode cX8_quarter 5 = .ok (.istore_n 2, 1) := by decide +kernel
theorem dX8_quarter_6 : decode cX8_quarter 6 = .ok (.iload_n 2, 1) := by decide +kernel
theorem dX8_quarter_7 : decode cX8_quarter 7 = .ok (.bipush 9, 2) := by decide +kernel
theorem dX8_quarter_9 : decode cX8_quarter 9 = .ok (.if_icmp .ne 13, 3) := by decide +kernel
theorem dX8_quarter_12 : decode cX8_quarter 12 = .ok (.aload_n 0, 1) := by decide +kernel
theorem dX8_quarter_13 : decode cX8_quarter 13 = .ok (.getfield 26, 3) := by decide +kernel
theorem dX8_quarter_16 : decode cX8_quarter 16 = .ok (.bipush 9, 2) := by decide +kernel
theorem dX8_quarter_18 : decode cX8_quarter 18 = .ok (.iaload, 1) := by decide +kernel
theorem dX8_quarter_19 : decode cX8_quarter 19 = .ok (.goto 35, 3) := by decide +kernel
theorem dX8_quarter_22 : decode cX8_quarter 22 = .ok (.aload_n 0, 1) := by decide +kernel
theorem dX8_quarter_23 : decode cX8_quarter 23 = .ok (.getfield 26, 3) := by decide +kernel
theorem dX8_quarter_26 : decode cX8_quarter 26 = .ok (.iload_n 2, 1) := by decide +kernel
theorem dX8_quarter_27 : decode cX8_quarter 27 = .ok (.iaload, 1) := by decide +kernel
theorem dX8_quarter_28 : decode cX8_quarter 28 = .ok (.aload_n 0, 1) := by decide +kernel
theorem dX8_quarter_29 : decode cX8_quarter 29 = .ok (.getfield 26, 3) := by decide +kernel
theorem dX8_quarter_32 : decode cX8_quarter 32 = .ok (.iload_n 2, 1) := by decide +kernel
theorem dX8_quarter_33 : decode cX8_quarter 33 = .ok (.iconst 1, 1) := by decide +kernel
theorem dX8_quarter_34 : decode cX8_quarter 34 = .ok (.iadd, 1) := by decide +kernel
theorem dX8_quarter_35 : decode cX8_quarter 35 = .ok (.iaload, 1) := by decide +kernel
theorem dX8_quarter_36 : decode cX8_quarter 36 = .ok (.aload_n 0, 1) := by decide +kernel
theorem dX8_quarter_37 : decode cX8_quarter 37 = .ok (.getfield 26, 3) := by decide +kernel
theorem dX8_quarter_40 : decode cX8_quarter 40 = .ok (.iload_n 2, 1) := by decide +kernel
theorem dX8_quarter_41 : decode cX8_quarter 41 = .ok (.iaload, 1) := by decide +kernel
theorem dX8_quarter_42 : decode cX8_quarter 42 = .ok (.isub, 1) := by decide +kernel
theorem dX8_quarter_43 : decode cX8_quarter 43 = .ok (.iload_n 1, 1) := by decide +kernel
theorem dX8_quarter_44 : decode cX8_quarter 44 = .ok (.sipush 1000, 3) := by decide +kernel
theorem dX8_quarter_47 : decode cX8_quarter 47 = .ok (.irem, 1) := by decide +kernel
theorem dX8_quarter_48 : decode cX8_quarter 48 = .ok (.imul, 1) := by decide +kernel
theorem dX8_quarter_49 : decode cX8_quarter 49 = .ok (.sipush 1000, 3) := by decide +kernel
theorem dX8_quarter_52 : decode cX8_quarter 52 = .ok (.idiv, 1) := by decide +kernel
theorem dX8_quarter_53 : decode cX8_quarter 53 = .ok (.iadd, 1) := by decide +kernel
theorem dX8_quarter_54 : decode cX8_quarter 54 = .ok (.ireturn, 1) := by decide +kernel
theorem dX8_wave_0 : decode cX8_wave 0 = .ok (.iload_n 1, 1) := by decide +kernel
theorem dX8_wave_1 : decode cX8_wave 1 = .ok (.sipush 18000, 3) := by decide +kernel
theorem dX8_wave_4 : decode cX8_wave 4 = .ok (.if_icmp .le 11, 3) := by decide +kernel
theorem dX8_wave_7 : decode cX8_wave 7 = .ok (.iload_n 1, 1) := by decide +kernel
theorem dX8_wave_8 : decode cX8_wave 8 = .ok (.sipush 18000, 3) := by decide +kernel
theorem dX8_wave_11 : decode cX8_wave 11 = .ok (.isub, 1) := by decide +kernel
theorem dX8_wave_12 : decode cX8_wave 12 = .ok (.goto 4, 3) := by decide +kernel
theorem dX8_wave_15 : decode cX8_wave 15 = .ok (.iload_n 1, 1) := by decide +kernel
theorem dX8_wave_16 : decode cX8_wave 16 = .ok (.istore_n 2, 1) := by decide +kernel
theorem dX8_wave_17 : decode cX8_wave 17 = .ok (.aload_n 0, 1) := by decide +kernel
theorem dX8_wave_18 : decode cX8_wave 18 = .ok (.iload_n 2, 1) := by decide +kernel
theorem dX8_wave_19 : decode cX8_wave 19 = .ok (.sipush 9000, 3) := by decide +kernel
theorem dX8_wave_22 : decode cX8_wave 22 = .ok (.if_icmp .le 11, 3) := by decide +kernel
theorem dX8_wave_25 : decode cX8_wave 25 = .ok (.sipush 18000, 3) := by decide +kernel
theorem dX8_wave_28 : decode cX8_wave 28 = .ok (.iload_n 2, 1) := by decide +kernel
theorem dX8_wave_29 : decode cX8_wave 29 = .ok (.isub, 1) := by decide +kernel
theorem dX8_wave_30 : decode cX8_wave 30 = .ok (.goto 4, 3) := by decide +kernel
theorem dX8_wave_33 : decode cX8_wave 33 = .ok (.iload_n 2, 1) := by decide +kernel
theorem dX8_wave_34 : decode cX8_wave 34 = .ok (.invokevirtual 134, 3) := by decide +kernel
theorem dX8_wave_37 : decode cX8_wave 37 = .ok (.istore_n 3, 1) := by decide +kernel
theorem dX8_wave_38 : decode cX8_wave 38 = .ok (.iload_n 1, 1) := by decide +kernel
theorem dX8_wave_39 : decode cX8_wave 39 = .ok (.sipush 18000, 3) := by decide +kernel
theorem dX8_wave_42 : decode cX8_wave 42 = .ok (.if_icmp .le 8, 3) := by decide +kernel
theorem dX8_wave_45 : decode cX8_wave 45 = .ok (.iload_n 3, 1) := by decide +kernel
theorem dX8_wave_46 : decode cX8_wave 46 = .ok (.ineg, 1) := by decide +kernel
theorem dX8_wave_47 : decode cX8_wave 47 = .ok (.goto 4, 3) := by decide +kernel
theorem dX8_wave_50 : decode cX8_wave 50 = .ok (.iload_n 3, 1) := by decide +kernel
theorem dX8_wave_51 : decode cX8_wave 51 = .ok (.ireturn, 1) := by decide +kernel
theorem dX8_timeOf_0 : decode cX8_timeOf 0 = .ok (.ldc2_w 138, 3) := by decide +kernel
theorem dX8_timeOf_3 : decode cX8_timeOf 3 = .ok (.iload_n 1, 1) := by decide +kernel
theorem dX8_timeOf_4 : decode cX8_timeOf 4 = .ok (.i2l, 1) := by decide +kernel
theorem dX8_timeOf_5 : decode cX8_timeOf 5 = .ok (.lmul, 1) := by decide +kernel
theorem dX8_timeOf_6 : decode cX8_timeOf 6 = .ok (.ldc2_w 140, 3) := by decide +kernel
theorem dX8_timeOf_9 : decode cX8_timeOf 9 = .ok (.ldiv, 1) := by decide +kernel
theorem dX8_timeOf_10 : decode cX8_timeOf 10 = .ok (.ldc2_w 142, 3) := by decide +kernel
theorem dX8_timeOf_13 : decode cX8_timeOf 13 = .ok (.aload_n 0, 1) := by decide +kernel
theorem dX8_timeOf_14 : decode cX8_timeOf 14 = .ok (.aload_n 0, 1) := by decide +kernel
theorem dX8_timeOf_15 : decode cX8_timeOf 15 = .ok (.iload_n 1, 1) := by decide +kernel
theorem dX8_timeOf_16 : decode cX8_timeOf 16 = .ok (.invokevirtual 144, 3) := by decide +kernel
theorem dX8_timeOf_19 : decode cX8_timeOf 19 = .ok (.invokevirtual 147, 3) := by decide +kernel
theorem dX8_timeOf_22 : decode cX8_timeOf 22 = .ok (.i2l, 1) := by decide +kernel
theorem dX8_timeOf_23 : decode cX8_timeOf 23 = .ok (.lmul, 1) := by decide +kernel
theorem dX8_timeOf_24 : decode cX8_timeOf 24 = .ok (.ldc2_w 150, 3) := by decide +kernel
theorem dX8_timeOf_27 : decode cX8_timeOf 27 = .ok (.invokestatic 152, 3) := by decide +kernel
theorem dX8_timeOf_30 : decode cX8_timeOf 30 = .ok (.lsub, 1) := by decide +kernel
theorem dX8_timeOf_31 : decode cX8_timeOf 31 = .ok (.ldc2_w 156, 3) := by decide +kernel
theorem dX8_timeOf_34 : decode cX8_timeOf 34 = .ok (.aload_n 0, 1) := by decide +kernel
theorem dX8_timeOf_35 : decode cX8_timeOf 35 = .ok (.aload_n 0, 1) := by decide +kernel
theorem dX8_timeOf_36 : decode cX8_timeOf 36 = .ok (.iload_n 1, 1) := by decide +kernel
theorem dX8_timeOf_37 : decode cX8_timeOf 37 = .ok (.invokevirtual 158, 3) := by decide +kernel
theorem dX8_timeOf_40 : decode cX8_timeOf 40 = .ok (.invokevirtual 147, 3) := by decide +kernel
theorem dX8_timeOf_43 : decode cX8_timeOf 43 = .ok (.i2l, 1) := by decide +kernel
theorem dX8_timeOf_44 : decode cX8_timeOf 44 = .ok (.lmul, 1) := by decide +kernel
theorem dX8_timeOf_45 : decode cX8_timeOf 45 = .ok (.ldc2_w 150, 3) := by decide +kernel
theorem dX8_timeOf_48 : decode cX8_timeOf 48 = .ok (.invokestatic 152, 3) := by decide +kernel
theorem dX8_timeOf_51 : decode cX8_timeOf 51 = .ok (.ladd, 1) := by decide +kernel
theorem dX8_timeOf_52 : decode cX8_timeOf 52 = .ok (.ldc2_w 150, 3) := by decide +kernel
theorem dX8_timeOf_55 : decode cX8_timeOf 55 = .ok (.ladd, 1) := by decide +kernel
theorem dX8_timeOf_56 : decode cX8_timeOf 56 = .ok (.l2i, 1) := by decide +kernel
theorem dX8_timeOf_57 : decode cX8_timeOf 57 = .ok (.ireturn, 1) := by decide +kernel
theorem dX8_sortOf_0 : decode cX8_sortOf 0 = .ok (.aload_n 0, 1) := by decide +kernel
theorem dX8_sortOf_1 : decode cX8_sortOf 1 = .ok (.iload_n 1, 1) := by decide +kernel
theorem dX8_sortOf_2 : decode cX8_sortOf 2 = .ok (.invokevirtual 161, 3) := by decide +kernel
theorem dX8_sortOf_5 : decode cX8_sortOf 5 = .ok (.istore_n 2, 1) := by decide +kernel
theorem dX8_sortOf_6 : decode cX8_sortOf 6 = .ok (.iload_n 2, 1) := by decide +kernel
theorem dX8_sortOf_7 : decode cX8_sortOf 7 = .ok (.sipush 18000, 3) := by decide +kernel
theorem dX8_sortOf_10 : decode cX8_sortOf 10 = .ok (.irem, 1) := by decide +kernel
theorem dX8_sortOf_11 : decode cX8_sortOf 11 = .ok (.istore_n 3, 1) := by decide +kernel
theorem dX8_sortOf_12 : decode cX8_sortOf 12 = .ok (.iload_n 3, 1) := by decide +kernel
theorem dX8_sortOf_13 : decode cX8_sortOf 13 = .ok (.sipush 9000, 3) := by decide +kernel
theorem dX8_sortOf_16 : decode cX8_sortOf 16 = .ok (.if_icmp .le 9, 3) := by decide +kernel
theorem dX8_sortOf_19 : decode cX8_sortOf 19 = .ok (.sipush 18000, 3) := by decide +kernel
theorem dX8_sortOf_22 : decode cX8_sortOf 22 = .ok (.iload_n 3, 1) := by decide +kernel
theorem dX8_sortOf_23 : decode cX8_sortOf 23 = .ok (.isub, 1) := by decide +kernel
theorem dX8_sortOf_24 : decode cX8_sortOf 24 = .ok (.istore_n 3, 1) := by decide +kernel
theorem dX8_sortOf_25 : decode cX8_sortOf 25 = .ok (.iload_n 1, 1) := by decide +kernel
theorem dX8_sortOf_26 : decode cX8_sortOf 26 = .ok (.iconst 2, 1) := by decide +kernel
theorem dX8_sortOf_27 : decode cX8_sortOf 27 = .ok (.irem, 1) := by decide +kernel
theorem dX8_sortOf_28 : decode cX8_sortOf 28 = .ok (.iconst 1, 1) := by decide +kernel
theorem dX8_sortOf_29 : decode cX8_sortOf 29 = .ok (.if_icmp .ne 27, 3) := by decide +kernel
theorem dX8_sortOf_32 : decode cX8_sortOf 32 = .ok (.iload_n 3, 1) := by decide +kernel
theorem dX8_sortOf_33 : decode cX8_sortOf 33 = .ok (.sipush 480, 3) := by decide +kernel
theorem dX8_sortOf_36 : decode cX8_sortOf 36 = .ok (.if_icmp .gt 7, 3) := by decide +kernel
theorem dX8_sortOf_39 : decode cX8_sortOf 39 = .ok (.iconst 4, 1) := by decide +kernel
theorem dX8_sortOf_40 : decode cX8_sortOf 40 = .ok (.goto 15, 3) := by decide +kernel
theorem dX8_sortOf_43 : decode cX8_sortOf 43 = .ok (.iload_n 3, 1) := by decide +kernel
theorem dX8_sortOf_44 : decode cX8_sortOf 44 = .ok (.sipush 1080, 3) := by decide +kernel
theorem dX8_sortOf_47 : decode cX8_sortOf 47 = .ok (.if_icmp .gt 7, 3) := by decide +kernel
theorem dX8_sortOf_50 : decode cX8_sortOf 50 = .ok (.iconst 5, 1) := by decide +kernel
theorem dX8_sortOf_51 : decode cX8_sortOf 51 = .ok (.goto 4, 3) := by decide +kernel
theorem dX8_sortOf_54 : decode cX8_sortOf 54 = .ok (.iconst 0, 1) := by decide +kernel
theorem dX8_sortOf_55 : decode cX8_sortOf 55 = .ok (.ireturn, 1) := by decide +kernel
theorem dX8_sortOf_56 : decode cX8_sortOf 56 = .ok (.aload_n 0, 1) := by decide +kernel
theorem dX8_sortOf_57 : decode cX8_sortOf 57 = .ok (.iload_n 1, 1) := by decide +kernel
theorem dX8_sortOf_58 : decode cX8_sortOf 58 = .ok (.invokevirtual 144, 3) := by decide +kernel
theorem dX8_sortOf_61 : decode cX8_sortOf 61 = .ok (.istore 4, 2) := by decide +kernel
theorem dX8_sortOf_63 : decode cX8_sortOf 63 = .ok (.iload_n 3, 1) := by decide +kernel
theorem dX8_sortOf_64 : decode cX8_sortOf 64 = .ok (.sipush 1000, 3) := by decide +kernel
theorem dX8_sortOf_67 : decode cX8_sortOf 67 = .ok (.if_icmp .gt 27, 3) := by decide +kernel
theorem dX8_sortOf_70 : decode cX8_sortOf 70 = .ok (.iload 4, 2) := by decide +kernel
theorem dX8_sortOf_72 : decode cX8_sortOf 72 = .ok (.sipush 9000, 3) := by decide +kernel
theorem dX8_sortOf_75 : decode cX8_sortOf 75 = .ok (.if_icmp .lt 11, 3) := by decide +kernel
theorem dX8_sortOf_78 : decode cX8_sortOf 78 = .ok (.iload 4, 2) := by decide +kernel
theorem dX8_sortOf_80 : decode cX8_sortOf 80 = .ok (.sipush 27000, 3) := by decide +kernel
theorem dX8_sortOf_83 : decode cX8_sortOf 83 = .ok (.if_icmp .lt 7, 3) := by decide +kernel
theorem dX8_sortOf_86 : decode cX8_sortOf 86 = .ok (.iconst 1, 1) := by decide +kernel
theorem dX8_sortOf_87 : decode cX8_sortOf 87 = .ok (.goto 19, 3) := by decide +kernel
theorem dX8_sortOf_90 : decode cX8_sortOf 90 = .ok (.iconst 2, 1) := by decide +kernel
theorem dX8_sortOf_91 : decode cX8_sortOf 91 = .ok (.goto 15, 3) := by decide +kernel
theorem dX8_sortOf_94 : decode cX8_sortOf 94 = .ok (.iload_n 3, 1) := by decide +kernel
theorem dX8_sortOf_95 : decode cX8_sortOf 95 = .ok (.sipush 1550, 3) := by decide +kernel
theorem dX8_sortOf_98 : decode cX8_sortOf 98 = .ok (.if_icmp .gt 7, 3) := by decide +kernel
theorem dX8_sortOf_101 : decode cX8_sortOf 101 = .ok (.iconst 3, 1) := by decide +kernel
theorem dX8_sortOf_102 : decode cX8_sortOf 102 = .ok (.goto 4, 3) := by decide +kernel
theorem dX8_sortOf_105 : decode cX8_sortOf 105 = .ok (.iconst 0, 1) := by decide +kernel
theorem dX8_sortOf_106 : decode cX8_sortOf 106 = .ok (.ireturn, 1) := by decide +kernel
theorem dX8_isMoon_0 : decode cX8_isMoon 0 = .ok (.iload_n 0, 1) := by decide +kernel
theorem dX8_isMoon_1 : decode cX8_isMoon 1 = .ok (.ifCond .lt 14, 3) := by decide +kernel
theorem dX8_isMoon_4 : decode cX8_isMoon 4 = .ok (.iload_n 0, 1) := by decide +kernel
theorem dX8_isMoon_5 : decode cX8_isMoon 5 = .ok (.sipush 12000, 3) := by decide +kernel
theorem dX8_isMoon_8 : decode cX8_isMoon 8 = .ok (.if_icmp .gt 7, 3) := by decide +kernel
theorem dX8_isMoon_11 : decode cX8_isMoon 11 = .ok (.iconst 1, 1) := by decide +kernel
theorem dX8_isMoon_12 : decode cX8_isMoon 12 = .ok (.goto 4, 3) := by decide +kernel
theorem dX8_isMoon_15 : decode cX8_isMoon 15 = .ok (.iconst 0, 1) := by decide +kernel
theorem dX8_isMoon_16 : decode cX8_isMoon 16 = .ok (.ireturn, 1) := by decide +kernel
theorem dX8_moon_0 : decode cX8_moon 0 = .ok (.iload_n 1, 1) := by decide +kernel
theorem dX8_moon_1 : decode cX8_moon 1 = .ok (.invokestatic 164, 3) := by decide +kernel
theorem dX8_moon_4 : decode cX8_moon 4 = .ok (.ifCond .ne 5, 3) := by decide +kernel
theorem dX8_moon_7 : decode cX8_moon 7 = .ok (.iconst (-1), 1) := by decide +kernel
theorem dX8_moon_8 : decode cX8_moon 8 = .ok (.ireturn, 1) := by decide +kernel
theorem dX8_moon_9 : decode cX8_moon 9 = .ok (.iload_n 2, 1) := by decide +kernel
theorem dX8_moon_10 : decode cX8_moon 10 = .ok (.tableswitch 64 0 4 #[34, 40, 46, 52, 58], 34) := by decide +kernel
theorem dX8_moon_44 : decode cX8_moon 44 = .ok (.aload_n 0, 1) := by decide +kernel
theorem dX8_moon_45 : decode cX8_moon 45 = .ok (.iload_n 1, 1) := by decide +kernel
theorem dX8_moon_46 : decode cX8_moon 46 = .ok (.invokevirtual 144, 3) := by decide +kernel
theorem dX8_moon_49 : decode cX8_moon 49 = .ok (.ireturn, 1) := by decide +kernel
theorem dX8_moon_50 : decode cX8_moon 50 = .ok (.aload_n 0, 1) := by decide +kernel
theorem dX8_moon_51 : decode cX8_moon 51 = .ok (.iload_n 1, 1) := by decide +kernel
theorem dX8_moon_52 : decode cX8_moon 52 = .ok (.invokevirtual 158, 3) := by decide +kernel
theorem dX8_moon_55 : decode cX8_moon 55 = .ok (.ireturn, 1) := by decide +kernel
theorem dX8_moon_56 : decode cX8_moon 56 = .ok (.aload_n 0, 1) := by decide +kernel
theorem dX8_moon_57 : decode cX8_moon 57 = .ok (.iload_n 1, 1) := by decide +kernel
theorem dX8_moon_58 : decode cX8_moon 58 = .ok (.invokevirtual 161, 3) := by decide +kernel
theorem dX8_moon_61 : decode cX8_moon 61 = .ok (.ireturn, 1) := by decide +kernel
theorem dX8_moon_62 : decode cX8_moon 62 = .ok (.aload_n 0, 1) := by decide +kernel
theorem dX8_moon_63 : decode cX8_moon 63 = .ok (.iload_n 1, 1) := by decide +kernel
theorem dX8_moon_64 : decode cX8_moon 64 = .ok (.invokevirtual 168, 3) := by decide +kernel
theorem dX8_moon_67 : decode cX8_moon 67 = .ok (.ireturn, 1) := by decide +kernel
theorem dX8_moon_68 : decode cX8_moon 68 = .ok (.aload_n 0, 1) := by decide +kernel
theorem dX8_moon_69 : decode cX8_moon 69 = .ok (.iload_n 1, 1) := by decide +kernel
theorem dX8_moon_70 : decode cX8_moon 70 = .ok (.invokevirtual 171, 3) := by decide +kernel
theorem dX8_moon_73 : decode cX8_moon 73 = .ok (.ireturn, 1) := by decide +kernel
theorem dX8_moon_74 : decode cX8_moon 74 = .ok (.iconst (-1), 1) := by decide +kernel
theorem dX8_moon_75 : decode cX8_moon 75 = .ok (.ireturn, 1) := by decide +kernel
theorem dX8_notes_0 : decode cX8_notes 0 = .ok (.aload_n 0, 1) := by decide +kernel
theorem dX8_notes_1 : decode cX8_notes 1 = .ok (.getfield 120, 3) := by decide +kernel
theorem dX8_notes_4 : decode cX8_notes 4 = .ok (.ifCond .eq 4, 3) := by decide +kernel
theorem dX8_notes_7 : decode cX8_notes 7 = .ok (.return_, 1) := by decide +kernel
theorem dX8_notes_8 : decode cX8_notes 8 = .ok (.aload_n 0, 1) := by decide +kernel
theorem dX8_notes_9 : decode cX8_notes 9 = .ok (.iconst 1, 1) := by decide +kernel
theorem dX8_notes_10 : decode cX8_notes 10 = .ok (.putfield 120, 3) := by decide +kernel
theorem dX8_notes_13 : decode cX8_notes 13 = .ok (.aload_n 0, 1) := by decide +kernel
theorem dX8_notes_14 : decode cX8_notes 14 = .ok (.iconst 0, 1) := by decide +kernel
theorem dX8_notes_15 : decode cX8_notes 15 = .ok (.putfield 174, 3) := by decide +kernel
theorem dX8_notes_18 : decode cX8_notes 18 = .ok (.iconst 0, 1) := by decide +kernel
theorem dX8_notes_19 : decode cX8_notes 19 = .ok (.istore_n 1, 1) := by decide +kernel
theorem dX8_notes_20 : decode cX8_notes 20 = .ok (.iload_n 1, 1) := by decide +kernel
theorem dX8_notes_21 : decode cX8_notes 21 = .ok (.sipush 12000, 3) := by decide +kernel
theorem dX8_notes_24 : decode cX8_notes 24 = .ok (.if_icmp .gt 66, 3) := by decide +kernel
theorem dX8_notes_27 : decode cX8_notes 27 = .ok (.aload_n 0, 1) := by decide +kernel
theorem dX8_notes_28 : decode cX8_notes 28 = .ok (.iload_n 1, 1) := by decide +kernel
theorem dX8_notes_29 : decode cX8_notes 29 = .ok (.invokevirtual 171, 3) := by decide +kernel
theorem dX8_notes_32 : decode cX8_notes 32 = .ok (.istore_n 2, 1) := by decide +kernel
theorem dX8_notes_33 : decode cX8_notes 33 = .ok (.iload_n 2, 1) := by decide +kernel
theorem dX8_notes_34 : decode cX8_notes 34 = .ok (.ifCond .ne 6, 3) := by decide +kernel
theorem dX8_notes_37 : decode cX8_notes 37 = .ok (.goto 47, 3) := by decide +kernel
theorem dX8_notes_40 : decode cX8_notes 40 = .ok (.aload_n 0, 1) := by decide +kernel
theorem dX8_notes_41 : decode cX8_notes 41 = .ok (.getfield 16, 3) := by decide +kernel
theorem dX8_notes_44 : decode cX8_notes 44 = .ok (.aload_n 0, 1) := by decide +kernel
theorem dX8_notes_45 : decode cX8_notes 45 = .ok (.getfield 174, 3) := by decide +kernel
theorem dX8_notes_48 : decode cX8_notes 48 = .ok (.iload_n 1, 1) := by decide +kernel
theorem dX8_notes_49 : decode cX8_notes 49 = .ok (.iastore, 1) := by decide +kernel
theorem dX8_notes_50 : decode cX8_notes 50 = .ok (.aload_n 0, 1) := by decide +kernel
theorem dX8_notes_51 : decode cX8_notes 51 = .ok (.getfield 20, 3) := by decide +kernel
theorem dX8_notes_54 : decode cX8_notes 54 = .ok (.aload_n 0, 1) := by decide +kernel
theorem dX8_notes_55 : decode cX8_notes 55 = .ok (.getfield 174, 3) := by decide +kernel
theorem dX8_notes_58 : decode cX8_notes 58 = .ok (.iload_n 2, 1) := by decide +kernel
theorem dX8_notes_59 : decode cX8_notes 59 = .ok (.iastore, 1) := by decide +kernel
theorem dX8_notes_60 : decode cX8_notes 60 = .ok (.aload_n 0, 1) := by decide +kernel
theorem dX8_notes_61 : decode cX8_notes 61 = .ok (.getfield 23, 3) := by decide +kernel
theorem dX8_notes_64 : decode cX8_notes 64 = .ok (.aload_n 0, 1) := by decide +kernel
theorem dX8_notes_65 : decode cX8_notes 65 = .ok (.getfield 174, 3) := by decide +kernel
theorem dX8_notes_68 : decode cX8_notes 68 = .ok (.aload_n 0, 1) := by decide +kernel
theorem dX8_notes_69 : decode cX8_notes 69 = .ok (.iload_n 1, 1) := by decide +kernel
theorem dX8_notes_70 : decode cX8_notes 70 = .ok (.invokevirtual 168, 3) := by decide +kernel
theorem dX8_notes_73 : decode cX8_notes 73 = .ok (.iastore, 1) := by decide +kernel
theorem dX8_notes_74 : decode cX8_notes 74 = .ok (.aload_n 0, 1) := by decide +kernel
theorem dX8_notes_75 : decode cX8_notes 75 = .ok (.dup, 1) := by decide +kernel
theorem dX8_notes_76 : decode cX8_notes 76 = .ok (.getfield 174, 3) := by decide +kernel
theorem dX8_notes_79 : decode cX8_notes 79 = .ok (.iconst 1, 1) := by decide +kernel
theorem dX8_notes_80 : decode cX8_notes 80 = .ok (.iadd, 1) := by decide +kernel
theorem dX8_notes_81 : decode cX8_notes 81 = .ok (.putfield 174, 3) := by decide +kernel
theorem dX8_notes_84 : decode cX8_notes 84 = .ok (.iinc 1 1, 3) := by decide +kernel
theorem dX8_notes_87 : decode cX8_notes 87 = .ok (.goto (-67), 3) := by decide +kernel
theorem dX8_notes_90 : decode cX8_notes 90 = .ok (.return_, 1) := by decide +kernel
theorem dX8_next_0 : decode cX8_next 0 = .ok (.iload_n 1, 1) := by decide +kernel
theorem dX8_next_1 : decode cX8_next 1 = .ok (.invokestatic 164, 3) := by decide +kernel
theorem dX8_next_4 : decode cX8_next 4 = .ok (.ifCond .eq 8, 3) := by decide +kernel
theorem dX8_next_7 : decode cX8_next 7 = .ok (.iload_n 2, 1) := by decide +kernel
theorem dX8_next_8 : decode cX8_next 8 = .ok (.iconst 1, 1) := by decide +kernel
theorem dX8_next_9 : decode cX8_next 9 = .ok (.if_icmp .ge 5, 3) := by decide +kernel
theorem dX8_next_12 : decode cX8_next 12 = .ok (.iconst (-1), 1) := by decide +kernel
theorem dX8_next_13 : decode cX8_next 13 = .ok (.ireturn, 1) := by decide +kernel
theorem dX8_next_14 : decode cX8_next 14 = .ok (.aload_n 0, 1) := by decide +kernel
theorem dX8_next_15 : decode cX8_next 15 = .ok (.invokevirtual 177, 3) := by decide +kernel
theorem dX8_next_18 : decode cX8_next 18 = .ok (.iload_n 2, 1) := by decide +kernel
theorem dX8_next_19 : decode cX8_next 19 = .ok (.istore 4, 2) := by decide +kernel
theorem dX8_next_21 : decode cX8_next 21 = .ok (.iconst 0, 1) := by decide +kernel
theorem dX8_next_22 : decode cX8_next 22 = .ok (.istore 5, 2) := by decide +kernel
theorem dX8_next_24 : decode cX8_next 24 = .ok (.iload 5, 2) := by decide +kernel
theorem dX8_next_26 : decode cX8_next 26 = .ok (.aload_n 0, 1) := by decide +kernel
theorem dX8_next_27 : decode cX8_next 27 = .ok (.getfield 174, 3) := by decide +kernel
theorem dX8_next_30 : decode cX8_next 30 = .ok (.if_icmp .ge 53, 3) := by decide +kernel
theorem dX8_next_33 : decode cX8_next 33 = .ok (.aload_n 0, 1) := by decide +kernel
theorem dX8_next_34 : decode cX8_next 34 = .ok (.getfield 16, 3) := by decide +kernel
theorem dX8_next_37 : decode cX8_next 37 = .ok (.iload 5, 2) := by decide +kernel
theorem dX8_next_39 : decode cX8_next 39 = .ok (.iaload, 1) := by decide +kernel
theorem dX8_next_40 : decode cX8_next 40 = .ok (.iload_n 1, 1) := by decide +kernel
theorem dX8_next_41 : decode cX8_next 41 = .ok (.if_icmp .lt 36, 3) := by decide +kernel
theorem dX8_next_44 : decode cX8_next 44 = .ok (.iload_n 3, 1) := by decide +kernel
theorem dX8_next_45 : decode cX8_next 45 = .ok (.aload_n 0, 1) := by decide +kernel
theorem dX8_next_46 : decode cX8_next 46 = .ok (.getfield 20, 3) := by decide +kernel
theorem dX8_next_49 : decode cX8_next 49 = .ok (.iload 5, 2) := by decide +kernel
theorem dX8_next_51 : decode cX8_next 51 = .ok (.iaload, 1) := by decide +kernel
theorem dX8_next_52 : decode cX8_next 52 = .ok (.ishr, 1) := by decide +kernel
theorem dX8_next_53 : decode cX8_next 53 = .ok (.iconst 1, 1) := by decide +kernel
theorem dX8_next_54 : decode cX8_next 54 = .ok (.iand, 1) := by decide +kernel
theorem dX8_next_55 : decode cX8_next 55 = .ok (.ifCond .ne 6, 3) := by decide +kernel
theorem dX8_next_58 : decode cX8_next 58 = .ok (.goto 19, 3) := by decide +kernel
theorem dX8_next_61 : decode cX8_next 61 = .ok (.iinc 4 (-1), 3) := by decide +kernel
theorem dX8_next_64 : decode cX8_next 64 = .ok (.iload 4, 2) := by decide +kernel
theorem dX8_next_66 : decode cX8_next 66 = .ok (.ifCond .ne 11, 3) := by decide +kernel
theorem dX8_next_69 : decode cX8_next 69 = .ok (.aload_n 0, 1) := by decide +kernel
theorem dX8_next_70 : decode cX8_next 70 = .ok (.getfield 16, 3) := by decide +kernel
theorem dX8_next_73 : decode cX8_next 73 = .ok (.iload 5, 2) := by decide +kernel
theorem dX8_next_75 : decode cX8_next 75 = .ok (.iaload, 1) := by decide +kernel
theorem dX8_next_76 : decode cX8_next 76 = .ok (.ireturn, 1) := by decide +kernel
theorem dX8_next_77 : decode cX8_next 77 = .ok (.iinc 5 1, 3) := by decide +kernel
theorem dX8_next_80 : decode cX8_next 80 = .ok (.goto (-56), 3) := by decide +kernel
theorem dX8_next_83 : decode cX8_next 83 = .ok (.iconst (-1), 1) := by decide +kernel
theorem dX8_next_84 : decode cX8_next 84 = .ok (.ireturn, 1) := by decide +kernel
theorem dX8_many_0 : decode cX8_many 0 = .ok (.iload_n 1, 1) := by decide +kernel
theorem dX8_many_1 : decode cX8_many 1 = .ok (.invokestatic 164, 3) := by decide +kernel
theorem dX8_many_4 : decode cX8_many 4 = .ok (.ifCond .eq 15, 3) := by decide +kernel
theorem dX8_many_7 : decode cX8_many 7 = .ok (.iload_n 2, 1) := by decide +kernel
theorem dX8_many_8 : decode cX8_many 8 = .ok (.invokestatic 164, 3) := by decide +kernel
theorem dX8_many_11 : decode cX8_many 11 = .ok (.ifCond .eq 8, 3) := by decide +kernel
theorem dX8_many_14 : decode cX8_many 14 = .ok (.iload_n 1, 1) := by decide +kernel
theorem dX8_many_15 : decode cX8_many 15 = .ok (.iload_n 2, 1) := by decide +kernel
theorem dX8_many_16 : decode cX8_many 16 = .ok (.if_icmp .le 5, 3) := by decide +kernel
theorem dX8_many_19 : decode cX8_many 19 = .ok (.iconst (-1), 1) := by decide +kernel
theorem dX8_many_20 : decode cX8_many 20 = .ok (.ireturn, 1) := by decide +kernel
theorem dX8_many_21 : decode cX8_many 21 = .ok (.aload_n 0, 1) := by decide +kernel
theorem dX8_many_22 : decode cX8_many 22 = .ok (.invokevirtual 177, 3) := by decide +kernel
theorem dX8_many_25 : decode cX8_many 25 = .ok (.iconst 0, 1) := by decide +kernel
theorem dX8_many_26 : decode cX8_many 26 = .ok (.istore 4, 2) := by decide +kernel
theorem dX8_many_28 : decode cX8_many 28 = .ok (.iconst 0, 1) := by decide +kernel
theorem dX8_many_29 : decode cX8_many 29 = .ok (.istore 5, 2) := by decide +kernel
theorem dX8_many_31 : decode cX8_many 31 = .ok (.iload 5, 2) := by decide +kernel
theorem dX8_many_33 : decode cX8_many 33 = .ok (.aload_n 0, 1) := by decide +kernel
theorem dX8_many_34 : decode cX8_many 34 = .ok (.getfield 174, 3) := by decide +kernel
theorem dX8_many_37 : decode cX8_many 37 = .ok (.if_icmp .ge 49, 3) := by decide +kernel
theorem dX8_many_40 : decode cX8_many 40 = .ok (.aload_n 0, 1) := by decide +kernel
theorem dX8_many_41 : decode cX8_many 41 = .ok (.getfield 16, 3) := by decide +kernel
theorem dX8_many_44 : decode cX8_many 44 = .ok (.iload 5, 2) := by decide +kernel
theorem dX8_many_46 : decode cX8_many 46 = .ok (.iaload, 1) := by decide +kernel
theorem dX8_many_47 : decode cX8_many 47 = .ok (.iload_n 1, 1) := by decide +kernel
theorem dX8_many_48 : decode cX8_many 48 = .ok (.if_icmp .lt 32, 3) := by decide +kernel
theorem dX8_many_51 : decode cX8_many 51 = .ok (.aload_n 0, 1) := by decide +kernel
theorem dX8_many_52 : decode cX8_many 52 = .ok (.getfield 16, 3) := by decide +kernel
theorem dX8_many_55 : decode cX8_many 55 = .ok (.iload 5, 2) := by decide +kernel
theorem dX8_many_57 : decode cX8_many 57 = .ok (.iaload, 1) := by decide +kernel
theorem dX8_many_58 : decode cX8_many 58 = .ok (.iload_n 2, 1) := by decide +kernel
theorem dX8_many_59 : decode cX8_many 59 = .ok (.if_icmp .gt 21, 3) := by decide +kernel
theorem dX8_many_62 : decode cX8_many 62 = .ok (.iload_n 3, 1) := by decide +kernel
theorem dX8_many_63 : decode cX8_many 63 = .ok (.aload_n 0, 1) := by decide +kernel
theorem dX8_many_64 : decode cX8_many 64 = .ok (.getfield 20, 3) := by decide +kernel
theorem dX8_many_67 : decode cX8_many 67 = .ok (.iload 5, 2) := by decide +kernel
theorem dX8_many_69 : decode cX8_many 69 = .ok (.iaload, 1) := by decide +kernel
theorem dX8_many_70 : decode cX8_many 70 = .ok (.ishr, 1) := by decide +kernel
theorem dX8_many_71 : decode cX8_many 71 = .ok (.iconst 1, 1) := by decide +kernel
theorem dX8_many_72 : decode cX8_many 72 = .ok (.iand, 1) := by decide +kernel
theorem dX8_many_73 : decode cX8_many 73 = .ok (.iconst 1, 1) := by decide +kernel
theorem dX8_many_74 : decode cX8_many 74 = .ok (.if_icmp .ne 6, 3) := by decide +kernel
theorem dX8_many_77 : decode cX8_many 77 = .ok (.iinc 4 1, 3) := by decide +kernel
theorem dX8_many_80 : decode cX8_many 80 = .ok (.iinc 5 1, 3) := by decide +kernel
theorem dX8_many_83 : decode cX8_many 83 = .ok (.goto (-52), 3) := by decide +kernel
theorem dX8_many_86 : decode cX8_many 86 = .ok (.iload 4, 2) := by decide +kernel
theorem dX8_many_88 : decode cX8_many 88 = .ok (.ireturn, 1) := by decide +kernel
theorem dX8_round_0 : decode cX8_round 0 = .ok (.iload_n 1, 1) := by decide +kernel
theorem dX8_round_1 : decode cX8_round 1 = .ok (.invokestatic 164, 3) := by decide +kernel
theorem dX8_round_4 : decode cX8_round 4 = .ok (.ifCond .eq 11, 3) := by decide +kernel
theorem dX8_round_7 : decode cX8_round 7 = .ok (.aload_n 0, 1) := by decide +kernel
theorem dX8_round_8 : decode cX8_round 8 = .ok (.iload_n 1, 1) := by decide +kernel
theorem dX8_round_9 : decode cX8_round 9 = .ok (.invokevirtual 171, 3) := by decide +kernel
theorem dX8_round_12 : decode cX8_round 12 = .ok (.ifCond .ne 5, 3) := by decide +kernel
theorem dX8_round_15 : decode cX8_round 15 = .ok (.iconst (-1), 1) := by decide +kernel
theorem dX8_round_16 : decode cX8_round 16 = .ok (.ireturn, 1) := by decide +kernel
theorem dX8_round_17 : decode cX8_round 17 = .ok (.iload_n 1, 1) := by decide +kernel
theorem dX8_round_18 : decode cX8_round 18 = .ok (.istore_n 3, 1) := by decide +kernel
theorem dX8_round_19 : decode cX8_round 19 = .ok (.iload_n 3, 1) := by decide +kernel
theorem dX8_round_20 : decode cX8_round 20 = .ok (.sipush 446, 3) := by decide +kernel
theorem dX8_round_23 : decode cX8_round 23 = .ok (.if_icmp .lt 24, 3) := by decide +kernel
theorem dX8_round_26 : decode cX8_round 26 = .ok (.aload_n 0, 1) := by decide +kernel
theorem dX8_round_27 : decode cX8_round 27 = .ok (.iload_n 3, 1) := by decide +kernel
theorem dX8_round_28 : decode cX8_round 28 = .ok (.sipush 446, 3) := by decide +kernel
theorem dX8_round_31 : decode cX8_round 31 = .ok (.isub, 1) := by decide +kernel
theorem dX8_round_32 : decode cX8_round 32 = .ok (.invokevirtual 171, 3) := by decide +kernel
theorem dX8_round_35 : decode cX8_round 35 = .ok (.ifCond .eq 12, 3) := by decide +kernel
theorem dX8_round_38 : decode cX8_round 38 = .ok (.iinc 3 (-446), 6) := by decide +kernel
theorem dX8_round_44 : decode cX8_round 44 = .ok (.goto (-25), 3) := by decide +kernel
theorem dX8_round_47 : decode cX8_round 47 = .ok (.iload_n 1, 1) := by decide +kernel
theorem dX8_round_48 : decode cX8_round 48 = .ok (.istore 4, 2) := by decide +kernel
theorem dX8_round_50 : decode cX8_round 50 = .ok (.iload 4, 2) := by decide +kernel
theorem dX8_round_52 : decode cX8_round 52 = .ok (.sipush 446, 3) := by decide +kernel
theorem dX8_round_55 : decode cX8_round 55 = .ok (.iadd, 1) := by decide +kernel
theorem dX8_round_56 : decode cX8_round 56 = .ok (.sipush 12000, 3) := by decide +kernel
theorem dX8_round_59 : decode cX8_round 59 = .ok (.if_icmp .gt 25, 3) := by decide +kernel
theorem dX8_round_62 : decode cX8_round 62 = .ok (.aload_n 0, 1) := by decide +kernel
theorem dX8_round_63 : decode cX8_round 63 = .ok (.iload 4, 2) := by decide +kernel
theorem dX8_round_65 : decode cX8_round 65 = .ok (.sipush 446, 3) := by decide +kernel
theorem dX8_round_68 : decode cX8_round 68 = .ok (.iadd, 1) := by decide +kernel
theorem dX8_round_69 : decode cX8_round 69 = .ok (.invokevirtual 171, 3) := by decide +kernel
theorem dX8_round_72 : decode cX8_round 72 = .ok (.ifCond .eq 12, 3) := by decide +kernel
theorem dX8_round_75 : decode cX8_round 75 = .ok (.iinc 4 446, 6) := by decide +kernel
theorem dX8_round_81 : decode cX8_round 81 = .ok (.goto (-31), 3) := by decide +kernel
theorem dX8_round_84 : decode cX8_round 84 = .ok (.iload_n 2, 1) := by decide +kernel
theorem dX8_round_85 : decode cX8_round 85 = .ok (.tableswitch 57 0 3 #[31, 33, 36, 47], 31) := by decide +kernel
theorem dX8_round_116 : decode cX8_round 116 = .ok (.iload_n 3, 1) := by decide +kernel
theorem dX8_round_117 : decode cX8_round 117 = .ok (.ireturn, 1) := by decide +kernel
theorem dX8_round_118 : decode cX8_round 118 = .ok (.iload 4, 2) := by decide +kernel
theorem dX8_round_120 : decode cX8_round 120 = .ok (.ireturn, 1) := by decide +kernel
theorem dX8_round_121 : decode cX8_round 121 = .ok (.iload 4, 2) := by decide +kernel
theorem dX8_round_123 : decode cX8_round 123 = .ok (.iload_n 3, 1) := by decide +kernel
theorem dX8_round_124 : decode cX8_round 124 = .ok (.isub, 1) := by decide +kernel
theorem dX8_round_125 : decode cX8_round 125 = .ok (.sipush 446, 3) := by decide +kernel
theorem dX8_round_128 : decode cX8_round 128 = .ok (.idiv, 1) := by decide +kernel
theorem dX8_round_129 : decode cX8_round 129 = .ok (.iconst 1, 1) := by decide +kernel
theorem dX8_round_130 : decode cX8_round 130 = .ok (.iadd, 1) := by decide +kernel
theorem dX8_round_131 : decode cX8_round 131 = .ok (.ireturn, 1) := by decide +kernel
theorem dX8_round_132 : decode cX8_round 132 = .ok (.iload_n 1, 1) := by decide +kernel
theorem dX8_round_133 : decode cX8_round 133 = .ok (.iload_n 3, 1) := by decide +kernel
theorem dX8_round_134 : decode cX8_round 134 = .ok (.isub, 1) := by decide +kernel
theorem dX8_round_135 : decode cX8_round 135 = .ok (.sipush 446, 3) := by decide +kernel
theorem dX8_round_138 : decode cX8_round 138 = .ok (.idiv, 1) := by decide +kernel
theorem dX8_round_139 : decode cX8_round 139 = .ok (.iconst 1, 1) := by decide +kernel
theorem dX8_round_140 : decode cX8_round 140 = .ok (.iadd, 1) := by decide +kernel
theorem dX8_round_141 : decode cX8_round 141 = .ok (.ireturn, 1) := by decide +kernel
theorem dX8_round_142 : decode cX8_round 142 = .ok (.iconst (-1), 1) := by decide +kernel
theorem dX8_round_143 : decode cX8_round 143 = .ok (.ireturn, 1) := by decide +kernel
theorem dX8_isLong_0 : decode cX8_isLong 0 = .ok (.iload_n 0, 1) := by decide +kernel
theorem dX8_isLong_1 : decode cX8_isLong 1 = .ok (.iconst 1, 1) := by decide +kernel
theorem dX8_isLong_2 : decode cX8_isLong 2 = .ok (.if_icmp .ne 17, 3) := by decide +kernel
theorem dX8_isLong_5 : decode cX8_isLong 5 = .ok (.iload_n 1, 1) := by decide +kernel
theorem dX8_isLong_6 : decode cX8_isLong 6 = .ok (.iconst 4, 1) := by decide +kernel
theorem dX8_isLong_7 : decode cX8_isLong 7 = .ok (.irem, 1) := by decide +kernel
theorem dX8_isLong_8 : decode cX8_isLong 8 = .ok (.ifCond .ne 7, 3) := by decide +kernel
theorem dX8_isLong_11 : decode cX8_isLong 11 = .ok (.iconst 1, 1) := by decide +kernel
theorem dX8_isLong_12 : decode cX8_isLong 12 = .ok (.goto 31, 3) := by decide +kernel
theorem dX8_isLong_15 : decode cX8_isLong 15 = .ok (.iconst 0, 1) := by decide +kernel
theorem dX8_isLong_16 : decode cX8_isLong 16 = .ok (.goto 27, 3) := by decide +kernel
theorem dX8_isLong_19 : decode cX8_isLong 19 = .ok (.iload_n 0, 1) := by decide +kernel
theorem dX8_isLong_20 : decode cX8_isLong 20 = .ok (.iconst 2, 1) := by decide +kernel
theorem dX8_isLong_21 : decode cX8_isLong 21 = .ok (.if_icmp .ne 21, 3) := by decide +kernel
theorem dX8_isLong_24 : decode cX8_isLong 24 = .ok (.bipush 7, 2) := by decide +kernel
theorem dX8_isLong_26 : decode cX8_isLong 26 = .ok (.iload_n 1, 1) := by decide +kernel
theorem dX8_isLong_27 : decode cX8_isLong 27 = .ok (.imul, 1) := by decide +kernel
theorem dX8_isLong_28 : decode cX8_isLong 28 = .ok (.iconst 1, 1) := by decide +kernel
theorem dX8_isLong_29 : decode cX8_isLong 29 = .ok (.iadd, 1) := by decide +kernel
theorem dX8_isLong_30 : decode cX8_isLong 30 = .ok (.bipush 19, 2) := by decide +kernel
theorem dX8_isLong_32 : decode cX8_isLong 32 = .ok (.irem, 1) := by decide +kernel
theorem dX8_isLong_33 : decode cX8_isLong 33 = .ok (.bipush 7, 2) := by decide +kernel
theorem dX8_isLong_35 : decode cX8_isLong 35 = .ok (.if_icmp .ge 7, 3) := by decide +kernel
theorem dX8_isLong_38 : decode cX8_isLong 38 = .ok (.iconst 1, 1) := by decide +kernel
theorem dX8_isLong_39 : decode cX8_isLong 39 = .ok (.goto 4, 3) := by decide +kernel
theorem dX8_isLong_42 : decode cX8_isLong 42 = .ok (.iconst 0, 1) := by decide +kernel
theorem dX8_isLong_43 : decode cX8_isLong 43 = .ok (.ireturn, 1) := by decide +kernel
theorem dX8_yearDays_0 : decode cX8_yearDays 0 = .ok (.iload_n 0, 1) := by decide +kernel
theorem dX8_yearDays_1 : decode cX8_yearDays 1 = .ok (.ifCond .ne 7, 3) := by decide +kernel
theorem dX8_yearDays_4 : decode cX8_yearDays 4 = .ok (.sipush 365, 3) := by decide +kernel
theorem dX8_yearDays_7 : decode cX8_yearDays 7 = .ok (.ireturn, 1) := by decide +kernel
theorem dX8_yearDays_8 : decode cX8_yearDays 8 = .ok (.iload_n 0, 1) := by decide +kernel
theorem dX8_yearDays_9 : decode cX8_yearDays 9 = .ok (.iconst 1, 1) := by decide +kernel
theorem dX8_yearDays_10 : decode cX8_yearDays 10 = .ok (.if_icmp .ne 21, 3) := by decide +kernel
theorem dX8_yearDays_13 : decode cX8_yearDays 13 = .ok (.iload_n 0, 1) := by decide +kernel
theorem dX8_yearDays_14 : decode cX8_yearDays 14 = .ok (.iload_n 1, 1) := by decide +kernel
theorem dX8_yearDays_15 : decode cX8_yearDays 15 = .ok (.invokestatic 180, 3) := by decide +kernel
theorem dX8_yearDays_18 : decode cX8_yearDays 18 = .ok (.ifCond .eq 9, 3) := by decide +kernel
theorem dX8_yearDays_21 : decode cX8_yearDays 21 = .ok (.sipush 366, 3) := by decide +kernel
theorem dX8_yearDays_24 : decode cX8_yearDays 24 = .ok (.goto 6, 3) := by decide +kernel
theorem dX8_yearDays_27 : decode cX8_yearDays 27 = .ok (.sipush 365, 3) := by decide +kernel
theorem dX8_yearDays_30 : decode cX8_yearDays 30 = .ok (.ireturn, 1) := by decide +kernel
theorem dX8_yearDays_31 : decode cX8_yearDays 31 = .ok (.iload_n 0, 1) := by decide +kernel
theorem dX8_yearDays_32 : decode cX8_yearDays 32 = .ok (.iload_n 1, 1) := by decide +kernel
theorem dX8_yearDays_33 : decode cX8_yearDays 33 = .ok (.invokestatic 180, 3) := by decide +kernel
theorem dX8_yearDays_36 : decode cX8_yearDays 36 = .ok (.ifCond .eq 9, 3) := by decide +kernel
theorem dX8_yearDays_39 : decode cX8_yearDays 39 = .ok (.sipush 384, 3) := by decide +kernel
theorem dX8_yearDays_42 : decode cX8_yearDays 42 = .ok (.goto 6, 3) := by decide +kernel
theorem dX8_yearDays_45 : decode cX8_yearDays 45 = .ok (.sipush 354, 3) := by decide +kernel
theorem dX8_yearDays_48 : decode cX8_yearDays 48 = .ok (.ireturn, 1) := by decide +kernel
theorem dX8_monthDays_0 : decode cX8_monthDays 0 = .ok (.iload_n 3, 1) := by decide +kernel
theorem dX8_monthDays_1 : decode cX8_monthDays 1 = .ok (.iconst 1, 1) := by decide +kernel
theorem dX8_monthDays_2 : decode cX8_monthDays 2 = .ok (.if_icmp .lt 9, 3) := by decide +kernel
theorem dX8_monthDays_5 : decode cX8_monthDays 5 = .ok (.iload_n 3, 1) := by decide +kernel
theorem dX8_monthDays_6 : decode cX8_monthDays 6 = .ok (.bipush 13, 2) := by decide +kernel
theorem dX8_monthDays_8 : decode cX8_monthDays 8 = .ok (.if_icmp .le 5, 3) := by decide +kernel
theorem dX8_monthDays_11 : decode cX8_monthDays 11 = .ok (.iconst 0, 1) := by decide +kernel
theorem dX8_monthDays_12 : decode cX8_monthDays 12 = .ok (.ireturn, 1) := by decide +kernel
theorem dX8_monthDays_13 : decode cX8_monthDays 13 = .ok (.iload_n 1, 1) := by decide +kernel
theorem dX8_monthDays_14 : decode cX8_monthDays 14 = .ok (.ifCond .ne 16, 3) := by decide +kernel
theorem dX8_monthDays_17 : decode cX8_monthDays 17 = .ok (.iload_n 3, 1) := by decide +kernel
theorem dX8_monthDays_18 : decode cX8_monthDays 18 = .ok (.bipush 13, 2) := by decide +kernel
theorem dX8_monthDays_20 : decode cX8_monthDays 20 = .ok (.if_icmp .ne 7, 3) := by decide +kernel
theorem dX8_monthDays_23 : decode cX8_monthDays 23 = .ok (.iconst 5, 1) := by decide +kernel
theorem dX8_monthDays_24 : decode cX8_monthDays 24 = .ok (.goto 5, 3) := by decide +kernel
theorem dX8_monthDays_27 : decode cX8_monthDays 27 = .ok (.bipush 30, 2) := by decide +kernel
theorem dX8_monthDays_29 : decode cX8_monthDays 29 = .ok (.ireturn, 1) := by decide +kernel
theorem dX8_monthDays_30 : decode cX8_monthDays 30 = .ok (.iload_n 1, 1) := by decide +kernel
theorem dX8_monthDays_31 : decode cX8_monthDays 31 = .ok (.iconst 1, 1) := by decide +kernel
theorem dX8_monthDays_32 : decode cX8_monthDays 32 = .ok (.if_icmp .ne 40, 3) := by decide +kernel
theorem dX8_monthDays_35 : decode cX8_monthDays 35 = .ok (.iload_n 3, 1) := by decide +kernel
theorem dX8_monthDays_36 : decode cX8_monthDays 36 = .ok (.bipush 13, 2) := by decide +kernel
theorem dX8_monthDays_38 : decode cX8_monthDays 38 = .ok (.if_icmp .ne 7, 3) := by decide +kernel
theorem dX8_monthDays_41 : decode cX8_monthDays 41 = .ok (.iconst 0, 1) := by decide +kernel
theorem dX8_monthDays_42 : decode cX8_monthDays 42 = .ok (.goto 29, 3) := by decide +kernel
theorem dX8_monthDays_45 : decode cX8_monthDays 45 = .ok (.iload_n 3, 1) := by decide +kernel
theorem dX8_monthDays_46 : decode cX8_monthDays 46 = .ok (.iconst 2, 1) := by decide +kernel
theorem dX8_monthDays_47 : decode cX8_monthDays 47 = .ok (.if_icmp .ne 16, 3) := by decide +kernel
theorem dX8_monthDays_50 : decode cX8_monthDays 50 = .ok (.iload_n 1, 1) := by decide +kernel
theorem dX8_monthDays_51 : decode cX8_monthDays 51 = .ok (.iload_n 2, 1) := by decide +kernel
theorem dX8_monthDays_52 : decode cX8_monthDays 52 = .ok (.invokestatic 180, 3) := by decide +kernel
theorem dX8_monthDays_55 : decode cX8_monthDays 55 = .ok (.ifCond .eq 8, 3) := by decide +kernel
theorem dX8_monthDays_58 : decode cX8_monthDays 58 = .ok (.bipush 29, 2) := by decide +kernel
theorem dX8_monthDays_60 : decode cX8_monthDays 60 = .ok (.goto 11, 3) := by decide +kernel
theorem dX8_monthDays_63 : decode cX8_monthDays 63 = .ok (.aload_n 0, 1) := by decide +kernel
theorem dX8_monthDays_64 : decode cX8_monthDays 64 = .ok (.getfield 29, 3) := by decide +kernel
theorem dX8_monthDays_67 : decode cX8_monthDays 67 = .ok (.iload_n 3, 1) := by decide +kernel
theorem dX8_monthDays_68 : decode cX8_monthDays 68 = .ok (.iconst 1, 1) := by decide +kernel
theorem dX8_monthDays_69 : decode cX8_monthDays 69 = .ok (.isub, 1) := by decide +kernel
theorem dX8_monthDays_70 : decode cX8_monthDays 70 = .ok (.iaload, 1) := by decide +kernel
theorem dX8_monthDays_71 : decode cX8_monthDays 71 = .ok (.ireturn, 1) := by decide +kernel
theorem dX8_monthDays_72 : decode cX8_monthDays 72 = .ok (.iload_n 3, 1) := by decide +kernel
theorem dX8_monthDays_73 : decode cX8_monthDays 73 = .ok (.bipush 13, 2) := by decide +kernel
theorem dX8_monthDays_75 : decode cX8_monthDays 75 = .ok (.if_icmp .ne 20, 3) := by decide +kernel
theorem dX8_monthDays_78 : decode cX8_monthDays 78 = .ok (.iload_n 1, 1) := by decide +kernel
theorem dX8_monthDays_79 : decode cX8_monthDays 79 = .ok (.iload_n 2, 1) := by decide +kernel
theorem dX8_monthDays_80 : decode cX8_monthDays 80 = .ok (.invokestatic 180, 3) := by decide +kernel
theorem dX8_monthDays_83 : decode cX8_monthDays 83 = .ok (.ifCond .eq 8, 3) := by decide +kernel
theorem dX8_monthDays_86 : decode cX8_monthDays 86 = .ok (.bipush 30, 2) := by decide +kernel
theorem dX8_monthDays_88 : decode cX8_monthDays 88 = .ok (.goto 21, 3) := by decide +kernel
theorem dX8_monthDays_91 : decode cX8_monthDays 91 = .ok (.iconst 0, 1) := by decide +kernel
theorem dX8_monthDays_92 : decode cX8_monthDays 92 = .ok (.goto 17, 3) := by decide +kernel
theorem dX8_monthDays_95 : decode cX8_monthDays 95 = .ok (.iload_n 3, 1) := by decide +kernel
theorem dX8_monthDays_96 : decode cX8_monthDays 96 = .ok (.iconst 2, 1) := by decide +kernel
theorem dX8_monthDays_97 : decode cX8_monthDays 97 = .ok (.irem, 1) := by decide +kernel
theorem dX8_monthDays_98 : decode cX8_monthDays 98 = .ok (.iconst 1, 1) := by decide +kernel
theorem dX8_monthDays_99 : decode cX8_monthDays 99 = .ok (.if_icmp .ne 8, 3) := by decide +kernel
theorem dX8_monthDays_102 : decode cX8_monthDays 102 = .ok (.bipush 30, 2) := by decide +kernel
theorem dX8_monthDays_104 : decode cX8_monthDays 104 = .ok (.goto 5, 3) := by decide +kernel
theorem dX8_monthDays_107 : decode cX8_monthDays 107 = .ok (.bipush 29, 2) := by decide +kernel
theorem dX8_monthDays_109 : decode cX8_monthDays 109 = .ok (.ireturn, 1) := by decide +kernel
theorem dX8_dates_0 : decode cX8_dates 0 = .ok (.iload_n 2, 1) := by decide +kernel
theorem dX8_dates_1 : decode cX8_dates 1 = .ok (.ifCond .ne 7, 3) := by decide +kernel
theorem dX8_dates_4 : decode cX8_dates 4 = .ok (.iconst 1, 1) := by decide +kernel
theorem dX8_dates_5 : decode cX8_dates 5 = .ok (.goto 14, 3) := by decide +kernel
theorem dX8_dates_8 : decode cX8_dates 8 = .ok (.iload_n 2, 1) := by decide +kernel
theorem dX8_dates_9 : decode cX8_dates 9 = .ok (.iconst 1, 1) := by decide +kernel
theorem dX8_dates_10 : decode cX8_dates 10 = .ok (.if_icmp .ne 7, 3) := by decide +kernel
theorem dX8_dates_13 : decode cX8_dates 13 = .ok (.iconst 4, 1) := by decide +kernel
theorem dX8_dates_14 : decode cX8_dates 14 = .ok (.goto 5, 3) := by decide +kernel
theorem dX8_dates_17 : decode cX8_dates 17 = .ok (.bipush 19, 2) := by decide +kernel
theorem dX8_dates_19 : decode cX8_dates 19 = .ok (.istore_n 3, 1) := by decide +kernel
theorem dX8_dates_20 : decode cX8_dates 20 = .ok (.iload_n 2, 1) := by decide +kernel
theorem dX8_dates_21 : decode cX8_dates 21 = .ok (.ifCond .ne 9, 3) := by decide +kernel
theorem dX8_dates_24 : decode cX8_dates 24 = .ok (.sipush 365, 3) := by decide +kernel
theorem dX8_dates_27 : decode cX8_dates 27 = .ok (.goto 17, 3) := by decide +kernel
theorem dX8_dates_30 : decode cX8_dates 30 = .ok (.iload_n 2, 1) := by decide +kernel
theorem dX8_dates_31 : decode cX8_dates 31 = .ok (.iconst 1, 1) := by decide +kernel
theorem dX8_dates_32 : decode cX8_dates 32 = .ok (.if_icmp .ne 9, 3) := by decide +kernel
theorem dX8_dates_35 : decode cX8_dates 35 = .ok (.sipush 1461, 3) := by decide +kernel
theorem dX8_dates_38 : decode cX8_dates 38 = .ok (.goto 6, 3) := by decide +kernel
theorem dX8_dates_41 : decode cX8_dates 41 = .ok (.sipush 6936, 3) := by decide +kernel
theorem dX8_dates_44 : decode cX8_dates 44 = .ok (.istore 4, 2) := by decide +kernel
theorem dX8_dates_46 : decode cX8_dates 46 = .ok (.aload_n 0, 1) := by decide +kernel
theorem dX8_dates_47 : decode cX8_dates 47 = .ok (.iload_n 1, 1) := by decide +kernel
theorem dX8_dates_48 : decode cX8_dates 48 = .ok (.iload 4, 2) := by decide +kernel
theorem dX8_dates_50 : decode cX8_dates 50 = .ok (.idiv, 1) := by decide +kernel
theorem dX8_dates_51 : decode cX8_dates 51 = .ok (.iload_n 3, 1) := by decide +kernel
theorem dX8_dates_52 : decode cX8_dates 52 = .ok (.imul, 1) := by decide +kernel
theorem dX8_dates_53 : decode cX8_dates 53 = .ok (.putfield 184, 3) := by decide +kernel
theorem dX8_dates_56 : decode cX8_dates 56 = .ok (.iload_n 1, 1) := by decide +kernel
theorem dX8_dates_57 : decode cX8_dates 57 = .ok (.iload 4, 2) := by decide +kernel
theorem dX8_dates_59 : decode cX8_dates 59 = .ok (.irem, 1) := by decide +kernel
theorem dX8_dates_60 : decode cX8_dates 60 = .ok (.istore 5, 2) := by decide +kernel
theorem dX8_dates_62 : decode cX8_dates 62 = .ok (.iload 5, 2) := by decide +kernel
theorem dX8_dates_64 : decode cX8_dates 64 = .ok (.iload_n 2, 1) := by decide +kernel
theorem dX8_dates_65 : decode cX8_dates 65 = .ok (.aload_n 0, 1) := by decide +kernel
theorem dX8_dates_66 : decode cX8_dates 66 = .ok (.getfield 184, 3) := by decide +kernel
theorem dX8_dates_69 : decode cX8_dates 69 = .ok (.invokestatic 187, 3) := by decide +kernel
theorem dX8_dates_72 : decode cX8_dates 72 = .ok (.if_icmp .lt 29, 3) := by decide +kernel
theorem dX8_dates_75 : decode cX8_dates 75 = .ok (.iload 5, 2) := by decide +kernel
theorem dX8_dates_77 : decode cX8_dates 77 = .ok (.iload_n 2, 1) := by decide +kernel
theorem dX8_dates_78 : decode cX8_dates 78 = .ok (.aload_n 0, 1) := by decide +kernel
theorem dX8_dates_79 : decode cX8_dates 79 = .ok (.getfield 184, 3) := by decide +kernel
theorem dX8_dates_82 : decode cX8_dates 82 = .ok (.invokestatic 187, 3) := by decide +kernel
theorem dX8_dates_85 : decode cX8_dates 85 = .ok (.isub, 1) := by decide +kernel
theorem dX8_dates_86 : decode cX8_dates 86 = .ok (.istore 5, 2) := by decide +kernel
theorem dX8_dates_88 : decode cX8_dates 88 = .ok (.aload_n 0, 1) := by decide +kernel
theorem dX8_dates_89 : decode cX8_dates 89 = .ok (.dup, 1) := by decide +kernel
theorem dX8_dates_90 : decode cX8_dates 90 = .ok (.getfield 184, 3) := by decide +kernel
theorem dX8_dates_93 : decode cX8_dates 93 = .ok (.iconst 1, 1) := by decide +kernel
theorem dX8_dates_94 : decode cX8_dates 94 = .ok (.iadd, 1) := by decide +kernel
theorem dX8_dates_95 : decode cX8_dates 95 = .ok (.putfield 184, 3) := by decide +kernel
theorem dX8_dates_98 : decode cX8_dates 98 = .ok (.goto (-36), 3) := by decide +kernel
theorem dX8_dates_101 : decode cX8_dates 101 = .ok (.aload_n 0, 1) := by decide +kernel
theorem dX8_dates_102 : decode cX8_dates 102 = .ok (.iconst 1, 1) := by decide +kernel
theorem dX8_dates_103 : decode cX8_dates 103 = .ok (.putfield 191, 3) := by decide +kernel
theorem dX8_dates_106 : decode cX8_dates 106 = .ok (.iload 5, 2) := by decide +kernel
theorem dX8_dates_108 : decode cX8_dates 108 = .ok (.aload_n 0, 1) := by decide +kernel
theorem dX8_dates_109 : decode cX8_dates 109 = .ok (.iload_n 2, 1) := by decide +kernel
theorem dX8_dates_110 : decode cX8_dates 110 = .ok (.aload_n 0, 1) := by decide +kernel
theorem dX8_dates_111 : decode cX8_dates 111 = .ok (.getfield 184, 3) := by decide +kernel
theorem dX8_dates_114 : decode cX8_dates 114 = .ok (.aload_n 0, 1) := by decide +kernel
theorem dX8_dates_115 : decode cX8_dates 115 = .ok (.getfield 191, 3) := by decide +kernel
theorem dX8_dates_118 : decode cX8_dates 118 = .ok (.invokevirtual 194, 3) := by decide +kernel
theorem dX8_dates_121 : decode cX8_dates 121 = .ok (.if_icmp .lt 34, 3) := by decide +kernel
theorem dX8_dates_124 : decode cX8_dates 124 = .ok (.iload 5, 2) := by decide +kernel
theorem dX8_dates_126 : decode cX8_dates 126 = .ok (.aload_n 0, 1) := by decide +kernel
theorem dX8_dates_127 : decode cX8_dates 127 = .ok (.iload_n 2, 1) := by decide +kernel
theorem dX8_dates_128 : decode cX8_dates 128 = .ok (.aload_n 0, 1) := by decide +kernel
theorem dX8_dates_129 : decode cX8_dates 129 = .ok (.getfield 184, 3) := by decide +kernel
theorem dX8_dates_132 : decode cX8_dates 132 = .ok (.aload_n 0, 1) := by decide +kernel
theorem dX8_dates_133 : decode cX8_dates 133 = .ok (.getfield 191, 3) := by decide +kernel
theorem dX8_dates_136 : decode cX8_dates 136 = .ok (.invokevirtual 194, 3) := by decide +kernel
theorem dX8_dates_139 : decode cX8_dates 139 = .ok (.isub, 1) := by decide +kernel
theorem dX8_dates_140 : decode cX8_dates 140 = .ok (.istore 5, 2) := by decide +kernel
theorem dX8_dates_142 : decode cX8_dates 142 = .ok (.aload_n 0, 1) := by decide +kernel
theorem dX8_dates_143 : decode cX8_dates 143 = .ok (.dup, 1) := by decide +kernel
theorem dX8_dates_144 : decode cX8_dates 144 = .ok (.getfield 191, 3) := by decide +kernel
theorem dX8_dates_147 : decode cX8_dates 147 = .ok (.iconst 1, 1) := by decide +kernel
theorem dX8_dates_148 : decode cX8_dates 148 = .ok (.iadd, 1) := by decide +kernel
theorem dX8_dates_149 : decode cX8_dates 149 = .ok (.putfield 191, 3) := by decide +kernel
theorem dX8_dates_152 : decode cX8_dates 152 = .ok (.goto (-46), 3) := by decide +kernel
theorem dX8_dates_155 : decode cX8_dates 155 = .ok (.aload_n 0, 1) := by decide +kernel
theorem dX8_dates_156 : decode cX8_dates 156 = .ok (.iload 5, 2) := by decide +kernel
theorem dX8_dates_158 : decode cX8_dates 158 = .ok (.iconst 1, 1) := by decide +kernel
theorem dX8_dates_159 : decode cX8_dates 159 = .ok (.iadd, 1) := by decide +kernel
theorem dX8_dates_160 : decode cX8_dates 160 = .ok (.putfield 198, 3) := by decide +kernel
theorem dX8_dates_163 : decode cX8_dates 163 = .ok (.return_, 1) := by decide +kernel
theorem dX8_date_0 : decode cX8_date 0 = .ok (.iload_n 1, 1) := by decide +kernel
theorem dX8_date_1 : decode cX8_date 1 = .ok (.iconst 0, 1) := by decide +kernel
theorem dX8_date_2 : decode cX8_date 2 = .ok (.ldc 201, 2) := by decide +kernel
theorem dX8_date_4 : decode cX8_date 4 = .ok (.invokestatic 113, 3) := by decide +kernel
theorem dX8_date_7 : decode cX8_date 7 = .ok (.ifCond .eq 12, 3) := by decide +kernel
theorem dX8_date_10 : decode cX8_date 10 = .ok (.iload_n 2, 1) := by decide +kernel
theorem dX8_date_11 : decode cX8_date 11 = .ok (.iconst 0, 1) := by decide +kernel
theorem dX8_date_12 : decode cX8_date 12 = .ok (.iconst 2, 1) := by decide +kernel
theorem dX8_date_13 : decode cX8_date 13 = .ok (.invokestatic 113, 3) := by decide +kernel
theorem dX8_date_16 : decode cX8_date 16 = .ok (.ifCond .ne 5, 3) := by decide +kernel
theorem dX8_date_19 : decode cX8_date 19 = .ok (.iconst (-1), 1) := by decide +kernel
theorem dX8_date_20 : decode cX8_date 20 = .ok (.ireturn, 1) := by decide +kernel
theorem dX8_date_21 : decode cX8_date 21 = .ok (.aload_n 0, 1) := by decide +kernel
theorem dX8_date_22 : decode cX8_date 22 = .ok (.iload_n 1, 1) := by decide +kernel
theorem dX8_date_23 : decode cX8_date 23 = .ok (.iload_n 2, 1) := by decide +kernel
theorem dX8_date_24 : decode cX8_date 24 = .ok (.invokevirtual 202, 3) := by decide +kernel
theorem dX8_date_27 : decode cX8_date 27 = .ok (.iload_n 3, 1) := by decide +kernel
theorem dX8_date_28 : decode cX8_date 28 = .ok (.ifCond .ne 10, 3) := by decide +kernel
theorem dX8_date_31 : decode cX8_date 31 = .ok (.aload_n 0, 1) := by decide +kernel
theorem dX8_date_32 : decode cX8_date 32 = .ok (.getfield 184, 3) := by decide +kernel
theorem dX8_date_35 : decode cX8_date 35 = .ok (.goto 28, 3) := by decide +kernel
theorem dX8_date_38 : decode cX8_date 38 = .ok (.iload_n 3, 1) := by decide +kernel
theorem dX8_date_39 : decode cX8_date 39 = .ok (.iconst 1, 1) := by decide +kernel
theorem dX8_date_40 : decode cX8_date 40 = .ok (.if_icmp .ne 10, 3) := by decide +kernel
theorem dX8_date_43 : decode cX8_date 43 = .ok (.aload_n 0, 1) := by decide +kernel
theorem dX8_date_44 : decode cX8_date 44 = .ok (.getfield 191, 3) := by decide +kernel
theorem dX8_date_47 : decode cX8_date 47 = .ok (.goto 16, 3) := by decide +kernel
theorem dX8_date_50 : decode cX8_date 50 = .ok (.iload_n 3, 1) := by decide +kernel
theorem dX8_date_51 : decode cX8_date 51 = .ok (.iconst 2, 1) := by decide +kernel
theorem dX8_date_52 : decode cX8_date 52 = .ok (.if_icmp .ne 10, 3) := by decide +kernel
theorem dX8_date_55 : decode cX8_date 55 = .ok (.aload_n 0, 1) := by decide +kernel
theorem dX8_date_56 : decode cX8_date 56 = .ok (.getfield 198, 3) := by decide +kernel
theorem dX8_date_59 : decode cX8_date 59 = .ok (.goto 4, 3) := by decide +kernel
theorem dX8_date_62 : decode cX8_date 62 = .ok (.iconst (-1), 1) := by decide +kernel
theorem dX8_date_63 : decode cX8_date 63 = .ok (.ireturn, 1) := by decide +kernel
theorem dX8_day_0 : decode cX8_day 0 = .ok (.iload_n 1, 1) := by decide +kernel
theorem dX8_day_1 : decode cX8_day 1 = .ok (.iconst 0, 1) := by decide +kernel
theorem dX8_day_2 : decode cX8_day 2 = .ok (.iconst 2, 1) := by decide +kernel
theorem dX8_day_3 : decode cX8_day 3 = .ok (.invokestatic 113, 3) := by decide +kernel
theorem dX8_day_6 : decode cX8_day 6 = .ok (.ifCond .eq 32, 3) := by decide +kernel
theorem dX8_day_9 : decode cX8_day 9 = .ok (.iload_n 2, 1) := by decide +kernel
theorem dX8_day_10 : decode cX8_day 10 = .ok (.iconst 0, 1) := by decide +kernel
theorem dX8_day_11 : decode cX8_day 11 = .ok (.sipush 1100, 3) := by decide +kernel
theorem dX8_day_14 : decode cX8_day 14 = .ok (.invokestatic 113, 3) := by decide +kernel
theorem dX8_day_17 : decode cX8_day 17 = .ok (.ifCond .eq 21, 3) := by decide +kernel
theorem dX8_day_20 : decode cX8_day 20 = .ok (.iload 4, 2) := by decide +kernel
theorem dX8_day_22 : decode cX8_day 22 = .ok (.iconst 1, 1) := by decide +kernel
theorem dX8_day_23 : decode cX8_day 23 = .ok (.if_icmp .lt 15, 3) := by decide +kernel
theorem dX8_day_26 : decode cX8_day 26 = .ok (.iload 4, 2) := by decide +kernel
theorem dX8_day_28 : decode cX8_day 28 = .ok (.aload_n 0, 1) := by decide +kernel
theorem dX8_day_29 : decode cX8_day 29 = .ok (.iload_n 1, 1) := by decide +kernel
theorem dX8_day_30 : decode cX8_day 30 = .ok (.iload_n 2, 1) := by decide +kernel
theorem dX8_day_31 : decode cX8_day 31 = .ok (.iload_n 3, 1) := by decide +kernel
theorem dX8_day_32 : decode cX8_day 32 = .ok (.invokevirtual 194, 3) := by decide +kernel
theorem dX8_day_35 : decode cX8_day 35 = .ok (.if_icmp .le 5, 3) := by decide +kernel
theorem dX8_day_38 : decode cX8_day 38 = .ok (.iconst (-1), 1) := by decide +kernel
theorem dX8_day_39 : decode cX8_day 39 = .ok (.ireturn, 1) := by decide +kernel
theorem dX8_day_40 : decode cX8_day 40 = .ok (.iload 4, 2) := by decide +kernel
theorem dX8_day_42 : decode cX8_day 42 = .ok (.iconst 1, 1) := by decide +kernel
theorem dX8_day_43 : decode cX8_day 43 = .ok (.isub, 1) := by decide +kernel
theorem dX8_day_44 : decode cX8_day 44 = .ok (.istore 5, 2) := by decide +kernel
theorem dX8_day_46 : decode cX8_day 46 = .ok (.iconst 0, 1) := by decide +kernel
theorem dX8_day_47 : decode cX8_day 47 = .ok (.istore 6, 2) := by decide +kernel
theorem dX8_day_49 : decode cX8_day 49 = .ok (.iload 6, 2) := by decide +kernel
theorem dX8_day_51 : decode cX8_day 51 = .ok (.iload_n 2, 1) := by decide +kernel
theorem dX8_day_52 : decode cX8_day 52 = .ok (.if_icmp .ge 20, 3) := by decide +kernel
theorem dX8_day_55 : decode cX8_day 55 = .ok (.iload 5, 2) := by decide +kernel
theorem dX8_day_57 : decode cX8_day 57 = .ok (.iload_n 1, 1) := by decide +kernel
theorem dX8_day_58 : decode cX8_day 58 = .ok (.iload 6, 2) := by decide +kernel
theorem dX8_day_60 : decode cX8_day 60 = .ok (.invokestatic 187, 3) := by decide +kernel
theorem dX8_day_63 : decode cX8_day 63 = .ok (.iadd, 1) := by decide +kernel
theorem dX8_day_64 : decode cX8_day 64 = .ok (.istore 5, 2) := by decide +kernel
theorem dX8_day_66 : decode cX8_day 66 = .ok (.iinc 6 1, 3) := by decide +kernel
theorem dX8_day_69 : decode cX8_day 69 = .ok (.goto (-20), 3) := by decide +kernel
theorem dX8_day_72 : decode cX8_day 72 = .ok (.iconst 1, 1) := by decide +kernel
theorem dX8_day_73 : decode cX8_day 73 = .ok (.istore 6, 2) := by decide +kernel
theorem dX8_day_75 : decode cX8_day 75 = .ok (.iload 6, 2) := by decide +kernel
theorem dX8_day_77 : decode cX8_day 77 = .ok (.iload_n 3, 1) := by decide +kernel
theorem dX8_day_78 : decode cX8_day 78 = .ok (.if_icmp .ge 22, 3) := by decide +kernel
theorem dX8_day_81 : decode cX8_day 81 = .ok (.iload 5, 2) := by decide +kernel
theorem dX8_day_83 : decode cX8_day 83 = .ok (.aload_n 0, 1) := by decide +kernel
theorem dX8_day_84 : decode cX8_day 84 = .ok (.iload_n 1, 1) := by decide +kernel
theorem dX8_day_85 : decode cX8_day 85 = .ok (.iload_n 2, 1) := by decide +kernel
theorem dX8_day_86 : decode cX8_day 86 = .ok (.iload 6, 2) := by decide +kernel
theorem dX8_day_88 : decode cX8_day 88 = .ok (.invokevirtual 194, 3) := by decide +kernel
theorem dX8_day_91 : decode cX8_day 91 = .ok (.iadd, 1) := by decide +kernel
theorem dX8_day_92 : decode cX8_day 92 = .ok (.istore 5, 2) := by decide +kernel
theorem dX8_day_94 : decode cX8_day 94 = .ok (.iinc 6 1, 3) := by decide +kernel
theorem dX8_day_97 : decode cX8_day 97 = .ok (.goto (-22), 3) := by decide +kernel
theorem dX8_day_100 : decode cX8_day 100 = .ok (.iload 5, 2) := by decide +kernel
theorem dX8_day_102 : decode cX8_day 102 = .ok (.ireturn, 1) := by decide +kernel
theorem dX8_seenAt_0 : decode cX8_seenAt 0 = .ok (.iload_n 0, 1) := by decide +kernel
theorem dX8_seenAt_1 : decode cX8_seenAt 1 = .ok (.ldc 206, 2) := by decide +kernel
theorem dX8_seenAt_3 : decode cX8_seenAt 3 = .ok (.idiv, 1) := by decide +kernel
theorem dX8_seenAt_4 : decode cX8_seenAt 4 = .ok (.istore_n 3, 1) := by decide +kernel
theorem dX8_seenAt_5 : decode cX8_seenAt 5 = .ok (.iload_n 0, 1) := by decide +kernel
theorem dX8_seenAt_6 : decode cX8_seenAt 6 = .ok (.iload_n 1, 1) := by decide +kernel
theorem dX8_seenAt_7 : decode cX8_seenAt 7 = .ok (.iadd, 1) := by decide +kernel
theorem dX8_seenAt_8 : decode cX8_seenAt 8 = .ok (.iload_n 2, 1) := by decide +kernel
theorem dX8_seenAt_9 : decode cX8_seenAt 9 = .ok (.iload_n 3, 1) := by decide +kernel
theorem dX8_seenAt_10 : decode cX8_seenAt 10 = .ok (.imul, 1) := by decide +kernel
theorem dX8_seenAt_11 : decode cX8_seenAt 11 = .ok (.iload_n 3, 1) := by decide +kernel
theorem dX8_seenAt_12 : decode cX8_seenAt 12 = .ok (.imul, 1) := by decide +kernel
theorem dX8_seenAt_13 : decode cX8_seenAt 13 = .ok (.sipush 10000, 3) := by decide +kernel
theorem dX8_seenAt_16 : decode cX8_seenAt 16 = .ok (.idiv, 1) := by decide +kernel
theorem dX8_seenAt_17 : decode cX8_seenAt 17 = .ok (.iadd, 1) := by decide +kernel
theorem dX8_seenAt_18 : decode cX8_seenAt 18 = .ok (.ireturn, 1) := by decide +kernel
theorem dX8_seen_0 : decode cX8_seen 0 = .ok (.iload_n 1, 1) := by decide +kernel
theorem dX8_seen_1 : decode cX8_seen 1 = .ok (.invokestatic 164, 3) := by decide +kernel
theorem dX8_seen_4 : decode cX8_seen 4 = .ok (.ifCond .eq 39, 3) := by decide +kernel
theorem dX8_seen_7 : decode cX8_seen 7 = .ok (.iload_n 2, 1) := by decide +kernel
theorem dX8_seen_8 : decode cX8_seen 8 = .ok (.sipush (-720), 3) := by decide +kernel
theorem dX8_seen_11 : decode cX8_seen 11 = .ok (.sipush 720, 3) := by decide +kernel
theorem dX8_seen_14 : decode cX8_seen 14 = .ok (.invokestatic 113, 3) := by decide +kernel
theorem dX8_seen_17 : decode cX8_seen 17 = .ok (.ifCond .eq 26, 3) := by decide +kernel
theorem dX8_seen_20 : decode cX8_seen 20 = .ok (.iload_n 3, 1) := by decide +kernel
theorem dX8_seen_21 : decode cX8_seen 21 = .ok (.iconst 0, 1) := by decide +kernel
theorem dX8_seen_22 : decode cX8_seen 22 = .ok (.bipush 60, 2) := by decide +kernel
theorem dX8_seen_24 : decode cX8_seen 24 = .ok (.invokestatic 113, 3) := by decide +kernel
theorem dX8_seen_27 : decode cX8_seen 27 = .ok (.ifCond .eq 16, 3) := by decide +kernel
theorem dX8_seen_30 : decode cX8_seen 30 = .ok (.aload_n 0, 1) := by decide +kernel
theorem dX8_seen_31 : decode cX8_seen 31 = .ok (.iload_n 1, 1) := by decide +kernel
theorem dX8_seen_32 : decode cX8_seen 32 = .ok (.invokevirtual 168, 3) := by decide +kernel
theorem dX8_seen_35 : decode cX8_seen 35 = .ok (.iload_n 2, 1) := by decide +kernel
theorem dX8_seen_36 : decode cX8_seen 36 = .ok (.iload_n 3, 1) := by decide +kernel
theorem dX8_seen_37 : decode cX8_seen 37 = .ok (.invokestatic 207, 3) := by decide +kernel
theorem dX8_seen_40 : decode cX8_seen 40 = .ok (.goto 5, 3) := by decide +kernel
theorem dX8_seen_43 : decode cX8_seen 43 = .ok (.ldc 210, 2) := by decide +kernel
theorem dX8_seen_45 : decode cX8_seen 45 = .ok (.ireturn, 1) := by decide +kernel
theorem dX8_feed_0 : decode cX8_feed 0 = .ok (.aload_n 0, 1) := by decide +kernel
theorem dX8_feed_1 : decode cX8_feed 1 = .ok (.getfield 211, 3) := by decide +kernel
theorem dX8_feed_4 : decode cX8_feed 4 = .ok (.bipush 20, 2) := by decide +kernel
theorem dX8_feed_6 : decode cX8_feed 6 = .ok (.iadd, 1) := by decide +kernel
theorem dX8_feed_7 : decode cX8_feed 7 = .ok (.sipush 200, 3) := by decide +kernel
theorem dX8_feed_10 : decode cX8_feed 10 = .ok (.if_icmp .le 5, 3) := by decide +kernel
theorem dX8_feed_13 : decode cX8_feed 13 = .ok (.iconst (-1), 1) := by decide +kernel
theorem dX8_feed_14 : decode cX8_feed 14 = .ok (.ireturn, 1) := by decide +kernel
theorem dX8_feed_15 : decode cX8_feed 15 = .ok (.iconst 0, 1) := by decide +kernel
theorem dX8_feed_16 : decode cX8_feed 16 = .ok (.istore 6, 2) := by decide +kernel
theorem dX8_feed_18 : decode cX8_feed 18 = .ok (.iload 6, 2) := by decide +kernel
theorem dX8_feed_20 : decode cX8_feed 20 = .ok (.bipush 20, 2) := by decide +kernel
theorem dX8_feed_22 : decode cX8_feed 22 = .ok (.if_icmp .ge 92, 3) := by decide +kernel
theorem dX8_feed_25 : decode cX8_feed 25 = .ok (.iload 6, 2) := by decide +kernel
theorem dX8_feed_27 : decode cX8_feed 27 = .ok (.iconst 4, 1) := by decide +kernel
theorem dX8_feed_28 : decode cX8_feed 28 = .ok (.if_icmp .ge 7, 3) := by decide +kernel
theorem dX8_feed_31 : decode cX8_feed 31 = .ok (.iload_n 1, 1) := by decide +kernel
theorem dX8_feed_32 : decode cX8_feed 32 = .ok (.goto 39, 3) := by decide +kernel
theorem dX8_feed_35 : decode cX8_feed 35 = .ok (.iload 6, 2) := by decide +kernel
theorem dX8_feed_37 : decode cX8_feed 37 = .ok (.bipush 8, 2) := by decide +kernel
theorem dX8_feed_39 : decode cX8_feed 39 = .ok (.if_icmp .ge 7, 3) := by decide +kernel
theorem dX8_feed_42 : decode cX8_feed 42 = .ok (.iload_n 2, 1) := by decide +kernel
theorem dX8_feed_43 : decode cX8_feed 43 = .ok (.goto 28, 3) := by decide +kernel
theorem dX8_feed_46 : decode cX8_feed 46 = .ok (.iload 6, 2) := by decide +kernel
theorem dX8_feed_48 : decode cX8_feed 48 = .ok (.bipush 12, 2) := by decide +kernel
theorem dX8_feed_50 : decode cX8_feed 50 = .ok (.if_icmp .ge 7, 3) := by decide +kernel
theorem dX8_feed_53 : decode cX8_feed 53 = .ok (.iload_n 3, 1) := by decide +kernel
theorem dX8_feed_54 : decode cX8_feed 54 = .ok (.goto 17, 3) := by decide +kernel
theorem dX8_feed_57 : decode cX8_feed 57 = .ok (.iload 6, 2) := by decide +kernel
theorem dX8_feed_59 : decode cX8_feed 59 = .ok (.bipush 16, 2) := by decide +kernel
theorem dX8_feed_61 : decode cX8_feed 61 = .ok (.if_icmp .ge 8, 3) := by decide +kernel
theorem dX8_feed_64 : decode cX8_feed 64 = .ok (.iload 4, 2) := by decide +kernel
theorem dX8_feed_66 : decode cX8_feed 66 = .ok (.goto 5, 3) := by decide +kernel
theorem dX8_feed_69 : decode cX8_feed 69 = .ok (.iload 5, 2) := by decide +kernel
theorem dX8_feed_71 : decode cX8_feed 71 = .ok (.istore 7, 2) := by decide +kernel
theorem dX8_feed_73 : decode cX8_feed 73 = .ok (.aload_n 0, 1) := by decide +kernel
theorem dX8_feed_74 : decode cX8_feed 74 = .ok (.getfield 32, 3) := by decide +kernel
theorem dX8_feed_77 : decode cX8_feed 77 = .ok (.aload_n 0, 1) := by decide +kernel
theorem dX8_feed_78 : decode cX8_feed 78 = .ok (.getfield 211, 3) := by decide +kernel
theorem dX8_feed_81 : decode cX8_feed 81 = .ok (.iload 7, 2) := by decide +kernel
theorem dX8_feed_83 : decode cX8_feed 83 = .ok (.bipush 8, 2) := by decide +kernel
theorem dX8_feed_85 : decode cX8_feed 85 = .ok (.iconst 3, 1) := by decide +kernel
theorem dX8_feed_86 : decode cX8_feed 86 = .ok (.iload 6, 2) := by decide +kernel
theorem dX8_feed_88 : decode cX8_feed 88 = .ok (.iconst 4, 1) := by decide +kernel
theorem dX8_feed_89 : decode cX8_feed 89 = .ok (.irem, 1) := by decide +kernel
theorem dX8_feed_90 : decode cX8_feed 90 = .ok (.isub, 1) := by decide +kernel
theorem dX8_feed_91 : decode cX8_feed 91 = .ok (.imul, 1) := by decide +kernel
theorem dX8_feed_92 : decode cX8_feed 92 = .ok (.ishr, 1) := by decide +kernel
theorem dX8_feed_93 : decode cX8_feed 93 = .ok (.sipush 255, 3) := by decide +kernel
theorem dX8_feed_96 : decode cX8_feed 96 = .ok (.iand, 1) := by decide +kernel
theorem dX8_feed_97 : decode cX8_feed 97 = .ok (.iastore, 1) := by decide +kernel
theorem dX8_feed_98 : decode cX8_feed 98 = .ok (.aload_n 0, 1) := by decide +kernel
theorem dX8_feed_99 : decode cX8_feed 99 = .ok (.dup, 1) := by decide +kernel
theorem dX8_feed_100 : decode cX8_feed 100 = .ok (.getfield 211, 3) := by decide +kernel
theorem dX8_feed_103 : decode cX8_feed 103 = .ok (.iconst 1, 1) := by decide +kernel
theorem dX8_feed_104 : decode cX8_feed 104 = .ok (.iadd, 1) := by decide +kernel
theorem dX8_feed_105 : decode cX8_feed 105 = .ok (.putfield 211, 3) := by decide +kernel
theorem dX8_feed_108 : decode cX8_feed 108 = .ok (.iinc 6 1, 3) := by decide +kernel
theorem dX8_feed_111 : decode cX8_feed 111 = .ok (.goto (-93), 3) := by decide +kernel
theorem dX8_feed_114 : decode cX8_feed 114 = .ok (.aload_n 0, 1) := by decide +kernel
theorem dX8_feed_115 : decode cX8_feed 115 = .ok (.getfield 211, 3) := by decide +kernel
theorem dX8_feed_118 : decode cX8_feed 118 = .ok (.ireturn, 1) := by decide +kernel
theorem dX8_end_0 : decode cX8_end 0 = .ok (.iload_n 1, 1) := by decide +kernel
theorem dX8_end_1 : decode cX8_end 1 = .ok (.ifCond .lt 11, 3) := by decide +kernel
theorem dX8_end_4 : decode cX8_end 4 = .ok (.iload_n 1, 1) := by decide +kernel
theorem dX8_end_5 : decode cX8_end 5 = .ok (.aload_n 0, 1) := by decide +kernel
theorem dX8_end_6 : decode cX8_end 6 = .ok (.getfield 211, 3) := by decide +kernel
theorem dX8_end_9 : decode cX8_end 9 = .ok (.if_icmp .le 5, 3) := by decide +kernel
theorem dX8_end_12 : decode cX8_end 12 = .ok (.iconst 0, 1) := by decide +kernel
theorem dX8_end_13 : decode cX8_end 13 = .ok (.ireturn, 1) := by decide +kernel
theorem dX8_end_14 : decode cX8_end 14 = .ok (.aload_n 0, 1) := by decide +kernel
theorem dX8_end_15 : decode cX8_end 15 = .ok (.iload_n 1, 1) := by decide +kernel
theorem dX8_end_16 : decode cX8_end 16 = .ok (.putfield 211, 3) := by decide +kernel
theorem dX8_end_19 : decode cX8_end 19 = .ok (.iconst 1, 1) := by decide +kernel
theorem dX8_end_20 : decode cX8_end 20 = .ok (.ireturn, 1) := by decide +kernel
theorem dX8_fail_0 : decode cX8_fail 0 = .ok (.aload_n 0, 1) := by decide +kernel
theorem dX8_fail_1 : decode cX8_fail 1 = .ok (.getfield 214, 3) := by decide +kernel
theorem dX8_fail_4 : decode cX8_fail 4 = .ok (.ifCond .eq 4, 3) := by decide +kernel
theorem dX8_fail_7 : decode cX8_fail 7 = .ok (.return_, 1) := by decide +kernel
theorem dX8_fail_8 : decode cX8_fail 8 = .ok (.aload_n 0, 1) := by decide +kernel
theorem dX8_fail_9 : decode cX8_fail 9 = .ok (.iload_n 1, 1) := by decide +kernel
theorem dX8_fail_10 : decode cX8_fail 10 = .ok (.putfield 214, 3) := by decide +kernel
theorem dX8_fail_13 : decode cX8_fail 13 = .ok (.aload_n 0, 1) := by decide +kernel
theorem dX8_fail_14 : decode cX8_fail 14 = .ok (.iload_n 2, 1) := by decide +kernel
theorem dX8_fail_15 : decode cX8_fail 15 = .ok (.putfield 217, 3) := by decide +kernel
theorem dX8_fail_18 : decode cX8_fail 18 = .ok (.return_, 1) := by decide +kernel
theorem dX8_isLetter_0 : decode cX8_isLetter 0 = .ok (.iload_n 0, 1) := by decide +kernel
theorem dX8_isLetter_1 : decode cX8_isLetter 1 = .ok (.bipush 97, 2) := by decide +kernel
theorem dX8_isLetter_3 : decode cX8_isLetter 3 = .ok (.if_icmp .lt 13, 3) := by decide +kernel
theorem dX8_isLetter_6 : decode cX8_isLetter 6 = .ok (.iload_n 0, 1) := by decide +kernel
theorem dX8_isLetter_7 : decode cX8_isLetter 7 = .ok (.bipush 122, 2) := by decide +kernel
theorem dX8_isLetter_9 : decode cX8_isLetter 9 = .ok (.if_icmp .gt 7, 3) := by decide +kernel
theorem dX8_isLetter_12 : decode cX8_isLetter 12 = .ok (.iconst 1, 1) := by decide +kernel
theorem dX8_isLetter_13 : decode cX8_isLetter 13 = .ok (.goto 4, 3) := by decide +kernel
theorem dX8_isLetter_16 : decode cX8_isLetter 16 = .ok (.iconst 0, 1) := by decide +kernel
theorem dX8_isLetter_17 : decode cX8_isLetter 17 = .ok (.ireturn, 1) := by decide +kernel
theorem dX8_isDigit_0 : decode cX8_isDigit 0 = .ok (.iload_n 0, 1) := by decide +kernel
theorem dX8_isDigit_1 : decode cX8_isDigit 1 = .ok (.bipush 48, 2) := by decide +kernel
theorem dX8_isDigit_3 : decode cX8_isDigit 3 = .ok (.if_icmp .lt 13, 3) := by decide +kernel
theorem dX8_isDigit_6 : decode cX8_isDigit 6 = .ok (.iload_n 0, 1) := by decide +kernel
theorem dX8_isDigit_7 : decode cX8_isDigit 7 = .ok (.bipush 57, 2) := by decide +kernel
theorem dX8_isDigit_9 : decode cX8_isDigit 9 = .ok (.if_icmp .gt 7, 3) := by decide +kernel
theorem dX8_isDigit_12 : decode cX8_isDigit 12 = .ok (.iconst 1, 1) := by decide +kernel
theorem dX8_isDigit_13 : decode cX8_isDigit 13 = .ok (.goto 4, 3) := by decide +kernel
theorem dX8_isDigit_16 : decode cX8_isDigit 16 = .ok (.iconst 0, 1) := by decide +kernel
theorem dX8_isDigit_17 : decode cX8_isDigit 17 = .ok (.ireturn, 1) := by decide +kernel
theorem dX8_next__0 : decode cX8_next_ 0 = .ok (.aload_n 0, 1) := by decide +kernel
theorem dX8_next__1 : decode cX8_next_ 1 = .ok (.getfield 220, 3) := by decide +kernel
theorem dX8_next__4 : decode cX8_next_ 4 = .ok (.aload_n 0, 1) := by decide +kernel
theorem dX8_next__5 : decode cX8_next_ 5 = .ok (.getfield 223, 3) := by decide +kernel
theorem dX8_next__8 : decode cX8_next_ 8 = .ok (.if_icmp .ge 44, 3) := by decide +kernel
theorem dX8_next__11 : decode cX8_next_ 11 = .ok (.aload_n 0, 1) := by decide +kernel
theorem dX8_next__12 : decode cX8_next_ 12 = .ok (.getfield 32, 3) := by decide +kernel
theorem dX8_next__15 : decode cX8_next_ 15 = .ok (.aload_n 0, 1) := by decide +kernel
theorem dX8_next__16 : decode cX8_next_ 16 = .ok (.getfield 220, 3) := by decide +kernel
theorem dX8_next__19 : decode cX8_next_ 19 = .ok (.iaload, 1) := by decide +kernel
theorem dX8_next__20 : decode cX8_next_ 20 = .ok (.bipush 10, 2) := by decide +kernel
theorem dX8_next__22 : decode cX8_next_ 22 = .ok (.if_icmp .eq 17, 3) := by decide +kernel
theorem dX8_next__25 : decode cX8_next_ 25 = .ok (.aload_n 0, 1) := by decide +kernel
theorem dX8_next__26 : decode cX8_next_ 26 = .ok (.getfield 32, 3) := by decide +kernel
theorem dX8_next__29 : decode cX8_next_ 29 = .ok (.aload_n 0, 1) := by decide +kernel
theorem dX8_next__30 : decode cX8_next_ 30 = .ok (.getfield 220, 3) := by decide +kernel
theorem dX8_next__33 : decode cX8_next_ 33 = .ok (.iaload, 1) := by decide +kernel
theorem dX8_next__34 : decode cX8_next_ 34 = .ok (.bipush 32, 2) := by decide +kernel
theorem dX8_next__36 : decode cX8_next_ 36 = .ok (.if_icmp .ne 16, 3) := by decide +kernel
theorem dX8_next__39 : decode cX8_next_ 39 = .ok (.aload_n 0, 1) := by decide +kernel
theorem dX8_next__40 : decode cX8_next_ 40 = .ok (.dup, 1) := by decide +kernel
theorem dX8_next__41 : decode cX8_next_ 41 = .ok (.getfield 220, 3) := by decide +kernel
theorem dX8_next__44 : decode cX8_next_ 44 = .ok (.iconst 1, 1) := by decide +kernel
theorem dX8_next__45 : decode cX8_next_ 45 = .ok (.iadd, 1) := by decide +kernel
theorem dX8_next__46 : decode cX8_next_ 46 = .ok (.putfield 220, 3) := by decide +kernel
theorem dX8_next__49 : decode cX8_next_ 49 = .ok (.goto (-49), 3) := by decide +kernel
theorem dX8_next__52 : decode cX8_next_ 52 = .ok (.aload_n 0, 1) := by decide +kernel
theorem dX8_next__53 : decode cX8_next_ 53 = .ok (.getfield 220, 3) := by decide +kernel
theorem dX8_next__56 : decode cX8_next_ 56 = .ok (.aload_n 0, 1) := by decide +kernel
theorem dX8_next__57 : decode cX8_next_ 57 = .ok (.getfield 223, 3) := by decide +kernel
theorem dX8_next__60 : decode cX8_next_ 60 = .ok (.if_icmp .ge 15, 3) := by decide +kernel
theorem dX8_next__63 : decode cX8_next_ 63 = .ok (.aload_n 0, 1) := by decide +kernel
theorem dX8_next__64 : decode cX8_next_ 64 = .ok (.getfield 32, 3) := by decide +kernel
theorem dX8_next__67 : decode cX8_next_ 67 = .ok (.aload_n 0, 1) := by decide +kernel
theorem dX8_next__68 : decode cX8_next_ 68 = .ok (.getfield 220, 3) := by decide +kernel
theorem dX8_next__71 : decode cX8_next_ 71 = .ok (.iaload, 1) := by decide +kernel
theorem dX8_next__72 : decode cX8_next_ 72 = .ok (.goto 4, 3) := by decide +kernel
theorem dX8_next__75 : decode cX8_next_ 75 = .ok (.iconst (-1), 1) := by decide +kernel
theorem dX8_next__76 : decode cX8_next_ 76 = .ok (.ireturn, 1) := by decide +kernel
theorem dX8_wordEnd_0 : decode cX8_wordEnd 0 = .ok (.aload_n 0, 1) := by decide +kernel
theorem dX8_wordEnd_1 : decode cX8_wordEnd 1 = .ok (.getfield 220, 3) := by decide +kernel
theorem dX8_wordEnd_4 : decode cX8_wordEnd 4 = .ok (.istore_n 1, 1) := by decide +kernel
theorem dX8_wordEnd_5 : decode cX8_wordEnd 5 = .ok (.iload_n 1, 1) := by decide +kernel
theorem dX8_wordEnd_6 : decode cX8_wordEnd 6 = .ok (.aload_n 0, 1) := by decide +kernel
theorem dX8_wordEnd_7 : decode cX8_wordEnd 7 = .ok (.getfield 223, 3) := by decide +kernel
theorem dX8_wordEnd_10 : decode cX8_wordEnd 10 = .ok (.if_icmp .ge 21, 3) := by decide +kernel
theorem dX8_wordEnd_13 : decode cX8_wordEnd 13 = .ok (.aload_n 0, 1) := by decide +kernel
theorem dX8_wordEnd_14 : decode cX8_wordEnd 14 = .ok (.getfield 32, 3) := by decide +kernel
theorem dX8_wordEnd_17 : decode cX8_wordEnd 17 = .ok (.iload_n 1, 1) := by decide +kernel
theorem dX8_wordEnd_18 : decode cX8_wordEnd 18 = .ok (.iaload, 1) := by decide +kernel
theorem dX8_wordEnd_19 : decode cX8_wordEnd 19 = .ok (.invokestatic 226, 3) := by decide +kernel
theorem dX8_wordEnd_22 : decode cX8_wordEnd 22 = .ok (.ifCond .eq 9, 3) := by decide +kernel
theorem dX8_wordEnd_25 : decode cX8_wordEnd 25 = .ok (.iinc 1 1, 3) := by decide +kernel
theorem dX8_wordEnd_28 : decode cX8_wordEnd 28 = .ok (.goto (-23), 3) := by decide +kernel
theorem dX8_wordEnd_31 : decode cX8_wordEnd 31 = .ok (.iload_n 1, 1) := by decide +kernel
theorem dX8_wordEnd_32 : decode cX8_wordEnd 32 = .ok (.ireturn, 1) := by decide +kernel
theorem dX8_takes_0 : decode cX8_takes 0 = .ok (.aload_n 0, 1) := by decide +kernel
theorem dX8_takes_1 : decode cX8_takes 1 = .ok (.invokevirtual 229, 3) := by decide +kernel
theorem dX8_takes_4 : decode cX8_takes 4 = .ok (.pop, 1) := by decide +kernel
theorem dX8_takes_5 : decode cX8_takes 5 = .ok (.aload_n 0, 1) := by decide +kernel
theorem dX8_takes_6 : decode cX8_takes 6 = .ok (.getfield 220, 3) := by decide +kernel
theorem dX8_takes_9 : decode cX8_takes 9 = .ok (.aload_n 0, 1) := by decide +kernel
theorem dX8_takes_10 : decode cX8_takes 10 = .ok (.getfield 233, 3) := by decide +kernel
theorem dX8_takes_13 : decode cX8_takes 13 = .ok (.if_icmp .eq 17, 3) := by decide +kernel
theorem dX8_takes_16 : decode cX8_takes 16 = .ok (.aload_n 0, 1) := by decide +kernel
theorem dX8_takes_17 : decode cX8_takes 17 = .ok (.invokevirtual 236, 3) := by decide +kernel
theorem dX8_takes_20 : decode cX8_takes 20 = .ok (.aload_n 0, 1) := by decide +kernel
theorem dX8_takes_21 : decode cX8_takes 21 = .ok (.getfield 220, 3) := by decide +kernel
theorem dX8_takes_24 : decode cX8_takes 24 = .ok (.isub, 1) := by decide +kernel
theorem dX8_takes_25 : decode cX8_takes 25 = .ok (.aload_n 1, 1) := by decide +kernel
theorem dX8_takes_26 : decode cX8_takes 26 = .ok (.arraylength, 1) := by decide +kernel
theorem dX8_takes_27 : decode cX8_takes 27 = .ok (.if_icmp .eq 5, 3) := by decide +kernel
theorem dX8_takes_30 : decode cX8_takes 30 = .ok (.iconst 0, 1) := by decide +kernel
theorem dX8_takes_31 : decode cX8_takes 31 = .ok (.ireturn, 1) := by decide +kernel
theorem dX8_takes_32 : decode cX8_takes 32 = .ok (.iconst 0, 1) := by decide +kernel
theorem dX8_takes_33 : decode cX8_takes 33 = .ok (.istore_n 2, 1) := by decide +kernel
theorem dX8_takes_34 : decode cX8_takes 34 = .ok (.iload_n 2, 1) := by decide +kernel
theorem dX8_takes_35 : decode cX8_takes 35 = .ok (.aload_n 1, 1) := by decide +kernel
theorem dX8_takes_36 : decode cX8_takes 36 = .ok (.arraylength, 1) := by decide +kernel
theorem dX8_takes_37 : decode cX8_takes 37 = .ok (.if_icmp .ge 28, 3) := by decide +kernel
theorem dX8_takes_40 : decode cX8_takes 40 = .ok (.aload_n 0, 1) := by decide +kernel
theorem dX8_takes_41 : decode cX8_takes 41 = .ok (.getfield 32, 3) := by decide +kernel
theorem dX8_takes_44 : decode cX8_takes 44 = .ok (.aload_n 0, 1) := by decide +kernel
theorem dX8_takes_45 : decode cX8_takes 45 = .ok (.getfield 220, 3) := by decide +kernel
theorem dX8_takes_48 : decode cX8_takes 48 = .ok (.iload_n 2, 1) := by decide +kernel
theorem dX8_takes_49 : decode cX8_takes 49 = .ok (.iadd, 1) := by decide +kernel
theorem dX8_takes_50 : decode cX8_takes 50 = .ok (.iaload, 1) := by decide +kernel
theorem dX8_takes_51 : decode cX8_takes 51 = .ok (.aload_n 1, 1) := by decide +kernel
theorem dX8_takes_52 : decode cX8_takes 52 = .ok (.iload_n 2, 1) := by decide +kernel
theorem dX8_takes_53 : decode cX8_takes 53 = .ok (.caload, 1) := by decide +kernel
theorem dX8_takes_54 : decode cX8_takes 54 = .ok (.if_icmp .eq 5, 3) := by decide +kernel
theorem dX8_takes_57 : decode cX8_takes 57 = .ok (.iconst 0, 1) := by decide +kernel
theorem dX8_takes_58 : decode cX8_takes 58 = .ok (.ireturn, 1) := by decide +kernel
theorem dX8_takes_59 : decode cX8_takes 59 = .ok (.iinc 2 1, 3) := by decide +kernel
theorem dX8_takes_62 : decode cX8_takes 62 = .ok (.goto (-28), 3) := by decide +kernel
theorem dX8_takes_65 : decode cX8_takes 65 = .ok (.aload_n 0, 1) := by decide +kernel
theorem dX8_takes_66 : decode cX8_takes 66 = .ok (.dup, 1) := by decide +kernel
theorem dX8_takes_67 : decode cX8_takes 67 = .ok (.getfield 220, 3) := by decide +kernel
theorem dX8_takes_70 : decode cX8_takes 70 = .ok (.aload_n 1, 1) := by decide +kernel
theorem dX8_takes_71 : decode cX8_takes 71 = .ok (.arraylength, 1) := by decide +kernel
theorem dX8_takes_72 : decode cX8_takes 72 = .ok (.iadd, 1) := by decide +kernel
theorem dX8_takes_73 : decode cX8_takes 73 = .ok (.putfield 220, 3) := by decide +kernel
theorem dX8_takes_76 : decode cX8_takes 76 = .ok (.aload_n 0, 1) := by decide +kernel
theorem dX8_takes_77 : decode cX8_takes 77 = .ok (.aload_n 0, 1) := by decide +kernel
theorem dX8_takes_78 : decode cX8_takes 78 = .ok (.getfield 220, 3) := by decide +kernel
theorem dX8_takes_81 : decode cX8_takes 81 = .ok (.putfield 233, 3) := by decide +kernel
theorem dX8_takes_84 : decode cX8_takes 84 = .ok (.iconst 1, 1) := by decide +kernel
theorem dX8_takes_85 : decode cX8_takes 85 = .ok (.ireturn, 1) := by decide +kernel
theorem dX8_number_0 : decode cX8_number 0 = .ok (.aload_n 0, 1) := by decide +kernel
theorem dX8_number_1 : decode cX8_number 1 = .ok (.invokevirtual 229, 3) := by decide +kernel
theorem dX8_number_4 : decode cX8_number 4 = .ok (.invokestatic 239, 3) := by decide +kernel
theorem dX8_number_7 : decode cX8_number 7 = .ok (.ifCond .eq 14, 3) := by decide +kernel
theorem dX8_number_10 : decode cX8_number 10 = .ok (.aload_n 0, 1) := by decide +kernel
theorem dX8_number_11 : decode cX8_number 11 = .ok (.getfield 220, 3) := by decide +kernel
theorem dX8_number_14 : decode cX8_number 14 = .ok (.aload_n 0, 1) := by decide +kernel
theorem dX8_number_15 : decode cX8_number 15 = .ok (.getfield 233, 3) := by decide +kernel
theorem dX8_number_18 : decode cX8_number 18 = .ok (.if_icmp .ne 14, 3) := by decide +kernel
theorem dX8_number_21 : decode cX8_number 21 = .ok (.aload_n 0, 1) := by decide +kernel
theorem dX8_number_22 : decode cX8_number 22 = .ok (.iconst 1, 1) := by decide +kernel
theorem dX8_number_23 : decode cX8_number 23 = .ok (.aload_n 0, 1) := by decide +kernel
theorem dX8_number_24 : decode cX8_number 24 = .ok (.getfield 220, 3) := by decide +kernel
theorem dX8_number_27 : decode cX8_number 27 = .ok (.invokevirtual 242, 3) := by decide +kernel
theorem dX8_number_30 : decode cX8_number 30 = .ok (.iconst 0, 1) := by decide +kernel
theorem dX8_number_31 : decode cX8_number 31 = .ok (.ireturn, 1) := by decide +kernel
theorem dX8_number_32 : decode cX8_number 32 = .ok (.aload_n 0, 1) := by decide +kernel
theorem dX8_number_33 : decode cX8_number 33 = .ok (.getfield 220, 3) := by decide +kernel
theorem dX8_number_36 : decode cX8_number 36 = .ok (.istore_n 3, 1) := by decide +kernel
theorem dX8_number_37 : decode cX8_number 37 = .ok (.iconst 0, 1) := by decide +kernel
theorem dX8_number_38 : decode cX8_number 38 = .ok (.istore 4, 2) := by decide +kernel
theorem dX8_number_40 : decode cX8_number 40 = .ok (.aload_n 0, 1) := by decide +kernel
theorem dX8_number_41 : decode cX8_number 41 = .ok (.getfield 220, 3) := by decide +kernel
theorem dX8_number_44 : decode cX8_number 44 = .ok (.aload_n 0, 1) := by decide +kernel
theorem dX8_number_45 : decode cX8_number 45 = .ok (.getfield 223, 3) := by decide +kernel
theorem dX8_number_48 : decode cX8_number 48 = .ok (.if_icmp .ge 72, 3) := by decide +kernel
theorem dX8_number_51 : decode cX8_number 51 = .ok (.aload_n 0, 1) := by decide +kernel
theorem dX8_number_52 : decode cX8_number 52 = .ok (.getfield 32, 3) := by decide +kernel
theorem dX8_number_55 : decode cX8_number 55 = .ok (.aload_n 0, 1) := by decide +kernel
theorem dX8_number_56 : decode cX8_number 56 = .ok (.getfield 220, 3) := by decide +kernel
theorem dX8_number_59 : decode cX8_number 59 = .ok (.iaload, 1) := by decide +kernel
theorem dX8_number_60 : decode cX8_number 60 = .ok (.invokestatic 239, 3) := by decide +kernel
theorem dX8_number_63 : decode cX8_number 63 = .ok (.ifCond .eq 57, 3) := by decide +kernel
theorem dX8_number_66 : decode cX8_number 66 = .ok (.aload_n 0, 1) := by decide +kernel
theorem dX8_number_67 : decode cX8_number 67 = .ok (.getfield 220, 3) := by decide +kernel
theorem dX8_number_70 : decode cX8_number 70 = .ok (.iload_n 3, 1) := by decide +kernel
theorem dX8_number_71 : decode cX8_number 71 = .ok (.isub, 1) := by decide +kernel
theorem dX8_number_72 : decode cX8_number 72 = .ok (.iconst 3, 1) := by decide +kernel
theorem dX8_number_73 : decode cX8_number 73 = .ok (.if_icmp .ne 14, 3) := by decide +kernel
theorem dX8_number_76 : decode cX8_number 76 = .ok (.aload_n 0, 1) := by decide +kernel
theorem dX8_number_77 : decode cX8_number 77 = .ok (.iconst 1, 1) := by decide +kernel
theorem dX8_number_78 : decode cX8_number 78 = .ok (.aload_n 0, 1) := by decide +kernel
theorem dX8_number_79 : decode cX8_number 79 = .ok (.getfield 220, 3) := by decide +kernel
theorem dX8_number_82 : decode cX8_number 82 = .ok (.invokevirtual 242, 3) := by decide +kernel
theorem dX8_number_85 : decode cX8_number 85 = .ok (.iconst 0, 1) := by decide +kernel
theorem dX8_number_86 : decode cX8_number 86 = .ok (.ireturn, 1) := by decide +kernel
theorem dX8_number_87 : decode cX8_number 87 = .ok (.bipush 10, 2) := by decide +kernel
theorem dX8_number_89 : decode cX8_number 89 = .ok (.iload 4, 2) := by decide +kernel
theorem dX8_number_91 : decode cX8_number 91 = .ok (.imul, 1) := by decide +kernel
theorem dX8_number_92 : decode cX8_number 92 = .ok (.aload_n 0, 1) := by decide +kernel
theorem dX8_number_93 : decode cX8_number 93 = .ok (.getfield 32, 3) := by decide +kernel
theorem dX8_number_96 : decode cX8_number 96 = .ok (.aload_n 0, 1) := by decide +kernel
theorem dX8_number_97 : decode cX8_number 97 = .ok (.getfield 220, 3) := by decide +kernel
theorem dX8_number_100 : decode cX8_number 100 = .ok (.iaload, 1) := by decide +kernel
theorem dX8_number_101 : decode cX8_number 101 = .ok (.iadd, 1) := by decide +kernel
theorem dX8_number_102 : decode cX8_number 102 = .ok (.bipush 48, 2) := by decide +kernel
theorem dX8_number_104 : decode cX8_number 104 = .ok (.isub, 1) := by decide +kernel
theorem dX8_number_105 : decode cX8_number 105 = .ok (.istore 4, 2) := by decide +kernel
theorem dX8_number_107 : decode cX8_number 107 = .ok (.aload_n 0, 1) := by decide +kernel
theorem dX8_number_108 : decode cX8_number 108 = .ok (.dup, 1) := by decide +kernel
theorem dX8_number_109 : decode cX8_number 109 = .ok (.getfield 220, 3) := by decide +kernel
theorem dX8_number_112 : decode cX8_number 112 = .ok (.iconst 1, 1) := by decide +kernel
theorem dX8_number_113 : decode cX8_number 113 = .ok (.iadd, 1) := by decide +kernel
theorem dX8_number_114 : decode cX8_number 114 = .ok (.putfield 220, 3) := by decide +kernel
theorem dX8_number_117 : decode cX8_number 117 = .ok (.goto (-77), 3) := by decide +kernel
theorem dX8_number_120 : decode cX8_number 120 = .ok (.aload_n 0, 1) := by decide +kernel
theorem dX8_number_121 : decode cX8_number 121 = .ok (.aload_n 0, 1) := by decide +kernel
theorem dX8_number_122 : decode cX8_number 122 = .ok (.getfield 220, 3) := by decide +kernel
theorem dX8_number_125 : decode cX8_number 125 = .ok (.putfield 233, 3) := by decide +kernel
theorem dX8_number_128 : decode cX8_number 128 = .ok (.iload 4, 2) := by decide +kernel
theorem dX8_number_130 : decode cX8_number 130 = .ok (.iload_n 1, 1) := by decide +kernel
theorem dX8_number_131 : decode cX8_number 131 = .ok (.iload_n 2, 1) := by decide +kernel
theorem dX8_number_132 : decode cX8_number 132 = .ok (.invokestatic 113, 3) := by decide +kernel
theorem dX8_number_135 : decode cX8_number 135 = .ok (.ifCond .ne 9, 3) := by decide +kernel
theorem dX8_number_138 : decode cX8_number 138 = .ok (.aload_n 0, 1) := by decide +kernel
theorem dX8_number_139 : decode cX8_number 139 = .ok (.iconst 4, 1) := by decide +kernel
theorem dX8_number_140 : decode cX8_number 140 = .ok (.iload_n 3, 1) := by decide +kernel
theorem dX8_number_141 : decode cX8_number 141 = .ok (.invokevirtual 242, 3) := by decide +kernel
theorem dX8_number_144 : decode cX8_number 144 = .ok (.iload 4, 2) := by decide +kernel
theorem dX8_number_146 : decode cX8_number 146 = .ok (.ireturn, 1) := by decide +kernel
theorem dX8_packed_0 : decode cX8_packed 0 = .ok (.lconst 0, 1) := by decide +kernel
theorem dX8_packed_1 : decode cX8_packed 1 = .ok (.lstore_n 3, 1) := by decide +kernel
theorem dX8_packed_2 : decode cX8_packed 2 = .ok (.iload_n 1, 1) := by decide +kernel
theorem dX8_packed_3 : decode cX8_packed 3 = .ok (.istore 5, 2) := by decide +kernel
theorem dX8_packed_5 : decode cX8_packed 5 = .ok (.iload 5, 2) := by decide +kernel
theorem dX8_packed_7 : decode cX8_packed 7 = .ok (.iload_n 2, 1) := by decide +kernel
theorem dX8_packed_8 : decode cX8_packed 8 = .ok (.if_icmp .ge 30, 3) := by decide +kernel
theorem dX8_packed_11 : decode cX8_packed 11 = .ok (.ldc2_w 245, 3) := by decide +kernel
theorem dX8_packed_14 : decode cX8_packed 14 = .ok (.lload_n 3, 1) := by decide +kernel
theorem dX8_packed_15 : decode cX8_packed 15 = .ok (.lmul, 1) := by decide +kernel
theorem dX8_packed_16 : decode cX8_packed 16 = .ok (.aload_n 0, 1) := by decide +kernel
theorem dX8_packed_17 : decode cX8_packed 17 = .ok (.getfield 32, 3) := by decide +kernel
theorem dX8_packed_20 : decode cX8_packed 20 = .ok (.iload 5, 2) := by decide +kernel
theorem dX8_packed_22 : decode cX8_packed 22 = .ok (.iaload, 1) := by decide +kernel
theorem dX8_packed_23 : decode cX8_packed 23 = .ok (.i2l, 1) := by decide +kernel
theorem dX8_packed_24 : decode cX8_packed 24 = .ok (.ladd, 1) := by decide +kernel
theorem dX8_packed_25 : decode cX8_packed 25 = .ok (.ldc2_w 247, 3) := by decide +kernel
theorem dX8_packed_28 : decode cX8_packed 28 = .ok (.lsub, 1) := by decide +kernel
theorem dX8_packed_29 : decode cX8_packed 29 = .ok (.lconst 1, 1) := by decide +kernel
theorem dX8_packed_30 : decode cX8_packed 30 = .ok (.ladd, 1) := by decide +kernel
theorem dX8_packed_31 : decode cX8_packed 31 = .ok (.lstore_n 3, 1) := by decide +kernel
theorem dX8_packed_32 : decode cX8_packed 32 = .ok (.iinc 5 1, 3) := by decide +kernel
theorem dX8_packed_35 : decode cX8_packed 35 = .ok (.goto (-30), 3) := by decide +kernel
theorem dX8_packed_38 : decode cX8_packed 38 = .ok (.lload_n 3, 1) := by decide +kernel
theorem dX8_packed_39 : decode cX8_packed 39 = .ok (.lreturn, 1) := by decide +kernel
theorem dX8_reignOf_0 : decode cX8_reignOf 0 = .ok (.iconst 0, 1) := by decide +kernel
theorem dX8_reignOf_1 : decode cX8_reignOf 1 = .ok (.istore_n 3, 1) := by decide +kernel
theorem dX8_reignOf_2 : decode cX8_reignOf 2 = .ok (.iload_n 3, 1) := by decide +kernel
theorem dX8_reignOf_3 : decode cX8_reignOf 3 = .ok (.aload_n 0, 1) := by decide +kernel
theorem dX8_reignOf_4 : decode cX8_reignOf 4 = .ok (.getfield 249, 3) := by decide +kernel
theorem dX8_reignOf_7 : decode cX8_reignOf 7 = .ok (.if_icmp .ge 22, 3) := by decide +kernel
theorem dX8_reignOf_10 : decode cX8_reignOf 10 = .ok (.aload_n 0, 1) := by decide +kernel
theorem dX8_reignOf_11 : decode cX8_reignOf 11 = .ok (.getfield 38, 3) := by decide +kernel
theorem dX8_reignOf_14 : decode cX8_reignOf 14 = .ok (.iload_n 3, 1) := by decide +kernel
theorem dX8_reignOf_15 : decode cX8_reignOf 15 = .ok (.laload, 1) := by decide +kernel
theorem dX8_reignOf_16 : decode cX8_reignOf 16 = .ok (.lload_n 1, 1) := by decide +kernel
theorem dX8_reignOf_17 : decode cX8_reignOf 17 = .ok (.lcmp, 1) := by decide +kernel
theorem dX8_reignOf_18 : decode cX8_reignOf 18 = .ok (.ifCond .ne 5, 3) := by decide +kernel
theorem dX8_reignOf_21 : decode cX8_reignOf 21 = .ok (.iload_n 3, 1) := by decide +kernel
theorem dX8_reignOf_22 : decode cX8_reignOf 22 = .ok (.ireturn, 1) := by decide +kernel
theorem dX8_reignOf_23 : decode cX8_reignOf 23 = .ok (.iinc 3 1, 3) := by decide +kernel
theorem dX8_reignOf_26 : decode cX8_reignOf 26 = .ok (.goto (-24), 3) := by decide +kernel
theorem dX8_reignOf_29 : decode cX8_reignOf 29 = .ok (.iconst (-1), 1) := by decide +kernel
theorem dX8_reignOf_30 : decode cX8_reignOf 30 = .ok (.ireturn, 1) := by decide +kernel
theorem dX8_reign_0 : decode cX8_reign 0 = .ok (.aload_n 0, 1) := by decide +kernel
theorem dX8_reign_1 : decode cX8_reign 1 = .ok (.getfield 211, 3) := by decide +kernel
theorem dX8_reign_4 : decode cX8_reign 4 = .ok (.istore_n 3, 1) := by decide +kernel
theorem dX8_reign_5 : decode cX8_reign 5 = .ok (.aload_n 0, 1) := by decide +kernel
theorem dX8_reign_6 : decode cX8_reign 6 = .ok (.iconst 0, 1) := by decide +kernel
theorem dX8_reign_7 : decode cX8_reign 7 = .ok (.putfield 211, 3) := by decide +kernel
theorem dX8_reign_10 : decode cX8_reign 10 = .ok (.iload_n 3, 1) := by decide +kernel
theorem dX8_reign_11 : decode cX8_reign 11 = .ok (.ifCond .le 42, 3) := by decide +kernel
theorem dX8_reign_14 : decode cX8_reign 14 = .ok (.iload_n 3, 1) := by decide +kernel
theorem dX8_reign_15 : decode cX8_reign 15 = .ok (.bipush 7, 2) := by decide +kernel
theorem dX8_reign_17 : decode cX8_reign 17 = .ok (.if_icmp .ge 36, 3) := by decide +kernel
theorem dX8_reign_20 : decode cX8_reign 20 = .ok (.iload_n 1, 1) := by decide +kernel
theorem dX8_reign_21 : decode cX8_reign 21 = .ok (.iconst 0, 1) := by decide +kernel
theorem dX8_reign_22 : decode cX8_reign 22 = .ok (.iconst 2, 1) := by decide +kernel
theorem dX8_reign_23 : decode cX8_reign 23 = .ok (.invokestatic 113, 3) := by decide +kernel
theorem dX8_reign_26 : decode cX8_reign 26 = .ok (.ifCond .eq 27, 3) := by decide +kernel
theorem dX8_reign_29 : decode cX8_reign 29 = .ok (.iload_n 2, 1) := by decide +kernel
theorem dX8_reign_30 : decode cX8_reign 30 = .ok (.iconst 0, 1) := by decide +kernel
theorem dX8_reign_31 : decode cX8_reign 31 = .ok (.sipush 600, 3) := by decide +kernel
theorem dX8_reign_34 : decode cX8_reign 34 = .ok (.invokestatic 113, 3) := by decide +kernel
theorem dX8_reign_37 : decode cX8_reign 37 = .ok (.ifCond .eq 16, 3) := by decide +kernel
theorem dX8_reign_40 : decode cX8_reign 40 = .ok (.aload_n 0, 1) := by decide +kernel
theorem dX8_reign_41 : decode cX8_reign 41 = .ok (.getfield 249, 3) := by decide +kernel
theorem dX8_reign_44 : decode cX8_reign 44 = .ok (.bipush 12, 2) := by decide +kernel
theorem dX8_reign_46 : decode cX8_reign 46 = .ok (.if_icmp .ge 7, 3) := by decide +kernel
theorem dX8_reign_49 : decode cX8_reign 49 = .ok (.iconst 1, 1) := by decide +kernel
theorem dX8_reign_50 : decode cX8_reign 50 = .ok (.goto 4, 3) := by decide +kernel
theorem dX8_reign_53 : decode cX8_reign 53 = .ok (.iconst 0, 1) := by decide +kernel
theorem dX8_reign_54 : decode cX8_reign 54 = .ok (.istore 4, 2) := by decide +kernel
theorem dX8_reign_56 : decode cX8_reign 56 = .ok (.iconst 0, 1) := by decide +kernel
theorem dX8_reign_57 : decode cX8_reign 57 = .ok (.istore 5, 2) := by decide +kernel
theorem dX8_reign_59 : decode cX8_reign 59 = .ok (.iload 5, 2) := by decide +kernel
theorem dX8_reign_61 : decode cX8_reign 61 = .ok (.iload_n 3, 1) := by decide +kernel
theorem dX8_reign_62 : decode cX8_reign 62 = .ok (.if_icmp .ge 26, 3) := by decide +kernel
theorem dX8_reign_65 : decode cX8_reign 65 = .ok (.iload 4, 2) := by decide +kernel
theorem dX8_reign_67 : decode cX8_reign 67 = .ok (.ifCond .eq 21, 3) := by decide +kernel
theorem dX8_reign_70 : decode cX8_reign 70 = .ok (.aload_n 0, 1) := by decide +kernel
theorem dX8_reign_71 : decode cX8_reign 71 = .ok (.getfield 32, 3) := by decide +kernel
theorem dX8_reign_74 : decode cX8_reign 74 = .ok (.iload 5, 2) := by decide +kernel
theorem dX8_reign_76 : decode cX8_reign 76 = .ok (.iaload, 1) := by decide +kernel
theorem dX8_reign_77 : decode cX8_reign 77 = .ok (.invokestatic 226, 3) := by decide +kernel
theorem dX8_reign_80 : decode cX8_reign 80 = .ok (.istore 4, 2) := by decide +kernel
theorem dX8_reign_82 : decode cX8_reign 82 = .ok (.iinc 5 1, 3) := by decide +kernel
theorem dX8_reign_85 : decode cX8_reign 85 = .ok (.goto (-26), 3) := by decide +kernel
theorem dX8_reign_88 : decode cX8_reign 88 = .ok (.iload 4, 2) := by decide +kernel
theorem dX8_reign_90 : decode cX8_reign 90 = .ok (.ifCond .eq 17, 3) := by decide +kernel
theorem dX8_reign_93 : decode cX8_reign 93 = .ok (.aload_n 0, 1) := by decide +kernel
theorem dX8_reign_94 : decode cX8_reign 94 = .ok (.aload_n 0, 1) := by decide +kernel
theorem dX8_reign_95 : decode cX8_reign 95 = .ok (.iconst 0, 1) := by decide +kernel
theorem dX8_reign_96 : decode cX8_reign 96 = .ok (.iload_n 3, 1) := by decide +kernel
theorem dX8_reign_97 : decode cX8_reign 97 = .ok (.invokevirtual 252, 3) := by decide +kernel
theorem dX8_reign_100 : decode cX8_reign 100 = .ok (.invokevirtual 256, 3) := by decide +kernel
theorem dX8_reign_103 : decode cX8_reign 103 = .ok (.iconst (-1), 1) := by decide +kernel
theorem dX8_reign_104 : decode cX8_reign 104 = .ok (.if_icmp .eq 5, 3) := by decide +kernel
theorem dX8_reign_107 : decode cX8_reign 107 = .ok (.iconst (-1), 1) := by decide +kernel
theorem dX8_reign_108 : decode cX8_reign 108 = .ok (.ireturn, 1) := by decide +kernel
theorem dX8_reign_109 : decode cX8_reign 109 = .ok (.aload_n 0, 1) := by decide +kernel
theorem dX8_reign_110 : decode cX8_reign 110 = .ok (.getfield 38, 3) := by decide +kernel
theorem dX8_reign_113 : decode cX8_reign 113 = .ok (.aload_n 0, 1) := by decide +kernel
theorem dX8_reign_114 : decode cX8_reign 114 = .ok (.getfield 249, 3) := by decide +kernel
theorem dX8_reign_117 : decode cX8_reign 117 = .ok (.aload_n 0, 1) := by decide +kernel
theorem dX8_reign_118 : decode cX8_reign 118 = .ok (.iconst 0, 1) := by decide +kernel
theorem dX8_reign_119 : decode cX8_reign 119 = .ok (.iload_n 3, 1) := by decide +kernel
theorem dX8_reign_120 : decode cX8_reign 120 = .ok (.invokevirtual 252, 3) := by decide +kernel
theorem dX8_reign_123 : decode cX8_reign 123 = .ok (.lastore, 1) := by decide +kernel
theorem dX8_reign_124 : decode cX8_reign 124 = .ok (.aload_n 0, 1) := by decide +kernel
theorem dX8_reign_125 : decode cX8_reign 125 = .ok (.getfield 42, 3) := by decide +kernel
theorem dX8_reign_128 : decode cX8_reign 128 = .ok (.aload_n 0, 1) := by decide +kernel
theorem dX8_reign_129 : decode cX8_reign 129 = .ok (.getfield 249, 3) := by decide +kernel
theorem dX8_reign_132 : decode cX8_reign 132 = .ok (.iload_n 1, 1) := by decide +kernel
theorem dX8_reign_133 : decode cX8_reign 133 = .ok (.iastore, 1) := by decide +kernel
theorem dX8_reign_134 : decode cX8_reign 134 = .ok (.aload_n 0, 1) := by decide +kernel
theorem dX8_reign_135 : decode cX8_reign 135 = .ok (.getfield 45, 3) := by decide +kernel
theorem dX8_reign_138 : decode cX8_reign 138 = .ok (.aload_n 0, 1) := by decide +kernel
theorem dX8_reign_139 : decode cX8_reign 139 = .ok (.getfield 249, 3) := by decide +kernel
theorem dX8_reign_142 : decode cX8_reign 142 = .ok (.iload_n 2, 1) := by decide +kernel
theorem dX8_reign_143 : decode cX8_reign 143 = .ok (.iastore, 1) := by decide +kernel
theorem dX8_reign_144 : decode cX8_reign 144 = .ok (.aload_n 0, 1) := by decide +kernel
theorem dX8_reign_145 : decode cX8_reign 145 = .ok (.dup, 1) := by decide +kernel
theorem dX8_reign_146 : decode cX8_reign 146 = .ok (.getfield 249, 3) := by decide +kernel
theorem dX8_reign_149 : decode cX8_reign 149 = .ok (.iconst 1, 1) := by decide +kernel
theorem dX8_reign_150 : decode cX8_reign 150 = .ok (.iadd, 1) := by decide +kernel
theorem dX8_reign_151 : decode cX8_reign 151 = .ok (.putfield 249, 3) := by decide +kernel
theorem dX8_reign_154 : decode cX8_reign 154 = .ok (.aload_n 0, 1) := by decide +kernel
theorem dX8_reign_155 : decode cX8_reign 155 = .ok (.getfield 249, 3) := by decide +kernel
theorem dX8_reign_158 : decode cX8_reign 158 = .ok (.ireturn, 1) := by decide +kernel
theorem dX8_whats_0 : decode cX8_whats 0 = .ok (.aload_n 0, 1) := by decide +kernel
theorem dX8_whats_1 : decode cX8_whats 1 = .ok (.aload_n 0, 1) := by decide +kernel
theorem dX8_whats_2 : decode cX8_whats 2 = .ok (.getfield 63, 3) := by decide +kernel
theorem dX8_whats_5 : decode cX8_whats 5 = .ok (.invokevirtual 260, 3) := by decide +kernel
theorem dX8_whats_8 : decode cX8_whats 8 = .ok (.ifCond .eq 52, 3) := by decide +kernel
theorem dX8_whats_11 : decode cX8_whats 11 = .ok (.aload_n 0, 1) := by decide +kernel
theorem dX8_whats_12 : decode cX8_whats 12 = .ok (.aload_n 0, 1) := by decide +kernel
theorem dX8_whats_13 : decode cX8_whats 13 = .ok (.getfield 70, 3) := by decide +kernel
theorem dX8_whats_16 : decode cX8_whats 16 = .ok (.invokevirtual 260, 3) := by decide +kernel
theorem dX8_whats_19 : decode cX8_whats 19 = .ok (.ifCond .eq 7, 3) := by decide +kernel
theorem dX8_whats_22 : decode cX8_whats 22 = .ok (.iconst 2, 1) := by decide +kernel
theorem dX8_whats_23 : decode cX8_whats 23 = .ok (.goto 36, 3) := by decide +kernel
theorem dX8_whats_26 : decode cX8_whats 26 = .ok (.aload_n 0, 1) := by decide +kernel
theorem dX8_whats_27 : decode cX8_whats 27 = .ok (.aload_n 0, 1) := by decide +kernel
theorem dX8_whats_28 : decode cX8_whats 28 = .ok (.getfield 73, 3) := by decide +kernel
theorem dX8_whats_31 : decode cX8_whats 31 = .ok (.invokevirtual 260, 3) := by decide +kernel
theorem dX8_whats_34 : decode cX8_whats 34 = .ok (.ifCond .eq 7, 3) := by decide +kernel
theorem dX8_whats_37 : decode cX8_whats 37 = .ok (.iconst 4, 1) := by decide +kernel
theorem dX8_whats_38 : decode cX8_whats 38 = .ok (.goto 21, 3) := by decide +kernel
theorem dX8_whats_41 : decode cX8_whats 41 = .ok (.aload_n 0, 1) := by decide +kernel
theorem dX8_whats_42 : decode cX8_whats 42 = .ok (.aload_n 0, 1) := by decide +kernel
theorem dX8_whats_43 : decode cX8_whats 43 = .ok (.getfield 76, 3) := by decide +kernel
theorem dX8_whats_46 : decode cX8_whats 46 = .ok (.invokevirtual 260, 3) := by decide +kernel
theorem dX8_whats_49 : decode cX8_whats 49 = .ok (.ifCond .eq 8, 3) := by decide +kernel
theorem dX8_whats_52 : decode cX8_whats 52 = .ok (.bipush 8, 2) := by decide +kernel
theorem dX8_whats_54 : decode cX8_whats 54 = .ok (.goto 5, 3) := by decide +kernel
theorem dX8_whats_57 : decode cX8_whats 57 = .ok (.bipush 14, 2) := by decide +kernel
theorem dX8_whats_59 : decode cX8_whats 59 = .ok (.ireturn, 1) := by decide +kernel
theorem dX8_whats_60 : decode cX8_whats 60 = .ok (.aload_n 0, 1) := by decide +kernel
theorem dX8_whats_61 : decode cX8_whats 61 = .ok (.aload_n 0, 1) := by decide +kernel
theorem dX8_whats_62 : decode cX8_whats 62 = .ok (.getfield 67, 3) := by decide +kernel
theorem dX8_whats_65 : decode cX8_whats 65 = .ok (.invokevirtual 260, 3) := by decide +kernel
theorem dX8_whats_68 : decode cX8_whats 68 = .ok (.ifCond .eq 38, 3) := by decide +kernel
theorem dX8_whats_71 : decode cX8_whats 71 = .ok (.aload_n 0, 1) := by decide +kernel
theorem dX8_whats_72 : decode cX8_whats 72 = .ok (.aload_n 0, 1) := by decide +kernel
theorem dX8_whats_73 : decode cX8_whats 73 = .ok (.getfield 79, 3) := by decide +kernel
theorem dX8_whats_76 : decode cX8_whats 76 = .ok (.invokevirtual 260, 3) := by decide +kernel
theorem dX8_whats_79 : decode cX8_whats 79 = .ok (.ifCond .eq 8, 3) := by decide +kernel
theorem dX8_whats_82 : decode cX8_whats 82 = .ok (.bipush 16, 2) := by decide +kernel
theorem dX8_whats_84 : decode cX8_whats 84 = .ok (.goto 21, 3) := by decide +kernel
theorem dX8_whats_87 : decode cX8_whats 87 = .ok (.aload_n 0, 1) := by decide +kernel
theorem dX8_whats_88 : decode cX8_whats 88 = .ok (.aload_n 0, 1) := by decide +kernel
theorem dX8_whats_89 : decode cX8_whats 89 = .ok (.getfield 82, 3) := by decide +kernel
theorem dX8_whats_92 : decode cX8_whats 92 = .ok (.invokevirtual 260, 3) := by decide +kernel
theorem dX8_whats_95 : decode cX8_whats 95 = .ok (.ifCond .eq 8, 3) := by decide +kernel
theorem dX8_whats_98 : decode cX8_whats 98 = .ok (.bipush 32, 2) := by decide +kernel
theorem dX8_whats_100 : decode cX8_whats 100 = .ok (.goto 5, 3) := by decide +kernel
theorem dX8_whats_103 : decode cX8_whats 103 = .ok (.bipush 48, 2) := by decide +kernel
theorem dX8_whats_105 : decode cX8_whats 105 = .ok (.ireturn, 1) := by decide +kernel
theorem dX8_whats_106 : decode cX8_whats 106 = .ok (.aload_n 0, 1) := by decide +kernel
theorem dX8_whats_107 : decode cX8_whats 107 = .ok (.iconst 1, 1) := by decide +kernel
theorem dX8_whats_108 : decode cX8_whats 108 = .ok (.aload_n 0, 1) := by decide +kernel
theorem dX8_whats_109 : decode cX8_whats 109 = .ok (.getfield 220, 3) := by decide +kernel
theorem dX8_whats_112 : decode cX8_whats 112 = .ok (.invokevirtual 242, 3) := by decide +kernel
theorem dX8_whats_115 : decode cX8_whats 115 = .ok (.iconst 0, 1) := by decide +kernel
theorem dX8_whats_116 : decode cX8_whats 116 = .ok (.ireturn, 1) := by decide +kernel
theorem dX8_partOf_0 : decode cX8_partOf 0 = .ok (.aload_n 0, 1) := by decide +kernel
theorem dX8_partOf_1 : decode cX8_partOf 1 = .ok (.aload_n 0, 1) := by decide +kernel
theorem dX8_partOf_2 : decode cX8_partOf 2 = .ok (.getfield 85, 3) := by decide +kernel
theorem dX8_partOf_5 : decode cX8_partOf 5 = .ok (.invokevirtual 260, 3) := by decide +kernel
theorem dX8_partOf_8 : decode cX8_partOf 8 = .ok (.ifCond .eq 7, 3) := by decide +kernel
theorem dX8_partOf_11 : decode cX8_partOf 11 = .ok (.iconst 0, 1) := by decide +kernel
theorem dX8_partOf_12 : decode cX8_partOf 12 = .ok (.goto 49, 3) := by decide +kernel
theorem dX8_partOf_15 : decode cX8_partOf 15 = .ok (.aload_n 0, 1) := by decide +kernel
theorem dX8_partOf_16 : decode cX8_partOf 16 = .ok (.aload_n 0, 1) := by decide +kernel
theorem dX8_partOf_17 : decode cX8_partOf 17 = .ok (.getfield 88, 3) := by decide +kernel
theorem dX8_partOf_20 : decode cX8_partOf 20 = .ok (.invokevirtual 260, 3) := by decide +kernel
theorem dX8_partOf_23 : decode cX8_partOf 23 = .ok (.ifCond .eq 7, 3) := by decide +kernel
theorem dX8_partOf_26 : decode cX8_partOf 26 = .ok (.iconst 1, 1) := by decide +kernel
theorem dX8_partOf_27 : decode cX8_partOf 27 = .ok (.goto 34, 3) := by decide +kernel
theorem dX8_partOf_30 : decode cX8_partOf 30 = .ok (.aload_n 0, 1) := by decide +kernel
theorem dX8_partOf_31 : decode cX8_partOf 31 = .ok (.aload_n 0, 1) := by decide +kernel
theorem dX8_partOf_32 : decode cX8_partOf 32 = .ok (.getfield 91, 3) := by decide +kernel
theorem dX8_partOf_35 : decode cX8_partOf 35 = .ok (.invokevirtual 260, 3) := by decide +kernel
theorem dX8_partOf_38 : decode cX8_partOf 38 = .ok (.ifCond .eq 7, 3) := by decide +kernel
theorem dX8_partOf_41 : decode cX8_partOf 41 = .ok (.iconst 2, 1) := by decide +kernel
theorem dX8_partOf_42 : decode cX8_partOf 42 = .ok (.goto 19, 3) := by decide +kernel
theorem dX8_partOf_45 : decode cX8_partOf 45 = .ok (.aload_n 0, 1) := by decide +kernel
theorem dX8_partOf_46 : decode cX8_partOf 46 = .ok (.aload_n 0, 1) := by decide +kernel
theorem dX8_partOf_47 : decode cX8_partOf 47 = .ok (.getfield 94, 3) := by decide +kernel
theorem dX8_partOf_50 : decode cX8_partOf 50 = .ok (.invokevirtual 260, 3) := by decide +kernel
theorem dX8_partOf_53 : decode cX8_partOf 53 = .ok (.ifCond .eq 7, 3) := by decide +kernel
theorem dX8_partOf_56 : decode cX8_partOf 56 = .ok (.iconst 3, 1) := by decide +kernel
theorem dX8_partOf_57 : decode cX8_partOf 57 = .ok (.goto 4, 3) := by decide +kernel
theorem dX8_partOf_60 : decode cX8_partOf 60 = .ok (.iconst (-1), 1) := by decide +kernel
theorem dX8_partOf_61 : decode cX8_partOf 61 = .ok (.ireturn, 1) := by decide +kernel
theorem dX8_name_0 : decode cX8_name 0 = .ok (.aload_n 0, 1) := by decide +kernel
theorem dX8_name_1 : decode cX8_name 1 = .ok (.invokevirtual 229, 3) := by decide +kernel
theorem dX8_name_4 : decode cX8_name 4 = .ok (.istore_n 1, 1) := by decide +kernel
theorem dX8_name_5 : decode cX8_name 5 = .ok (.aload_n 0, 1) := by decide +kernel
theorem dX8_name_6 : decode cX8_name 6 = .ok (.aload_n 0, 1) := by decide +kernel
theorem dX8_name_7 : decode cX8_name 7 = .ok (.getfield 220, 3) := by decide +kernel
theorem dX8_name_10 : decode cX8_name 10 = .ok (.putfield 264, 3) := by decide +kernel
theorem dX8_name_13 : decode cX8_name 13 = .ok (.iload_n 1, 1) := by decide +kernel
theorem dX8_name_14 : decode cX8_name 14 = .ok (.invokestatic 226, 3) := by decide +kernel
theorem dX8_name_17 : decode cX8_name 17 = .ok (.ifCond .eq 14, 3) := by decide +kernel
theorem dX8_name_20 : decode cX8_name 20 = .ok (.aload_n 0, 1) := by decide +kernel
theorem dX8_name_21 : decode cX8_name 21 = .ok (.getfield 220, 3) := by decide +kernel
theorem dX8_name_24 : decode cX8_name 24 = .ok (.aload_n 0, 1) := by decide +kernel
theorem dX8_name_25 : decode cX8_name 25 = .ok (.getfield 233, 3) := by decide +kernel
theorem dX8_name_28 : decode cX8_name 28 = .ok (.if_icmp .ne 13, 3) := by decide +kernel
theorem dX8_name_31 : decode cX8_name 31 = .ok (.aload_n 0, 1) := by decide +kernel
theorem dX8_name_32 : decode cX8_name 32 = .ok (.iconst 1, 1) := by decide +kernel
theorem dX8_name_33 : decode cX8_name 33 = .ok (.aload_n 0, 1) := by decide +kernel
theorem dX8_name_34 : decode cX8_name 34 = .ok (.getfield 220, 3) := by decide +kernel
theorem dX8_name_37 : decode cX8_name 37 = .ok (.invokevirtual 242, 3) := by decide +kernel
theorem dX8_name_40 : decode cX8_name 40 = .ok (.return_, 1) := by decide +kernel
theorem dX8_name_41 : decode cX8_name 41 = .ok (.aload_n 0, 1) := by decide +kernel
theorem dX8_name_42 : decode cX8_name 42 = .ok (.invokevirtual 236, 3) := by decide +kernel
theorem dX8_name_45 : decode cX8_name 45 = .ok (.istore_n 2, 1) := by decide +kernel
theorem dX8_name_46 : decode cX8_name 46 = .ok (.aload_n 0, 1) := by decide +kernel
theorem dX8_name_47 : decode cX8_name 47 = .ok (.iload_n 2, 1) := by decide +kernel
theorem dX8_name_48 : decode cX8_name 48 = .ok (.aload_n 0, 1) := by decide +kernel
theorem dX8_name_49 : decode cX8_name 49 = .ok (.getfield 220, 3) := by decide +kernel
theorem dX8_name_52 : decode cX8_name 52 = .ok (.isub, 1) := by decide +kernel
theorem dX8_name_53 : decode cX8_name 53 = .ok (.bipush 6, 2) := by decide +kernel
theorem dX8_name_55 : decode cX8_name 55 = .ok (.if_icmp .le 7, 3) := by decide +kernel
theorem dX8_name_58 : decode cX8_name 58 = .ok (.iconst (-1), 1) := by decide +kernel
theorem dX8_name_59 : decode cX8_name 59 = .ok (.goto 16, 3) := by decide +kernel
theorem dX8_name_62 : decode cX8_name 62 = .ok (.aload_n 0, 1) := by decide +kernel
theorem dX8_name_63 : decode cX8_name 63 = .ok (.aload_n 0, 1) := by decide +kernel
theorem dX8_name_64 : decode cX8_name 64 = .ok (.aload_n 0, 1) := by decide +kernel
theorem dX8_name_65 : decode cX8_name 65 = .ok (.getfield 220, 3) := by decide +kernel
theorem dX8_name_68 : decode cX8_name 68 = .ok (.iload_n 2, 1) := by decide +kernel
theorem dX8_name_69 : decode cX8_name 69 = .ok (.invokevirtual 252, 3) := by decide +kernel
theorem dX8_name_72 : decode cX8_name 72 = .ok (.invokevirtual 256, 3) := by decide +kernel
theorem dX8_name_75 : decode cX8_name 75 = .ok (.putfield 267, 3) := by decide +kernel
theorem dX8_name_78 : decode cX8_name 78 = .ok (.aload_n 0, 1) := by decide +kernel
theorem dX8_name_79 : decode cX8_name 79 = .ok (.getfield 267, 3) := by decide +kernel
theorem dX8_name_82 : decode cX8_name 82 = .ok (.iconst (-1), 1) := by decide +kernel
theorem dX8_name_83 : decode cX8_name 83 = .ok (.if_icmp .ne 12, 3) := by decide +kernel
theorem dX8_name_86 : decode cX8_name 86 = .ok (.aload_n 0, 1) := by decide +kernel
theorem dX8_name_87 : decode cX8_name 87 = .ok (.iconst 3, 1) := by decide +kernel
theorem dX8_name_88 : decode cX8_name 88 = .ok (.aload_n 0, 1) := by decide +kernel
theorem dX8_name_89 : decode cX8_name 89 = .ok (.getfield 220, 3) := by decide +kernel
theorem dX8_name_92 : decode cX8_name 92 = .ok (.invokevirtual 242, 3) := by decide +kernel
theorem dX8_name_95 : decode cX8_name 95 = .ok (.aload_n 0, 1) := by decide +kernel
theorem dX8_name_96 : decode cX8_name 96 = .ok (.iload_n 2, 1) := by decide +kernel
theorem dX8_name_97 : decode cX8_name 97 = .ok (.putfield 220, 3) := by decide +kernel
theorem dX8_name_100 : decode cX8_name 100 = .ok (.aload_n 0, 1) := by decide +kernel
theorem dX8_name_101 : decode cX8_name 101 = .ok (.iload_n 2, 1) := by decide +kernel
theorem dX8_name_102 : decode cX8_name 102 = .ok (.putfield 233, 3) := by decide +kernel
theorem dX8_name_105 : decode cX8_name 105 = .ok (.return_, 1) := by decide +kernel
theorem dX8_reads_0 : decode cX8_reads 0 = .ok (.aload_n 0, 1) := by decide +kernel
theorem dX8_reads_1 : decode cX8_reads 1 = .ok (.getfield 48, 3) := by decide +kernel
theorem dX8_reads_4 : decode cX8_reads 4 = .ok (.iload_n 1, 1) := by decide +kernel
theorem dX8_reads_5 : decode cX8_reads 5 = .ok (.aload_n 0, 1) := by decide +kernel
theorem dX8_reads_6 : decode cX8_reads 6 = .ok (.invokevirtual 270, 3) := by decide +kernel
theorem dX8_reads_9 : decode cX8_reads 9 = .ok (.iastore, 1) := by decide +kernel
theorem dX8_reads_10 : decode cX8_reads 10 = .ok (.iconst 0, 1) := by decide +kernel
theorem dX8_reads_11 : decode cX8_reads 11 = .ok (.istore_n 2, 1) := by decide +kernel
theorem dX8_reads_12 : decode cX8_reads 12 = .ok (.iload_n 2, 1) := by decide +kernel
theorem dX8_reads_13 : decode cX8_reads 13 = .ok (.iconst 4, 1) := by decide +kernel
theorem dX8_reads_14 : decode cX8_reads 14 = .ok (.if_icmp .ge 20, 3) := by decide +kernel
theorem dX8_reads_17 : decode cX8_reads 17 = .ok (.aload_n 0, 1) := by decide +kernel
theorem dX8_reads_18 : decode cX8_reads 18 = .ok (.getfield 51, 3) := by decide +kernel
theorem dX8_reads_21 : decode cX8_reads 21 = .ok (.iconst 4, 1) := by decide +kernel
theorem dX8_reads_22 : decode cX8_reads 22 = .ok (.iload_n 1, 1) := by decide +kernel
theorem dX8_reads_23 : decode cX8_reads 23 = .ok (.imul, 1) := by decide +kernel
theorem dX8_reads_24 : decode cX8_reads 24 = .ok (.iload_n 2, 1) := by decide +kernel
theorem dX8_reads_25 : decode cX8_reads 25 = .ok (.iadd, 1) := by decide +kernel
theorem dX8_reads_26 : decode cX8_reads 26 = .ok (.iconst (-1), 1) := by decide +kernel
theorem dX8_reads_27 : decode cX8_reads 27 = .ok (.iastore, 1) := by decide +kernel
theorem dX8_reads_28 : decode cX8_reads 28 = .ok (.iinc 2 1, 3) := by decide +kernel
theorem dX8_reads_31 : decode cX8_reads 31 = .ok (.goto (-19), 3) := by decide +kernel
theorem dX8_reads_34 : decode cX8_reads 34 = .ok (.aload_n 0, 1) := by decide +kernel
theorem dX8_reads_35 : decode cX8_reads 35 = .ok (.iconst (-1), 1) := by decide +kernel
theorem dX8_reads_36 : decode cX8_reads 36 = .ok (.putfield 267, 3) := by decide +kernel
theorem dX8_reads_39 : decode cX8_reads 39 = .ok (.iconst 1, 1) := by decide +kernel
theorem dX8_reads_40 : decode cX8_reads 40 = .ok (.istore_n 2, 1) := by decide +kernel
theorem dX8_reads_41 : decode cX8_reads 41 = .ok (.iload_n 2, 1) := by decide +kernel
theorem dX8_reads_42 : decode cX8_reads 42 = .ok (.ifCond .eq 163, 3) := by decide +kernel
theorem dX8_reads_45 : decode cX8_reads 45 = .ok (.aload_n 0, 1) := by decide +kernel
theorem dX8_reads_46 : decode cX8_reads 46 = .ok (.getfield 214, 3) := by decide +kernel
theorem dX8_reads_49 : decode cX8_reads 49 = .ok (.ifCond .ne 156, 3) := by decide +kernel
theorem dX8_reads_52 : decode cX8_reads 52 = .ok (.aload_n 0, 1) := by decide +kernel
theorem dX8_reads_53 : decode cX8_reads 53 = .ok (.invokevirtual 229, 3) := by decide +kernel
theorem dX8_reads_56 : decode cX8_reads 56 = .ok (.pop, 1) := by decide +kernel
theorem dX8_reads_57 : decode cX8_reads 57 = .ok (.aload_n 0, 1) := by decide +kernel
theorem dX8_reads_58 : decode cX8_reads 58 = .ok (.getfield 220, 3) := by decide +kernel
theorem dX8_reads_61 : decode cX8_reads 61 = .ok (.istore_n 3, 1) := by decide +kernel
theorem dX8_reads_62 : decode cX8_reads 62 = .ok (.aload_n 0, 1) := by decide +kernel
theorem dX8_reads_63 : decode cX8_reads 63 = .ok (.invokevirtual 273, 3) := by decide +kernel
theorem dX8_reads_66 : decode cX8_reads 66 = .ok (.istore 4, 2) := by decide +kernel
theorem dX8_reads_68 : decode cX8_reads 68 = .ok (.iload 4, 2) := by decide +kernel
theorem dX8_reads_70 : decode cX8_reads 70 = .ok (.iconst (-1), 1) := by decide +kernel
theorem dX8_reads_71 : decode cX8_reads 71 = .ok (.if_icmp .ne 8, 3) := by decide +kernel
theorem dX8_reads_74 : decode cX8_reads 74 = .ok (.iconst 0, 1) := by decide +kernel
theorem dX8_reads_75 : decode cX8_reads 75 = .ok (.istore_n 2, 1) := by decide +kernel
theorem dX8_reads_76 : decode cX8_reads 76 = .ok (.goto (-35), 3) := by decide +kernel
theorem dX8_reads_79 : decode cX8_reads 79 = .ok (.aload_n 0, 1) := by decide +kernel
theorem dX8_reads_80 : decode cX8_reads 80 = .ok (.getfield 51, 3) := by decide +kernel
theorem dX8_reads_83 : decode cX8_reads 83 = .ok (.iconst 4, 1) := by decide +kernel
theorem dX8_reads_84 : decode cX8_reads 84 = .ok (.iload_n 1, 1) := by decide +kernel
theorem dX8_reads_85 : decode cX8_reads 85 = .ok (.imul, 1) := by decide +kernel
theorem dX8_reads_86 : decode cX8_reads 86 = .ok (.iload 4, 2) := by decide +kernel
theorem dX8_reads_88 : decode cX8_reads 88 = .ok (.iadd, 1) := by decide +kernel
theorem dX8_reads_89 : decode cX8_reads 89 = .ok (.iaload, 1) := by decide +kernel
theorem dX8_reads_90 : decode cX8_reads 90 = .ok (.iconst (-1), 1) := by decide +kernel
theorem dX8_reads_91 : decode cX8_reads 91 = .ok (.if_icmp .eq 9, 3) := by decide +kernel
theorem dX8_reads_94 : decode cX8_reads 94 = .ok (.aload_n 0, 1) := by decide +kernel
theorem dX8_reads_95 : decode cX8_reads 95 = .ok (.iconst 2, 1) := by decide +kernel
theorem dX8_reads_96 : decode cX8_reads 96 = .ok (.iload_n 3, 1) := by decide +kernel
theorem dX8_reads_97 : decode cX8_reads 97 = .ok (.invokevirtual 242, 3) := by decide +kernel
theorem dX8_reads_100 : decode cX8_reads 100 = .ok (.aload_n 0, 1) := by decide +kernel
theorem dX8_reads_101 : decode cX8_reads 101 = .ok (.getfield 214, 3) := by decide +kernel
theorem dX8_reads_104 : decode cX8_reads 104 = .ok (.ifCond .eq 4, 3) := by decide +kernel
theorem dX8_reads_107 : decode cX8_reads 107 = .ok (.return_, 1) := by decide +kernel
theorem dX8_reads_108 : decode cX8_reads 108 = .ok (.aload_n 0, 1) := by decide +kernel
theorem dX8_reads_109 : decode cX8_reads 109 = .ok (.getfield 51, 3) := by decide +kernel
theorem dX8_reads_112 : decode cX8_reads 112 = .ok (.iconst 4, 1) := by decide +kernel
theorem dX8_reads_113 : decode cX8_reads 113 = .ok (.iload_n 1, 1) := by decide +kernel
theorem dX8_reads_114 : decode cX8_reads 114 = .ok (.imul, 1) := by decide +kernel
theorem dX8_reads_115 : decode cX8_reads 115 = .ok (.iload 4, 2) := by decide +kernel
theorem dX8_reads_117 : decode cX8_reads 117 = .ok (.iadd, 1) := by decide +kernel
theorem dX8_reads_118 : decode cX8_reads 118 = .ok (.aload_n 0, 1) := by decide +kernel
theorem dX8_reads_119 : decode cX8_reads 119 = .ok (.iload 4, 2) := by decide +kernel
theorem dX8_reads_121 : decode cX8_reads 121 = .ok (.iconst 1, 1) := by decide +kernel
theorem dX8_reads_122 : decode cX8_reads 122 = .ok (.if_icmp .eq 9, 3) := by decide +kernel
theorem dX8_reads_125 : decode cX8_reads 125 = .ok (.iload 4, 2) := by decide +kernel
theorem dX8_reads_127 : decode cX8_reads 127 = .ok (.iconst 2, 1) := by decide +kernel
theorem dX8_reads_128 : decode cX8_reads 128 = .ok (.if_icmp .ne 7, 3) := by decide +kernel
theorem dX8_reads_131 : decode cX8_reads 131 = .ok (.iconst 1, 1) := by decide +kernel
theorem dX8_reads_132 : decode cX8_reads 132 = .ok (.goto 4, 3) := by decide +kernel
theorem dX8_reads_135 : decode cX8_reads 135 = .ok (.iconst 0, 1) := by decide +kernel
theorem dX8_reads_136 : decode cX8_reads 136 = .ok (.iload 4, 2) := by decide +kernel
theorem dX8_reads_138 : decode cX8_reads 138 = .ok (.ifCond .ne 9, 3) := by decide +kernel
theorem dX8_reads_141 : decode cX8_reads 141 = .ok (.sipush 999, 3) := by decide +kernel
theorem dX8_reads_144 : decode cX8_reads 144 = .ok (.goto 27, 3) := by decide +kernel
theorem dX8_reads_147 : decode cX8_reads 147 = .ok (.iload 4, 2) := by decide +kernel
theorem dX8_reads_149 : decode cX8_reads 149 = .ok (.iconst 1, 1) := by decide +kernel
theorem dX8_reads_150 : decode cX8_reads 150 = .ok (.if_icmp .ne 8, 3) := by decide +kernel
theorem dX8_reads_153 : decode cX8_reads 153 = .ok (.bipush 13, 2) := by decide +kernel
theorem dX8_reads_155 : decode cX8_reads 155 = .ok (.goto 16, 3) := by decide +kernel
theorem dX8_reads_158 : decode cX8_reads 158 = .ok (.iload 4, 2) := by decide +kernel
theorem dX8_reads_160 : decode cX8_reads 160 = .ok (.iconst 2, 1) := by decide +kernel
theorem dX8_reads_161 : decode cX8_reads 161 = .ok (.if_icmp .ne 8, 3) := by decide +kernel
theorem dX8_reads_164 : decode cX8_reads 164 = .ok (.bipush 31, 2) := by decide +kernel
theorem dX8_reads_166 : decode cX8_reads 166 = .ok (.goto 5, 3) := by decide +kernel
theorem dX8_reads_169 : decode cX8_reads 169 = .ok (.bipush 23, 2) := by decide +kernel
theorem dX8_reads_171 : decode cX8_reads 171 = .ok (.invokevirtual 276, 3) := by decide +kernel
theorem dX8_reads_174 : decode cX8_reads 174 = .ok (.iastore, 1) := by decide +kernel
theorem dX8_reads_175 : decode cX8_reads 175 = .ok (.aload_n 0, 1) := by decide +kernel
theorem dX8_reads_176 : decode cX8_reads 176 = .ok (.getfield 214, 3) := by decide +kernel
theorem dX8_reads_179 : decode cX8_reads 179 = .ok (.ifCond .ne 23, 3) := by decide +kernel
theorem dX8_reads_182 : decode cX8_reads 182 = .ok (.iload 4, 2) := by decide +kernel
theorem dX8_reads_184 : decode cX8_reads 184 = .ok (.ifCond .ne 18, 3) := by decide +kernel
theorem dX8_reads_187 : decode cX8_reads 187 = .ok (.aload_n 0, 1) := by decide +kernel
theorem dX8_reads_188 : decode cX8_reads 188 = .ok (.aload_n 0, 1) := by decide +kernel
theorem dX8_reads_189 : decode cX8_reads 189 = .ok (.getfield 97, 3) := by decide +kernel
theorem dX8_reads_192 : decode cX8_reads 192 = .ok (.invokevirtual 260, 3) := by decide +kernel
theorem dX8_reads_195 : decode cX8_reads 195 = .ok (.ifCond .eq 7, 3) := by decide +kernel
theorem dX8_reads_198 : decode cX8_reads 198 = .ok (.aload_n 0, 1) := by decide +kernel
theorem dX8_reads_199 : decode cX8_reads 199 = .ok (.invokevirtual 279, 3) := by decide +kernel
theorem dX8_reads_202 : decode cX8_reads 202 = .ok (.goto (-161), 3) := by decide +kernel
theorem dX8_reads_205 : decode cX8_reads 205 = .ok (.aload_n 0, 1) := by decide +kernel
theorem dX8_reads_206 : decode cX8_reads 206 = .ok (.getfield 214, 3) := by decide +kernel
theorem dX8_reads_209 : decode cX8_reads 209 = .ok (.ifCond .ne 23, 3) := by decide +kernel
theorem dX8_reads_212 : decode cX8_reads 212 = .ok (.aload_n 0, 1) := by decide +kernel
theorem dX8_reads_213 : decode cX8_reads 213 = .ok (.aload_n 0, 1) := by decide +kernel
theorem dX8_reads_214 : decode cX8_reads 214 = .ok (.getfield 100, 3) := by decide +kernel
theorem dX8_reads_217 : decode cX8_reads 217 = .ok (.invokevirtual 260, 3) := by decide +kernel
theorem dX8_reads_220 : decode cX8_reads 220 = .ok (.ifCond .ne 12, 3) := by decide +kernel
theorem dX8_reads_223 : decode cX8_reads 223 = .ok (.aload_n 0, 1) := by decide +kernel
theorem dX8_reads_224 : decode cX8_reads 224 = .ok (.iconst 1, 1) := by decide +kernel
theorem dX8_reads_225 : decode cX8_reads 225 = .ok (.aload_n 0, 1) := by decide +kernel
theorem dX8_reads_226 : decode cX8_reads 226 = .ok (.getfield 220, 3) := by decide +kernel
theorem dX8_reads_229 : decode cX8_reads 229 = .ok (.invokevirtual 242, 3) := by decide +kernel
theorem dX8_reads_232 : decode cX8_reads 232 = .ok (.aload_n 0, 1) := by decide +kernel
theorem dX8_reads_233 : decode cX8_reads 233 = .ok (.getfield 214, 3) := by decide +kernel
theorem dX8_reads_236 : decode cX8_reads 236 = .ok (.ifCond .ne 55, 3) := by decide +kernel
theorem dX8_reads_239 : decode cX8_reads 239 = .ok (.aload_n 0, 1) := by decide +kernel
theorem dX8_reads_240 : decode cX8_reads 240 = .ok (.getfield 57, 3) := by decide +kernel
theorem dX8_reads_243 : decode cX8_reads 243 = .ok (.iload_n 1, 1) := by decide +kernel
theorem dX8_reads_244 : decode cX8_reads 244 = .ok (.aload_n 0, 1) := by decide +kernel
theorem dX8_reads_245 : decode cX8_reads 245 = .ok (.aload_n 0, 1) := by decide +kernel
theorem dX8_reads_246 : decode cX8_reads 246 = .ok (.getfield 103, 3) := by decide +kernel
theorem dX8_reads_249 : decode cX8_reads 249 = .ok (.invokevirtual 260, 3) := by decide +kernel
theorem dX8_reads_252 : decode cX8_reads 252 = .ok (.ifCond .eq 7, 3) := by decide +kernel
theorem dX8_reads_255 : decode cX8_reads 255 = .ok (.iconst 0, 1) := by decide +kernel
theorem dX8_reads_256 : decode cX8_reads 256 = .ok (.goto 34, 3) := by decide +kernel
theorem dX8_reads_259 : decode cX8_reads 259 = .ok (.aload_n 0, 1) := by decide +kernel
theorem dX8_reads_260 : decode cX8_reads 260 = .ok (.aload_n 0, 1) := by decide +kernel
theorem dX8_reads_261 : decode cX8_reads 261 = .ok (.getfield 106, 3) := by decide +kernel
theorem dX8_reads_264 : decode cX8_reads 264 = .ok (.invokevirtual 260, 3) := by decide +kernel
theorem dX8_reads_267 : decode cX8_reads 267 = .ok (.ifCond .eq 7, 3) := by decide +kernel
theorem dX8_reads_270 : decode cX8_reads 270 = .ok (.iconst 1, 1) := by decide +kernel
theorem dX8_reads_271 : decode cX8_reads 271 = .ok (.goto 19, 3) := by decide +kernel
theorem dX8_reads_274 : decode cX8_reads 274 = .ok (.aload_n 0, 1) := by decide +kernel
theorem dX8_reads_275 : decode cX8_reads 275 = .ok (.aload_n 0, 1) := by decide +kernel
theorem dX8_reads_276 : decode cX8_reads 276 = .ok (.getfield 109, 3) := by decide +kernel
theorem dX8_reads_279 : decode cX8_reads 279 = .ok (.invokevirtual 260, 3) := by decide +kernel
theorem dX8_reads_282 : decode cX8_reads 282 = .ok (.ifCond .eq 7, 3) := by decide +kernel
theorem dX8_reads_285 : decode cX8_reads 285 = .ok (.iconst 2, 1) := by decide +kernel
theorem dX8_reads_286 : decode cX8_reads 286 = .ok (.goto 4, 3) := by decide +kernel
theorem dX8_reads_289 : decode cX8_reads 289 = .ok (.iconst (-1), 1) := by decide +kernel
theorem dX8_reads_290 : decode cX8_reads 290 = .ok (.iastore, 1) := by decide +kernel
theorem dX8_reads_291 : decode cX8_reads 291 = .ok (.aload_n 0, 1) := by decide +kernel
theorem dX8_reads_292 : decode cX8_reads 292 = .ok (.getfield 214, 3) := by decide +kernel
theorem dX8_reads_295 : decode cX8_reads 295 = .ok (.ifCond .ne 22, 3) := by decide +kernel
theorem dX8_reads_298 : decode cX8_reads 298 = .ok (.aload_n 0, 1) := by decide +kernel
theorem dX8_reads_299 : decode cX8_reads 299 = .ok (.getfield 57, 3) := by decide +kernel
theorem dX8_reads_302 : decode cX8_reads 302 = .ok (.iload_n 1, 1) := by decide +kernel
theorem dX8_reads_303 : decode cX8_reads 303 = .ok (.iaload, 1) := by decide +kernel
theorem dX8_reads_304 : decode cX8_reads 304 = .ok (.iconst (-1), 1) := by decide +kernel
theorem dX8_reads_305 : decode cX8_reads 305 = .ok (.if_icmp .ne 12, 3) := by decide +kernel
theorem dX8_reads_308 : decode cX8_reads 308 = .ok (.aload_n 0, 1) := by decide +kernel
theorem dX8_reads_309 : decode cX8_reads 309 = .ok (.iconst 1, 1) := by decide +kernel
theorem dX8_reads_310 : decode cX8_reads 310 = .ok (.aload_n 0, 1) := by decide +kernel
theorem dX8_reads_311 : decode cX8_reads 311 = .ok (.getfield 220, 3) := by decide +kernel
theorem dX8_reads_314 : decode cX8_reads 314 = .ok (.invokevirtual 242, 3) := by decide +kernel
theorem dX8_reads_317 : decode cX8_reads 317 = .ok (.aload_n 0, 1) := by decide +kernel
theorem dX8_reads_318 : decode cX8_reads 318 = .ok (.getfield 214, 3) := by decide +kernel
theorem dX8_reads_321 : decode cX8_reads 321 = .ok (.ifCond .ne 21, 3) := by decide +kernel
theorem dX8_reads_324 : decode cX8_reads 324 = .ok (.aload_n 0, 1) := by decide +kernel
theorem dX8_reads_325 : decode cX8_reads 325 = .ok (.invokevirtual 229, 3) := by decide +kernel
theorem dX8_reads_328 : decode cX8_reads 328 = .ok (.bipush 59, 2) := by decide +kernel
theorem dX8_reads_330 : decode cX8_reads 330 = .ok (.if_icmp .eq 12, 3) := by decide +kernel
theorem dX8_reads_333 : decode cX8_reads 333 = .ok (.aload_n 0, 1) := by decide +kernel
theorem dX8_reads_334 : decode cX8_reads 334 = .ok (.iconst 1, 1) := by decide +kernel
theorem dX8_reads_335 : decode cX8_reads 335 = .ok (.aload_n 0, 1) := by decide +kernel
theorem dX8_reads_336 : decode cX8_reads 336 = .ok (.getfield 220, 3) := by decide +kernel
theorem dX8_reads_339 : decode cX8_reads 339 = .ok (.invokevirtual 242, 3) := by decide +kernel
theorem dX8_reads_342 : decode cX8_reads 342 = .ok (.aload_n 0, 1) := by decide +kernel
theorem dX8_reads_343 : decode cX8_reads 343 = .ok (.dup, 1) := by decide +kernel
theorem dX8_reads_344 : decode cX8_reads 344 = .ok (.getfield 220, 3) := by decide +kernel
theorem dX8_reads_347 : decode cX8_reads 347 = .ok (.iconst 1, 1) := by decide +kernel
theorem dX8_reads_348 : decode cX8_reads 348 = .ok (.iadd, 1) := by decide +kernel
theorem dX8_reads_349 : decode cX8_reads 349 = .ok (.putfield 220, 3) := by decide +kernel
theorem dX8_reads_352 : decode cX8_reads 352 = .ok (.aload_n 0, 1) := by decide +kernel
theorem dX8_reads_353 : decode cX8_reads 353 = .ok (.getfield 214, 3) := by decide +kernel
theorem dX8_reads_356 : decode cX8_reads 356 = .ok (.ifCond .ne 20, 3) := by decide +kernel
theorem dX8_reads_359 : decode cX8_reads 359 = .ok (.aload_n 0, 1) := by decide +kernel
theorem dX8_reads_360 : decode cX8_reads 360 = .ok (.invokevirtual 229, 3) := by decide +kernel
theorem dX8_reads_363 : decode cX8_reads 363 = .ok (.iconst (-1), 1) := by decide +kernel
theorem dX8_reads_364 : decode cX8_reads 364 = .ok (.if_icmp .eq 12, 3) := by decide +kernel
theorem dX8_reads_367 : decode cX8_reads 367 = .ok (.aload_n 0, 1) := by decide +kernel
theorem dX8_reads_368 : decode cX8_reads 368 = .ok (.iconst 1, 1) := by decide +kernel
theorem dX8_reads_369 : decode cX8_reads 369 = .ok (.aload_n 0, 1) := by decide +kernel
theorem dX8_reads_370 : decode cX8_reads 370 = .ok (.getfield 220, 3) := by decide +kernel
theorem dX8_reads_373 : decode cX8_reads 373 = .ok (.invokevirtual 242, 3) := by decide +kernel
theorem dX8_reads_376 : decode cX8_reads 376 = .ok (.aload_n 0, 1) := by decide +kernel
theorem dX8_reads_377 : decode cX8_reads 377 = .ok (.getfield 214, 3) := by decide +kernel
theorem dX8_reads_380 : decode cX8_reads 380 = .ok (.ifCond .ne 38, 3) := by decide +kernel
theorem dX8_reads_383 : decode cX8_reads 383 = .ok (.aload_n 0, 1) := by decide +kernel
theorem dX8_reads_384 : decode cX8_reads 384 = .ok (.getfield 267, 3) := by decide +kernel
theorem dX8_reads_387 : decode cX8_reads 387 = .ok (.iconst (-1), 1) := by decide +kernel
theorem dX8_reads_388 : decode cX8_reads 388 = .ok (.if_icmp .eq 30, 3) := by decide +kernel
theorem dX8_reads_391 : decode cX8_reads 391 = .ok (.aload_n 0, 1) := by decide +kernel
theorem dX8_reads_392 : decode cX8_reads 392 = .ok (.getfield 42, 3) := by decide +kernel
theorem dX8_reads_395 : decode cX8_reads 395 = .ok (.aload_n 0, 1) := by decide +kernel
theorem dX8_reads_396 : decode cX8_reads 396 = .ok (.getfield 267, 3) := by decide +kernel
theorem dX8_reads_399 : decode cX8_reads 399 = .ok (.iaload, 1) := by decide +kernel
theorem dX8_reads_400 : decode cX8_reads 400 = .ok (.aload_n 0, 1) := by decide +kernel
theorem dX8_reads_401 : decode cX8_reads 401 = .ok (.getfield 57, 3) := by decide +kernel
theorem dX8_reads_404 : decode cX8_reads 404 = .ok (.iload_n 1, 1) := by decide +kernel
theorem dX8_reads_405 : decode cX8_reads 405 = .ok (.iaload, 1) := by decide +kernel
theorem dX8_reads_406 : decode cX8_reads 406 = .ok (.if_icmp .eq 12, 3) := by decide +kernel
theorem dX8_reads_409 : decode cX8_reads 409 = .ok (.aload_n 0, 1) := by decide +kernel
theorem dX8_reads_410 : decode cX8_reads 410 = .ok (.iconst 3, 1) := by decide +kernel
theorem dX8_reads_411 : decode cX8_reads 411 = .ok (.aload_n 0, 1) := by decide +kernel
theorem dX8_reads_412 : decode cX8_reads 412 = .ok (.getfield 264, 3) := by decide +kernel
theorem dX8_reads_415 : decode cX8_reads 415 = .ok (.invokevirtual 242, 3) := by decide +kernel
theorem dX8_reads_418 : decode cX8_reads 418 = .ok (.return_, 1) := by decide +kernel
theorem dX8_record_0 : decode cX8_record 0 = .ok (.aload_n 0, 1) := by decide +kernel
theorem dX8_record_1 : decode cX8_record 1 = .ok (.aload_n 0, 1) := by decide +kernel
theorem dX8_record_2 : decode cX8_record 2 = .ok (.getfield 211, 3) := by decide +kernel
theorem dX8_record_5 : decode cX8_record 5 = .ok (.putfield 223, 3) := by decide +kernel
theorem dX8_record_8 : decode cX8_record 8 = .ok (.aload_n 0, 1) := by decide +kernel
theorem dX8_record_9 : decode cX8_record 9 = .ok (.iconst 0, 1) := by decide +kernel
theorem dX8_record_10 : decode cX8_record 10 = .ok (.putfield 211, 3) := by decide +kernel
theorem dX8_record_13 : decode cX8_record 13 = .ok (.iload_n 1, 1) := by decide +kernel
theorem dX8_record_14 : decode cX8_record 14 = .ok (.sipush (-720), 3) := by decide +kernel
theorem dX8_record_17 : decode cX8_record 17 = .ok (.sipush 720, 3) := by decide +kernel
theorem dX8_record_20 : decode cX8_record 20 = .ok (.invokestatic 113, 3) := by decide +kernel
theorem dX8_record_23 : decode cX8_record 23 = .ok (.ifCond .eq 12, 3) := by decide +kernel
theorem dX8_record_26 : decode cX8_record 26 = .ok (.aload_n 0, 1) := by decide +kernel
theorem dX8_record_27 : decode cX8_record 27 = .ok (.getfield 282, 3) := by decide +kernel
