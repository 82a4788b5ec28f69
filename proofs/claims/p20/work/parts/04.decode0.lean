theorem dX0_init_0 : decode cX0_init 0 = .ok (.aload_n 0, 1) := by decide +kernel
theorem dX0_init_1 : decode cX0_init 1 = .ok (.invokespecial 3, 3) := by decide +kernel
theorem dX0_init_4 : decode cX0_init 4 = .ok (.aload_n 0, 1) := by decide +kernel
theorem dX0_init_5 : decode cX0_init 5 = .ok (.iconst 4, 1) := by decide +kernel
theorem dX0_init_6 : decode cX0_init 6 = .ok (.newarray .int, 2) := by decide +kernel
theorem dX0_init_8 : decode cX0_init 8 = .ok (.putfield 9, 3) := by decide +kernel
theorem dX0_init_11 : decode cX0_init 11 = .ok (.return_, 1) := by decide +kernel
theorem dX0_clear_0 : decode cX0_clear 0 = .ok (.aload_n 0, 1) := by decide +kernel
theorem dX0_clear_1 : decode cX0_clear 1 = .ok (.iconst 0, 1) := by decide +kernel
theorem dX0_clear_2 : decode cX0_clear 2 = .ok (.putfield 15, 3) := by decide +kernel
theorem dX0_clear_5 : decode cX0_clear 5 = .ok (.aload_n 0, 1) := by decide +kernel
theorem dX0_clear_6 : decode cX0_clear 6 = .ok (.iconst 0, 1) := by decide +kernel
theorem dX0_clear_7 : decode cX0_clear 7 = .ok (.putfield 19, 3) := by decide +kernel
theorem dX0_clear_10 : decode cX0_clear 10 = .ok (.aload_n 0, 1) := by decide +kernel
theorem dX0_clear_11 : decode cX0_clear 11 = .ok (.iload_n 1, 1) := by decide +kernel
theorem dX0_clear_12 : decode cX0_clear 12 = .ok (.putfield 22, 3) := by decide +kernel
theorem dX0_clear_15 : decode cX0_clear 15 = .ok (.aload_n 0, 1) := by decide +kernel
theorem dX0_clear_16 : decode cX0_clear 16 = .ok (.iconst 0, 1) := by decide +kernel
theorem dX0_clear_17 : decode cX0_clear 17 = .ok (.putfield 25, 3) := by decide +kernel
theorem dX0_clear_20 : decode cX0_clear 20 = .ok (.iconst 0, 1) := by decide +kernel
theorem dX0_clear_21 : decode cX0_clear 21 = .ok (.istore_n 2, 1) := by decide +kernel
theorem dX0_clear_22 : decode cX0_clear 22 = .ok (.iload_n 2, 1) := by decide +kernel
theorem dX0_clear_23 : decode cX0_clear 23 = .ok (.iconst 4, 1) := by decide +kernel
theorem dX0_clear_24 : decode cX0_clear 24 = .ok (.if_icmp .ge 16, 3) := by decide +kernel
theorem dX0_clear_27 : decode cX0_clear 27 = .ok (.aload_n 0, 1) := by decide +kernel
theorem dX0_clear_28 : decode cX0_clear 28 = .ok (.getfield 9, 3) := by decide +kernel
theorem dX0_clear_31 : decode cX0_clear 31 = .ok (.iload_n 2, 1) := by decide +kernel
theorem dX0_clear_32 : decode cX0_clear 32 = .ok (.iconst (-1), 1) := by decide +kernel
theorem dX0_clear_33 : decode cX0_clear 33 = .ok (.iastore, 1) := by decide +kernel
theorem dX0_clear_34 : decode cX0_clear 34 = .ok (.iinc 2 1, 3) := by decide +kernel
theorem dX0_clear_37 : decode cX0_clear 37 = .ok (.goto (-15), 3) := by decide +kernel
theorem dX0_clear_40 : decode cX0_clear 40 = .ok (.aload_n 0, 1) := by decide +kernel
theorem dX0_clear_41 : decode cX0_clear 41 = .ok (.iconst 0, 1) := by decide +kernel
theorem dX0_clear_42 : decode cX0_clear 42 = .ok (.putfield 28, 3) := by decide +kernel
theorem dX0_clear_45 : decode cX0_clear 45 = .ok (.return_, 1) := by decide +kernel
theorem dX0_setKinds_0 : decode cX0_setKinds 0 = .ok (.aload_n 0, 1) := by decide +kernel
theorem dX0_setKinds_1 : decode cX0_setKinds 1 = .ok (.iload_n 1, 1) := by decide +kernel
theorem dX0_setKinds_2 : decode cX0_setKinds 2 = .ok (.putfield 15, 3) := by decide +kernel
theorem dX0_setKinds_5 : decode cX0_setKinds 5 = .ok (.return_, 1) := by decide +kernel
theorem dX0_setCalendar_0 : decode cX0_setCalendar 0 = .ok (.aload_n 0, 1) := by decide +kernel
theorem dX0_setCalendar_1 : decode cX0_setCalendar 1 = .ok (.iload_n 1, 1) := by decide +kernel
theorem dX0_setCalendar_2 : decode cX0_setCalendar 2 = .ok (.putfield 19, 3) := by decide +kernel
theorem dX0_setCalendar_5 : decode cX0_setCalendar 5 = .ok (.return_, 1) := by decide +kernel
theorem dX0_setYearZero_0 : decode cX0_setYearZero 0 = .ok (.aload_n 0, 1) := by decide +kernel
theorem dX0_setYearZero_1 : decode cX0_setYearZero 1 = .ok (.iload_n 1, 1) := by decide +kernel
theorem dX0_setYearZero_2 : decode cX0_setYearZero 2 = .ok (.putfield 25, 3) := by decide +kernel
theorem dX0_setYearZero_5 : decode cX0_setYearZero 5 = .ok (.return_, 1) := by decide +kernel
theorem dX0_setNumber_0 : decode cX0_setNumber 0 = .ok (.iload_n 1, 1) := by decide +kernel
theorem dX0_setNumber_1 : decode cX0_setNumber 1 = .ok (.ifCond .lt 15, 3) := by decide +kernel
theorem dX0_setNumber_4 : decode cX0_setNumber 4 = .ok (.iload_n 1, 1) := by decide +kernel
theorem dX0_setNumber_5 : decode cX0_setNumber 5 = .ok (.iconst 4, 1) := by decide +kernel
theorem dX0_setNumber_6 : decode cX0_setNumber 6 = .ok (.if_icmp .ge 10, 3) := by decide +kernel
theorem dX0_setNumber_9 : decode cX0_setNumber 9 = .ok (.aload_n 0, 1) := by decide +kernel
theorem dX0_setNumber_10 : decode cX0_setNumber 10 = .ok (.getfield 9, 3) := by decide +kernel
theorem dX0_setNumber_13 : decode cX0_setNumber 13 = .ok (.iload_n 1, 1) := by decide +kernel
theorem dX0_setNumber_14 : decode cX0_setNumber 14 = .ok (.iload_n 2, 1) := by decide +kernel
theorem dX0_setNumber_15 : decode cX0_setNumber 15 = .ok (.iastore, 1) := by decide +kernel
theorem dX0_setNumber_16 : decode cX0_setNumber 16 = .ok (.return_, 1) := by decide +kernel
theorem dX0_has_0 : decode cX0_has 0 = .ok (.iload_n 1, 1) := by decide +kernel
theorem dX0_has_1 : decode cX0_has 1 = .ok (.ifCond .lt 22, 3) := by decide +kernel
theorem dX0_has_4 : decode cX0_has 4 = .ok (.iload_n 1, 1) := by decide +kernel
theorem dX0_has_5 : decode cX0_has 5 = .ok (.iconst 4, 1) := by decide +kernel
theorem dX0_has_6 : decode cX0_has 6 = .ok (.if_icmp .ge 17, 3) := by decide +kernel
theorem dX0_has_9 : decode cX0_has 9 = .ok (.aload_n 0, 1) := by decide +kernel
theorem dX0_has_10 : decode cX0_has 10 = .ok (.getfield 9, 3) := by decide +kernel
theorem dX0_has_13 : decode cX0_has 13 = .ok (.iload_n 1, 1) := by decide +kernel
theorem dX0_has_14 : decode cX0_has 14 = .ok (.iaload, 1) := by decide +kernel
theorem dX0_has_15 : decode cX0_has 15 = .ok (.iconst (-1), 1) := by decide +kernel
theorem dX0_has_16 : decode cX0_has 16 = .ok (.if_icmp .eq 7, 3) := by decide +kernel
theorem dX0_has_19 : decode cX0_has 19 = .ok (.iconst 1, 1) := by decide +kernel
theorem dX0_has_20 : decode cX0_has 20 = .ok (.goto 4, 3) := by decide +kernel
theorem dX0_has_23 : decode cX0_has 23 = .ok (.iconst 0, 1) := by decide +kernel
theorem dX0_has_24 : decode cX0_has 24 = .ok (.ireturn, 1) := by decide +kernel
theorem dX0_countMeant_0 : decode cX0_countMeant 0 = .ok (.aload_n 1, 1) := by decide +kernel
theorem dX0_countMeant_1 : decode cX0_countMeant 1 = .ok (.invokevirtual 31, 3) := by decide +kernel
theorem dX0_countMeant_4 : decode cX0_countMeant 4 = .ok (.istore_n 3, 1) := by decide +kernel
theorem dX0_countMeant_5 : decode cX0_countMeant 5 = .ok (.iconst 0, 1) := by decide +kernel
theorem dX0_countMeant_6 : decode cX0_countMeant 6 = .ok (.istore 4, 2) := by decide +kernel
theorem dX0_countMeant_8 : decode cX0_countMeant 8 = .ok (.iconst 0, 1) := by decide +kernel
theorem dX0_countMeant_9 : decode cX0_countMeant 9 = .ok (.istore 5, 2) := by decide +kernel
theorem dX0_countMeant_11 : decode cX0_countMeant 11 = .ok (.iload 5, 2) := by decide +kernel
theorem dX0_countMeant_13 : decode cX0_countMeant 13 = .ok (.iload_n 3, 1) := by decide +kernel
theorem dX0_countMeant_14 : decode cX0_countMeant 14 = .ok (.if_icmp .ge 23, 3) := by decide +kernel
theorem dX0_countMeant_17 : decode cX0_countMeant 17 = .ok (.aload_n 0, 1) := by decide +kernel
theorem dX0_countMeant_18 : decode cX0_countMeant 18 = .ok (.aload_n 1, 1) := by decide +kernel
theorem dX0_countMeant_19 : decode cX0_countMeant 19 = .ok (.iload 5, 2) := by decide +kernel
theorem dX0_countMeant_21 : decode cX0_countMeant 21 = .ok (.iload_n 2, 1) := by decide +kernel
theorem dX0_countMeant_22 : decode cX0_countMeant 22 = .ok (.invokevirtual 37, 3) := by decide +kernel
theorem dX0_countMeant_25 : decode cX0_countMeant 25 = .ok (.ifCond .eq 6, 3) := by decide +kernel
theorem dX0_countMeant_28 : decode cX0_countMeant 28 = .ok (.iinc 4 1, 3) := by decide +kernel
theorem dX0_countMeant_31 : decode cX0_countMeant 31 = .ok (.iinc 5 1, 3) := by decide +kernel
theorem dX0_countMeant_34 : decode cX0_countMeant 34 = .ok (.goto (-23), 3) := by decide +kernel
theorem dX0_countMeant_37 : decode cX0_countMeant 37 = .ok (.iload 4, 2) := by decide +kernel
theorem dX0_countMeant_39 : decode cX0_countMeant 39 = .ok (.ireturn, 1) := by decide +kernel
theorem dX0_findMeant_0 : decode cX0_findMeant 0 = .ok (.aload_n 1, 1) := by decide +kernel
theorem dX0_findMeant_1 : decode cX0_findMeant 1 = .ok (.invokevirtual 31, 3) := by decide +kernel
theorem dX0_findMeant_4 : decode cX0_findMeant 4 = .ok (.istore 4, 2) := by decide +kernel
theorem dX0_findMeant_6 : decode cX0_findMeant 6 = .ok (.iload_n 3, 1) := by decide +kernel
theorem dX0_findMeant_7 : decode cX0_findMeant 7 = .ok (.istore 5, 2) := by decide +kernel
theorem dX0_findMeant_9 : decode cX0_findMeant 9 = .ok (.iconst 0, 1) := by decide +kernel
theorem dX0_findMeant_10 : decode cX0_findMeant 10 = .ok (.istore 6, 2) := by decide +kernel
theorem dX0_findMeant_12 : decode cX0_findMeant 12 = .ok (.iload 6, 2) := by decide +kernel
theorem dX0_findMeant_14 : decode cX0_findMeant 14 = .ok (.iload 4, 2) := by decide +kernel
theorem dX0_findMeant_16 : decode cX0_findMeant 16 = .ok (.if_icmp .ge 35, 3) := by decide +kernel
theorem dX0_findMeant_19 : decode cX0_findMeant 19 = .ok (.aload_n 0, 1) := by decide +kernel
theorem dX0_findMeant_20 : decode cX0_findMeant 20 = .ok (.aload_n 1, 1) := by decide +kernel
theorem dX0_findMeant_21 : decode cX0_findMeant 21 = .ok (.iload 6, 2) := by decide +kernel
theorem dX0_findMeant_23 : decode cX0_findMeant 23 = .ok (.iload_n 2, 1) := by decide +kernel
theorem dX0_findMeant_24 : decode cX0_findMeant 24 = .ok (.invokevirtual 37, 3) := by decide +kernel
theorem dX0_findMeant_27 : decode cX0_findMeant 27 = .ok (.ifCond .eq 18, 3) := by decide +kernel
theorem dX0_findMeant_30 : decode cX0_findMeant 30 = .ok (.iload 5, 2) := by decide +kernel
theorem dX0_findMeant_32 : decode cX0_findMeant 32 = .ok (.ifCond .ne 10, 3) := by decide +kernel
theorem dX0_findMeant_35 : decode cX0_findMeant 35 = .ok (.aload_n 1, 1) := by decide +kernel
theorem dX0_findMeant_36 : decode cX0_findMeant 36 = .ok (.iload 6, 2) := by decide +kernel
theorem dX0_findMeant_38 : decode cX0_findMeant 38 = .ok (.invokevirtual 41, 3) := by decide +kernel
theorem dX0_findMeant_41 : decode cX0_findMeant 41 = .ok (.ireturn, 1) := by decide +kernel
theorem dX0_findMeant_42 : decode cX0_findMeant 42 = .ok (.iinc 5 (-1), 3) := by decide +kernel
theorem dX0_findMeant_45 : decode cX0_findMeant 45 = .ok (.iinc 6 1, 3) := by decide +kernel
theorem dX0_findMeant_48 : decode cX0_findMeant 48 = .ok (.goto (-36), 3) := by decide +kernel
theorem dX0_findMeant_51 : decode cX0_findMeant 51 = .ok (.iconst (-1), 1) := by decide +kernel
theorem dX0_findMeant_52 : decode cX0_findMeant 52 = .ok (.ireturn, 1) := by decide +kernel
theorem dX0_leastSlips_0 : decode cX0_leastSlips 0 = .ok (.aload_n 1, 1) := by decide +kernel
theorem dX0_leastSlips_1 : decode cX0_leastSlips 1 = .ok (.invokevirtual 31, 3) := by decide +kernel
theorem dX0_leastSlips_4 : decode cX0_leastSlips 4 = .ok (.istore_n 3, 1) := by decide +kernel
theorem dX0_leastSlips_5 : decode cX0_leastSlips 5 = .ok (.iconst 5, 1) := by decide +kernel
theorem dX0_leastSlips_6 : decode cX0_leastSlips 6 = .ok (.istore 4, 2) := by decide +kernel
theorem dX0_leastSlips_8 : decode cX0_leastSlips 8 = .ok (.iconst 0, 1) := by decide +kernel
theorem dX0_leastSlips_9 : decode cX0_leastSlips 9 = .ok (.istore 5, 2) := by decide +kernel
theorem dX0_leastSlips_11 : decode cX0_leastSlips 11 = .ok (.iload 5, 2) := by decide +kernel
theorem dX0_leastSlips_13 : decode cX0_leastSlips 13 = .ok (.iload_n 3, 1) := by decide +kernel
theorem dX0_leastSlips_14 : decode cX0_leastSlips 14 = .ok (.if_icmp .ge 47, 3) := by decide +kernel
theorem dX0_leastSlips_17 : decode cX0_leastSlips 17 = .ok (.iload 4, 2) := by decide +kernel
theorem dX0_leastSlips_19 : decode cX0_leastSlips 19 = .ok (.ifCond .le 42, 3) := by decide +kernel
theorem dX0_leastSlips_22 : decode cX0_leastSlips 22 = .ok (.aload_n 0, 1) := by decide +kernel
theorem dX0_leastSlips_23 : decode cX0_leastSlips 23 = .ok (.aload_n 1, 1) := by decide +kernel
theorem dX0_leastSlips_24 : decode cX0_leastSlips 24 = .ok (.iload 5, 2) := by decide +kernel
theorem dX0_leastSlips_26 : decode cX0_leastSlips 26 = .ok (.iload_n 2, 1) := by decide +kernel
theorem dX0_leastSlips_27 : decode cX0_leastSlips 27 = .ok (.invokevirtual 45, 3) := by decide +kernel
theorem dX0_leastSlips_30 : decode cX0_leastSlips 30 = .ok (.istore 6, 2) := by decide +kernel
theorem dX0_leastSlips_32 : decode cX0_leastSlips 32 = .ok (.iload 6, 2) := by decide +kernel
theorem dX0_leastSlips_34 : decode cX0_leastSlips 34 = .ok (.iconst (-1), 1) := by decide +kernel
theorem dX0_leastSlips_35 : decode cX0_leastSlips 35 = .ok (.if_icmp .eq 20, 3) := by decide +kernel
theorem dX0_leastSlips_38 : decode cX0_leastSlips 38 = .ok (.iload 4, 2) := by decide +kernel
theorem dX0_leastSlips_40 : decode cX0_leastSlips 40 = .ok (.aload_n 0, 1) := by decide +kernel
theorem dX0_leastSlips_41 : decode cX0_leastSlips 41 = .ok (.iload 6, 2) := by decide +kernel
theorem dX0_leastSlips_43 : decode cX0_leastSlips 43 = .ok (.iload 4, 2) := by decide +kernel
theorem dX0_leastSlips_45 : decode cX0_leastSlips 45 = .ok (.iconst 1, 1) := by decide +kernel
theorem dX0_leastSlips_46 : decode cX0_leastSlips 46 = .ok (.isub, 1) := by decide +kernel
theorem dX0_leastSlips_47 : decode cX0_leastSlips 47 = .ok (.invokevirtual 49, 3) := by decide +kernel
theorem dX0_leastSlips_50 : decode cX0_leastSlips 50 = .ok (.invokestatic 53, 3) := by decide +kernel
theorem dX0_leastSlips_53 : decode cX0_leastSlips 53 = .ok (.istore 4, 2) := by decide +kernel
theorem dX0_leastSlips_55 : decode cX0_leastSlips 55 = .ok (.iinc 5 1, 3) := by decide +kernel
theorem dX0_leastSlips_58 : decode cX0_leastSlips 58 = .ok (.goto (-47), 3) := by decide +kernel
theorem dX0_leastSlips_61 : decode cX0_leastSlips 61 = .ok (.iload 4, 2) := by decide +kernel
theorem dX0_leastSlips_63 : decode cX0_leastSlips 63 = .ok (.iconst 5, 1) := by decide +kernel
theorem dX0_leastSlips_64 : decode cX0_leastSlips 64 = .ok (.if_icmp .ne 7, 3) := by decide +kernel
theorem dX0_leastSlips_67 : decode cX0_leastSlips 67 = .ok (.iconst (-1), 1) := by decide +kernel
theorem dX0_leastSlips_68 : decode cX0_leastSlips 68 = .ok (.goto 5, 3) := by decide +kernel
theorem dX0_leastSlips_71 : decode cX0_leastSlips 71 = .ok (.iload 4, 2) := by decide +kernel
theorem dX0_leastSlips_73 : decode cX0_leastSlips 73 = .ok (.ireturn, 1) := by decide +kernel
theorem dX0_slowsLet_0 : decode cX0_slowsLet 0 = .ok (.aload_n 0, 1) := by decide +kernel
theorem dX0_slowsLet_1 : decode cX0_slowsLet 1 = .ok (.getfield 28, 3) := by decide +kernel
theorem dX0_slowsLet_4 : decode cX0_slowsLet 4 = .ok (.aload_n 1, 1) := by decide +kernel
theorem dX0_slowsLet_5 : decode cX0_slowsLet 5 = .ok (.invokevirtual 58, 3) := by decide +kernel
theorem dX0_slowsLet_8 : decode cX0_slowsLet 8 = .ok (.if_icmp .ne 8, 3) := by decide +kernel
theorem dX0_slowsLet_11 : decode cX0_slowsLet 11 = .ok (.aload_n 0, 1) := by decide +kernel
theorem dX0_slowsLet_12 : decode cX0_slowsLet 12 = .ok (.getfield 61, 3) := by decide +kernel
theorem dX0_slowsLet_15 : decode cX0_slowsLet 15 = .ok (.lreturn, 1) := by decide +kernel
theorem dX0_slowsLet_16 : decode cX0_slowsLet 16 = .ok (.aload_n 1, 1) := by decide +kernel
theorem dX0_slowsLet_17 : decode cX0_slowsLet 17 = .ok (.invokevirtual 31, 3) := by decide +kernel
theorem dX0_slowsLet_20 : decode cX0_slowsLet 20 = .ok (.istore_n 2, 1) := by decide +kernel
theorem dX0_slowsLet_21 : decode cX0_slowsLet 21 = .ok (.aload_n 0, 1) := by decide +kernel
theorem dX0_slowsLet_22 : decode cX0_slowsLet 22 = .ok (.lconst 0, 1) := by decide +kernel
theorem dX0_slowsLet_23 : decode cX0_slowsLet 23 = .ok (.putfield 61, 3) := by decide +kernel
theorem dX0_slowsLet_26 : decode cX0_slowsLet 26 = .ok (.iconst 0, 1) := by decide +kernel
theorem dX0_slowsLet_27 : decode cX0_slowsLet 27 = .ok (.istore_n 3, 1) := by decide +kernel
theorem dX0_slowsLet_28 : decode cX0_slowsLet 28 = .ok (.iload_n 3, 1) := by decide +kernel
theorem dX0_slowsLet_29 : decode cX0_slowsLet 29 = .ok (.iload_n 2, 1) := by decide +kernel
theorem dX0_slowsLet_30 : decode cX0_slowsLet 30 = .ok (.if_icmp .ge 44, 3) := by decide +kernel
theorem dX0_slowsLet_33 : decode cX0_slowsLet 33 = .ok (.aload_n 0, 1) := by decide +kernel
theorem dX0_slowsLet_34 : decode cX0_slowsLet 34 = .ok (.getfield 61, 3) := by decide +kernel
theorem dX0_slowsLet_37 : decode cX0_slowsLet 37 = .ok (.ldc2_w 65, 3) := by decide +kernel
theorem dX0_slowsLet_40 : decode cX0_slowsLet 40 = .ok (.lcmp, 1) := by decide +kernel
theorem dX0_slowsLet_41 : decode cX0_slowsLet 41 = .ok (.ifCond .eq 33, 3) := by decide +kernel
theorem dX0_slowsLet_44 : decode cX0_slowsLet 44 = .ok (.aload_n 0, 1) := by decide +kernel
theorem dX0_slowsLet_45 : decode cX0_slowsLet 45 = .ok (.aload_n 1, 1) := by decide +kernel
theorem dX0_slowsLet_46 : decode cX0_slowsLet 46 = .ok (.iload_n 3, 1) := by decide +kernel
theorem dX0_slowsLet_47 : decode cX0_slowsLet 47 = .ok (.invokevirtual 67, 3) := by decide +kernel
theorem dX0_slowsLet_50 : decode cX0_slowsLet 50 = .ok (.ifCond .eq 18, 3) := by decide +kernel
theorem dX0_slowsLet_53 : decode cX0_slowsLet 53 = .ok (.aload_n 0, 1) := by decide +kernel
theorem dX0_slowsLet_54 : decode cX0_slowsLet 54 = .ok (.dup, 1) := by decide +kernel
theorem dX0_slowsLet_55 : decode cX0_slowsLet 55 = .ok (.getfield 61, 3) := by decide +kernel
theorem dX0_slowsLet_58 : decode cX0_slowsLet 58 = .ok (.aload_n 0, 1) := by decide +kernel
theorem dX0_slowsLet_59 : decode cX0_slowsLet 59 = .ok (.aload_n 1, 1) := by decide +kernel
theorem dX0_slowsLet_60 : decode cX0_slowsLet 60 = .ok (.iload_n 3, 1) := by decide +kernel
theorem dX0_slowsLet_61 : decode cX0_slowsLet 61 = .ok (.invokevirtual 71, 3) := by decide +kernel
theorem dX0_slowsLet_64 : decode cX0_slowsLet 64 = .ok (.lor, 1) := by decide +kernel
theorem dX0_slowsLet_65 : decode cX0_slowsLet 65 = .ok (.putfield 61, 3) := by decide +kernel
theorem dX0_slowsLet_68 : decode cX0_slowsLet 68 = .ok (.iinc 3 1, 3) := by decide +kernel
theorem dX0_slowsLet_71 : decode cX0_slowsLet 71 = .ok (.goto (-43), 3) := by decide +kernel
theorem dX0_slowsLet_74 : decode cX0_slowsLet 74 = .ok (.aload_n 0, 1) := by decide +kernel
theorem dX0_slowsLet_75 : decode cX0_slowsLet 75 = .ok (.aload_n 1, 1) := by decide +kernel
theorem dX0_slowsLet_76 : decode cX0_slowsLet 76 = .ok (.invokevirtual 58, 3) := by decide +kernel
theorem dX0_slowsLet_79 : decode cX0_slowsLet 79 = .ok (.putfield 28, 3) := by decide +kernel
theorem dX0_slowsLet_82 : decode cX0_slowsLet 82 = .ok (.aload_n 0, 1) := by decide +kernel
theorem dX0_slowsLet_83 : decode cX0_slowsLet 83 = .ok (.getfield 61, 3) := by decide +kernel
theorem dX0_slowsLet_86 : decode cX0_slowsLet 86 = .ok (.lreturn, 1) := by decide +kernel
theorem dX0_slowsMeaning_0 : decode cX0_slowsMeaning 0 = .ok (.aload_n 1, 1) := by decide +kernel
theorem dX0_slowsMeaning_1 : decode cX0_slowsMeaning 1 = .ok (.iload_n 2, 1) := by decide +kernel
theorem dX0_slowsMeaning_2 : decode cX0_slowsMeaning 2 = .ok (.invokevirtual 75, 3) := by decide +kernel
theorem dX0_slowsMeaning_5 : decode cX0_slowsMeaning 5 = .ok (.istore_n 3, 1) := by decide +kernel
theorem dX0_slowsMeaning_6 : decode cX0_slowsMeaning 6 = .ok (.aload_n 1, 1) := by decide +kernel
theorem dX0_slowsMeaning_7 : decode cX0_slowsMeaning 7 = .ok (.iload_n 2, 1) := by decide +kernel
theorem dX0_slowsMeaning_8 : decode cX0_slowsMeaning 8 = .ok (.invokevirtual 78, 3) := by decide +kernel
theorem dX0_slowsMeaning_11 : decode cX0_slowsMeaning 11 = .ok (.istore 4, 2) := by decide +kernel
theorem dX0_slowsMeaning_13 : decode cX0_slowsMeaning 13 = .ok (.aload_n 0, 1) := by decide +kernel
theorem dX0_slowsMeaning_14 : decode cX0_slowsMeaning 14 = .ok (.iload_n 3, 1) := by decide +kernel
theorem dX0_slowsMeaning_15 : decode cX0_slowsMeaning 15 = .ok (.bipush 60, 2) := by decide +kernel
theorem dX0_slowsMeaning_17 : decode cX0_slowsMeaning 17 = .ok (.invokevirtual 82, 3) := by decide +kernel
theorem dX0_slowsMeaning_20 : decode cX0_slowsMeaning 20 = .ok (.istore 5, 2) := by decide +kernel
theorem dX0_slowsMeaning_22 : decode cX0_slowsMeaning 22 = .ok (.lconst 0, 1) := by decide +kernel
theorem dX0_slowsMeaning_23 : decode cX0_slowsMeaning 23 = .ok (.lstore 6, 2) := by decide +kernel
theorem dX0_slowsMeaning_25 : decode cX0_slowsMeaning 25 = .ok (.aload_n 0, 1) := by decide +kernel
theorem dX0_slowsMeaning_26 : decode cX0_slowsMeaning 26 = .ok (.iload_n 3, 1) := by decide +kernel
theorem dX0_slowsMeaning_27 : decode cX0_slowsMeaning 27 = .ok (.iconst 0, 1) := by decide +kernel
theorem dX0_slowsMeaning_28 : decode cX0_slowsMeaning 28 = .ok (.invokevirtual 82, 3) := by decide +kernel
theorem dX0_slowsMeaning_31 : decode cX0_slowsMeaning 31 = .ok (.istore 8, 2) := by decide +kernel
theorem dX0_slowsMeaning_33 : decode cX0_slowsMeaning 33 = .ok (.iload 8, 2) := by decide +kernel
theorem dX0_slowsMeaning_35 : decode cX0_slowsMeaning 35 = .ok (.iload 5, 2) := by decide +kernel
theorem dX0_slowsMeaning_37 : decode cX0_slowsMeaning 37 = .ok (.if_icmp .gt 41, 3) := by decide +kernel
theorem dX0_slowsMeaning_40 : decode cX0_slowsMeaning 40 = .ok (.iload 8, 2) := by decide +kernel
theorem dX0_slowsMeaning_42 : decode cX0_slowsMeaning 42 = .ok (.iload 4, 2) := by decide +kernel
theorem dX0_slowsMeaning_44 : decode cX0_slowsMeaning 44 = .ok (.invokestatic 85, 3) := by decide +kernel
theorem dX0_slowsMeaning_47 : decode cX0_slowsMeaning 47 = .ok (.ifCond .eq 25, 3) := by decide +kernel
theorem dX0_slowsMeaning_50 : decode cX0_slowsMeaning 50 = .ok (.aload_n 0, 1) := by decide +kernel
theorem dX0_slowsMeaning_51 : decode cX0_slowsMeaning 51 = .ok (.iload 8, 2) := by decide +kernel
theorem dX0_slowsMeaning_53 : decode cX0_slowsMeaning 53 = .ok (.iconst 0, 1) := by decide +kernel
theorem dX0_slowsMeaning_54 : decode cX0_slowsMeaning 54 = .ok (.invokevirtual 49, 3) := by decide +kernel
theorem dX0_slowsMeaning_57 : decode cX0_slowsMeaning 57 = .ok (.ifCond .ne 15, 3) := by decide +kernel
theorem dX0_slowsMeaning_60 : decode cX0_slowsMeaning 60 = .ok (.lload 6, 2) := by decide +kernel
theorem dX0_slowsMeaning_62 : decode cX0_slowsMeaning 62 = .ok (.aload_n 0, 1) := by decide +kernel
theorem dX0_slowsMeaning_63 : decode cX0_slowsMeaning 63 = .ok (.iload 8, 2) := by decide +kernel
theorem dX0_slowsMeaning_65 : decode cX0_slowsMeaning 65 = .ok (.iload_n 3, 1) := by decide +kernel
theorem dX0_slowsMeaning_66 : decode cX0_slowsMeaning 66 = .ok (.invokevirtual 89, 3) := by decide +kernel
theorem dX0_slowsMeaning_69 : decode cX0_slowsMeaning 69 = .ok (.lor, 1) := by decide +kernel
theorem dX0_slowsMeaning_70 : decode cX0_slowsMeaning 70 = .ok (.lstore 6, 2) := by decide +kernel
theorem dX0_slowsMeaning_72 : decode cX0_slowsMeaning 72 = .ok (.iinc 8 1, 3) := by decide +kernel
theorem dX0_slowsMeaning_75 : decode cX0_slowsMeaning 75 = .ok (.goto (-42), 3) := by decide +kernel
theorem dX0_slowsMeaning_78 : decode cX0_slowsMeaning 78 = .ok (.lload 6, 2) := by decide +kernel
theorem dX0_slowsMeaning_80 : decode cX0_slowsMeaning 80 = .ok (.lreturn, 1) := by decide +kernel
theorem dX0_slowsWithin_0 : decode cX0_slowsWithin 0 = .ok (.lconst 0, 1) := by decide +kernel
theorem dX0_slowsWithin_1 : decode cX0_slowsWithin 1 = .ok (.lstore_n 3, 1) := by decide +kernel
theorem dX0_slowsWithin_2 : decode cX0_slowsWithin 2 = .ok (.iconst 0, 1) := by decide +kernel
theorem dX0_slowsWithin_3 : decode cX0_slowsWithin 3 = .ok (.istore 5, 2) := by decide +kernel
theorem dX0_slowsWithin_5 : decode cX0_slowsWithin 5 = .ok (.iload 5, 2) := by decide +kernel
theorem dX0_slowsWithin_7 : decode cX0_slowsWithin 7 = .ok (.bipush 60, 2) := by decide +kernel
theorem dX0_slowsWithin_9 : decode cX0_slowsWithin 9 = .ok (.if_icmp .gt 27, 3) := by decide +kernel
theorem dX0_slowsWithin_12 : decode cX0_slowsWithin 12 = .ok (.aload_n 0, 1) := by decide +kernel
theorem dX0_slowsWithin_13 : decode cX0_slowsWithin 13 = .ok (.iload_n 2, 1) := by decide +kernel
theorem dX0_slowsWithin_14 : decode cX0_slowsWithin 14 = .ok (.iload 5, 2) := by decide +kernel
theorem dX0_slowsWithin_16 : decode cX0_slowsWithin 16 = .ok (.invokevirtual 82, 3) := by decide +kernel
theorem dX0_slowsWithin_19 : decode cX0_slowsWithin 19 = .ok (.iload_n 1, 1) := by decide +kernel
theorem dX0_slowsWithin_20 : decode cX0_slowsWithin 20 = .ok (.if_icmp .ne 10, 3) := by decide +kernel
theorem dX0_slowsWithin_23 : decode cX0_slowsWithin 23 = .ok (.lload_n 3, 1) := by decide +kernel
theorem dX0_slowsWithin_24 : decode cX0_slowsWithin 24 = .ok (.lconst 1, 1) := by decide +kernel
theorem dX0_slowsWithin_25 : decode cX0_slowsWithin 25 = .ok (.iload 5, 2) := by decide +kernel
theorem dX0_slowsWithin_27 : decode cX0_slowsWithin 27 = .ok (.lshl, 1) := by decide +kernel
theorem dX0_slowsWithin_28 : decode cX0_slowsWithin 28 = .ok (.lor, 1) := by decide +kernel
theorem dX0_slowsWithin_29 : decode cX0_slowsWithin 29 = .ok (.lstore_n 3, 1) := by decide +kernel
theorem dX0_slowsWithin_30 : decode cX0_slowsWithin 30 = .ok (.iinc 5 1, 3) := by decide +kernel
theorem dX0_slowsWithin_33 : decode cX0_slowsWithin 33 = .ok (.goto (-28), 3) := by decide +kernel
theorem dX0_slowsWithin_36 : decode cX0_slowsWithin 36 = .ok (.lload_n 3, 1) := by decide +kernel
theorem dX0_slowsWithin_37 : decode cX0_slowsWithin 37 = .ok (.lreturn, 1) := by decide +kernel
theorem dX0_hoursAt_0 : decode cX0_hoursAt 0 = .ok (.iload_n 1, 1) := by decide +kernel
theorem dX0_hoursAt_1 : decode cX0_hoursAt 1 = .ok (.aload_n 0, 1) := by decide +kernel
theorem dX0_hoursAt_2 : decode cX0_hoursAt 2 = .ok (.getfield 22, 3) := by decide +kernel
theorem dX0_hoursAt_5 : decode cX0_hoursAt 5 = .ok (.iload_n 2, 1) := by decide +kernel
theorem dX0_hoursAt_6 : decode cX0_hoursAt 6 = .ok (.invokestatic 93, 3) := by decide +kernel
theorem dX0_hoursAt_9 : decode cX0_hoursAt 9 = .ok (.bipush 60, 2) := by decide +kernel
theorem dX0_hoursAt_11 : decode cX0_hoursAt 11 = .ok (.invokestatic 97, 3) := by decide +kernel
theorem dX0_hoursAt_14 : decode cX0_hoursAt 14 = .ok (.ireturn, 1) := by decide +kernel
theorem dX0_isOfKind_0 : decode cX0_isOfKind 0 = .ok (.aload_n 0, 1) := by decide +kernel
theorem dX0_isOfKind_1 : decode cX0_isOfKind 1 = .ok (.getfield 15, 3) := by decide +kernel
theorem dX0_isOfKind_4 : decode cX0_isOfKind 4 = .ok (.aload_n 1, 1) := by decide +kernel
theorem dX0_isOfKind_5 : decode cX0_isOfKind 5 = .ok (.iload_n 2, 1) := by decide +kernel
theorem dX0_isOfKind_6 : decode cX0_isOfKind 6 = .ok (.invokevirtual 100, 3) := by decide +kernel
theorem dX0_isOfKind_9 : decode cX0_isOfKind 9 = .ok (.ishr, 1) := by decide +kernel
theorem dX0_isOfKind_10 : decode cX0_isOfKind 10 = .ok (.iconst 1, 1) := by decide +kernel
theorem dX0_isOfKind_11 : decode cX0_isOfKind 11 = .ok (.iand, 1) := by decide +kernel
theorem dX0_isOfKind_12 : decode cX0_isOfKind 12 = .ok (.ifCond .eq 7, 3) := by decide +kernel
theorem dX0_isOfKind_15 : decode cX0_isOfKind 15 = .ok (.iconst 1, 1) := by decide +kernel
theorem dX0_isOfKind_16 : decode cX0_isOfKind 16 = .ok (.goto 4, 3) := by decide +kernel
theorem dX0_isOfKind_19 : decode cX0_isOfKind 19 = .ok (.iconst 0, 1) := by decide +kernel
theorem dX0_isOfKind_20 : decode cX0_isOfKind 20 = .ok (.ireturn, 1) := by decide +kernel
theorem dX0_isMeant_0 : decode cX0_isMeant 0 = .ok (.aload_n 0, 1) := by decide +kernel
theorem dX0_isMeant_1 : decode cX0_isMeant 1 = .ok (.aload_n 1, 1) := by decide +kernel
theorem dX0_isMeant_2 : decode cX0_isMeant 2 = .ok (.iload_n 2, 1) := by decide +kernel
theorem dX0_isMeant_3 : decode cX0_isMeant 3 = .ok (.iload_n 3, 1) := by decide +kernel
theorem dX0_isMeant_4 : decode cX0_isMeant 4 = .ok (.invokevirtual 45, 3) := by decide +kernel
theorem dX0_isMeant_7 : decode cX0_isMeant 7 = .ok (.istore 4, 2) := by decide +kernel
theorem dX0_isMeant_9 : decode cX0_isMeant 9 = .ok (.iload 4, 2) := by decide +kernel
theorem dX0_isMeant_11 : decode cX0_isMeant 11 = .ok (.iconst (-1), 1) := by decide +kernel
theorem dX0_isMeant_12 : decode cX0_isMeant 12 = .ok (.if_icmp .eq 17, 3) := by decide +kernel
theorem dX0_isMeant_15 : decode cX0_isMeant 15 = .ok (.aload_n 0, 1) := by decide +kernel
theorem dX0_isMeant_16 : decode cX0_isMeant 16 = .ok (.iload 4, 2) := by decide +kernel
theorem dX0_isMeant_18 : decode cX0_isMeant 18 = .ok (.iconst 0, 1) := by decide +kernel
theorem dX0_isMeant_19 : decode cX0_isMeant 19 = .ok (.invokevirtual 49, 3) := by decide +kernel
theorem dX0_isMeant_22 : decode cX0_isMeant 22 = .ok (.ifCond .ne 7, 3) := by decide +kernel
theorem dX0_isMeant_25 : decode cX0_isMeant 25 = .ok (.iconst 1, 1) := by decide +kernel
theorem dX0_isMeant_26 : decode cX0_isMeant 26 = .ok (.goto 4, 3) := by decide +kernel
theorem dX0_isMeant_29 : decode cX0_isMeant 29 = .ok (.iconst 0, 1) := by decide +kernel
theorem dX0_isMeant_30 : decode cX0_isMeant 30 = .ok (.ireturn, 1) := by decide +kernel
theorem dX0_hoursSeen_0 : decode cX0_hoursSeen 0 = .ok (.aload_n 0, 1) := by decide +kernel
theorem dX0_hoursSeen_1 : decode cX0_hoursSeen 1 = .ok (.aload_n 1, 1) := by decide +kernel
theorem dX0_hoursSeen_2 : decode cX0_hoursSeen 2 = .ok (.iload_n 2, 1) := by decide +kernel
theorem dX0_hoursSeen_3 : decode cX0_hoursSeen 3 = .ok (.invokevirtual 67, 3) := by decide +kernel
theorem dX0_hoursSeen_6 : decode cX0_hoursSeen 6 = .ok (.ifCond .ne 5, 3) := by decide +kernel
theorem dX0_hoursSeen_9 : decode cX0_hoursSeen 9 = .ok (.iconst (-1), 1) := by decide +kernel
theorem dX0_hoursSeen_10 : decode cX0_hoursSeen 10 = .ok (.ireturn, 1) := by decide +kernel
theorem dX0_hoursSeen_11 : decode cX0_hoursSeen 11 = .ok (.aload_n 0, 1) := by decide +kernel
theorem dX0_hoursSeen_12 : decode cX0_hoursSeen 12 = .ok (.aload_n 1, 1) := by decide +kernel
theorem dX0_hoursSeen_13 : decode cX0_hoursSeen 13 = .ok (.iload_n 2, 1) := by decide +kernel
theorem dX0_hoursSeen_14 : decode cX0_hoursSeen 14 = .ok (.invokevirtual 75, 3) := by decide +kernel
theorem dX0_hoursSeen_17 : decode cX0_hoursSeen 17 = .ok (.iload_n 3, 1) := by decide +kernel
theorem dX0_hoursSeen_18 : decode cX0_hoursSeen 18 = .ok (.invokevirtual 82, 3) := by decide +kernel
theorem dX0_hoursSeen_21 : decode cX0_hoursSeen 21 = .ok (.istore 4, 2) := by decide +kernel
theorem dX0_hoursSeen_23 : decode cX0_hoursSeen 23 = .ok (.iload 4, 2) := by decide +kernel
theorem dX0_hoursSeen_25 : decode cX0_hoursSeen 25 = .ok (.aload_n 1, 1) := by decide +kernel
theorem dX0_hoursSeen_26 : decode cX0_hoursSeen 26 = .ok (.iload_n 2, 1) := by decide +kernel
theorem dX0_hoursSeen_27 : decode cX0_hoursSeen 27 = .ok (.invokevirtual 78, 3) := by decide +kernel
theorem dX0_hoursSeen_30 : decode cX0_hoursSeen 30 = .ok (.invokestatic 85, 3) := by decide +kernel
theorem dX0_hoursSeen_33 : decode cX0_hoursSeen 33 = .ok (.ifCond .eq 8, 3) := by decide +kernel
theorem dX0_hoursSeen_36 : decode cX0_hoursSeen 36 = .ok (.iload 4, 2) := by decide +kernel
theorem dX0_hoursSeen_38 : decode cX0_hoursSeen 38 = .ok (.goto 4, 3) := by decide +kernel
theorem dX0_hoursSeen_41 : decode cX0_hoursSeen 41 = .ok (.iconst (-1), 1) := by decide +kernel
theorem dX0_hoursSeen_42 : decode cX0_hoursSeen 42 = .ok (.ireturn, 1) := by decide +kernel
theorem dX0_isSeenAt_0 : decode cX0_isSeenAt 0 = .ok (.iload_n 0, 1) := by decide +kernel
theorem dX0_isSeenAt_1 : decode cX0_isSeenAt 1 = .ok (.ifCond .ge 5, 3) := by decide +kernel
theorem dX0_isSeenAt_4 : decode cX0_isSeenAt 4 = .ok (.iconst 0, 1) := by decide +kernel
theorem dX0_isSeenAt_5 : decode cX0_isSeenAt 5 = .ok (.ireturn, 1) := by decide +kernel
theorem dX0_isSeenAt_6 : decode cX0_isSeenAt 6 = .ok (.iload_n 0, 1) := by decide +kernel
theorem dX0_isSeenAt_7 : decode cX0_isSeenAt 7 = .ok (.bipush 24, 2) := by decide +kernel
theorem dX0_isSeenAt_9 : decode cX0_isSeenAt 9 = .ok (.irem, 1) := by decide +kernel
theorem dX0_isSeenAt_10 : decode cX0_isSeenAt 10 = .ok (.istore_n 2, 1) := by decide +kernel
theorem dX0_isSeenAt_11 : decode cX0_isSeenAt 11 = .ok (.iload_n 2, 1) := by decide +kernel
theorem dX0_isSeenAt_12 : decode cX0_isSeenAt 12 = .ok (.bipush 6, 2) := by decide +kernel
theorem dX0_isSeenAt_14 : decode cX0_isSeenAt 14 = .ok (.if_icmp .lt 13, 3) := by decide +kernel
theorem dX0_isSeenAt_17 : decode cX0_isSeenAt 17 = .ok (.iload_n 2, 1) := by decide +kernel
theorem dX0_isSeenAt_18 : decode cX0_isSeenAt 18 = .ok (.bipush 17, 2) := by decide +kernel
theorem dX0_isSeenAt_20 : decode cX0_isSeenAt 20 = .ok (.if_icmp .gt 7, 3) := by decide +kernel
theorem dX0_isSeenAt_23 : decode cX0_isSeenAt 23 = .ok (.iconst 1, 1) := by decide +kernel
theorem dX0_isSeenAt_24 : decode cX0_isSeenAt 24 = .ok (.goto 4, 3) := by decide +kernel
theorem dX0_isSeenAt_27 : decode cX0_isSeenAt 27 = .ok (.iconst 0, 1) := by decide +kernel
theorem dX0_isSeenAt_28 : decode cX0_isSeenAt 28 = .ok (.istore_n 3, 1) := by decide +kernel
theorem dX0_isSeenAt_29 : decode cX0_isSeenAt 29 = .ok (.iload_n 3, 1) := by decide +kernel
theorem dX0_isSeenAt_30 : decode cX0_isSeenAt 30 = .ok (.iload_n 1, 1) := by decide +kernel
theorem dX0_isSeenAt_31 : decode cX0_isSeenAt 31 = .ok (.if_icmp .ne 7, 3) := by decide +kernel
theorem dX0_isSeenAt_34 : decode cX0_isSeenAt 34 = .ok (.iconst 1, 1) := by decide +kernel
theorem dX0_isSeenAt_35 : decode cX0_isSeenAt 35 = .ok (.goto 4, 3) := by decide +kernel
theorem dX0_isSeenAt_38 : decode cX0_isSeenAt 38 = .ok (.iconst 0, 1) := by decide +kernel
theorem dX0_isSeenAt_39 : decode cX0_isSeenAt 39 = .ok (.ireturn, 1) := by decide +kernel
theorem dX0_slipsAt_0 : decode cX0_slipsAt 0 = .ok (.aload_n 0, 1) := by decide +kernel
theorem dX0_slipsAt_1 : decode cX0_slipsAt 1 = .ok (.iconst 3, 1) := by decide +kernel
theorem dX0_slipsAt_2 : decode cX0_slipsAt 2 = .ok (.iload_n 1, 1) := by decide +kernel
theorem dX0_slipsAt_3 : decode cX0_slipsAt 3 = .ok (.bipush 24, 2) := by decide +kernel
theorem dX0_slipsAt_5 : decode cX0_slipsAt 5 = .ok (.irem, 1) := by decide +kernel
theorem dX0_slipsAt_6 : decode cX0_slipsAt 6 = .ok (.invokevirtual 103, 3) := by decide +kernel
theorem dX0_slipsAt_9 : decode cX0_slipsAt 9 = .ok (.istore_n 3, 1) := by decide +kernel
theorem dX0_slipsAt_10 : decode cX0_slipsAt 10 = .ok (.iload_n 3, 1) := by decide +kernel
theorem dX0_slipsAt_11 : decode cX0_slipsAt 11 = .ok (.iload_n 2, 1) := by decide +kernel
theorem dX0_slipsAt_12 : decode cX0_slipsAt 12 = .ok (.if_icmp .gt 27, 3) := by decide +kernel
theorem dX0_slipsAt_15 : decode cX0_slipsAt 15 = .ok (.aload_n 0, 1) := by decide +kernel
theorem dX0_slipsAt_16 : decode cX0_slipsAt 16 = .ok (.iconst 0, 1) := by decide +kernel
theorem dX0_slipsAt_17 : decode cX0_slipsAt 17 = .ok (.invokevirtual 106, 3) := by decide +kernel
theorem dX0_slipsAt_20 : decode cX0_slipsAt 20 = .ok (.ifCond .ne 21, 3) := by decide +kernel
theorem dX0_slipsAt_23 : decode cX0_slipsAt 23 = .ok (.aload_n 0, 1) := by decide +kernel
theorem dX0_slipsAt_24 : decode cX0_slipsAt 24 = .ok (.iconst 1, 1) := by decide +kernel
theorem dX0_slipsAt_25 : decode cX0_slipsAt 25 = .ok (.invokevirtual 106, 3) := by decide +kernel
theorem dX0_slipsAt_28 : decode cX0_slipsAt 28 = .ok (.ifCond .ne 13, 3) := by decide +kernel
theorem dX0_slipsAt_31 : decode cX0_slipsAt 31 = .ok (.aload_n 0, 1) := by decide +kernel
theorem dX0_slipsAt_32 : decode cX0_slipsAt 32 = .ok (.iconst 2, 1) := by decide +kernel
theorem dX0_slipsAt_33 : decode cX0_slipsAt 33 = .ok (.invokevirtual 106, 3) := by decide +kernel
theorem dX0_slipsAt_36 : decode cX0_slipsAt 36 = .ok (.ifCond .ne 5, 3) := by decide +kernel
theorem dX0_slipsAt_39 : decode cX0_slipsAt 39 = .ok (.iload_n 3, 1) := by decide +kernel
theorem dX0_slipsAt_40 : decode cX0_slipsAt 40 = .ok (.ireturn, 1) := by decide +kernel
theorem dX0_slipsAt_41 : decode cX0_slipsAt 41 = .ok (.iload_n 1, 1) := by decide +kernel
theorem dX0_slipsAt_42 : decode cX0_slipsAt 42 = .ok (.bipush 24, 2) := by decide +kernel
theorem dX0_slipsAt_44 : decode cX0_slipsAt 44 = .ok (.idiv, 1) := by decide +kernel
theorem dX0_slipsAt_45 : decode cX0_slipsAt 45 = .ok (.istore 4, 2) := by decide +kernel
theorem dX0_slipsAt_47 : decode cX0_slipsAt 47 = .ok (.aload_n 0, 1) := by decide +kernel
theorem dX0_slipsAt_48 : decode cX0_slipsAt 48 = .ok (.getfield 19, 3) := by decide +kernel
theorem dX0_slipsAt_51 : decode cX0_slipsAt 51 = .ok (.iload 4, 2) := by decide +kernel
theorem dX0_slipsAt_53 : decode cX0_slipsAt 53 = .ok (.invokestatic 109, 3) := by decide +kernel
theorem dX0_slipsAt_56 : decode cX0_slipsAt 56 = .ok (.istore 5, 2) := by decide +kernel
theorem dX0_slipsAt_58 : decode cX0_slipsAt 58 = .ok (.aload_n 0, 1) := by decide +kernel
theorem dX0_slipsAt_59 : decode cX0_slipsAt 59 = .ok (.iconst 0, 1) := by decide +kernel
theorem dX0_slipsAt_60 : decode cX0_slipsAt 60 = .ok (.invokevirtual 106, 3) := by decide +kernel
theorem dX0_slipsAt_63 : decode cX0_slipsAt 63 = .ok (.ifCond .eq 18, 3) := by decide +kernel
theorem dX0_slipsAt_66 : decode cX0_slipsAt 66 = .ok (.iload 5, 2) := by decide +kernel
theorem dX0_slipsAt_68 : decode cX0_slipsAt 68 = .ok (.aload_n 0, 1) := by decide +kernel
theorem dX0_slipsAt_69 : decode cX0_slipsAt 69 = .ok (.getfield 25, 3) := by decide +kernel
theorem dX0_slipsAt_72 : decode cX0_slipsAt 72 = .ok (.isub, 1) := by decide +kernel
theorem dX0_slipsAt_73 : decode cX0_slipsAt 73 = .ok (.invokestatic 114, 3) := by decide +kernel
theorem dX0_slipsAt_76 : decode cX0_slipsAt 76 = .ok (.ifCond .ne 5, 3) := by decide +kernel
theorem dX0_slipsAt_79 : decode cX0_slipsAt 79 = .ok (.iconst 5, 1) := by decide +kernel
theorem dX0_slipsAt_80 : decode cX0_slipsAt 80 = .ok (.ireturn, 1) := by decide +kernel
theorem dX0_slipsAt_81 : decode cX0_slipsAt 81 = .ok (.iload_n 3, 1) := by decide +kernel
theorem dX0_slipsAt_82 : decode cX0_slipsAt 82 = .ok (.aload_n 0, 1) := by decide +kernel
theorem dX0_slipsAt_83 : decode cX0_slipsAt 83 = .ok (.iconst 0, 1) := by decide +kernel
theorem dX0_slipsAt_84 : decode cX0_slipsAt 84 = .ok (.iload 5, 2) := by decide +kernel
theorem dX0_slipsAt_86 : decode cX0_slipsAt 86 = .ok (.aload_n 0, 1) := by decide +kernel
theorem dX0_slipsAt_87 : decode cX0_slipsAt 87 = .ok (.getfield 25, 3) := by decide +kernel
theorem dX0_slipsAt_90 : decode cX0_slipsAt 90 = .ok (.isub, 1) := by decide +kernel
theorem dX0_slipsAt_91 : decode cX0_slipsAt 91 = .ok (.invokevirtual 103, 3) := by decide +kernel
theorem dX0_slipsAt_94 : decode cX0_slipsAt 94 = .ok (.iadd, 1) := by decide +kernel
theorem dX0_slipsAt_95 : decode cX0_slipsAt 95 = .ok (.istore_n 3, 1) := by decide +kernel
theorem dX0_slipsAt_96 : decode cX0_slipsAt 96 = .ok (.iload_n 3, 1) := by decide +kernel
theorem dX0_slipsAt_97 : decode cX0_slipsAt 97 = .ok (.iload_n 2, 1) := by decide +kernel
theorem dX0_slipsAt_98 : decode cX0_slipsAt 98 = .ok (.if_icmp .gt 19, 3) := by decide +kernel
theorem dX0_slipsAt_101 : decode cX0_slipsAt 101 = .ok (.aload_n 0, 1) := by decide +kernel
theorem dX0_slipsAt_102 : decode cX0_slipsAt 102 = .ok (.iconst 1, 1) := by decide +kernel
theorem dX0_slipsAt_103 : decode cX0_slipsAt 103 = .ok (.invokevirtual 106, 3) := by decide +kernel
theorem dX0_slipsAt_106 : decode cX0_slipsAt 106 = .ok (.ifCond .ne 13, 3) := by decide +kernel
theorem dX0_slipsAt_109 : decode cX0_slipsAt 109 = .ok (.aload_n 0, 1) := by decide +kernel
theorem dX0_slipsAt_110 : decode cX0_slipsAt 110 = .ok (.iconst 2, 1) := by decide +kernel
theorem dX0_slipsAt_111 : decode cX0_slipsAt 111 = .ok (.invokevirtual 106, 3) := by decide +kernel
theorem dX0_slipsAt_114 : decode cX0_slipsAt 114 = .ok (.ifCond .ne 5, 3) := by decide +kernel
theorem dX0_slipsAt_117 : decode cX0_slipsAt 117 = .ok (.iload_n 3, 1) := by decide +kernel
theorem dX0_slipsAt_118 : decode cX0_slipsAt 118 = .ok (.ireturn, 1) := by decide +kernel
theorem dX0_slipsAt_119 : decode cX0_slipsAt 119 = .ok (.aload_n 0, 1) := by decide +kernel
theorem dX0_slipsAt_120 : decode cX0_slipsAt 120 = .ok (.getfield 19, 3) := by decide +kernel
theorem dX0_slipsAt_123 : decode cX0_slipsAt 123 = .ok (.iload 5, 2) := by decide +kernel
theorem dX0_slipsAt_125 : decode cX0_slipsAt 125 = .ok (.iload 4, 2) := by decide +kernel
theorem dX0_slipsAt_127 : decode cX0_slipsAt 127 = .ok (.invokestatic 117, 3) := by decide +kernel
theorem dX0_slipsAt_130 : decode cX0_slipsAt 130 = .ok (.istore 6, 2) := by decide +kernel
theorem dX0_slipsAt_132 : decode cX0_slipsAt 132 = .ok (.iload_n 3, 1) := by decide +kernel
theorem dX0_slipsAt_133 : decode cX0_slipsAt 133 = .ok (.aload_n 0, 1) := by decide +kernel
theorem dX0_slipsAt_134 : decode cX0_slipsAt 134 = .ok (.iconst 1, 1) := by decide +kernel
theorem dX0_slipsAt_135 : decode cX0_slipsAt 135 = .ok (.iload 6, 2) := by decide +kernel
theorem dX0_slipsAt_137 : decode cX0_slipsAt 137 = .ok (.invokestatic 120, 3) := by decide +kernel
theorem dX0_slipsAt_140 : decode cX0_slipsAt 140 = .ok (.invokevirtual 103, 3) := by decide +kernel
theorem dX0_slipsAt_143 : decode cX0_slipsAt 143 = .ok (.iadd, 1) := by decide +kernel
theorem dX0_slipsAt_144 : decode cX0_slipsAt 144 = .ok (.aload_n 0, 1) := by decide +kernel
theorem dX0_slipsAt_145 : decode cX0_slipsAt 145 = .ok (.iconst 2, 1) := by decide +kernel
theorem dX0_slipsAt_146 : decode cX0_slipsAt 146 = .ok (.iload 6, 2) := by decide +kernel
theorem dX0_slipsAt_148 : decode cX0_slipsAt 148 = .ok (.invokestatic 123, 3) := by decide +kernel
theorem dX0_slipsAt_151 : decode cX0_slipsAt 151 = .ok (.invokevirtual 103, 3) := by decide +kernel
theorem dX0_slipsAt_154 : decode cX0_slipsAt 154 = .ok (.iadd, 1) := by decide +kernel
theorem dX0_slipsAt_155 : decode cX0_slipsAt 155 = .ok (.ireturn, 1) := by decide +kernel
theorem dX0_canTell_0 : decode cX0_canTell 0 = .ok (.iload_n 0, 1) := by decide +kernel
theorem dX0_canTell_1 : decode cX0_canTell 1 = .ok (.ifCond .lt 14, 3) := by decide +kernel
theorem dX0_canTell_4 : decode cX0_canTell 4 = .ok (.iload_n 0, 1) := by decide +kernel
theorem dX0_canTell_5 : decode cX0_canTell 5 = .ok (.sipush 999, 3) := by decide +kernel
theorem dX0_canTell_8 : decode cX0_canTell 8 = .ok (.if_icmp .gt 7, 3) := by decide +kernel
theorem dX0_canTell_11 : decode cX0_canTell 11 = .ok (.iconst 1, 1) := by decide +kernel
theorem dX0_canTell_12 : decode cX0_canTell 12 = .ok (.goto 4, 3) := by decide +kernel
theorem dX0_canTell_15 : decode cX0_canTell 15 = .ok (.iconst 0, 1) := by decide +kernel
theorem dX0_canTell_16 : decode cX0_canTell 16 = .ok (.ireturn, 1) := by decide +kernel
theorem dX0_slipOf_0 : decode cX0_slipOf 0 = .ok (.aload_n 0, 1) := by decide +kernel
theorem dX0_slipOf_1 : decode cX0_slipOf 1 = .ok (.iload_n 1, 1) := by decide +kernel
theorem dX0_slipOf_2 : decode cX0_slipOf 2 = .ok (.invokevirtual 106, 3) := by decide +kernel
theorem dX0_slipOf_5 : decode cX0_slipOf 5 = .ok (.ifCond .eq 13, 3) := by decide +kernel
theorem dX0_slipOf_8 : decode cX0_slipOf 8 = .ok (.aload_n 0, 1) := by decide +kernel
theorem dX0_slipOf_9 : decode cX0_slipOf 9 = .ok (.getfield 9, 3) := by decide +kernel
theorem dX0_slipOf_12 : decode cX0_slipOf 12 = .ok (.iload_n 1, 1) := by decide +kernel
theorem dX0_slipOf_13 : decode cX0_slipOf 13 = .ok (.iaload, 1) := by decide +kernel
theorem dX0_slipOf_14 : decode cX0_slipOf 14 = .ok (.iload_n 2, 1) := by decide +kernel
theorem dX0_slipOf_15 : decode cX0_slipOf 15 = .ok (.if_icmp .ne 7, 3) := by decide +kernel
theorem dX0_slipOf_18 : decode cX0_slipOf 18 = .ok (.iconst 0, 1) := by decide +kernel
theorem dX0_slipOf_19 : decode cX0_slipOf 19 = .ok (.goto 4, 3) := by decide +kernel
theorem dX0_slipOf_22 : decode cX0_slipOf 22 = .ok (.iconst 1, 1) := by decide +kernel
theorem dX0_slipOf_23 : decode cX0_slipOf 23 = .ok (.ireturn, 1) := by decide +kernel
theorem dX1_init_0 : decode cX1_init 0 = .ok (.aload_n 0, 1) := by decide +kernel
theorem dX1_init_1 : decode cX1_init 1 = .ok (.invokespecial 3, 3) := by decide +kernel
theorem dX1_init_4 : decode cX1_init 4 = .ok (.aload_n 0, 1) := by decide +kernel
theorem dX1_init_5 : decode cX1_init 5 = .ok (.bipush 8, 2) := by decide +kernel
theorem dX1_init_7 : decode cX1_init 7 = .ok (.anewarray 11, 3) := by decide +kernel
theorem dX1_init_10 : decode cX1_init 10 = .ok (.putfield 13, 3) := by decide +kernel
theorem dX1_init_13 : decode cX1_init 13 = .ok (.iconst 0, 1) := by decide +kernel
theorem dX1_init_14 : decode cX1_init 14 = .ok (.istore_n 1, 1) := by decide +kernel
theorem dX1_init_15 : decode cX1_init 15 = .ok (.iload_n 1, 1) := by decide +kernel
theorem dX1_init_16 : decode cX1_init 16 = .ok (.bipush 8, 2) := by decide +kernel
theorem dX1_init_18 : decode cX1_init 18 = .ok (.if_icmp .ge 22, 3) := by decide +kernel
theorem dX1_init_21 : decode cX1_init 21 = .ok (.aload_n 0, 1) := by decide +kernel
theorem dX1_init_22 : decode cX1_init 22 = .ok (.getfield 13, 3) := by decide +kernel
theorem dX1_init_25 : decode cX1_init 25 = .ok (.iload_n 1, 1) := by decide +kernel
theorem dX1_init_26 : decode cX1_init 26 = .ok (.new 11, 3) := by decide +kernel
theorem dX1_init_29 : decode cX1_init 29 = .ok (.dup, 1) := by decide +kernel
theorem dX1_init_30 : decode cX1_init 30 = .ok (.invokespecial 17, 3) := by decide +kernel
theorem dX1_init_33 : decode cX1_init 33 = .ok (.aastore, 1) := by decide +kernel
theorem dX1_init_34 : decode cX1_init 34 = .ok (.iinc 1 1, 3) := by decide +kernel
theorem dX1_init_37 : decode cX1_init 37 = .ok (.goto (-22), 3) := by decide +kernel
theorem dX1_init_40 : decode cX1_init 40 = .ok (.return_, 1) := by decide +kernel
theorem dX1_hasRoom_0 : decode cX1_hasRoom 0 = .ok (.aload_n 0, 1) := by decide +kernel
theorem dX1_hasRoom_1 : decode cX1_hasRoom 1 = .ok (.getfield 18, 3) := by decide +kernel
theorem dX1_hasRoom_4 : decode cX1_hasRoom 4 = .ok (.bipush 8, 2) := by decide +kernel
theorem dX1_hasRoom_6 : decode cX1_hasRoom 6 = .ok (.if_icmp .ge 7, 3) := by decide +kernel
theorem dX1_hasRoom_9 : decode cX1_hasRoom 9 = .ok (.iconst 1, 1) := by decide +kernel
theorem dX1_hasRoom_10 : decode cX1_hasRoom 10 = .ok (.goto 4, 3) := by decide +kernel
theorem dX1_hasRoom_13 : decode cX1_hasRoom 13 = .ok (.iconst 0, 1) := by decide +kernel
theorem dX1_hasRoom_14 : decode cX1_hasRoom 14 = .ok (.ireturn, 1) := by decide +kernel
theorem dX1_spare_0 : decode cX1_spare 0 = .ok (.aload_n 0, 1) := by decide +kernel
theorem dX1_spare_1 : decode cX1_spare 1 = .ok (.invokevirtual 22, 3) := by decide +kernel
theorem dX1_spare_4 : decode cX1_spare 4 = .ok (.ifCond .eq 15, 3) := by decide +kernel
theorem dX1_spare_7 : decode cX1_spare 7 = .ok (.aload_n 0, 1) := by decide +kernel
theorem dX1_spare_8 : decode cX1_spare 8 = .ok (.getfield 13, 3) := by decide +kernel
theorem dX1_spare_11 : decode cX1_spare 11 = .ok (.aload_n 0, 1) := by decide +kernel
theorem dX1_spare_12 : decode cX1_spare 12 = .ok (.getfield 18, 3) := by decide +kernel
theorem dX1_spare_15 : decode cX1_spare 15 = .ok (.aaload, 1) := by decide +kernel
theorem dX1_spare_16 : decode cX1_spare 16 = .ok (.goto 4, 3) := by decide +kernel
theorem dX1_spare_19 : decode cX1_spare 19 = .ok (.aconst_null, 1) := by decide +kernel
theorem dX1_spare_20 : decode cX1_spare 20 = .ok (.areturn, 1) := by decide +kernel
theorem dX1_keepSpare_0 : decode cX1_keepSpare 0 = .ok (.aload_n 0, 1) := by decide +kernel
theorem dX1_keepSpare_1 : decode cX1_keepSpare 1 = .ok (.invokevirtual 22, 3) := by decide +kernel
theorem dX1_keepSpare_4 : decode cX1_keepSpare 4 = .ok (.ifCond .ne 5, 3) := by decide +kernel
theorem dX1_keepSpare_7 : decode cX1_keepSpare 7 = .ok (.iconst (-1), 1) := by decide +kernel
theorem dX1_keepSpare_8 : decode cX1_keepSpare 8 = .ok (.ireturn, 1) := by decide +kernel
theorem dX1_keepSpare_9 : decode cX1_keepSpare 9 = .ok (.aload_n 0, 1) := by decide +kernel
theorem dX1_keepSpare_10 : decode cX1_keepSpare 10 = .ok (.dup, 1) := by decide +kernel
theorem dX1_keepSpare_11 : decode cX1_keepSpare 11 = .ok (.getfield 18, 3) := by decide +kernel
theorem dX1_keepSpare_14 : decode cX1_keepSpare 14 = .ok (.iconst 1, 1) := by decide +kernel
theorem dX1_keepSpare_15 : decode cX1_keepSpare 15 = .ok (.iadd, 1) := by decide +kernel
theorem dX1_keepSpare_16 : decode cX1_keepSpare 16 = .ok (.putfield 18, 3) := by decide +kernel
theorem dX1_keepSpare_19 : decode cX1_keepSpare 19 = .ok (.aload_n 0, 1) := by decide +kernel
theorem dX1_keepSpare_20 : decode cX1_keepSpare 20 = .ok (.getfield 18, 3) := by decide +kernel
theorem dX1_keepSpare_23 : decode cX1_keepSpare 23 = .ok (.iconst 1, 1) := by decide +kernel
theorem dX1_keepSpare_24 : decode cX1_keepSpare 24 = .ok (.isub, 1) := by decide +kernel
theorem dX1_keepSpare_25 : decode cX1_keepSpare 25 = .ok (.ireturn, 1) := by decide +kernel
theorem dX1_find_0 : decode cX1_find 0 = .ok (.iload_n 1, 1) := by decide +kernel
theorem dX1_find_1 : decode cX1_find 1 = .ok (.ifCond .lt 20, 3) := by decide +kernel
theorem dX1_find_4 : decode cX1_find 4 = .ok (.iload_n 1, 1) := by decide +kernel
theorem dX1_find_5 : decode cX1_find 5 = .ok (.aload_n 0, 1) := by decide +kernel
theorem dX1_find_6 : decode cX1_find 6 = .ok (.getfield 18, 3) := by decide +kernel
theorem dX1_find_9 : decode cX1_find 9 = .ok (.if_icmp .ge 12, 3) := by decide +kernel
theorem dX1_find_12 : decode cX1_find 12 = .ok (.aload_n 0, 1) := by decide +kernel
theorem dX1_find_13 : decode cX1_find 13 = .ok (.getfield 13, 3) := by decide +kernel
theorem dX1_find_16 : decode cX1_find 16 = .ok (.iload_n 1, 1) := by decide +kernel
theorem dX1_find_17 : decode cX1_find 17 = .ok (.aaload, 1) := by decide +kernel
theorem dX1_find_18 : decode cX1_find 18 = .ok (.goto 4, 3) := by decide +kernel
theorem dX1_find_21 : decode cX1_find 21 = .ok (.aconst_null, 1) := by decide +kernel
theorem dX1_find_22 : decode cX1_find 22 = .ok (.areturn, 1) := by decide +kernel
theorem dX1_remove_0 : decode cX1_remove 0 = .ok (.aload_n 0, 1) := by decide +kernel
theorem dX1_remove_1 : decode cX1_remove 1 = .ok (.iload_n 1, 1) := by decide +kernel
theorem dX1_remove_2 : decode cX1_remove 2 = .ok (.invokevirtual 26, 3) := by decide +kernel
theorem dX1_remove_5 : decode cX1_remove 5 = .ok (.astore_n 2, 1) := by decide +kernel
theorem dX1_remove_6 : decode cX1_remove 6 = .ok (.aload_n 2, 1) := by decide +kernel
theorem dX1_remove_7 : decode cX1_remove 7 = .ok (.ifnonnull 5, 3) := by decide +kernel
theorem dX1_remove_10 : decode cX1_remove 10 = .ok (.iconst (-1), 1) := by decide +kernel
theorem dX1_remove_11 : decode cX1_remove 11 = .ok (.ireturn, 1) := by decide +kernel
theorem dX1_remove_12 : decode cX1_remove 12 = .ok (.iload_n 1, 1) := by decide +kernel
theorem dX1_remove_13 : decode cX1_remove 13 = .ok (.istore_n 3, 1) := by decide +kernel
theorem dX1_remove_14 : decode cX1_remove 14 = .ok (.iload_n 3, 1) := by decide +kernel
theorem dX1_remove_15 : decode cX1_remove 15 = .ok (.aload_n 0, 1) := by decide +kernel
theorem dX1_remove_16 : decode cX1_remove 16 = .ok (.getfield 18, 3) := by decide +kernel
theorem dX1_remove_19 : decode cX1_remove 19 = .ok (.iconst 1, 1) := by decide +kernel
theorem dX1_remove_20 : decode cX1_remove 20 = .ok (.isub, 1) := by decide +kernel
theorem dX1_remove_21 : decode cX1_remove 21 = .ok (.if_icmp .ge 23, 3) := by decide +kernel
theorem dX1_remove_24 : decode cX1_remove 24 = .ok (.aload_n 0, 1) := by decide +kernel
theorem dX1_remove_25 : decode cX1_remove 25 = .ok (.getfield 13, 3) := by decide +kernel
theorem dX1_remove_28 : decode cX1_remove 28 = .ok (.iload_n 3, 1) := by decide +kernel
theorem dX1_remove_29 : decode cX1_remove 29 = .ok (.aload_n 0, 1) := by decide +kernel
theorem dX1_remove_30 : decode cX1_remove 30 = .ok (.getfield 13, 3) := by decide +kernel
theorem dX1_remove_33 : decode cX1_remove 33 = .ok (.iload_n 3, 1) := by decide +kernel
theorem dX1_remove_34 : decode cX1_remove 34 = .ok (.iconst 1, 1) := by decide +kernel
theorem dX1_remove_35 : decode cX1_remove 35 = .ok (.iadd, 1) := by decide +kernel
theorem dX1_remove_36 : decode cX1_remove 36 = .ok (.aaload, 1) := by decide +kernel
theorem dX1_remove_37 : decode cX1_remove 37 = .ok (.aastore, 1) := by decide +kernel
theorem dX1_remove_38 : decode cX1_remove 38 = .ok (.iinc 3 1, 3) := by decide +kernel
theorem dX1_remove_41 : decode cX1_remove 41 = .ok (.goto (-27), 3) := by decide +kernel
theorem dX1_remove_44 : decode cX1_remove 44 = .ok (.aload_n 0, 1) := by decide +kernel
theorem dX1_remove_45 : decode cX1_remove 45 = .ok (.dup, 1) := by decide +kernel
theorem dX1_remove_46 : decode cX1_remove 46 = .ok (.getfield 18, 3) := by decide +kernel
theorem dX1_remove_49 : decode cX1_remove 49 = .ok (.iconst 1, 1) := by decide +kernel
theorem dX1_remove_50 : decode cX1_remove 50 = .ok (.isub, 1) := by decide +kernel
theorem dX1_remove_51 : decode cX1_remove 51 = .ok (.putfield 18, 3) := by decide +kernel
theorem dX1_remove_54 : decode cX1_remove 54 = .ok (.aload_n 0, 1) := by decide +kernel
theorem dX1_remove_55 : decode cX1_remove 55 = .ok (.getfield 13, 3) := by decide +kernel
theorem dX1_remove_58 : decode cX1_remove 58 = .ok (.aload_n 0, 1) := by decide +kernel
theorem dX1_remove_59 : decode cX1_remove 59 = .ok (.getfield 18, 3) := by decide +kernel
theorem dX1_remove_62 : decode cX1_remove 62 = .ok (.aload_n 2, 1) := by decide +kernel
theorem dX1_remove_63 : decode cX1_remove 63 = .ok (.aastore, 1) := by decide +kernel
theorem dX1_remove_64 : decode cX1_remove 64 = .ok (.aload_n 0, 1) := by decide +kernel
theorem dX1_remove_65 : decode cX1_remove 65 = .ok (.getfield 18, 3) := by decide +kernel
theorem dX1_remove_68 : decode cX1_remove 68 = .ok (.ireturn, 1) := by decide +kernel
theorem dX1_slowsOfAll_0 : decode cX1_slowsOfAll 0 = .ok (.ldc2_w 30, 3) := by decide +kernel
theorem dX1_slowsOfAll_3 : decode cX1_slowsOfAll 3 = .ok (.lstore_n 2, 1) := by decide +kernel
theorem dX1_slowsOfAll_4 : decode cX1_slowsOfAll 4 = .ok (.iconst 0, 1) := by decide +kernel
theorem dX1_slowsOfAll_5 : decode cX1_slowsOfAll 5 = .ok (.istore 4, 2) := by decide +kernel
theorem dX1_slowsOfAll_7 : decode cX1_slowsOfAll 7 = .ok (.iload 4, 2) := by decide +kernel
theorem dX1_slowsOfAll_9 : decode cX1_slowsOfAll 9 = .ok (.aload_n 0, 1) := by decide +kernel
theorem dX1_slowsOfAll_10 : decode cX1_slowsOfAll 10 = .ok (.getfield 18, 3) := by decide +kernel
theorem dX1_slowsOfAll_13 : decode cX1_slowsOfAll 13 = .ok (.if_icmp .ge 37, 3) := by decide +kernel
theorem dX1_slowsOfAll_16 : decode cX1_slowsOfAll 16 = .ok (.lload_n 2, 1) := by decide +kernel
theorem dX1_slowsOfAll_17 : decode cX1_slowsOfAll 17 = .ok (.lconst 0, 1) := by decide +kernel
theorem dX1_slowsOfAll_18 : decode cX1_slowsOfAll 18 = .ok (.lcmp, 1) := by decide +kernel
theorem dX1_slowsOfAll_19 : decode cX1_slowsOfAll 19 = .ok (.ifCond .eq 31, 3) := by decide +kernel
theorem dX1_slowsOfAll_22 : decode cX1_slowsOfAll 22 = .ok (.aload_n 0, 1) := by decide +kernel
theorem dX1_slowsOfAll_23 : decode cX1_slowsOfAll 23 = .ok (.iload 4, 2) := by decide +kernel
theorem dX1_slowsOfAll_25 : decode cX1_slowsOfAll 25 = .ok (.invokevirtual 26, 3) := by decide +kernel
theorem dX1_slowsOfAll_28 : decode cX1_slowsOfAll 28 = .ok (.astore 5, 2) := by decide +kernel
theorem dX1_slowsOfAll_30 : decode cX1_slowsOfAll 30 = .ok (.aload 5, 2) := by decide +kernel
theorem dX1_slowsOfAll_32 : decode cX1_slowsOfAll 32 = .ok (.ifnull 12, 3) := by decide +kernel
theorem dX1_slowsOfAll_35 : decode cX1_slowsOfAll 35 = .ok (.lload_n 2, 1) := by decide +kernel
theorem dX1_slowsOfAll_36 : decode cX1_slowsOfAll 36 = .ok (.aload 5, 2) := by decide +kernel
theorem dX1_slowsOfAll_38 : decode cX1_slowsOfAll 38 = .ok (.aload_n 1, 1) := by decide +kernel
theorem dX1_slowsOfAll_39 : decode cX1_slowsOfAll 39 = .ok (.invokevirtual 32, 3) := by decide +kernel
theorem dX1_slowsOfAll_42 : decode cX1_slowsOfAll 42 = .ok (.land, 1) := by decide +kernel
theorem dX1_slowsOfAll_43 : decode cX1_slowsOfAll 43 = .ok (.lstore_n 2, 1) := by decide +kernel
theorem dX1_slowsOfAll_44 : decode cX1_slowsOfAll 44 = .ok (.iinc 4 1, 3) := by decide +kernel
theorem dX1_slowsOfAll_47 : decode cX1_slowsOfAll 47 = .ok (.goto (-40), 3) := by decide +kernel
theorem dX1_slowsOfAll_50 : decode cX1_slowsOfAll 50 = .ok (.lload_n 2, 1) := by decide +kernel
theorem dX1_slowsOfAll_51 : decode cX1_slowsOfAll 51 = .ok (.lreturn, 1) := by decide +kernel
theorem dX2_isCalendar_0 : decode cX2_isCalendar 0 = .ok (.iload_n 0, 1) := by decide +kernel
theorem dX2_isCalendar_1 : decode cX2_isCalendar 1 = .ok (.ifCond .lt 12, 3) := by decide +kernel
theorem dX2_isCalendar_4 : decode cX2_isCalendar 4 = .ok (.iload_n 0, 1) := by decide +kernel
theorem dX2_isCalendar_5 : decode cX2_isCalendar 5 = .ok (.iconst 2, 1) := by decide +kernel
theorem dX2_isCalendar_6 : decode cX2_isCalendar 6 = .ok (.if_icmp .gt 7, 3) := by decide +kernel
theorem dX2_isCalendar_9 : decode cX2_isCalendar 9 = .ok (.iconst 1, 1) := by decide +kernel
theorem dX2_isCalendar_10 : decode cX2_isCalendar 10 = .ok (.goto 4, 3) := by decide +kernel
theorem dX2_isCalendar_13 : decode cX2_isCalendar 13 = .ok (.iconst 0, 1) := by decide +kernel
theorem dX2_isCalendar_14 : decode cX2_isCalendar 14 = .ok (.ireturn, 1) := by decide +kernel
theorem dX2_firstDay_0 : decode cX2_firstDay 0 = .ok (.iload_n 0, 1) := by decide +kernel
theorem dX2_firstDay_1 : decode cX2_firstDay 1 = .ok (.ifCond .ne 9, 3) := by decide +kernel
theorem dX2_firstDay_4 : decode cX2_firstDay 4 = .ok (.sipush 365, 3) := by decide +kernel
theorem dX2_firstDay_7 : decode cX2_firstDay 7 = .ok (.iload_n 1, 1) := by decide +kernel
theorem dX2_firstDay_8 : decode cX2_firstDay 8 = .ok (.imul, 1) := by decide +kernel
theorem dX2_firstDay_9 : decode cX2_firstDay 9 = .ok (.ireturn, 1) := by decide +kernel
theorem dX2_firstDay_10 : decode cX2_firstDay 10 = .ok (.iload_n 0, 1) := by decide +kernel
theorem dX2_firstDay_11 : decode cX2_firstDay 11 = .ok (.iconst 1, 1) := by decide +kernel
theorem dX2_firstDay_12 : decode cX2_firstDay 12 = .ok (.if_icmp .ne 15, 3) := by decide +kernel
theorem dX2_firstDay_15 : decode cX2_firstDay 15 = .ok (.sipush 365, 3) := by decide +kernel
theorem dX2_firstDay_18 : decode cX2_firstDay 18 = .ok (.iload_n 1, 1) := by decide +kernel
theorem dX2_firstDay_19 : decode cX2_firstDay 19 = .ok (.imul, 1) := by decide +kernel
theorem dX2_firstDay_20 : decode cX2_firstDay 20 = .ok (.iload_n 1, 1) := by decide +kernel
theorem dX2_firstDay_21 : decode cX2_firstDay 21 = .ok (.iconst 3, 1) := by decide +kernel
theorem dX2_firstDay_22 : decode cX2_firstDay 22 = .ok (.iadd, 1) := by decide +kernel
theorem dX2_firstDay_23 : decode cX2_firstDay 23 = .ok (.iconst 4, 1) := by decide +kernel
theorem dX2_firstDay_24 : decode cX2_firstDay 24 = .ok (.idiv, 1) := by decide +kernel
theorem dX2_firstDay_25 : decode cX2_firstDay 25 = .ok (.iadd, 1) := by decide +kernel
theorem dX2_firstDay_26 : decode cX2_firstDay 26 = .ok (.ireturn, 1) := by decide +kernel
theorem dX2_firstDay_27 : decode cX2_firstDay 27 = .ok (.sipush 354, 3) := by decide +kernel
theorem dX2_firstDay_30 : decode cX2_firstDay 30 = .ok (.iload_n 1, 1) := by decide +kernel
theorem dX2_firstDay_31 : decode cX2_firstDay 31 = .ok (.imul, 1) := by decide +kernel
theorem dX2_firstDay_32 : decode cX2_firstDay 32 = .ok (.bipush 30, 2) := by decide +kernel
theorem dX2_firstDay_34 : decode cX2_firstDay 34 = .ok (.bipush 7, 2) := by decide +kernel
theorem dX2_firstDay_36 : decode cX2_firstDay 36 = .ok (.iload_n 1, 1) := by decide +kernel
theorem dX2_firstDay_37 : decode cX2_firstDay 37 = .ok (.imul, 1) := by decide +kernel
theorem dX2_firstDay_38 : decode cX2_firstDay 38 = .ok (.bipush 13, 2) := by decide +kernel
theorem dX2_firstDay_40 : decode cX2_firstDay 40 = .ok (.iadd, 1) := by decide +kernel
theorem dX2_firstDay_41 : decode cX2_firstDay 41 = .ok (.bipush 19, 2) := by decide +kernel
theorem dX2_firstDay_43 : decode cX2_firstDay 43 = .ok (.idiv, 1) := by decide +kernel
theorem dX2_firstDay_44 : decode cX2_firstDay 44 = .ok (.imul, 1) := by decide +kernel
theorem dX2_firstDay_45 : decode cX2_firstDay 45 = .ok (.iadd, 1) := by decide +kernel
theorem dX2_firstDay_46 : decode cX2_firstDay 46 = .ok (.ireturn, 1) := by decide +kernel
theorem dX2_monthLength_0 : decode cX2_monthLength 0 = .ok (.iload_n 2, 1) := by decide +kernel
theorem dX2_monthLength_1 : decode cX2_monthLength 1 = .ok (.iconst 1, 1) := by decide +kernel
theorem dX2_monthLength_2 : decode cX2_monthLength 2 = .ok (.if_icmp .lt 9, 3) := by decide +kernel
theorem dX2_monthLength_5 : decode cX2_monthLength 5 = .ok (.iload_n 2, 1) := by decide +kernel
theorem dX2_monthLength_6 : decode cX2_monthLength 6 = .ok (.bipush 13, 2) := by decide +kernel
theorem dX2_monthLength_8 : decode cX2_monthLength 8 = .ok (.if_icmp .le 5, 3) := by decide +kernel
theorem dX2_monthLength_11 : decode cX2_monthLength 11 = .ok (.iconst 0, 1) := by decide +kernel
theorem dX2_monthLength_12 : decode cX2_monthLength 12 = .ok (.ireturn, 1) := by decide +kernel
theorem dX2_monthLength_13 : decode cX2_monthLength 13 = .ok (.iload_n 0, 1) := by decide +kernel
theorem dX2_monthLength_14 : decode cX2_monthLength 14 = .ok (.ifCond .ne 16, 3) := by decide +kernel
theorem dX2_monthLength_17 : decode cX2_monthLength 17 = .ok (.iload_n 2, 1) := by decide +kernel
theorem dX2_monthLength_18 : decode cX2_monthLength 18 = .ok (.bipush 13, 2) := by decide +kernel
theorem dX2_monthLength_20 : decode cX2_monthLength 20 = .ok (.if_icmp .ge 8, 3) := by decide +kernel
theorem dX2_monthLength_23 : decode cX2_monthLength 23 = .ok (.bipush 30, 2) := by decide +kernel
theorem dX2_monthLength_25 : decode cX2_monthLength 25 = .ok (.goto 4, 3) := by decide +kernel
theorem dX2_monthLength_28 : decode cX2_monthLength 28 = .ok (.iconst 5, 1) := by decide +kernel
theorem dX2_monthLength_29 : decode cX2_monthLength 29 = .ok (.ireturn, 1) := by decide +kernel
theorem dX2_monthLength_30 : decode cX2_monthLength 30 = .ok (.iload_n 0, 1) := by decide +kernel
theorem dX2_monthLength_31 : decode cX2_monthLength 31 = .ok (.iconst 2, 1) := by decide +kernel
theorem dX2_monthLength_32 : decode cX2_monthLength 32 = .ok (.if_icmp .ne 16, 3) := by decide +kernel
theorem dX2_monthLength_35 : decode cX2_monthLength 35 = .ok (.iload_n 2, 1) := by decide +kernel
theorem dX2_monthLength_36 : decode cX2_monthLength 36 = .ok (.bipush 13, 2) := by decide +kernel
theorem dX2_monthLength_38 : decode cX2_monthLength 38 = .ok (.if_icmp .ge 10, 3) := by decide +kernel
theorem dX2_monthLength_41 : decode cX2_monthLength 41 = .ok (.bipush 29, 2) := by decide +kernel
theorem dX2_monthLength_43 : decode cX2_monthLength 43 = .ok (.iload_n 2, 1) := by decide +kernel
theorem dX2_monthLength_44 : decode cX2_monthLength 44 = .ok (.iconst 2, 1) := by decide +kernel
theorem dX2_monthLength_45 : decode cX2_monthLength 45 = .ok (.irem, 1) := by decide +kernel
theorem dX2_monthLength_46 : decode cX2_monthLength 46 = .ok (.iadd, 1) := by decide +kernel
theorem dX2_monthLength_47 : decode cX2_monthLength 47 = .ok (.ireturn, 1) := by decide +kernel
theorem dX2_monthLength_48 : decode cX2_monthLength 48 = .ok (.iload_n 0, 1) := by decide +kernel
theorem dX2_monthLength_49 : decode cX2_monthLength 49 = .ok (.iconst 2, 1) := by decide +kernel
theorem dX2_monthLength_50 : decode cX2_monthLength 50 = .ok (.if_icmp .ne 24, 3) := by decide +kernel
theorem dX2_monthLength_53 : decode cX2_monthLength 53 = .ok (.bipush 7, 2) := by decide +kernel
theorem dX2_monthLength_55 : decode cX2_monthLength 55 = .ok (.iload_n 1, 1) := by decide +kernel
theorem dX2_monthLength_56 : decode cX2_monthLength 56 = .ok (.imul, 1) := by decide +kernel
theorem dX2_monthLength_57 : decode cX2_monthLength 57 = .ok (.iconst 1, 1) := by decide +kernel
theorem dX2_monthLength_58 : decode cX2_monthLength 58 = .ok (.iadd, 1) := by decide +kernel
theorem dX2_monthLength_59 : decode cX2_monthLength 59 = .ok (.bipush 19, 2) := by decide +kernel
theorem dX2_monthLength_61 : decode cX2_monthLength 61 = .ok (.irem, 1) := by decide +kernel
theorem dX2_monthLength_62 : decode cX2_monthLength 62 = .ok (.bipush 7, 2) := by decide +kernel
theorem dX2_monthLength_64 : decode cX2_monthLength 64 = .ok (.if_icmp .ge 8, 3) := by decide +kernel
theorem dX2_monthLength_67 : decode cX2_monthLength 67 = .ok (.bipush 30, 2) := by decide +kernel
theorem dX2_monthLength_69 : decode cX2_monthLength 69 = .ok (.goto 4, 3) := by decide +kernel
theorem dX2_monthLength_72 : decode cX2_monthLength 72 = .ok (.iconst 0, 1) := by decide +kernel
theorem dX2_monthLength_73 : decode cX2_monthLength 73 = .ok (.ireturn, 1) := by decide +kernel
theorem dX2_monthLength_74 : decode cX2_monthLength 74 = .ok (.iload_n 2, 1) := by decide +kernel
theorem dX2_monthLength_75 : decode cX2_monthLength 75 = .ok (.getstatic 11, 3) := by decide +kernel
theorem dX2_monthLength_78 : decode cX2_monthLength 78 = .ok (.arraylength, 1) := by decide +kernel
theorem dX2_monthLength_79 : decode cX2_monthLength 79 = .ok (.if_icmp .le 5, 3) := by decide +kernel
theorem dX2_monthLength_82 : decode cX2_monthLength 82 = .ok (.iconst 0, 1) := by decide +kernel
theorem dX2_monthLength_83 : decode cX2_monthLength 83 = .ok (.ireturn, 1) := by decide +kernel
theorem dX2_monthLength_84 : decode cX2_monthLength 84 = .ok (.iload_n 2, 1) := by decide +kernel
theorem dX2_monthLength_85 : decode cX2_monthLength 85 = .ok (.iconst 2, 1) := by decide +kernel
theorem dX2_monthLength_86 : decode cX2_monthLength 86 = .ok (.if_icmp .ne 14, 3) := by decide +kernel
theorem dX2_monthLength_89 : decode cX2_monthLength 89 = .ok (.iload_n 1, 1) := by decide +kernel
theorem dX2_monthLength_90 : decode cX2_monthLength 90 = .ok (.iconst 4, 1) := by decide +kernel
theorem dX2_monthLength_91 : decode cX2_monthLength 91 = .ok (.irem, 1) := by decide +kernel
theorem dX2_monthLength_92 : decode cX2_monthLength 92 = .ok (.ifCond .ne 8, 3) := by decide +kernel
theorem dX2_monthLength_95 : decode cX2_monthLength 95 = .ok (.bipush 29, 2) := by decide +kernel
theorem dX2_monthLength_97 : decode cX2_monthLength 97 = .ok (.goto 10, 3) := by decide +kernel
theorem dX2_monthLength_100 : decode cX2_monthLength 100 = .ok (.getstatic 11, 3) := by decide +kernel
theorem dX2_monthLength_103 : decode cX2_monthLength 103 = .ok (.iload_n 2, 1) := by decide +kernel
theorem dX2_monthLength_104 : decode cX2_monthLength 104 = .ok (.iconst 1, 1) := by decide +kernel
theorem dX2_monthLength_105 : decode cX2_monthLength 105 = .ok (.isub, 1) := by decide +kernel
theorem dX2_monthLength_106 : decode cX2_monthLength 106 = .ok (.iaload, 1) := by decide +kernel
theorem dX2_monthLength_107 : decode cX2_monthLength 107 = .ok (.ireturn, 1) := by decide +kernel
theorem dX2_yearOf_0 : decode cX2_yearOf 0 = .ok (.iload_n 0, 1) := by decide +kernel
theorem dX2_yearOf_1 : decode cX2_yearOf 1 = .ok (.iload_n 1, 1) := by decide +kernel
theorem dX2_yearOf_2 : decode cX2_yearOf 2 = .ok (.invokestatic 15, 3) := by decide +kernel
theorem dX2_yearOf_5 : decode cX2_yearOf 5 = .ok (.istore_n 2, 1) := by decide +kernel
theorem dX2_yearOf_6 : decode cX2_yearOf 6 = .ok (.iload_n 0, 1) := by decide +kernel
theorem dX2_yearOf_7 : decode cX2_yearOf 7 = .ok (.iload_n 2, 1) := by decide +kernel
theorem dX2_yearOf_8 : decode cX2_yearOf 8 = .ok (.invokestatic 19, 3) := by decide +kernel
theorem dX2_yearOf_11 : decode cX2_yearOf 11 = .ok (.iload_n 1, 1) := by decide +kernel
theorem dX2_yearOf_12 : decode cX2_yearOf 12 = .ok (.if_icmp .le 7, 3) := by decide +kernel
theorem dX2_yearOf_15 : decode cX2_yearOf 15 = .ok (.iload_n 2, 1) := by decide +kernel
theorem dX2_yearOf_16 : decode cX2_yearOf 16 = .ok (.iconst 1, 1) := by decide +kernel
theorem dX2_yearOf_17 : decode cX2_yearOf 17 = .ok (.isub, 1) := by decide +kernel
theorem dX2_yearOf_18 : decode cX2_yearOf 18 = .ok (.ireturn, 1) := by decide +kernel
theorem dX2_yearOf_19 : decode cX2_yearOf 19 = .ok (.iload_n 0, 1) := by decide +kernel
theorem dX2_yearOf_20 : decode cX2_yearOf 20 = .ok (.iload_n 2, 1) := by decide +kernel
theorem dX2_yearOf_21 : decode cX2_yearOf 21 = .ok (.iconst 1, 1) := by decide +kernel
theorem dX2_yearOf_22 : decode cX2_yearOf 22 = .ok (.iadd, 1) := by decide +kernel
theorem dX2_yearOf_23 : decode cX2_yearOf 23 = .ok (.invokestatic 19, 3) := by decide +kernel
theorem dX2_yearOf_26 : decode cX2_yearOf 26 = .ok (.iload_n 1, 1) := by decide +kernel
theorem dX2_yearOf_27 : decode cX2_yearOf 27 = .ok (.if_icmp .gt 9, 3) := by decide +kernel
theorem dX2_yearOf_30 : decode cX2_yearOf 30 = .ok (.iload_n 2, 1) := by decide +kernel
theorem dX2_yearOf_31 : decode cX2_yearOf 31 = .ok (.iconst 1, 1) := by decide +kernel
theorem dX2_yearOf_32 : decode cX2_yearOf 32 = .ok (.iadd, 1) := by decide +kernel
theorem dX2_yearOf_33 : decode cX2_yearOf 33 = .ok (.goto 4, 3) := by decide +kernel
theorem dX2_yearOf_36 : decode cX2_yearOf 36 = .ok (.iload_n 2, 1) := by decide +kernel
theorem dX2_yearOf_37 : decode cX2_yearOf 37 = .ok (.ireturn, 1) := by decide +kernel
theorem dX2_guessYear_0 : decode cX2_guessYear 0 = .ok (.iload_n 0, 1) := by decide +kernel
theorem dX2_guessYear_1 : decode cX2_guessYear 1 = .ok (.ifCond .ne 9, 3) := by decide +kernel
theorem dX2_guessYear_4 : decode cX2_guessYear 4 = .ok (.iload_n 1, 1) := by decide +kernel
theorem dX2_guessYear_5 : decode cX2_guessYear 5 = .ok (.sipush 365, 3) := by decide +kernel
theorem dX2_guessYear_8 : decode cX2_guessYear 8 = .ok (.idiv, 1) := by decide +kernel
theorem dX2_guessYear_9 : decode cX2_guessYear 9 = .ok (.ireturn, 1) := by decide +kernel
theorem dX2_guessYear_10 : decode cX2_guessYear 10 = .ok (.iload_n 0, 1) := by decide +kernel
theorem dX2_guessYear_11 : decode cX2_guessYear 11 = .ok (.iconst 1, 1) := by decide +kernel
theorem dX2_guessYear_12 : decode cX2_guessYear 12 = .ok (.if_icmp .ne 13, 3) := by decide +kernel
theorem dX2_guessYear_15 : decode cX2_guessYear 15 = .ok (.iconst 4, 1) := by decide +kernel
theorem dX2_guessYear_16 : decode cX2_guessYear 16 = .ok (.iload_n 1, 1) := by decide +kernel
theorem dX2_guessYear_17 : decode cX2_guessYear 17 = .ok (.imul, 1) := by decide +kernel
theorem dX2_guessYear_18 : decode cX2_guessYear 18 = .ok (.sipush 1461, 3) := by decide +kernel
theorem dX2_guessYear_21 : decode cX2_guessYear 21 = .ok (.idiv, 1) := by decide +kernel
theorem dX2_guessYear_22 : decode cX2_guessYear 22 = .ok (.goto 11, 3) := by decide +kernel
theorem dX2_guessYear_25 : decode cX2_guessYear 25 = .ok (.bipush 19, 2) := by decide +kernel
theorem dX2_guessYear_27 : decode cX2_guessYear 27 = .ok (.iload_n 1, 1) := by decide +kernel
theorem dX2_guessYear_28 : decode cX2_guessYear 28 = .ok (.imul, 1) := by decide +kernel
theorem dX2_guessYear_29 : decode cX2_guessYear 29 = .ok (.sipush 6936, 3) := by decide +kernel
theorem dX2_guessYear_32 : decode cX2_guessYear 32 = .ok (.idiv, 1) := by decide +kernel
theorem dX2_guessYear_33 : decode cX2_guessYear 33 = .ok (.ireturn, 1) := by decide +kernel
theorem dX2_monthDayOf_0 : decode cX2_monthDayOf 0 = .ok (.iload_n 2, 1) := by decide +kernel
theorem dX2_monthDayOf_1 : decode cX2_monthDayOf 1 = .ok (.iload_n 0, 1) := by decide +kernel
theorem dX2_monthDayOf_2 : decode cX2_monthDayOf 2 = .ok (.iload_n 1, 1) := by decide +kernel
theorem dX2_monthDayOf_3 : decode cX2_monthDayOf 3 = .ok (.invokestatic 19, 3) := by decide +kernel
theorem dX2_monthDayOf_6 : decode cX2_monthDayOf 6 = .ok (.isub, 1) := by decide +kernel
theorem dX2_monthDayOf_7 : decode cX2_monthDayOf 7 = .ok (.istore_n 3, 1) := by decide +kernel
theorem dX2_monthDayOf_8 : decode cX2_monthDayOf 8 = .ok (.iconst 1, 1) := by decide +kernel
theorem dX2_monthDayOf_9 : decode cX2_monthDayOf 9 = .ok (.istore 4, 2) := by decide +kernel
theorem dX2_monthDayOf_11 : decode cX2_monthDayOf 11 = .ok (.iload 4, 2) := by decide +kernel
theorem dX2_monthDayOf_13 : decode cX2_monthDayOf 13 = .ok (.bipush 13, 2) := by decide +kernel
theorem dX2_monthDayOf_15 : decode cX2_monthDayOf 15 = .ok (.if_icmp .gt 39, 3) := by decide +kernel
theorem dX2_monthDayOf_18 : decode cX2_monthDayOf 18 = .ok (.iload_n 0, 1) := by decide +kernel
theorem dX2_monthDayOf_19 : decode cX2_monthDayOf 19 = .ok (.iload_n 1, 1) := by decide +kernel
theorem dX2_monthDayOf_20 : decode cX2_monthDayOf 20 = .ok (.iload 4, 2) := by decide +kernel
theorem dX2_monthDayOf_22 : decode cX2_monthDayOf 22 = .ok (.invokestatic 22, 3) := by decide +kernel
theorem dX2_monthDayOf_25 : decode cX2_monthDayOf 25 = .ok (.istore 5, 2) := by decide +kernel
theorem dX2_monthDayOf_27 : decode cX2_monthDayOf 27 = .ok (.iload_n 3, 1) := by decide +kernel
theorem dX2_monthDayOf_28 : decode cX2_monthDayOf 28 = .ok (.iload 5, 2) := by decide +kernel
theorem dX2_monthDayOf_30 : decode cX2_monthDayOf 30 = .ok (.if_icmp .ge 13, 3) := by decide +kernel
theorem dX2_monthDayOf_33 : decode cX2_monthDayOf 33 = .ok (.iload 4, 2) := by decide +kernel
theorem dX2_monthDayOf_35 : decode cX2_monthDayOf 35 = .ok (.bipush 100, 2) := by decide +kernel
theorem dX2_monthDayOf_37 : decode cX2_monthDayOf 37 = .ok (.imul, 1) := by decide +kernel
theorem dX2_monthDayOf_38 : decode cX2_monthDayOf 38 = .ok (.iload_n 3, 1) := by decide +kernel
theorem dX2_monthDayOf_39 : decode cX2_monthDayOf 39 = .ok (.iadd, 1) := by decide +kernel
theorem dX2_monthDayOf_40 : decode cX2_monthDayOf 40 = .ok (.iconst 1, 1) := by decide +kernel
theorem dX2_monthDayOf_41 : decode cX2_monthDayOf 41 = .ok (.iadd, 1) := by decide +kernel
theorem dX2_monthDayOf_42 : decode cX2_monthDayOf 42 = .ok (.ireturn, 1) := by decide +kernel
theorem dX2_monthDayOf_43 : decode cX2_monthDayOf 43 = .ok (.iload_n 3, 1) := by decide +kernel
theorem dX2_monthDayOf_44 : decode cX2_monthDayOf 44 = .ok (.iload 5, 2) := by decide +kernel
theorem dX2_monthDayOf_46 : decode cX2_monthDayOf 46 = .ok (.isub, 1) := by decide +kernel
theorem dX2_monthDayOf_47 : decode cX2_monthDayOf 47 = .ok (.istore_n 3, 1) := by decide +kernel
theorem dX2_monthDayOf_48 : decode cX2_monthDayOf 48 = .ok (.iinc 4 1, 3) := by decide +kernel
theorem dX2_monthDayOf_51 : decode cX2_monthDayOf 51 = .ok (.goto (-40), 3) := by decide +kernel
theorem dX2_monthDayOf_54 : decode cX2_monthDayOf 54 = .ok (.iconst 0, 1) := by decide +kernel
theorem dX2_monthDayOf_55 : decode cX2_monthDayOf 55 = .ok (.ireturn, 1) := by decide +kernel
theorem dX2_monthIn_0 : decode cX2_monthIn 0 = .ok (.iload_n 0, 1) := by decide +kernel
theorem dX2_monthIn_1 : decode cX2_monthIn 1 = .ok (.bipush 100, 2) := by decide +kernel
theorem dX2_monthIn_3 : decode cX2_monthIn 3 = .ok (.idiv, 1) := by decide +kernel
theorem dX2_monthIn_4 : decode cX2_monthIn 4 = .ok (.ireturn, 1) := by decide +kernel
theorem dX2_dayIn_0 : decode cX2_dayIn 0 = .ok (.iload_n 0, 1) := by decide +kernel
theorem dX2_dayIn_1 : decode cX2_dayIn 1 = .ok (.bipush 100, 2) := by decide +kernel
theorem dX2_dayIn_3 : decode cX2_dayIn 3 = .ok (.irem, 1) := by decide +kernel
theorem dX2_dayIn_4 : decode cX2_dayIn 4 = .ok (.ireturn, 1) := by decide +kernel
theorem dX2_dayOf_0 : decode cX2_dayOf 0 = .ok (.iload_n 3, 1) := by decide +kernel
theorem dX2_dayOf_1 : decode cX2_dayOf 1 = .ok (.iconst 1, 1) := by decide +kernel
theorem dX2_dayOf_2 : decode cX2_dayOf 2 = .ok (.if_icmp .lt 13, 3) := by decide +kernel
theorem dX2_dayOf_5 : decode cX2_dayOf 5 = .ok (.iload_n 3, 1) := by decide +kernel
theorem dX2_dayOf_6 : decode cX2_dayOf 6 = .ok (.iload_n 0, 1) := by decide +kernel
theorem dX2_dayOf_7 : decode cX2_dayOf 7 = .ok (.iload_n 1, 1) := by decide +kernel
theorem dX2_dayOf_8 : decode cX2_dayOf 8 = .ok (.iload_n 2, 1) := by decide +kernel
theorem dX2_dayOf_9 : decode cX2_dayOf 9 = .ok (.invokestatic 22, 3) := by decide +kernel
theorem dX2_dayOf_12 : decode cX2_dayOf 12 = .ok (.if_icmp .le 5, 3) := by decide +kernel
theorem dX2_dayOf_15 : decode cX2_dayOf 15 = .ok (.iconst (-1), 1) := by decide +kernel
theorem dX2_dayOf_16 : decode cX2_dayOf 16 = .ok (.ireturn, 1) := by decide +kernel
theorem dX2_dayOf_17 : decode cX2_dayOf 17 = .ok (.iload_n 0, 1) := by decide +kernel
theorem dX2_dayOf_18 : decode cX2_dayOf 18 = .ok (.iload_n 1, 1) := by decide +kernel
theorem dX2_dayOf_19 : decode cX2_dayOf 19 = .ok (.invokestatic 19, 3) := by decide +kernel
theorem dX2_dayOf_22 : decode cX2_dayOf 22 = .ok (.istore 4, 2) := by decide +kernel
theorem dX2_dayOf_24 : decode cX2_dayOf 24 = .ok (.iconst 1, 1) := by decide +kernel
theorem dX2_dayOf_25 : decode cX2_dayOf 25 = .ok (.istore 5, 2) := by decide +kernel
theorem dX2_dayOf_27 : decode cX2_dayOf 27 = .ok (.iload 5, 2) := by decide +kernel
theorem dX2_dayOf_29 : decode cX2_dayOf 29 = .ok (.iload_n 2, 1) := by decide +kernel
theorem dX2_dayOf_30 : decode cX2_dayOf 30 = .ok (.if_icmp .ge 28, 3) := by decide +kernel
theorem dX2_dayOf_33 : decode cX2_dayOf 33 = .ok (.iload 5, 2) := by decide +kernel
theorem dX2_dayOf_35 : decode cX2_dayOf 35 = .ok (.bipush 13, 2) := by decide +kernel
theorem dX2_dayOf_37 : decode cX2_dayOf 37 = .ok (.if_icmp .ge 21, 3) := by decide +kernel
theorem dX2_dayOf_40 : decode cX2_dayOf 40 = .ok (.iload 4, 2) := by decide +kernel
theorem dX2_dayOf_42 : decode cX2_dayOf 42 = .ok (.iload_n 0, 1) := by decide +kernel
theorem dX2_dayOf_43 : decode cX2_dayOf 43 = .ok (.iload_n 1, 1) := by decide +kernel
theorem dX2_dayOf_44 : decode cX2_dayOf 44 = .ok (.iload 5, 2) := by decide +kernel
theorem dX2_dayOf_46 : decode cX2_dayOf 46 = .ok (.invokestatic 22, 3) := by decide +kernel
theorem dX2_dayOf_49 : decode cX2_dayOf 49 = .ok (.iadd, 1) := by decide +kernel
theorem dX2_dayOf_50 : decode cX2_dayOf 50 = .ok (.istore 4, 2) := by decide +kernel
theorem dX2_dayOf_52 : decode cX2_dayOf 52 = .ok (.iinc 5 1, 3) := by decide +kernel
theorem dX2_dayOf_55 : decode cX2_dayOf 55 = .ok (.goto (-28), 3) := by decide +kernel
theorem dX2_dayOf_58 : decode cX2_dayOf 58 = .ok (.iload 4, 2) := by decide +kernel
theorem dX2_dayOf_60 : decode cX2_dayOf 60 = .ok (.iload_n 3, 1) := by decide +kernel
theorem dX2_dayOf_61 : decode cX2_dayOf 61 = .ok (.iadd, 1) := by decide +kernel
theorem dX2_dayOf_62 : decode cX2_dayOf 62 = .ok (.iconst 1, 1) := by decide +kernel
theorem dX2_dayOf_63 : decode cX2_dayOf 63 = .ok (.isub, 1) := by decide +kernel
theorem dX2_dayOf_64 : decode cX2_dayOf 64 = .ok (.ireturn, 1) := by decide +kernel
theorem dX3_init_0 : decode cX3_init 0 = .ok (.aload_n 0, 1) := by decide +kernel
theorem dX3_init_1 : decode cX3_init 1 = .ok (.invokespecial 3, 3) := by decide +kernel
theorem dX3_init_4 : decode cX3_init 4 = .ok (.aload_n 0, 1) := by decide +kernel
theorem dX3_init_5 : decode cX3_init 5 = .ok (.aload_n 1, 1) := by decide +kernel
theorem dX3_init_6 : decode cX3_init 6 = .ok (.putfield 9, 3) := by decide +kernel
theorem dX3_init_9 : decode cX3_init 9 = .ok (.aload_n 0, 1) := by decide +kernel
theorem dX3_init_10 : decode cX3_init 10 = .ok (.aload_n 2, 1) := by decide +kernel
theorem dX3_init_11 : decode cX3_init 11 = .ok (.putfield 15, 3) := by decide +kernel
theorem dX3_init_14 : decode cX3_init 14 = .ok (.aload_n 0, 1) := by decide +kernel
theorem dX3_init_15 : decode cX3_init 15 = .ok (.iconst (-1), 1) := by decide +kernel
theorem dX3_init_16 : decode cX3_init 16 = .ok (.putfield 19, 3) := by decide +kernel
theorem dX3_init_19 : decode cX3_init 19 = .ok (.return_, 1) := by decide +kernel
theorem dX3_faultKind_0 : decode cX3_faultKind 0 = .ok (.aload_n 0, 1) := by decide +kernel
theorem dX3_faultKind_1 : decode cX3_faultKind 1 = .ok (.getfield 23, 3) := by decide +kernel
theorem dX3_faultKind_4 : decode cX3_faultKind 4 = .ok (.ireturn, 1) := by decide +kernel
theorem dX3_faultPlace_0 : decode cX3_faultPlace 0 = .ok (.aload_n 0, 1) := by decide +kernel
theorem dX3_faultPlace_1 : decode cX3_faultPlace 1 = .ok (.getfield 19, 3) := by decide +kernel
theorem dX3_faultPlace_4 : decode cX3_faultPlace 4 = .ok (.ireturn, 1) := by decide +kernel
theorem dX3_read_0 : decode cX3_read 0 = .ok (.aload_n 0, 1) := by decide +kernel
theorem dX3_read_1 : decode cX3_read 1 = .ok (.aload_n 1, 1) := by decide +kernel
theorem dX3_read_2 : decode cX3_read 2 = .ok (.putfield 26, 3) := by decide +kernel
theorem dX3_read_5 : decode cX3_read 5 = .ok (.aload_n 0, 1) := by decide +kernel
theorem dX3_read_6 : decode cX3_read 6 = .ok (.getfield 26, 3) := by decide +kernel
theorem dX3_read_9 : decode cX3_read 9 = .ok (.iload_n 2, 1) := by decide +kernel
theorem dX3_read_10 : decode cX3_read 10 = .ok (.invokevirtual 30, 3) := by decide +kernel
theorem dX3_read_13 : decode cX3_read 13 = .ok (.aload_n 0, 1) := by decide +kernel
theorem dX3_read_14 : decode cX3_read 14 = .ok (.iconst 0, 1) := by decide +kernel
theorem dX3_read_15 : decode cX3_read 15 = .ok (.putfield 36, 3) := by decide +kernel
theorem dX3_read_18 : decode cX3_read 18 = .ok (.aload_n 0, 1) := by decide +kernel
theorem dX3_read_19 : decode cX3_read 19 = .ok (.iconst 0, 1) := by decide +kernel
theorem dX3_read_20 : decode cX3_read 20 = .ok (.putfield 39, 3) := by decide +kernel
theorem dX3_read_23 : decode cX3_read 23 = .ok (.aload_n 0, 1) := by decide +kernel
theorem dX3_read_24 : decode cX3_read 24 = .ok (.iconst (-1), 1) := by decide +kernel
theorem dX3_read_25 : decode cX3_read 25 = .ok (.putfield 42, 3) := by decide +kernel
theorem dX3_read_28 : decode cX3_read 28 = .ok (.aload_n 0, 1) := by decide +kernel
theorem dX3_read_29 : decode cX3_read 29 = .ok (.iconst (-1), 1) := by decide +kernel
theorem dX3_read_30 : decode cX3_read 30 = .ok (.putfield 45, 3) := by decide +kernel
theorem dX3_read_33 : decode cX3_read 33 = .ok (.aload_n 0, 1) := by decide +kernel
theorem dX3_read_34 : decode cX3_read 34 = .ok (.iconst 0, 1) := by decide +kernel
theorem dX3_read_35 : decode cX3_read 35 = .ok (.putfield 23, 3) := by decide +kernel
theorem dX3_read_38 : decode cX3_read 38 = .ok (.aload_n 0, 1) := by decide +kernel
theorem dX3_read_39 : decode cX3_read 39 = .ok (.iconst (-1), 1) := by decide +kernel
theorem dX3_read_40 : decode cX3_read 40 = .ok (.putfield 19, 3) := by decide +kernel
theorem dX3_read_43 : decode cX3_read 43 = .ok (.aload_n 0, 1) := by decide +kernel
theorem dX3_read_44 : decode cX3_read 44 = .ok (.invokevirtual 48, 3) := by decide +kernel
theorem dX3_read_47 : decode cX3_read 47 = .ok (.aload_n 0, 1) := by decide +kernel
theorem dX3_read_48 : decode cX3_read 48 = .ok (.invokevirtual 51, 3) := by decide +kernel
theorem dX3_read_51 : decode cX3_read 51 = .ok (.ifCond .eq 35, 3) := by decide +kernel
theorem dX3_read_54 : decode cX3_read 54 = .ok (.aload_n 0, 1) := by decide +kernel
theorem dX3_read_55 : decode cX3_read 55 = .ok (.invokevirtual 55, 3) := by decide +kernel
theorem dX3_read_58 : decode cX3_read 58 = .ok (.ifCond .eq 28, 3) := by decide +kernel
theorem dX3_read_61 : decode cX3_read 61 = .ok (.aload_n 0, 1) := by decide +kernel
theorem dX3_read_62 : decode cX3_read 62 = .ok (.invokevirtual 58, 3) := by decide +kernel
theorem dX3_read_65 : decode cX3_read 65 = .ok (.ifCond .eq 21, 3) := by decide +kernel
theorem dX3_read_68 : decode cX3_read 68 = .ok (.aload_n 0, 1) := by decide +kernel
theorem dX3_read_69 : decode cX3_read 69 = .ok (.invokevirtual 61, 3) := by decide +kernel
theorem dX3_read_72 : decode cX3_read 72 = .ok (.ifCond .eq 14, 3) := by decide +kernel
theorem dX3_read_75 : decode cX3_read 75 = .ok (.aload_n 0, 1) := by decide +kernel
theorem dX3_read_76 : decode cX3_read 76 = .ok (.invokevirtual 64, 3) := by decide +kernel
theorem dX3_read_79 : decode cX3_read 79 = .ok (.ifCond .eq 7, 3) := by decide +kernel
theorem dX3_read_82 : decode cX3_read 82 = .ok (.iconst 1, 1) := by decide +kernel
theorem dX3_read_83 : decode cX3_read 83 = .ok (.goto 4, 3) := by decide +kernel
theorem dX3_read_86 : decode cX3_read 86 = .ok (.iconst 0, 1) := by decide +kernel
theorem dX3_read_87 : decode cX3_read 87 = .ok (.ireturn, 1) := by decide +kernel
theorem dX3_refuse_0 : decode cX3_refuse 0 = .ok (.aload_n 0, 1) := by decide +kernel
theorem dX3_refuse_1 : decode cX3_refuse 1 = .ok (.iload_n 1, 1) := by decide +kernel
theorem dX3_refuse_2 : decode cX3_refuse 2 = .ok (.putfield 23, 3) := by decide +kernel
theorem dX3_refuse_5 : decode cX3_refuse 5 = .ok (.aload_n 0, 1) := by decide +kernel
theorem dX3_refuse_6 : decode cX3_refuse 6 = .ok (.iload_n 2, 1) := by decide +kernel
theorem dX3_refuse_7 : decode cX3_refuse 7 = .ok (.putfield 19, 3) := by decide +kernel
theorem dX3_refuse_10 : decode cX3_refuse 10 = .ok (.iconst 0, 1) := by decide +kernel
theorem dX3_refuse_11 : decode cX3_refuse 11 = .ok (.ireturn, 1) := by decide +kernel
theorem dX3_advance_0 : decode cX3_advance 0 = .ok (.aload_n 0, 1) := by decide +kernel
theorem dX3_advance_1 : decode cX3_advance 1 = .ok (.getfield 36, 3) := by decide +kernel
theorem dX3_advance_4 : decode cX3_advance 4 = .ok (.iconst 1, 1) := by decide +kernel
theorem dX3_advance_5 : decode cX3_advance 5 = .ok (.if_icmp .eq 11, 3) := by decide +kernel
theorem dX3_advance_8 : decode cX3_advance 8 = .ok (.aload_n 0, 1) := by decide +kernel
theorem dX3_advance_9 : decode cX3_advance 9 = .ok (.getfield 36, 3) := by decide +kernel
theorem dX3_advance_12 : decode cX3_advance 12 = .ok (.iconst 2, 1) := by decide +kernel
theorem dX3_advance_13 : decode cX3_advance 13 = .ok (.if_icmp .ne 7, 3) := by decide +kernel
theorem dX3_advance_16 : decode cX3_advance 16 = .ok (.iconst 1, 1) := by decide +kernel
theorem dX3_advance_17 : decode cX3_advance 17 = .ok (.goto 4, 3) := by decide +kernel
theorem dX3_advance_20 : decode cX3_advance 20 = .ok (.iconst 0, 1) := by decide +kernel
theorem dX3_advance_21 : decode cX3_advance 21 = .ok (.istore_n 1, 1) := by decide +kernel
theorem dX3_advance_22 : decode cX3_advance 22 = .ok (.aload_n 0, 1) := by decide +kernel
theorem dX3_advance_23 : decode cX3_advance 23 = .ok (.getfield 39, 3) := by decide +kernel
theorem dX3_advance_26 : decode cX3_advance 26 = .ok (.istore_n 2, 1) := by decide +kernel
theorem dX3_advance_27 : decode cX3_advance 27 = .ok (.aload_n 0, 1) := by decide +kernel
theorem dX3_advance_28 : decode cX3_advance 28 = .ok (.iload_n 2, 1) := by decide +kernel
theorem dX3_advance_29 : decode cX3_advance 29 = .ok (.putfield 67, 3) := by decide +kernel
theorem dX3_advance_32 : decode cX3_advance 32 = .ok (.aload_n 0, 1) := by decide +kernel
theorem dX3_advance_33 : decode cX3_advance 33 = .ok (.getfield 67, 3) := by decide +kernel
theorem dX3_advance_36 : decode cX3_advance 36 = .ok (.aload_n 0, 1) := by decide +kernel
theorem dX3_advance_37 : decode cX3_advance 37 = .ok (.getfield 9, 3) := by decide +kernel
theorem dX3_advance_40 : decode cX3_advance 40 = .ok (.invokevirtual 70, 3) := by decide +kernel
theorem dX3_advance_43 : decode cX3_advance 43 = .ok (.if_icmp .ge 33, 3) := by decide +kernel
theorem dX3_advance_46 : decode cX3_advance 46 = .ok (.aload_n 0, 1) := by decide +kernel
theorem dX3_advance_47 : decode cX3_advance 47 = .ok (.getfield 9, 3) := by decide +kernel
theorem dX3_advance_50 : decode cX3_advance 50 = .ok (.aload_n 0, 1) := by decide +kernel
theorem dX3_advance_51 : decode cX3_advance 51 = .ok (.getfield 67, 3) := by decide +kernel
theorem dX3_advance_54 : decode cX3_advance 54 = .ok (.invokevirtual 76, 3) := by decide +kernel
theorem dX3_advance_57 : decode cX3_advance 57 = .ok (.invokestatic 80, 3) := by decide +kernel
theorem dX3_advance_60 : decode cX3_advance 60 = .ok (.ifCond .eq 16, 3) := by decide +kernel
theorem dX3_advance_63 : decode cX3_advance 63 = .ok (.aload_n 0, 1) := by decide +kernel
theorem dX3_advance_64 : decode cX3_advance 64 = .ok (.dup, 1) := by decide +kernel
theorem dX3_advance_65 : decode cX3_advance 65 = .ok (.getfield 67, 3) := by decide +kernel
theorem dX3_advance_68 : decode cX3_advance 68 = .ok (.iconst 1, 1) := by decide +kernel
theorem dX3_advance_69 : decode cX3_advance 69 = .ok (.iadd, 1) := by decide +kernel
theorem dX3_advance_70 : decode cX3_advance 70 = .ok (.putfield 67, 3) := by decide +kernel
theorem dX3_advance_73 : decode cX3_advance 73 = .ok (.goto (-41), 3) := by decide +kernel
theorem dX3_advance_76 : decode cX3_advance 76 = .ok (.aload_n 0, 1) := by decide +kernel
theorem dX3_advance_77 : decode cX3_advance 77 = .ok (.invokevirtual 84, 3) := by decide +kernel
theorem dX3_advance_80 : decode cX3_advance 80 = .ok (.iload_n 1, 1) := by decide +kernel
theorem dX3_advance_81 : decode cX3_advance 81 = .ok (.ifCond .eq 32, 3) := by decide +kernel
theorem dX3_advance_84 : decode cX3_advance 84 = .ok (.aload_n 0, 1) := by decide +kernel
theorem dX3_advance_85 : decode cX3_advance 85 = .ok (.getfield 67, 3) := by decide +kernel
theorem dX3_advance_88 : decode cX3_advance 88 = .ok (.iload_n 2, 1) := by decide +kernel
theorem dX3_advance_89 : decode cX3_advance 89 = .ok (.if_icmp .ne 24, 3) := by decide +kernel
theorem dX3_advance_92 : decode cX3_advance 92 = .ok (.aload_n 0, 1) := by decide +kernel
theorem dX3_advance_93 : decode cX3_advance 93 = .ok (.getfield 36, 3) := by decide +kernel
theorem dX3_advance_96 : decode cX3_advance 96 = .ok (.iconst 1, 1) := by decide +kernel
theorem dX3_advance_97 : decode cX3_advance 97 = .ok (.if_icmp .eq 11, 3) := by decide +kernel
theorem dX3_advance_100 : decode cX3_advance 100 = .ok (.aload_n 0, 1) := by decide +kernel
theorem dX3_advance_101 : decode cX3_advance 101 = .ok (.getfield 36, 3) := by decide +kernel
theorem dX3_advance_104 : decode cX3_advance 104 = .ok (.iconst 2, 1) := by decide +kernel
theorem dX3_advance_105 : decode cX3_advance 105 = .ok (.if_icmp .ne 8, 3) := by decide +kernel
theorem dX3_advance_108 : decode cX3_advance 108 = .ok (.aload_n 0, 1) := by decide +kernel
theorem dX3_advance_109 : decode cX3_advance 109 = .ok (.iconst 3, 1) := by decide +kernel
theorem dX3_advance_110 : decode cX3_advance 110 = .ok (.putfield 36, 3) := by decide +kernel
theorem dX3_advance_113 : decode cX3_advance 113 = .ok (.return_, 1) := by decide +kernel
theorem dX3_takeSign_0 : decode cX3_takeSign 0 = .ok (.aload_n 0, 1) := by decide +kernel
theorem dX3_takeSign_1 : decode cX3_takeSign 1 = .ok (.getfield 9, 3) := by decide +kernel
theorem dX3_takeSign_4 : decode cX3_takeSign 4 = .ok (.aload_n 0, 1) := by decide +kernel
theorem dX3_takeSign_5 : decode cX3_takeSign 5 = .ok (.getfield 67, 3) := by decide +kernel
theorem dX3_takeSign_8 : decode cX3_takeSign 8 = .ok (.invokevirtual 76, 3) := by decide +kernel
theorem dX3_takeSign_11 : decode cX3_takeSign 11 = .ok (.istore_n 1, 1) := by decide +kernel
theorem dX3_takeSign_12 : decode cX3_takeSign 12 = .ok (.aload_n 0, 1) := by decide +kernel
theorem dX3_takeSign_13 : decode cX3_takeSign 13 = .ok (.aload_n 0, 1) := by decide +kernel
theorem dX3_takeSign_14 : decode cX3_takeSign 14 = .ok (.getfield 67, 3) := by decide +kernel
theorem dX3_takeSign_17 : decode cX3_takeSign 17 = .ok (.putfield 39, 3) := by decide +kernel
theorem dX3_takeSign_20 : decode cX3_takeSign 20 = .ok (.aload_n 0, 1) := by decide +kernel
theorem dX3_takeSign_21 : decode cX3_takeSign 21 = .ok (.getfield 67, 3) := by decide +kernel
theorem dX3_takeSign_24 : decode cX3_takeSign 24 = .ok (.aload_n 0, 1) := by decide +kernel
theorem dX3_takeSign_25 : decode cX3_takeSign 25 = .ok (.getfield 9, 3) := by decide +kernel
theorem dX3_takeSign_28 : decode cX3_takeSign 28 = .ok (.invokevirtual 70, 3) := by decide +kernel
theorem dX3_takeSign_31 : decode cX3_takeSign 31 = .ok (.if_icmp .lt 11, 3) := by decide +kernel
theorem dX3_takeSign_34 : decode cX3_takeSign 34 = .ok (.aload_n 0, 1) := by decide +kernel
theorem dX3_takeSign_35 : decode cX3_takeSign 35 = .ok (.iconst 0, 1) := by decide +kernel
theorem dX3_takeSign_36 : decode cX3_takeSign 36 = .ok (.putfield 36, 3) := by decide +kernel
theorem dX3_takeSign_39 : decode cX3_takeSign 39 = .ok (.goto 130, 3) := by decide +kernel
theorem dX3_takeSign_42 : decode cX3_takeSign 42 = .ok (.iload_n 1, 1) := by decide +kernel
theorem dX3_takeSign_43 : decode cX3_takeSign 43 = .ok (.invokestatic 87, 3) := by decide +kernel
theorem dX3_takeSign_46 : decode cX3_takeSign 46 = .ok (.ifCond .eq 52, 3) := by decide +kernel
theorem dX3_takeSign_49 : decode cX3_takeSign 49 = .ok (.aload_n 0, 1) := by decide +kernel
theorem dX3_takeSign_50 : decode cX3_takeSign 50 = .ok (.iconst 1, 1) := by decide +kernel
theorem dX3_takeSign_51 : decode cX3_takeSign 51 = .ok (.putfield 36, 3) := by decide +kernel
theorem dX3_takeSign_54 : decode cX3_takeSign 54 = .ok (.aload_n 0, 1) := by decide +kernel
theorem dX3_takeSign_55 : decode cX3_takeSign 55 = .ok (.getfield 39, 3) := by decide +kernel
theorem dX3_takeSign_58 : decode cX3_takeSign 58 = .ok (.aload_n 0, 1) := by decide +kernel
theorem dX3_takeSign_59 : decode cX3_takeSign 59 = .ok (.getfield 9, 3) := by decide +kernel
theorem dX3_takeSign_62 : decode cX3_takeSign 62 = .ok (.invokevirtual 70, 3) := by decide +kernel
theorem dX3_takeSign_65 : decode cX3_takeSign 65 = .ok (.if_icmp .ge 104, 3) := by decide +kernel
theorem dX3_takeSign_68 : decode cX3_takeSign 68 = .ok (.aload_n 0, 1) := by decide +kernel
theorem dX3_takeSign_69 : decode cX3_takeSign 69 = .ok (.getfield 9, 3) := by decide +kernel
theorem dX3_takeSign_72 : decode cX3_takeSign 72 = .ok (.aload_n 0, 1) := by decide +kernel
theorem dX3_takeSign_73 : decode cX3_takeSign 73 = .ok (.getfield 39, 3) := by decide +kernel
theorem dX3_takeSign_76 : decode cX3_takeSign 76 = .ok (.invokevirtual 76, 3) := by decide +kernel
theorem dX3_takeSign_79 : decode cX3_takeSign 79 = .ok (.invokestatic 87, 3) := by decide +kernel
theorem dX3_takeSign_82 : decode cX3_takeSign 82 = .ok (.ifCond .eq 87, 3) := by decide +kernel
theorem dX3_takeSign_85 : decode cX3_takeSign 85 = .ok (.aload_n 0, 1) := by decide +kernel
theorem dX3_takeSign_86 : decode cX3_takeSign 86 = .ok (.dup, 1) := by decide +kernel
theorem dX3_takeSign_87 : decode cX3_takeSign 87 = .ok (.getfield 39, 3) := by decide +kernel
theorem dX3_takeSign_90 : decode cX3_takeSign 90 = .ok (.iconst 1, 1) := by decide +kernel
theorem dX3_takeSign_91 : decode cX3_takeSign 91 = .ok (.iadd, 1) := by decide +kernel
theorem dX3_takeSign_92 : decode cX3_takeSign 92 = .ok (.putfield 39, 3) := by decide +kernel
theorem dX3_takeSign_95 : decode cX3_takeSign 95 = .ok (.goto (-41), 3) := by decide +kernel
theorem dX3_takeSign_98 : decode cX3_takeSign 98 = .ok (.iload_n 1, 1) := by decide +kernel
theorem dX3_takeSign_99 : decode cX3_takeSign 99 = .ok (.invokestatic 90, 3) := by decide +kernel
theorem dX3_takeSign_102 : decode cX3_takeSign 102 = .ok (.ifCond .eq 52, 3) := by decide +kernel
theorem dX3_takeSign_105 : decode cX3_takeSign 105 = .ok (.aload_n 0, 1) := by decide +kernel
theorem dX3_takeSign_106 : decode cX3_takeSign 106 = .ok (.iconst 2, 1) := by decide +kernel
theorem dX3_takeSign_107 : decode cX3_takeSign 107 = .ok (.putfield 36, 3) := by decide +kernel
theorem dX3_takeSign_110 : decode cX3_takeSign 110 = .ok (.aload_n 0, 1) := by decide +kernel
theorem dX3_takeSign_111 : decode cX3_takeSign 111 = .ok (.getfield 39, 3) := by decide +kernel
theorem dX3_takeSign_114 : decode cX3_takeSign 114 = .ok (.aload_n 0, 1) := by decide +kernel
theorem dX3_takeSign_115 : decode cX3_takeSign 115 = .ok (.getfield 9, 3) := by decide +kernel
theorem dX3_takeSign_118 : decode cX3_takeSign 118 = .ok (.invokevirtual 70, 3) := by decide +kernel
theorem dX3_takeSign_121 : decode cX3_takeSign 121 = .ok (.if_icmp .ge 48, 3) := by decide +kernel
theorem dX3_takeSign_124 : decode cX3_takeSign 124 = .ok (.aload_n 0, 1) := by decide +kernel
theorem dX3_takeSign_125 : decode cX3_takeSign 125 = .ok (.getfield 9, 3) := by decide +kernel
theorem dX3_takeSign_128 : decode cX3_takeSign 128 = .ok (.aload_n 0, 1) := by decide +kernel
theorem dX3_takeSign_129 : decode cX3_takeSign 129 = .ok (.getfield 39, 3) := by decide +kernel
theorem dX3_takeSign_132 : decode cX3_takeSign 132 = .ok (.invokevirtual 76, 3) := by decide +kernel
theorem dX3_takeSign_135 : decode cX3_takeSign 135 = .ok (.invokestatic 90, 3) := by decide +kernel
theorem dX3_takeSign_138 : decode cX3_takeSign 138 = .ok (.ifCond .eq 31, 3) := by decide +kernel
theorem dX3_takeSign_141 : decode cX3_takeSign 141 = .ok (.aload_n 0, 1) := by decide +kernel
theorem dX3_takeSign_142 : decode cX3_takeSign 142 = .ok (.dup, 1) := by decide +kernel
theorem dX3_takeSign_143 : decode cX3_takeSign 143 = .ok (.getfield 39, 3) := by decide +kernel
theorem dX3_takeSign_146 : decode cX3_takeSign 146 = .ok (.iconst 1, 1) := by decide +kernel
theorem dX3_takeSign_147 : decode cX3_takeSign 147 = .ok (.iadd, 1) := by decide +kernel
theorem dX3_takeSign_148 : decode cX3_takeSign 148 = .ok (.putfield 39, 3) := by decide +kernel
theorem dX3_takeSign_151 : decode cX3_takeSign 151 = .ok (.goto (-41), 3) := by decide +kernel
theorem dX3_takeSign_154 : decode cX3_takeSign 154 = .ok (.aload_n 0, 1) := by decide +kernel
theorem dX3_takeSign_155 : decode cX3_takeSign 155 = .ok (.iconst 3, 1) := by decide +kernel
theorem dX3_takeSign_156 : decode cX3_takeSign 156 = .ok (.putfield 36, 3) := by decide +kernel
theorem dX3_takeSign_159 : decode cX3_takeSign 159 = .ok (.aload_n 0, 1) := by decide +kernel
theorem dX3_takeSign_160 : decode cX3_takeSign 160 = .ok (.aload_n 0, 1) := by decide +kernel
theorem dX3_takeSign_161 : decode cX3_takeSign 161 = .ok (.getfield 67, 3) := by decide +kernel
theorem dX3_takeSign_164 : decode cX3_takeSign 164 = .ok (.iconst 1, 1) := by decide +kernel
theorem dX3_takeSign_165 : decode cX3_takeSign 165 = .ok (.iadd, 1) := by decide +kernel
theorem dX3_takeSign_166 : decode cX3_takeSign 166 = .ok (.putfield 39, 3) := by decide +kernel
theorem dX3_takeSign_169 : decode cX3_takeSign 169 = .ok (.return_, 1) := by decide +kernel
theorem dX3_isWord_0 : decode cX3_isWord 0 = .ok (.aload_n 0, 1) := by decide +kernel
theorem dX3_isWord_1 : decode cX3_isWord 1 = .ok (.getfield 36, 3) := by decide +kernel
theorem dX3_isWord_4 : decode cX3_isWord 4 = .ok (.iconst 1, 1) := by decide +kernel
theorem dX3_isWord_5 : decode cX3_isWord 5 = .ok (.if_icmp .ne 19, 3) := by decide +kernel
theorem dX3_isWord_8 : decode cX3_isWord 8 = .ok (.aload_n 0, 1) := by decide +kernel
theorem dX3_isWord_9 : decode cX3_isWord 9 = .ok (.getfield 39, 3) := by decide +kernel
theorem dX3_isWord_12 : decode cX3_isWord 12 = .ok (.aload_n 0, 1) := by decide +kernel
theorem dX3_isWord_13 : decode cX3_isWord 13 = .ok (.getfield 67, 3) := by decide +kernel
theorem dX3_isWord_16 : decode cX3_isWord 16 = .ok (.isub, 1) := by decide +kernel
theorem dX3_isWord_17 : decode cX3_isWord 17 = .ok (.aload_n 1, 1) := by decide +kernel
theorem dX3_isWord_18 : decode cX3_isWord 18 = .ok (.invokevirtual 93, 3) := by decide +kernel
theorem dX3_isWord_21 : decode cX3_isWord 21 = .ok (.if_icmp .eq 5, 3) := by decide +kernel
theorem dX3_isWord_24 : decode cX3_isWord 24 = .ok (.iconst 0, 1) := by decide +kernel
theorem dX3_isWord_25 : decode cX3_isWord 25 = .ok (.ireturn, 1) := by decide +kernel
theorem dX3_isWord_26 : decode cX3_isWord 26 = .ok (.iconst 0, 1) := by decide +kernel
theorem dX3_isWord_27 : decode cX3_isWord 27 = .ok (.istore_n 2, 1) := by decide +kernel
theorem dX3_isWord_28 : decode cX3_isWord 28 = .ok (.iload_n 2, 1) := by decide +kernel
theorem dX3_isWord_29 : decode cX3_isWord 29 = .ok (.aload_n 1, 1) := by decide +kernel
theorem dX3_isWord_30 : decode cX3_isWord 30 = .ok (.invokevirtual 93, 3) := by decide +kernel
theorem dX3_isWord_33 : decode cX3_isWord 33 = .ok (.if_icmp .ge 32, 3) := by decide +kernel
theorem dX3_isWord_36 : decode cX3_isWord 36 = .ok (.aload_n 0, 1) := by decide +kernel
theorem dX3_isWord_37 : decode cX3_isWord 37 = .ok (.getfield 9, 3) := by decide +kernel
theorem dX3_isWord_40 : decode cX3_isWord 40 = .ok (.aload_n 0, 1) := by decide +kernel
theorem dX3_isWord_41 : decode cX3_isWord 41 = .ok (.getfield 67, 3) := by decide +kernel
theorem dX3_isWord_44 : decode cX3_isWord 44 = .ok (.iload_n 2, 1) := by decide +kernel
theorem dX3_isWord_45 : decode cX3_isWord 45 = .ok (.iadd, 1) := by decide +kernel
theorem dX3_isWord_46 : decode cX3_isWord 46 = .ok (.invokevirtual 76, 3) := by decide +kernel
theorem dX3_isWord_49 : decode cX3_isWord 49 = .ok (.aload_n 1, 1) := by decide +kernel
theorem dX3_isWord_50 : decode cX3_isWord 50 = .ok (.iload_n 2, 1) := by decide +kernel
theorem dX3_isWord_51 : decode cX3_isWord 51 = .ok (.invokevirtual 98, 3) := by decide +kernel
theorem dX3_isWord_54 : decode cX3_isWord 54 = .ok (.if_icmp .eq 5, 3) := by decide +kernel
theorem dX3_isWord_57 : decode cX3_isWord 57 = .ok (.iconst 0, 1) := by decide +kernel
theorem dX3_isWord_58 : decode cX3_isWord 58 = .ok (.ireturn, 1) := by decide +kernel
theorem dX3_isWord_59 : decode cX3_isWord 59 = .ok (.iinc 2 1, 3) := by decide +kernel
theorem dX3_isWord_62 : decode cX3_isWord 62 = .ok (.goto (-34), 3) := by decide +kernel
theorem dX3_isWord_65 : decode cX3_isWord 65 = .ok (.iconst 1, 1) := by decide +kernel
theorem dX3_isWord_66 : decode cX3_isWord 66 = .ok (.ireturn, 1) := by decide +kernel
theorem dX3_readWhat_0 : decode cX3_readWhat 0 = .ok (.aload_n 0, 1) := by decide +kernel
theorem dX3_readWhat_1 : decode cX3_readWhat 1 = .ok (.ldc 102, 2) := by decide +kernel
theorem dX3_readWhat_3 : decode cX3_readWhat 3 = .ok (.invokevirtual 104, 3) := by decide +kernel
theorem dX3_readWhat_6 : decode cX3_readWhat 6 = .ok (.istore_n 1, 1) := by decide +kernel
theorem dX3_readWhat_7 : decode cX3_readWhat 7 = .ok (.iload_n 1, 1) := by decide +kernel
theorem dX3_readWhat_8 : decode cX3_readWhat 8 = .ok (.ifCond .ne 22, 3) := by decide +kernel
theorem dX3_readWhat_11 : decode cX3_readWhat 11 = .ok (.aload_n 0, 1) := by decide +kernel
theorem dX3_readWhat_12 : decode cX3_readWhat 12 = .ok (.ldc 108, 2) := by decide +kernel
theorem dX3_readWhat_14 : decode cX3_readWhat 14 = .ok (.invokevirtual 104, 3) := by decide +kernel
theorem dX3_readWhat_17 : decode cX3_readWhat 17 = .ok (.ifCond .ne 13, 3) := by decide +kernel
theorem dX3_readWhat_20 : decode cX3_readWhat 20 = .ok (.aload_n 0, 1) := by decide +kernel
theorem dX3_readWhat_21 : decode cX3_readWhat 21 = .ok (.iconst 1, 1) := by decide +kernel
theorem dX3_readWhat_22 : decode cX3_readWhat 22 = .ok (.aload_n 0, 1) := by decide +kernel
theorem dX3_readWhat_23 : decode cX3_readWhat 23 = .ok (.getfield 67, 3) := by decide +kernel
theorem dX3_readWhat_26 : decode cX3_readWhat 26 = .ok (.invokevirtual 110, 3) := by decide +kernel
theorem dX3_readWhat_29 : decode cX3_readWhat 29 = .ok (.ireturn, 1) := by decide +kernel
theorem dX3_readWhat_30 : decode cX3_readWhat 30 = .ok (.aload_n 0, 1) := by decide +kernel
theorem dX3_readWhat_31 : decode cX3_readWhat 31 = .ok (.invokevirtual 48, 3) := by decide +kernel
theorem dX3_readWhat_34 : decode cX3_readWhat 34 = .ok (.iload_n 1, 1) := by decide +kernel
theorem dX3_readWhat_35 : decode cX3_readWhat 35 = .ok (.ifCond .eq 10, 3) := by decide +kernel
theorem dX3_readWhat_38 : decode cX3_readWhat 38 = .ok (.aload_n 0, 1) := by decide +kernel
theorem dX3_readWhat_39 : decode cX3_readWhat 39 = .ok (.invokevirtual 114, 3) := by decide +kernel
theorem dX3_readWhat_42 : decode cX3_readWhat 42 = .ok (.goto 7, 3) := by decide +kernel
theorem dX3_readWhat_45 : decode cX3_readWhat 45 = .ok (.aload_n 0, 1) := by decide +kernel
theorem dX3_readWhat_46 : decode cX3_readWhat 46 = .ok (.invokevirtual 117, 3) := by decide +kernel
theorem dX3_readWhat_49 : decode cX3_readWhat 49 = .ok (.istore_n 2, 1) := by decide +kernel
theorem dX3_readWhat_50 : decode cX3_readWhat 50 = .ok (.iload_n 2, 1) := by decide +kernel
theorem dX3_readWhat_51 : decode cX3_readWhat 51 = .ok (.ifCond .ne 23, 3) := by decide +kernel
theorem dX3_readWhat_54 : decode cX3_readWhat 54 = .ok (.aload_n 0, 1) := by decide +kernel
theorem dX3_readWhat_55 : decode cX3_readWhat 55 = .ok (.getfield 26, 3) := by decide +kernel
theorem dX3_readWhat_58 : decode cX3_readWhat 58 = .ok (.iload_n 1, 1) := by decide +kernel
theorem dX3_readWhat_59 : decode cX3_readWhat 59 = .ok (.ifCond .eq 8, 3) := by decide +kernel
theorem dX3_readWhat_62 : decode cX3_readWhat 62 = .ok (.bipush 14, 2) := by decide +kernel
theorem dX3_readWhat_64 : decode cX3_readWhat 64 = .ok (.goto 5, 3) := by decide +kernel
theorem dX3_readWhat_67 : decode cX3_readWhat 67 = .ok (.bipush 48, 2) := by decide +kernel
theorem dX3_readWhat_69 : decode cX3_readWhat 69 = .ok (.invokevirtual 120, 3) := by decide +kernel
theorem dX3_readWhat_72 : decode cX3_readWhat 72 = .ok (.iconst 1, 1) := by decide +kernel
theorem dX3_readWhat_73 : decode cX3_readWhat 73 = .ok (.ireturn, 1) := by decide +kernel
theorem dX3_readWhat_74 : decode cX3_readWhat 74 = .ok (.aload_n 0, 1) := by decide +kernel
theorem dX3_readWhat_75 : decode cX3_readWhat 75 = .ok (.getfield 26, 3) := by decide +kernel
theorem dX3_readWhat_78 : decode cX3_readWhat 78 = .ok (.iconst 1, 1) := by decide +kernel
theorem dX3_readWhat_79 : decode cX3_readWhat 79 = .ok (.iload_n 2, 1) := by decide +kernel
theorem dX3_readWhat_80 : decode cX3_readWhat 80 = .ok (.ishl, 1) := by decide +kernel
theorem dX3_readWhat_81 : decode cX3_readWhat 81 = .ok (.invokevirtual 120, 3) := by decide +kernel
theorem dX3_readWhat_84 : decode cX3_readWhat 84 = .ok (.aload_n 0, 1) := by decide +kernel
theorem dX3_readWhat_85 : decode cX3_readWhat 85 = .ok (.invokevirtual 48, 3) := by decide +kernel
theorem dX3_readWhat_88 : decode cX3_readWhat 88 = .ok (.iconst 1, 1) := by decide +kernel
theorem dX3_readWhat_89 : decode cX3_readWhat 89 = .ok (.ireturn, 1) := by decide +kernel
theorem dX3_sunKind_0 : decode cX3_sunKind 0 = .ok (.aload_n 0, 1) := by decide +kernel
theorem dX3_sunKind_1 : decode cX3_sunKind 1 = .ok (.ldc 123, 2) := by decide +kernel
theorem dX3_sunKind_3 : decode cX3_sunKind 3 = .ok (.invokevirtual 104, 3) := by decide +kernel
theorem dX3_sunKind_6 : decode cX3_sunKind 6 = .ok (.ifCond .eq 5, 3) := by decide +kernel
theorem dX3_sunKind_9 : decode cX3_sunKind 9 = .ok (.iconst 1, 1) := by decide +kernel
theorem dX3_sunKind_10 : decode cX3_sunKind 10 = .ok (.ireturn, 1) := by decide +kernel
theorem dX3_sunKind_11 : decode cX3_sunKind 11 = .ok (.aload_n 0, 1) := by decide +kernel
theorem dX3_sunKind_12 : decode cX3_sunKind 12 = .ok (.ldc 125, 2) := by decide +kernel
theorem dX3_sunKind_14 : decode cX3_sunKind 14 = .ok (.invokevirtual 104, 3) := by decide +kernel
theorem dX3_sunKind_17 : decode cX3_sunKind 17 = .ok (.ifCond .eq 5, 3) := by decide +kernel
theorem dX3_sunKind_20 : decode cX3_sunKind 20 = .ok (.iconst 2, 1) := by decide +kernel
theorem dX3_sunKind_21 : decode cX3_sunKind 21 = .ok (.ireturn, 1) := by decide +kernel
theorem dX3_sunKind_22 : decode cX3_sunKind 22 = .ok (.aload_n 0, 1) := by decide +kernel
theorem dX3_sunKind_23 : decode cX3_sunKind 23 = .ok (.ldc 127, 2) := by decide +kernel
theorem dX3_sunKind_25 : decode cX3_sunKind 25 = .ok (.invokevirtual 104, 3) := by decide +kernel
theorem dX3_sunKind_28 : decode cX3_sunKind 28 = .ok (.ifCond .eq 7, 3) := by decide +kernel
theorem dX3_sunKind_31 : decode cX3_sunKind 31 = .ok (.iconst 3, 1) := by decide +kernel
theorem dX3_sunKind_32 : decode cX3_sunKind 32 = .ok (.goto 4, 3) := by decide +kernel
theorem dX3_sunKind_35 : decode cX3_sunKind 35 = .ok (.iconst 0, 1) := by decide +kernel
theorem dX3_sunKind_36 : decode cX3_sunKind 36 = .ok (.ireturn, 1) := by decide +kernel
theorem dX3_moonKind_0 : decode cX3_moonKind 0 = .ok (.aload_n 0, 1) := by decide +kernel
theorem dX3_moonKind_1 : decode cX3_moonKind 1 = .ok (.ldc 129, 2) := by decide +kernel
theorem dX3_moonKind_3 : decode cX3_moonKind 3 = .ok (.invokevirtual 104, 3) := by decide +kernel
theorem dX3_moonKind_6 : decode cX3_moonKind 6 = .ok (.ifCond .eq 5, 3) := by decide +kernel
theorem dX3_moonKind_9 : decode cX3_moonKind 9 = .ok (.iconst 4, 1) := by decide +kernel
theorem dX3_moonKind_10 : decode cX3_moonKind 10 = .ok (.ireturn, 1) := by decide +kernel
theorem dX3_moonKind_11 : decode cX3_moonKind 11 = .ok (.aload_n 0, 1) := by decide +kernel
theorem dX3_moonKind_12 : decode cX3_moonKind 12 = .ok (.ldc 131, 2) := by decide +kernel
theorem dX3_moonKind_14 : decode cX3_moonKind 14 = .ok (.invokevirtual 104, 3) := by decide +kernel
theorem dX3_moonKind_17 : decode cX3_moonKind 17 = .ok (.ifCond .eq 7, 3) := by decide +kernel
theorem dX3_moonKind_20 : decode cX3_moonKind 20 = .ok (.iconst 5, 1) := by decide +kernel
theorem dX3_moonKind_21 : decode cX3_moonKind 21 = .ok (.goto 4, 3) := by decide +kernel
theorem dX3_moonKind_24 : decode cX3_moonKind 24 = .ok (.iconst 0, 1) := by decide +kernel
theorem dX3_moonKind_25 : decode cX3_moonKind 25 = .ok (.ireturn, 1) := by decide +kernel
theorem dX3_readParts_0 : decode cX3_readParts 0 = .ok (.iconst 0, 1) := by decide +kernel
theorem dX3_readParts_1 : decode cX3_readParts 1 = .ok (.istore_n 1, 1) := by decide +kernel
theorem dX3_readParts_2 : decode cX3_readParts 2 = .ok (.iload_n 1, 1) := by decide +kernel
theorem dX3_readParts_3 : decode cX3_readParts 3 = .ok (.iconst 4, 1) := by decide +kernel
theorem dX3_readParts_4 : decode cX3_readParts 4 = .ok (.if_icmp .gt 29, 3) := by decide +kernel
theorem dX3_readParts_7 : decode cX3_readParts 7 = .ok (.aload_n 0, 1) := by decide +kernel
theorem dX3_readParts_8 : decode cX3_readParts 8 = .ok (.ldc 133, 2) := by decide +kernel
theorem dX3_readParts_10 : decode cX3_readParts 10 = .ok (.invokevirtual 104, 3) := by decide +kernel
theorem dX3_readParts_13 : decode cX3_readParts 13 = .ok (.ifCond .eq 5, 3) := by decide +kernel
theorem dX3_readParts_16 : decode cX3_readParts 16 = .ok (.iconst 1, 1) := by decide +kernel
theorem dX3_readParts_17 : decode cX3_readParts 17 = .ok (.ireturn, 1) := by decide +kernel
theorem dX3_readParts_18 : decode cX3_readParts 18 = .ok (.aload_n 0, 1) := by decide +kernel
theorem dX3_readParts_19 : decode cX3_readParts 19 = .ok (.invokevirtual 135, 3) := by decide +kernel
theorem dX3_readParts_22 : decode cX3_readParts 22 = .ok (.ifCond .ne 5, 3) := by decide +kernel
theorem dX3_readParts_25 : decode cX3_readParts 25 = .ok (.iconst 0, 1) := by decide +kernel
theorem dX3_readParts_26 : decode cX3_readParts 26 = .ok (.ireturn, 1) := by decide +kernel
theorem dX3_readParts_27 : decode cX3_readParts 27 = .ok (.iinc 1 1, 3) := by decide +kernel
theorem dX3_readParts_30 : decode cX3_readParts 30 = .ok (.goto (-28), 3) := by decide +kernel
theorem dX3_readParts_33 : decode cX3_readParts 33 = .ok (.aload_n 0, 1) := by decide +kernel
theorem dX3_readParts_34 : decode cX3_readParts 34 = .ok (.iconst 1, 1) := by decide +kernel
theorem dX3_readParts_35 : decode cX3_readParts 35 = .ok (.aload_n 0, 1) := by decide +kernel
theorem dX3_readParts_36 : decode cX3_readParts 36 = .ok (.getfield 67, 3) := by decide +kernel
theorem dX3_readParts_39 : decode cX3_readParts 39 = .ok (.invokevirtual 110, 3) := by decide +kernel
theorem dX3_readParts_42 : decode cX3_readParts 42 = .ok (.ireturn, 1) := by decide +kernel
theorem dX3_partHere_0 : decode cX3_partHere 0 = .ok (.aload_n 0, 1) := by decide +kernel
theorem dX3_partHere_1 : decode cX3_partHere 1 = .ok (.ldc 138, 2) := by decide +kernel
theorem dX3_partHere_3 : decode cX3_partHere 3 = .ok (.invokevirtual 104, 3) := by decide +kernel
theorem dX3_partHere_6 : decode cX3_partHere 6 = .ok (.ifCond .eq 5, 3) := by decide +kernel
theorem dX3_partHere_9 : decode cX3_partHere 9 = .ok (.iconst 0, 1) := by decide +kernel
theorem dX3_partHere_10 : decode cX3_partHere 10 = .ok (.ireturn, 1) := by decide +kernel
theorem dX3_partHere_11 : decode cX3_partHere 11 = .ok (.aload_n 0, 1) := by decide +kernel
theorem dX3_partHere_12 : decode cX3_partHere 12 = .ok (.ldc 140, 2) := by decide +kernel
theorem dX3_partHere_14 : decode cX3_partHere 14 = .ok (.invokevirtual 104, 3) := by decide +kernel
theorem dX3_partHere_17 : decode cX3_partHere 17 = .ok (.ifCond .eq 5, 3) := by decide +kernel
theorem dX3_partHere_20 : decode cX3_partHere 20 = .ok (.iconst 1, 1) := by decide +kernel
theorem dX3_partHere_21 : decode cX3_partHere 21 = .ok (.ireturn, 1) := by decide +kernel
theorem dX3_partHere_22 : decode cX3_partHere 22 = .ok (.aload_n 0, 1) := by decide +kernel
theorem dX3_partHere_23 : decode cX3_partHere 23 = .ok (.ldc 142, 2) := by decide +kernel
theorem dX3_partHere_25 : decode cX3_partHere 25 = .ok (.invokevirtual 104, 3) := by decide +kernel
theorem dX3_partHere_28 : decode cX3_partHere 28 = .ok (.ifCond .eq 5, 3) := by decide +kernel
theorem dX3_partHere_31 : decode cX3_partHere 31 = .ok (.iconst 2, 1) := by decide +kernel
theorem dX3_partHere_32 : decode cX3_partHere 32 = .ok (.ireturn, 1) := by decide +kernel
theorem dX3_partHere_33 : decode cX3_partHere 33 = .ok (.aload_n 0, 1) := by decide +kernel
theorem dX3_partHere_34 : decode cX3_partHere 34 = .ok (.ldc 144, 2) := by decide +kernel
theorem dX3_partHere_36 : decode cX3_partHere 36 = .ok (.invokevirtual 104, 3) := by decide +kernel
theorem dX3_partHere_39 : decode cX3_partHere 39 = .ok (.ifCond .eq 7, 3) := by decide +kernel
theorem dX3_partHere_42 : decode cX3_partHere 42 = .ok (.iconst 3, 1) := by decide +kernel
theorem dX3_partHere_43 : decode cX3_partHere 43 = .ok (.goto 4, 3) := by decide +kernel
theorem dX3_partHere_46 : decode cX3_partHere 46 = .ok (.iconst (-1), 1) := by decide +kernel
theorem dX3_partHere_47 : decode cX3_partHere 47 = .ok (.ireturn, 1) := by decide +kernel
theorem dX3_readPart_0 : decode cX3_readPart 0 = .ok (.aload_n 0, 1) := by decide +kernel
theorem dX3_readPart_1 : decode cX3_readPart 1 = .ok (.invokevirtual 146, 3) := by decide +kernel
theorem dX3_readPart_4 : decode cX3_readPart 4 = .ok (.istore_n 1, 1) := by decide +kernel
theorem dX3_readPart_5 : decode cX3_readPart 5 = .ok (.iload_n 1, 1) := by decide +kernel
theorem dX3_readPart_6 : decode cX3_readPart 6 = .ok (.iconst (-1), 1) := by decide +kernel
theorem dX3_readPart_7 : decode cX3_readPart 7 = .ok (.if_icmp .ne 13, 3) := by decide +kernel
theorem dX3_readPart_10 : decode cX3_readPart 10 = .ok (.aload_n 0, 1) := by decide +kernel
theorem dX3_readPart_11 : decode cX3_readPart 11 = .ok (.iconst 1, 1) := by decide +kernel
theorem dX3_readPart_12 : decode cX3_readPart 12 = .ok (.aload_n 0, 1) := by decide +kernel
theorem dX3_readPart_13 : decode cX3_readPart 13 = .ok (.getfield 67, 3) := by decide +kernel
theorem dX3_readPart_16 : decode cX3_readPart 16 = .ok (.invokevirtual 110, 3) := by decide +kernel
theorem dX3_readPart_19 : decode cX3_readPart 19 = .ok (.ireturn, 1) := by decide +kernel
theorem dX3_readPart_20 : decode cX3_readPart 20 = .ok (.aload_n 0, 1) := by decide +kernel
theorem dX3_readPart_21 : decode cX3_readPart 21 = .ok (.getfield 26, 3) := by decide +kernel
theorem dX3_readPart_24 : decode cX3_readPart 24 = .ok (.iload_n 1, 1) := by decide +kernel
theorem dX3_readPart_25 : decode cX3_readPart 25 = .ok (.invokevirtual 149, 3) := by decide +kernel
theorem dX3_readPart_28 : decode cX3_readPart 28 = .ok (.ifCond .eq 13, 3) := by decide +kernel
theorem dX3_readPart_31 : decode cX3_readPart 31 = .ok (.aload_n 0, 1) := by decide +kernel
theorem dX3_readPart_32 : decode cX3_readPart 32 = .ok (.iconst 2, 1) := by decide +kernel
theorem dX3_readPart_33 : decode cX3_readPart 33 = .ok (.aload_n 0, 1) := by decide +kernel
theorem dX3_readPart_34 : decode cX3_readPart 34 = .ok (.getfield 67, 3) := by decide +kernel
theorem dX3_readPart_37 : decode cX3_readPart 37 = .ok (.invokevirtual 110, 3) := by decide +kernel
theorem dX3_readPart_40 : decode cX3_readPart 40 = .ok (.ireturn, 1) := by decide +kernel
theorem dX3_readPart_41 : decode cX3_readPart 41 = .ok (.aload_n 0, 1) := by decide +kernel
theorem dX3_readPart_42 : decode cX3_readPart 42 = .ok (.invokevirtual 48, 3) := by decide +kernel
theorem dX3_readPart_45 : decode cX3_readPart 45 = .ok (.aload_n 0, 1) := by decide +kernel
theorem dX3_readPart_46 : decode cX3_readPart 46 = .ok (.iload_n 1, 1) := by decide +kernel
theorem dX3_readPart_47 : decode cX3_readPart 47 = .ok (.invokevirtual 152, 3) := by decide +kernel
theorem dX3_readPart_50 : decode cX3_readPart 50 = .ok (.ifCond .ne 5, 3) := by decide +kernel
theorem dX3_readPart_53 : decode cX3_readPart 53 = .ok (.iconst 0, 1) := by decide +kernel
theorem dX3_readPart_54 : decode cX3_readPart 54 = .ok (.ireturn, 1) := by decide +kernel
theorem dX3_readPart_55 : decode cX3_readPart 55 = .ok (.aload_n 0, 1) := by decide +kernel
theorem dX3_readPart_56 : decode cX3_readPart 56 = .ok (.invokevirtual 48, 3) := by decide +kernel
theorem dX3_readPart_59 : decode cX3_readPart 59 = .ok (.iload_n 1, 1) := by decide +kernel
theorem dX3_readPart_60 : decode cX3_readPart 60 = .ok (.ifCond .ne 12, 3) := by decide +kernel
theorem dX3_readPart_63 : decode cX3_readPart 63 = .ok (.aload_n 0, 1) := by decide +kernel
theorem dX3_readPart_64 : decode cX3_readPart 64 = .ok (.ldc 155, 2) := by decide +kernel
theorem dX3_readPart_66 : decode cX3_readPart 66 = .ok (.invokevirtual 104, 3) := by decide +kernel
theorem dX3_readPart_69 : decode cX3_readPart 69 = .ok (.ifCond .ne 5, 3) := by decide +kernel
theorem dX3_readPart_72 : decode cX3_readPart 72 = .ok (.iconst 1, 1) := by decide +kernel
theorem dX3_readPart_73 : decode cX3_readPart 73 = .ok (.ireturn, 1) := by decide +kernel
theorem dX3_readPart_74 : decode cX3_readPart 74 = .ok (.aload_n 0, 1) := by decide +kernel
theorem dX3_readPart_75 : decode cX3_readPart 75 = .ok (.invokevirtual 48, 3) := by decide +kernel
theorem dX3_readPart_78 : decode cX3_readPart 78 = .ok (.aload_n 0, 1) := by decide +kernel
theorem dX3_readPart_79 : decode cX3_readPart 79 = .ok (.invokevirtual 157, 3) := by decide +kernel
theorem dX3_readPart_82 : decode cX3_readPart 82 = .ok (.ifCond .ne 5, 3) := by decide +kernel
theorem dX3_readPart_85 : decode cX3_readPart 85 = .ok (.iconst 0, 1) := by decide +kernel
theorem dX3_readPart_86 : decode cX3_readPart 86 = .ok (.ireturn, 1) := by decide +kernel
theorem dX3_readPart_87 : decode cX3_readPart 87 = .ok (.aload_n 0, 1) := by decide +kernel
theorem dX3_readPart_88 : decode cX3_readPart 88 = .ok (.invokevirtual 48, 3) := by decide +kernel
theorem dX3_readPart_91 : decode cX3_readPart 91 = .ok (.iconst 1, 1) := by decide +kernel
theorem dX3_readPart_92 : decode cX3_readPart 92 = .ok (.ireturn, 1) := by decide +kernel
theorem dX3_readNumber_0 : decode cX3_readNumber 0 = .ok (.aload_n 0, 1) := by decide +kernel
theorem dX3_readNumber_1 : decode cX3_readNumber 1 = .ok (.getfield 36, 3) := by decide +kernel
theorem dX3_readNumber_4 : decode cX3_readNumber 4 = .ok (.iconst 2, 1) := by decide +kernel
theorem dX3_readNumber_5 : decode cX3_readNumber 5 = .ok (.if_icmp .eq 13, 3) := by decide +kernel
theorem dX3_readNumber_8 : decode cX3_readNumber 8 = .ok (.aload_n 0, 1) := by decide +kernel
theorem dX3_readNumber_9 : decode cX3_readNumber 9 = .ok (.iconst 1, 1) := by decide +kernel
theorem dX3_readNumber_10 : decode cX3_readNumber 10 = .ok (.aload_n 0, 1) := by decide +kernel
theorem dX3_readNumber_11 : decode cX3_readNumber 11 = .ok (.getfield 67, 3) := by decide +kernel
theorem dX3_readNumber_14 : decode cX3_readNumber 14 = .ok (.invokevirtual 110, 3) := by decide +kernel
theorem dX3_readNumber_17 : decode cX3_readNumber 17 = .ok (.ireturn, 1) := by decide +kernel
theorem dX3_readNumber_18 : decode cX3_readNumber 18 = .ok (.aload_n 0, 1) := by decide +kernel
theorem dX3_readNumber_19 : decode cX3_readNumber 19 = .ok (.getfield 39, 3) := by decide +kernel
theorem dX3_readNumber_22 : decode cX3_readNumber 22 = .ok (.aload_n 0, 1) := by decide +kernel
theorem dX3_readNumber_23 : decode cX3_readNumber 23 = .ok (.getfield 67, 3) := by decide +kernel
theorem dX3_readNumber_26 : decode cX3_readNumber 26 = .ok (.isub, 1) := by decide +kernel
theorem dX3_readNumber_27 : decode cX3_readNumber 27 = .ok (.iconst 3, 1) := by decide +kernel
theorem dX3_readNumber_28 : decode cX3_readNumber 28 = .ok (.if_icmp .le 15, 3) := by decide +kernel
theorem dX3_readNumber_31 : decode cX3_readNumber 31 = .ok (.aload_n 0, 1) := by decide +kernel
theorem dX3_readNumber_32 : decode cX3_readNumber 32 = .ok (.iconst 1, 1) := by decide +kernel
theorem dX3_readNumber_33 : decode cX3_readNumber 33 = .ok (.aload_n 0, 1) := by decide +kernel
theorem dX3_readNumber_34 : decode cX3_readNumber 34 = .ok (.getfield 67, 3) := by decide +kernel
theorem dX3_readNumber_37 : decode cX3_readNumber 37 = .ok (.iconst 3, 1) := by decide +kernel
theorem dX3_readNumber_38 : decode cX3_readNumber 38 = .ok (.iadd, 1) := by decide +kernel
theorem dX3_readNumber_39 : decode cX3_readNumber 39 = .ok (.invokevirtual 110, 3) := by decide +kernel
theorem dX3_readNumber_42 : decode cX3_readNumber 42 = .ok (.ireturn, 1) := by decide +kernel
theorem dX3_readNumber_43 : decode cX3_readNumber 43 = .ok (.iconst 0, 1) := by decide +kernel
theorem dX3_readNumber_44 : decode cX3_readNumber 44 = .ok (.istore_n 2, 1) := by decide +kernel
theorem dX3_readNumber_45 : decode cX3_readNumber 45 = .ok (.aload_n 0, 1) := by decide +kernel
theorem dX3_readNumber_46 : decode cX3_readNumber 46 = .ok (.getfield 67, 3) := by decide +kernel
theorem dX3_readNumber_49 : decode cX3_readNumber 49 = .ok (.istore_n 3, 1) := by decide +kernel
theorem dX3_readNumber_50 : decode cX3_readNumber 50 = .ok (.iload_n 3, 1) := by decide +kernel
theorem dX3_readNumber_51 : decode cX3_readNumber 51 = .ok (.aload_n 0, 1) := by decide +kernel
theorem dX3_readNumber_52 : decode cX3_readNumber 52 = .ok (.getfield 39, 3) := by decide +kernel
theorem dX3_readNumber_55 : decode cX3_readNumber 55 = .ok (.if_icmp .ge 26, 3) := by decide +kernel
theorem dX3_readNumber_58 : decode cX3_readNumber 58 = .ok (.iload_n 2, 1) := by decide +kernel
theorem dX3_readNumber_59 : decode cX3_readNumber 59 = .ok (.bipush 10, 2) := by decide +kernel
theorem dX3_readNumber_61 : decode cX3_readNumber 61 = .ok (.imul, 1) := by decide +kernel
theorem dX3_readNumber_62 : decode cX3_readNumber 62 = .ok (.aload_n 0, 1) := by decide +kernel
theorem dX3_readNumber_63 : decode cX3_readNumber 63 = .ok (.getfield 9, 3) := by decide +kernel
theorem dX3_readNumber_66 : decode cX3_readNumber 66 = .ok (.iload_n 3, 1) := by decide +kernel
theorem dX3_readNumber_67 : decode cX3_readNumber 67 = .ok (.invokevirtual 76, 3) := by decide +kernel
theorem dX3_readNumber_70 : decode cX3_readNumber 70 = .ok (.iadd, 1) := by decide +kernel
theorem dX3_readNumber_71 : decode cX3_readNumber 71 = .ok (.bipush 48, 2) := by decide +kernel
theorem dX3_readNumber_73 : decode cX3_readNumber 73 = .ok (.isub, 1) := by decide +kernel
theorem dX3_readNumber_74 : decode cX3_readNumber 74 = .ok (.istore_n 2, 1) := by decide +kernel
theorem dX3_readNumber_75 : decode cX3_readNumber 75 = .ok (.iinc 3 1, 3) := by decide +kernel
theorem dX3_readNumber_78 : decode cX3_readNumber 78 = .ok (.goto (-28), 3) := by decide +kernel
theorem dX3_readNumber_81 : decode cX3_readNumber 81 = .ok (.iload_n 1, 1) := by decide +kernel
theorem dX3_readNumber_82 : decode cX3_readNumber 82 = .ok (.ifCond .lt 26, 3) := by decide +kernel
theorem dX3_readNumber_85 : decode cX3_readNumber 85 = .ok (.iload_n 1, 1) := by decide +kernel
theorem dX3_readNumber_86 : decode cX3_readNumber 86 = .ok (.iconst 4, 1) := by decide +kernel
theorem dX3_readNumber_87 : decode cX3_readNumber 87 = .ok (.if_icmp .ge 21, 3) := by decide +kernel
theorem dX3_readNumber_90 : decode cX3_readNumber 90 = .ok (.iload_n 2, 1) := by decide +kernel
theorem dX3_readNumber_91 : decode cX3_readNumber 91 = .ok (.getstatic 160, 3) := by decide +kernel
theorem dX3_readNumber_94 : decode cX3_readNumber 94 = .ok (.iload_n 1, 1) := by decide +kernel
theorem dX3_readNumber_95 : decode cX3_readNumber 95 = .ok (.iaload, 1) := by decide +kernel
theorem dX3_readNumber_96 : decode cX3_readNumber 96 = .ok (.if_icmp .lt 12, 3) := by decide +kernel
theorem dX3_readNumber_99 : decode cX3_readNumber 99 = .ok (.iload_n 2, 1) := by decide +kernel
theorem dX3_readNumber_100 : decode cX3_readNumber 100 = .ok (.getstatic 164, 3) := by decide +kernel
theorem dX3_readNumber_103 : decode cX3_readNumber 103 = .ok (.iload_n 1, 1) := by decide +kernel
theorem dX3_readNumber_104 : decode cX3_readNumber 104 = .ok (.iaload, 1) := by decide +kernel
theorem dX3_readNumber_105 : decode cX3_readNumber 105 = .ok (.if_icmp .le 13, 3) := by decide +kernel
theorem dX3_readNumber_108 : decode cX3_readNumber 108 = .ok (.aload_n 0, 1) := by decide +kernel
theorem dX3_readNumber_109 : decode cX3_readNumber 109 = .ok (.iconst 4, 1) := by decide +kernel
theorem dX3_readNumber_110 : decode cX3_readNumber 110 = .ok (.aload_n 0, 1) := by decide +kernel
theorem dX3_readNumber_111 : decode cX3_readNumber 111 = .ok (.getfield 67, 3) := by decide +kernel
theorem dX3_readNumber_114 : decode cX3_readNumber 114 = .ok (.invokevirtual 110, 3) := by decide +kernel
theorem dX3_readNumber_117 : decode cX3_readNumber 117 = .ok (.ireturn, 1) := by decide +kernel
theorem dX3_readNumber_118 : decode cX3_readNumber 118 = .ok (.aload_n 0, 1) := by decide +kernel
theorem dX3_readNumber_119 : decode cX3_readNumber 119 = .ok (.getfield 26, 3) := by decide +kernel
theorem dX3_readNumber_122 : decode cX3_readNumber 122 = .ok (.iload_n 1, 1) := by decide +kernel
theorem dX3_readNumber_123 : decode cX3_readNumber 123 = .ok (.iload_n 2, 1) := by decide +kernel
theorem dX3_readNumber_124 : decode cX3_readNumber 124 = .ok (.invokevirtual 167, 3) := by decide +kernel
theorem dX3_readNumber_127 : decode cX3_readNumber 127 = .ok (.iconst 1, 1) := by decide +kernel
theorem dX3_readNumber_128 : decode cX3_readNumber 128 = .ok (.ireturn, 1) := by decide +kernel
theorem dX3_readRuler_0 : decode cX3_readRuler 0 = .ok (.aload_n 0, 1) := by decide +kernel
theorem dX3_readRuler_1 : decode cX3_readRuler 1 = .ok (.getfield 9, 3) := by decide +kernel
theorem dX3_readRuler_4 : decode cX3_readRuler 4 = .ok (.aload_n 0, 1) := by decide +kernel
theorem dX3_readRuler_5 : decode cX3_readRuler 5 = .ok (.getfield 67, 3) := by decide +kernel
theorem dX3_readRuler_8 : decode cX3_readRuler 8 = .ok (.aload_n 0, 1) := by decide +kernel
theorem dX3_readRuler_9 : decode cX3_readRuler 9 = .ok (.getfield 39, 3) := by decide +kernel
theorem dX3_readRuler_12 : decode cX3_readRuler 12 = .ok (.invokevirtual 171, 3) := by decide +kernel
theorem dX3_readRuler_15 : decode cX3_readRuler 15 = .ok (.istore_n 1, 1) := by decide +kernel
theorem dX3_readRuler_16 : decode cX3_readRuler 16 = .ok (.aload_n 0, 1) := by decide +kernel
theorem dX3_readRuler_17 : decode cX3_readRuler 17 = .ok (.getfield 36, 3) := by decide +kernel
theorem dX3_readRuler_20 : decode cX3_readRuler 20 = .ok (.iconst 1, 1) := by decide +kernel
theorem dX3_readRuler_21 : decode cX3_readRuler 21 = .ok (.if_icmp .ne 8, 3) := by decide +kernel
theorem dX3_readRuler_24 : decode cX3_readRuler 24 = .ok (.iload_n 1, 1) := by decide +kernel
theorem dX3_readRuler_25 : decode cX3_readRuler 25 = .ok (.iconst (-1), 1) := by decide +kernel
theorem dX3_readRuler_26 : decode cX3_readRuler 26 = .ok (.if_icmp .ne 13, 3) := by decide +kernel
theorem dX3_readRuler_29 : decode cX3_readRuler 29 = .ok (.aload_n 0, 1) := by decide +kernel
theorem dX3_readRuler_30 : decode cX3_readRuler 30 = .ok (.iconst 1, 1) := by decide +kernel
theorem dX3_readRuler_31 : decode cX3_readRuler 31 = .ok (.aload_n 0, 1) := by decide +kernel
theorem dX3_readRuler_32 : decode cX3_readRuler 32 = .ok (.getfield 67, 3) := by decide +kernel
theorem dX3_readRuler_35 : decode cX3_readRuler 35 = .ok (.invokevirtual 110, 3) := by decide +kernel
theorem dX3_readRuler_38 : decode cX3_readRuler 38 = .ok (.ireturn, 1) := by decide +kernel
theorem dX3_readRuler_39 : decode cX3_readRuler 39 = .ok (.aload_n 0, 1) := by decide +kernel
theorem dX3_readRuler_40 : decode cX3_readRuler 40 = .ok (.aload_n 0, 1) := by decide +kernel
theorem dX3_readRuler_41 : decode cX3_readRuler 41 = .ok (.getfield 15, 3) := by decide +kernel
theorem dX3_readRuler_44 : decode cX3_readRuler 44 = .ok (.iload_n 1, 1) := by decide +kernel
theorem dX3_readRuler_45 : decode cX3_readRuler 45 = .ok (.invokevirtual 175, 3) := by decide +kernel
theorem dX3_readRuler_48 : decode cX3_readRuler 48 = .ok (.putfield 45, 3) := by decide +kernel
theorem dX3_readRuler_51 : decode cX3_readRuler 51 = .ok (.aload_n 0, 1) := by decide +kernel
theorem dX3_readRuler_52 : decode cX3_readRuler 52 = .ok (.aload_n 0, 1) := by decide +kernel
theorem dX3_readRuler_53 : decode cX3_readRuler 53 = .ok (.getfield 67, 3) := by decide +kernel
theorem dX3_readRuler_56 : decode cX3_readRuler 56 = .ok (.putfield 180, 3) := by decide +kernel
theorem dX3_readRuler_59 : decode cX3_readRuler 59 = .ok (.aload_n 0, 1) := by decide +kernel
theorem dX3_readRuler_60 : decode cX3_readRuler 60 = .ok (.getfield 45, 3) := by decide +kernel
theorem dX3_readRuler_63 : decode cX3_readRuler 63 = .ok (.iconst (-1), 1) := by decide +kernel
theorem dX3_readRuler_64 : decode cX3_readRuler 64 = .ok (.if_icmp .ne 13, 3) := by decide +kernel
theorem dX3_readRuler_67 : decode cX3_readRuler 67 = .ok (.aload_n 0, 1) := by decide +kernel
theorem dX3_readRuler_68 : decode cX3_readRuler 68 = .ok (.iconst 3, 1) := by decide +kernel
theorem dX3_readRuler_69 : decode cX3_readRuler 69 = .ok (.aload_n 0, 1) := by decide +kernel
theorem dX3_readRuler_70 : decode cX3_readRuler 70 = .ok (.getfield 67, 3) := by decide +kernel
theorem dX3_readRuler_73 : decode cX3_readRuler 73 = .ok (.invokevirtual 110, 3) := by decide +kernel
theorem dX3_readRuler_76 : decode cX3_readRuler 76 = .ok (.ireturn, 1) := by decide +kernel
theorem dX3_readRuler_77 : decode cX3_readRuler 77 = .ok (.iconst 1, 1) := by decide +kernel
theorem dX3_readRuler_78 : decode cX3_readRuler 78 = .ok (.ireturn, 1) := by decide +kernel
theorem dX3_readCalendar_0 : decode cX3_readCalendar 0 = .ok (.aload_n 0, 1) := by decide +kernel
theorem dX3_readCalendar_1 : decode cX3_readCalendar 1 = .ok (.invokevirtual 48, 3) := by decide +kernel
theorem dX3_readCalendar_4 : decode cX3_readCalendar 4 = .ok (.aload_n 0, 1) := by decide +kernel
theorem dX3_readCalendar_5 : decode cX3_readCalendar 5 = .ok (.ldc 183, 2) := by decide +kernel
theorem dX3_readCalendar_7 : decode cX3_readCalendar 7 = .ok (.invokevirtual 104, 3) := by decide +kernel
theorem dX3_readCalendar_10 : decode cX3_readCalendar 10 = .ok (.ifCond .eq 11, 3) := by decide +kernel
theorem dX3_readCalendar_13 : decode cX3_readCalendar 13 = .ok (.aload_n 0, 1) := by decide +kernel
theorem dX3_readCalendar_14 : decode cX3_readCalendar 14 = .ok (.iconst 0, 1) := by decide +kernel
theorem dX3_readCalendar_15 : decode cX3_readCalendar 15 = .ok (.putfield 42, 3) := by decide +kernel
theorem dX3_readCalendar_18 : decode cX3_readCalendar 18 = .ok (.goto 47, 3) := by decide +kernel
theorem dX3_readCalendar_21 : decode cX3_readCalendar 21 = .ok (.aload_n 0, 1) := by decide +kernel
theorem dX3_readCalendar_22 : decode cX3_readCalendar 22 = .ok (.ldc 187, 2) := by decide +kernel
theorem dX3_readCalendar_24 : decode cX3_readCalendar 24 = .ok (.invokevirtual 104, 3) := by decide +kernel
theorem dX3_readCalendar_27 : decode cX3_readCalendar 27 = .ok (.ifCond .eq 11, 3) := by decide +kernel
theorem dX3_readCalendar_30 : decode cX3_readCalendar 30 = .ok (.aload_n 0, 1) := by decide +kernel
theorem dX3_readCalendar_31 : decode cX3_readCalendar 31 = .ok (.iconst 1, 1) := by decide +kernel
theorem dX3_readCalendar_32 : decode cX3_readCalendar 32 = .ok (.putfield 42, 3) := by decide +kernel
theorem dX3_readCalendar_35 : decode cX3_readCalendar 35 = .ok (.goto 30, 3) := by decide +kernel
theorem dX3_readCalendar_38 : decode cX3_readCalendar 38 = .ok (.aload_n 0, 1) := by decide +kernel
theorem dX3_readCalendar_39 : decode cX3_readCalendar 39 = .ok (.ldc 189, 2) := by decide +kernel
theorem dX3_readCalendar_41 : decode cX3_readCalendar 41 = .ok (.invokevirtual 104, 3) := by decide +kernel
theorem dX3_readCalendar_44 : decode cX3_readCalendar 44 = .ok (.ifCond .eq 11, 3) := by decide +kernel
theorem dX3_readCalendar_47 : decode cX3_readCalendar 47 = .ok (.aload_n 0, 1) := by decide +kernel
theorem dX3_readCalendar_48 : decode cX3_readCalendar 48 = .ok (.iconst 2, 1) := by decide +kernel
theorem dX3_readCalendar_49 : decode cX3_readCalendar 49 = .ok (.putfield 42, 3) := by decide +kernel
theorem dX3_readCalendar_52 : decode cX3_readCalendar 52 = .ok (.goto 13, 3) := by decide +kernel
theorem dX3_readCalendar_55 : decode cX3_readCalendar 55 = .ok (.aload_n 0, 1) := by decide +kernel
theorem dX3_readCalendar_56 : decode cX3_readCalendar 56 = .ok (.iconst 1, 1) := by decide +kernel
theorem dX3_readCalendar_57 : decode cX3_readCalendar 57 = .ok (.aload_n 0, 1) := by decide +kernel
theorem dX3_readCalendar_58 : decode cX3_readCalendar 58 = .ok (.getfield 67, 3) := by decide +kernel
theorem dX3_readCalendar_61 : decode cX3_readCalendar 61 = .ok (.invokevirtual 110, 3) := by decide +kernel
theorem dX3_readCalendar_64 : decode cX3_readCalendar 64 = .ok (.ireturn, 1) := by decide +kernel
theorem dX3_readCalendar_65 : decode cX3_readCalendar 65 = .ok (.aload_n 0, 1) := by decide +kernel
theorem dX3_readCalendar_66 : decode cX3_readCalendar 66 = .ok (.getfield 26, 3) := by decide +kernel
theorem dX3_readCalendar_69 : decode cX3_readCalendar 69 = .ok (.aload_n 0, 1) := by decide +kernel
theorem dX3_readCalendar_70 : decode cX3_readCalendar 70 = .ok (.getfield 42, 3) := by decide +kernel
theorem dX3_readCalendar_73 : decode cX3_readCalendar 73 = .ok (.invokevirtual 191, 3) := by decide +kernel
theorem dX3_readCalendar_76 : decode cX3_readCalendar 76 = .ok (.iconst 1, 1) := by decide +kernel
theorem dX3_readCalendar_77 : decode cX3_readCalendar 77 = .ok (.ireturn, 1) := by decide +kernel
theorem dX3_readClose_0 : decode cX3_readClose 0 = .ok (.aload_n 0, 1) := by decide +kernel
theorem dX3_readClose_1 : decode cX3_readClose 1 = .ok (.invokevirtual 48, 3) := by decide +kernel
theorem dX3_readClose_4 : decode cX3_readClose 4 = .ok (.aload_n 0, 1) := by decide +kernel
theorem dX3_readClose_5 : decode cX3_readClose 5 = .ok (.getfield 9, 3) := by decide +kernel
theorem dX3_readClose_8 : decode cX3_readClose 8 = .ok (.aload_n 0, 1) := by decide +kernel
theorem dX3_readClose_9 : decode cX3_readClose 9 = .ok (.getfield 67, 3) := by decide +kernel
theorem dX3_readClose_12 : decode cX3_readClose 12 = .ok (.invokevirtual 76, 3) := by decide +kernel
theorem dX3_readClose_15 : decode cX3_readClose 15 = .ok (.bipush 59, 2) := by decide +kernel
theorem dX3_readClose_17 : decode cX3_readClose 17 = .ok (.if_icmp .eq 13, 3) := by decide +kernel
theorem dX3_readClose_20 : decode cX3_readClose 20 = .ok (.aload_n 0, 1) := by decide +kernel
theorem dX3_readClose_21 : decode cX3_readClose 21 = .ok (.iconst 1, 1) := by decide +kernel
theorem dX3_readClose_22 : decode cX3_readClose 22 = .ok (.aload_n 0, 1) := by decide +kernel
theorem dX3_readClose_23 : decode cX3_readClose 23 = .ok (.getfield 67, 3) := by decide +kernel
theorem dX3_readClose_26 : decode cX3_readClose 26 = .ok (.invokevirtual 110, 3) := by decide +kernel
theorem dX3_readClose_29 : decode cX3_readClose 29 = .ok (.ireturn, 1) := by decide +kernel
theorem dX3_readClose_30 : decode cX3_readClose 30 = .ok (.aload_n 0, 1) := by decide +kernel
theorem dX3_readClose_31 : decode cX3_readClose 31 = .ok (.invokevirtual 48, 3) := by decide +kernel
theorem dX3_readClose_34 : decode cX3_readClose 34 = .ok (.aload_n 0, 1) := by decide +kernel
theorem dX3_readClose_35 : decode cX3_readClose 35 = .ok (.getfield 36, 3) := by decide +kernel
theorem dX3_readClose_38 : decode cX3_readClose 38 = .ok (.ifCond .eq 15, 3) := by decide +kernel
theorem dX3_readClose_41 : decode cX3_readClose 41 = .ok (.aload_n 0, 1) := by decide +kernel
theorem dX3_readClose_42 : decode cX3_readClose 42 = .ok (.iconst 1, 1) := by decide +kernel
theorem dX3_readClose_43 : decode cX3_readClose 43 = .ok (.aload_n 0, 1) := by decide +kernel
theorem dX3_readClose_44 : decode cX3_readClose 44 = .ok (.getfield 67, 3) := by decide +kernel
theorem dX3_readClose_47 : decode cX3_readClose 47 = .ok (.invokevirtual 110, 3) := by decide +kernel
theorem dX3_readClose_50 : decode cX3_readClose 50 = .ok (.ifCond .eq 7, 3) := by decide +kernel
theorem dX3_readClose_53 : decode cX3_readClose 53 = .ok (.iconst 1, 1) := by decide +kernel
theorem dX3_readClose_54 : decode cX3_readClose 54 = .ok (.goto 4, 3) := by decide +kernel
theorem dX3_readClose_57 : decode cX3_readClose 57 = .ok (.iconst 0, 1) := by decide +kernel
theorem dX3_readClose_58 : decode cX3_readClose 58 = .ok (.ireturn, 1) := by decide +kernel
theorem dX3_joinRuler_0 : decode cX3_joinRuler 0 = .ok (.aload_n 0, 1) := by decide +kernel
theorem dX3_joinRuler_1 : decode cX3_joinRuler 1 = .ok (.getfield 45, 3) := by decide +kernel
theorem dX3_joinRuler_4 : decode cX3_joinRuler 4 = .ok (.iconst (-1), 1) := by decide +kernel
theorem dX3_joinRuler_5 : decode cX3_joinRuler 5 = .ok (.if_icmp .ne 5, 3) := by decide +kernel
theorem dX3_joinRuler_8 : decode cX3_joinRuler 8 = .ok (.iconst 1, 1) := by decide +kernel
theorem dX3_joinRuler_9 : decode cX3_joinRuler 9 = .ok (.ireturn, 1) := by decide +kernel
theorem dX3_joinRuler_10 : decode cX3_joinRuler 10 = .ok (.aload_n 0, 1) := by decide +kernel
theorem dX3_joinRuler_11 : decode cX3_joinRuler 11 = .ok (.getfield 15, 3) := by decide +kernel
theorem dX3_joinRuler_14 : decode cX3_joinRuler 14 = .ok (.aload_n 0, 1) := by decide +kernel
theorem dX3_joinRuler_15 : decode cX3_joinRuler 15 = .ok (.getfield 45, 3) := by decide +kernel
theorem dX3_joinRuler_18 : decode cX3_joinRuler 18 = .ok (.invokevirtual 194, 3) := by decide +kernel
theorem dX3_joinRuler_21 : decode cX3_joinRuler 21 = .ok (.aload_n 0, 1) := by decide +kernel
theorem dX3_joinRuler_22 : decode cX3_joinRuler 22 = .ok (.getfield 42, 3) := by decide +kernel
theorem dX3_joinRuler_25 : decode cX3_joinRuler 25 = .ok (.if_icmp .eq 13, 3) := by decide +kernel
theorem dX3_joinRuler_28 : decode cX3_joinRuler 28 = .ok (.aload_n 0, 1) := by decide +kernel
theorem dX3_joinRuler_29 : decode cX3_joinRuler 29 = .ok (.iconst 3, 1) := by decide +kernel
theorem dX3_joinRuler_30 : decode cX3_joinRuler 30 = .ok (.aload_n 0, 1) := by decide +kernel
theorem dX3_joinRuler_31 : decode cX3_joinRuler 31 = .ok (.getfield 180, 3) := by decide +kernel
theorem dX3_joinRuler_34 : decode cX3_joinRuler 34 = .ok (.invokevirtual 110, 3) := by decide +kernel
theorem dX3_joinRuler_37 : decode cX3_joinRuler 37 = .ok (.ireturn, 1) := by decide +kernel
theorem dX3_joinRuler_38 : decode cX3_joinRuler 38 = .ok (.aload_n 0, 1) := by decide +kernel
theorem dX3_joinRuler_39 : decode cX3_joinRuler 39 = .ok (.getfield 26, 3) := by decide +kernel
theorem dX3_joinRuler_42 : decode cX3_joinRuler 42 = .ok (.aload_n 0, 1) := by decide +kernel
theorem dX3_joinRuler_43 : decode cX3_joinRuler 43 = .ok (.getfield 15, 3) := by decide +kernel
theorem dX3_joinRuler_46 : decode cX3_joinRuler 46 = .ok (.aload_n 0, 1) := by decide +kernel
theorem dX3_joinRuler_47 : decode cX3_joinRuler 47 = .ok (.getfield 45, 3) := by decide +kernel
theorem dX3_joinRuler_50 : decode cX3_joinRuler 50 = .ok (.invokevirtual 197, 3) := by decide +kernel
theorem dX3_joinRuler_53 : decode cX3_joinRuler 53 = .ok (.iconst 1, 1) := by decide +kernel
theorem dX3_joinRuler_54 : decode cX3_joinRuler 54 = .ok (.isub, 1) := by decide +kernel
theorem dX3_joinRuler_55 : decode cX3_joinRuler 55 = .ok (.invokevirtual 200, 3) := by decide +kernel
theorem dX3_joinRuler_58 : decode cX3_joinRuler 58 = .ok (.iconst 1, 1) := by decide +kernel
theorem dX3_joinRuler_59 : decode cX3_joinRuler 59 = .ok (.ireturn, 1) := by decide +kernel
theorem dX4_init_0 : decode cX4_init 0 = .ok (.aload_n 0, 1) := by decide +kernel
theorem dX4_init_1 : decode cX4_init 1 = .ok (.invokespecial 3, 3) := by decide +kernel
theorem dX4_init_4 : decode cX4_init 4 = .ok (.aload_n 0, 1) := by decide +kernel
theorem dX4_init_5 : decode cX4_init 5 = .ok (.bipush 12, 2) := by decide +kernel
theorem dX4_init_7 : decode cX4_init 7 = .ok (.newarray .int, 2) := by decide +kernel
theorem dX4_init_9 : decode cX4_init 9 = .ok (.putfield 11, 3) := by decide +kernel
theorem dX4_init_12 : decode cX4_init 12 = .ok (.aload_n 0, 1) := by decide +kernel
theorem dX4_init_13 : decode cX4_init 13 = .ok (.bipush 12, 2) := by decide +kernel
theorem dX4_init_15 : decode cX4_init 15 = .ok (.newarray .int, 2) := by decide +kernel
theorem dX4_init_17 : decode cX4_init 17 = .ok (.putfield 15, 3) := by decide +kernel
theorem dX4_init_20 : decode cX4_init 20 = .ok (.aload_n 0, 1) := by decide +kernel
theorem dX4_init_21 : decode cX4_init 21 = .ok (.bipush 12, 2) := by decide +kernel
theorem dX4_init_23 : decode cX4_init 23 = .ok (.newarray .int, 2) := by decide +kernel
theorem dX4_init_25 : decode cX4_init 25 = .ok (.putfield 18, 3) := by decide +kernel
theorem dX4_init_28 : decode cX4_init 28 = .ok (.return_, 1) := by decide +kernel
theorem dX4_begin_0 : decode cX4_begin 0 = .ok (.iload_n 1, 1) := by decide +kernel
theorem dX4_begin_1 : decode cX4_begin 1 = .ok (.iconst (-1), 1) := by decide +kernel
theorem dX4_begin_2 : decode cX4_begin 2 = .ok (.if_icmp .eq 25, 3) := by decide +kernel
theorem dX4_begin_5 : decode cX4_begin 5 = .ok (.iload_n 2, 1) := by decide +kernel
theorem dX4_begin_6 : decode cX4_begin 6 = .ok (.invokestatic 21, 3) := by decide +kernel
theorem dX4_begin_9 : decode cX4_begin 9 = .ok (.ifCond .eq 18, 3) := by decide +kernel
theorem dX4_begin_12 : decode cX4_begin 12 = .ok (.iload_n 3, 1) := by decide +kernel
theorem dX4_begin_13 : decode cX4_begin 13 = .ok (.ifCond .lt 14, 3) := by decide +kernel
theorem dX4_begin_16 : decode cX4_begin 16 = .ok (.iload_n 3, 1) := by decide +kernel
theorem dX4_begin_17 : decode cX4_begin 17 = .ok (.sipush 600, 3) := by decide +kernel
theorem dX4_begin_20 : decode cX4_begin 20 = .ok (.if_icmp .gt 7, 3) := by decide +kernel
theorem dX4_begin_23 : decode cX4_begin 23 = .ok (.iconst 1, 1) := by decide +kernel
theorem dX4_begin_24 : decode cX4_begin 24 = .ok (.goto 4, 3) := by decide +kernel
theorem dX4_begin_27 : decode cX4_begin 27 = .ok (.iconst 0, 1) := by decide +kernel
theorem dX4_begin_28 : decode cX4_begin 28 = .ok (.istore 4, 2) := by decide +kernel
theorem dX4_begin_30 : decode cX4_begin 30 = .ok (.iload 4, 2) := by decide +kernel
theorem dX4_begin_32 : decode cX4_begin 32 = .ok (.ifCond .eq 21, 3) := by decide +kernel
theorem dX4_begin_35 : decode cX4_begin 35 = .ok (.aload_n 0, 1) := by decide +kernel
theorem dX4_begin_36 : decode cX4_begin 36 = .ok (.getfield 27, 3) := by decide +kernel
theorem dX4_begin_39 : decode cX4_begin 39 = .ok (.bipush 12, 2) := by decide +kernel
theorem dX4_begin_41 : decode cX4_begin 41 = .ok (.if_icmp .ge 12, 3) := by decide +kernel
theorem dX4_begin_44 : decode cX4_begin 44 = .ok (.aload_n 0, 1) := by decide +kernel
theorem dX4_begin_45 : decode cX4_begin 45 = .ok (.iload_n 1, 1) := by decide +kernel
theorem dX4_begin_46 : decode cX4_begin 46 = .ok (.invokevirtual 31, 3) := by decide +kernel
theorem dX4_begin_49 : decode cX4_begin 49 = .ok (.iconst (-1), 1) := by decide +kernel
theorem dX4_begin_50 : decode cX4_begin 50 = .ok (.if_icmp .eq 5, 3) := by decide +kernel
theorem dX4_begin_53 : decode cX4_begin 53 = .ok (.iconst (-1), 1) := by decide +kernel
theorem dX4_begin_54 : decode cX4_begin 54 = .ok (.ireturn, 1) := by decide +kernel
theorem dX4_begin_55 : decode cX4_begin 55 = .ok (.aload_n 0, 1) := by decide +kernel
theorem dX4_begin_56 : decode cX4_begin 56 = .ok (.getfield 11, 3) := by decide +kernel
theorem dX4_begin_59 : decode cX4_begin 59 = .ok (.aload_n 0, 1) := by decide +kernel
theorem dX4_begin_60 : decode cX4_begin 60 = .ok (.getfield 27, 3) := by decide +kernel
theorem dX4_begin_63 : decode cX4_begin 63 = .ok (.iload_n 1, 1) := by decide +kernel
theorem dX4_begin_64 : decode cX4_begin 64 = .ok (.iastore, 1) := by decide +kernel
theorem dX4_begin_65 : decode cX4_begin 65 = .ok (.aload_n 0, 1) := by decide +kernel
theorem dX4_begin_66 : decode cX4_begin 66 = .ok (.getfield 15, 3) := by decide +kernel
theorem dX4_begin_69 : decode cX4_begin 69 = .ok (.aload_n 0, 1) := by decide +kernel
theorem dX4_begin_70 : decode cX4_begin 70 = .ok (.getfield 27, 3) := by decide +kernel
theorem dX4_begin_73 : decode cX4_begin 73 = .ok (.iload_n 2, 1) := by decide +kernel
theorem dX4_begin_74 : decode cX4_begin 74 = .ok (.iastore, 1) := by decide +kernel
theorem dX4_begin_75 : decode cX4_begin 75 = .ok (.aload_n 0, 1) := by decide +kernel
theorem dX4_begin_76 : decode cX4_begin 76 = .ok (.getfield 18, 3) := by decide +kernel
theorem dX4_begin_79 : decode cX4_begin 79 = .ok (.aload_n 0, 1) := by decide +kernel
theorem dX4_begin_80 : decode cX4_begin 80 = .ok (.getfield 27, 3) := by decide +kernel
theorem dX4_begin_83 : decode cX4_begin 83 = .ok (.iload_n 3, 1) := by decide +kernel
theorem dX4_begin_84 : decode cX4_begin 84 = .ok (.iastore, 1) := by decide +kernel
theorem dX4_begin_85 : decode cX4_begin 85 = .ok (.aload_n 0, 1) := by decide +kernel
theorem dX4_begin_86 : decode cX4_begin 86 = .ok (.dup, 1) := by decide +kernel
theorem dX4_begin_87 : decode cX4_begin 87 = .ok (.getfield 27, 3) := by decide +kernel
theorem dX4_begin_90 : decode cX4_begin 90 = .ok (.iconst 1, 1) := by decide +kernel
theorem dX4_begin_91 : decode cX4_begin 91 = .ok (.iadd, 1) := by decide +kernel
theorem dX4_begin_92 : decode cX4_begin 92 = .ok (.putfield 27, 3) := by decide +kernel
theorem dX4_begin_95 : decode cX4_begin 95 = .ok (.aload_n 0, 1) := by decide +kernel
theorem dX4_begin_96 : decode cX4_begin 96 = .ok (.getfield 27, 3) := by decide +kernel
theorem dX4_begin_99 : decode cX4_begin 99 = .ok (.ireturn, 1) := by decide +kernel
theorem dX4_find_0 : decode cX4_find 0 = .ok (.iconst 0, 1) := by decide +kernel
theorem dX4_find_1 : decode cX4_find 1 = .ok (.istore_n 2, 1) := by decide +kernel
theorem dX4_find_2 : decode cX4_find 2 = .ok (.iload_n 2, 1) := by decide +kernel
theorem dX4_find_3 : decode cX4_find 3 = .ok (.aload_n 0, 1) := by decide +kernel
theorem dX4_find_4 : decode cX4_find 4 = .ok (.getfield 27, 3) := by decide +kernel
theorem dX4_find_7 : decode cX4_find 7 = .ok (.if_icmp .ge 21, 3) := by decide +kernel
theorem dX4_find_10 : decode cX4_find 10 = .ok (.aload_n 0, 1) := by decide +kernel
theorem dX4_find_11 : decode cX4_find 11 = .ok (.getfield 11, 3) := by decide +kernel
theorem dX4_find_14 : decode cX4_find 14 = .ok (.iload_n 2, 1) := by decide +kernel
theorem dX4_find_15 : decode cX4_find 15 = .ok (.iaload, 1) := by decide +kernel
theorem dX4_find_16 : decode cX4_find 16 = .ok (.iload_n 1, 1) := by decide +kernel
theorem dX4_find_17 : decode cX4_find 17 = .ok (.if_icmp .ne 5, 3) := by decide +kernel
theorem dX4_find_20 : decode cX4_find 20 = .ok (.iload_n 2, 1) := by decide +kernel
theorem dX4_find_21 : decode cX4_find 21 = .ok (.ireturn, 1) := by decide +kernel
theorem dX4_find_22 : decode cX4_find 22 = .ok (.iinc 2 1, 3) := by decide +kernel
theorem dX4_find_25 : decode cX4_find 25 = .ok (.goto (-23), 3) := by decide +kernel
theorem dX4_find_28 : decode cX4_find 28 = .ok (.iconst (-1), 1) := by decide +kernel
theorem dX4_find_29 : decode cX4_find 29 = .ok (.ireturn, 1) := by decide +kernel
theorem dX4_isThere_0 : decode cX4_isThere 0 = .ok (.iload_n 1, 1) := by decide +kernel
theorem dX4_isThere_1 : decode cX4_isThere 1 = .ok (.ifCond .lt 15, 3) := by decide +kernel
theorem dX4_isThere_4 : decode cX4_isThere 4 = .ok (.iload_n 1, 1) := by decide +kernel
theorem dX4_isThere_5 : decode cX4_isThere 5 = .ok (.aload_n 0, 1) := by decide +kernel
theorem dX4_isThere_6 : decode cX4_isThere 6 = .ok (.getfield 27, 3) := by decide +kernel
theorem dX4_isThere_9 : decode cX4_isThere 9 = .ok (.if_icmp .ge 7, 3) := by decide +kernel
theorem dX4_isThere_12 : decode cX4_isThere 12 = .ok (.iconst 1, 1) := by decide +kernel
theorem dX4_isThere_13 : decode cX4_isThere 13 = .ok (.goto 4, 3) := by decide +kernel
theorem dX4_isThere_16 : decode cX4_isThere 16 = .ok (.iconst 0, 1) := by decide +kernel
theorem dX4_isThere_17 : decode cX4_isThere 17 = .ok (.ireturn, 1) := by decide +kernel
theorem dX4_calendarOf_0 : decode cX4_calendarOf 0 = .ok (.aload_n 0, 1) := by decide +kernel
theorem dX4_calendarOf_1 : decode cX4_calendarOf 1 = .ok (.iload_n 1, 1) := by decide +kernel
