theorem dX0_init_0 : decode cX0_init 0 = .ok (.aload_n 0, 1) := by decide +kernel
theorem dX0_init_1 : decode cX0_init 1 = .ok (.invokespecial 3, 3) := by decide +kernel
theorem dX0_init_4 : decode cX0_init 4 = .ok (.aload_n 0, 1) := by decide +kernel
theorem dX0_init_5 : decode cX0_init 5 = .ok (.sipush 264, 3) := by decide +kernel
theorem dX0_init_8 : decode cX0_init 8 = .ok (.newarray .long, 2) := by decide +kernel
theorem dX0_init_10 : decode cX0_init 10 = .ok (.putfield 9, 3) := by decide +kernel
theorem dX0_init_13 : decode cX0_init 13 = .ok (.aload_n 0, 1) := by decide +kernel
theorem dX0_init_14 : decode cX0_init 14 = .ok (.sipush 264, 3) := by decide +kernel
theorem dX0_init_17 : decode cX0_init 17 = .ok (.newarray .long, 2) := by decide +kernel
theorem dX0_init_19 : decode cX0_init 19 = .ok (.putfield 15, 3) := by decide +kernel
theorem dX0_init_22 : decode cX0_init 22 = .ok (.aload_n 0, 1) := by decide +kernel
theorem dX0_init_23 : decode cX0_init 23 = .ok (.sipush 264, 3) := by decide +kernel
theorem dX0_init_26 : decode cX0_init 26 = .ok (.newarray .int, 2) := by decide +kernel
theorem dX0_init_28 : decode cX0_init 28 = .ok (.putfield 18, 3) := by decide +kernel
theorem dX0_init_31 : decode cX0_init 31 = .ok (.aload_n 0, 1) := by decide +kernel
theorem dX0_init_32 : decode cX0_init 32 = .ok (.bipush 44, 2) := by decide +kernel
theorem dX0_init_34 : decode cX0_init 34 = .ok (.newarray .int, 2) := by decide +kernel
theorem dX0_init_36 : decode cX0_init 36 = .ok (.putfield 22, 3) := by decide +kernel
theorem dX0_init_39 : decode cX0_init 39 = .ok (.aload_n 0, 1) := by decide +kernel
theorem dX0_init_40 : decode cX0_init 40 = .ok (.new 25, 3) := by decide +kernel
theorem dX0_init_43 : decode cX0_init 43 = .ok (.dup, 1) := by decide +kernel
theorem dX0_init_44 : decode cX0_init 44 = .ok (.invokespecial 27, 3) := by decide +kernel
theorem dX0_init_47 : decode cX0_init 47 = .ok (.putfield 28, 3) := by decide +kernel
theorem dX0_init_50 : decode cX0_init 50 = .ok (.return_, 1) := by decide +kernel
theorem dX0_has_0 : decode cX0_has 0 = .ok (.iload_n 1, 1) := by decide +kernel
theorem dX0_has_1 : decode cX0_has 1 = .ok (.ifCond .lt 15, 3) := by decide +kernel
theorem dX0_has_4 : decode cX0_has 4 = .ok (.iload_n 1, 1) := by decide +kernel
theorem dX0_has_5 : decode cX0_has 5 = .ok (.aload_n 0, 1) := by decide +kernel
theorem dX0_has_6 : decode cX0_has 6 = .ok (.getfield 32, 3) := by decide +kernel
theorem dX0_has_9 : decode cX0_has 9 = .ok (.if_icmp .ge 7, 3) := by decide +kernel
theorem dX0_has_12 : decode cX0_has 12 = .ok (.iconst 1, 1) := by decide +kernel
theorem dX0_has_13 : decode cX0_has 13 = .ok (.goto 4, 3) := by decide +kernel
theorem dX0_has_16 : decode cX0_has 16 = .ok (.iconst 0, 1) := by decide +kernel
theorem dX0_has_17 : decode cX0_has 17 = .ok (.ireturn, 1) := by decide +kernel
theorem dX0_told_0 : decode cX0_told 0 = .ok (.aload_n 0, 1) := by decide +kernel
theorem dX0_told_1 : decode cX0_told 1 = .ok (.iload_n 1, 1) := by decide +kernel
theorem dX0_told_2 : decode cX0_told 2 = .ok (.invokevirtual 36, 3) := by decide +kernel
theorem dX0_told_5 : decode cX0_told 5 = .ok (.ifCond .ne 7, 3) := by decide +kernel
theorem dX0_told_8 : decode cX0_told 8 = .ok (.ldc2_w 40, 3) := by decide +kernel
theorem dX0_told_11 : decode cX0_told 11 = .ok (.lreturn, 1) := by decide +kernel
theorem dX0_told_12 : decode cX0_told 12 = .ok (.iload_n 2, 1) := by decide +kernel
theorem dX0_told_13 : decode cX0_told 13 = .ok (.ifCond .ne 12, 3) := by decide +kernel
theorem dX0_told_16 : decode cX0_told 16 = .ok (.aload_n 0, 1) := by decide +kernel
theorem dX0_told_17 : decode cX0_told 17 = .ok (.getfield 9, 3) := by decide +kernel
theorem dX0_told_20 : decode cX0_told 20 = .ok (.iload_n 1, 1) := by decide +kernel
theorem dX0_told_21 : decode cX0_told 21 = .ok (.laload, 1) := by decide +kernel
theorem dX0_told_22 : decode cX0_told 22 = .ok (.goto 9, 3) := by decide +kernel
theorem dX0_told_25 : decode cX0_told 25 = .ok (.aload_n 0, 1) := by decide +kernel
theorem dX0_told_26 : decode cX0_told 26 = .ok (.getfield 15, 3) := by decide +kernel
theorem dX0_told_29 : decode cX0_told 29 = .ok (.iload_n 1, 1) := by decide +kernel
theorem dX0_told_30 : decode cX0_told 30 = .ok (.laload, 1) := by decide +kernel
theorem dX0_told_31 : decode cX0_told 31 = .ok (.lreturn, 1) := by decide +kernel
theorem dX0_fill_0 : decode cX0_fill 0 = .ok (.aload_n 0, 1) := by decide +kernel
theorem dX0_fill_1 : decode cX0_fill 1 = .ok (.iconst 0, 1) := by decide +kernel
theorem dX0_fill_2 : decode cX0_fill 2 = .ok (.putfield 32, 3) := by decide +kernel
theorem dX0_fill_5 : decode cX0_fill 5 = .ok (.aload_n 0, 1) := by decide +kernel
theorem dX0_fill_6 : decode cX0_fill 6 = .ok (.iconst 0, 1) := by decide +kernel
theorem dX0_fill_7 : decode cX0_fill 7 = .ok (.putfield 42, 3) := by decide +kernel
theorem dX0_fill_10 : decode cX0_fill 10 = .ok (.aload_n 0, 1) := by decide +kernel
theorem dX0_fill_11 : decode cX0_fill 11 = .ok (.aload_n 1, 1) := by decide +kernel
theorem dX0_fill_12 : decode cX0_fill 12 = .ok (.iconst 0, 1) := by decide +kernel
theorem dX0_fill_13 : decode cX0_fill 13 = .ok (.lconst 1, 1) := by decide +kernel
theorem dX0_fill_14 : decode cX0_fill 14 = .ok (.lconst 1, 1) := by decide +kernel
theorem dX0_fill_15 : decode cX0_fill 15 = .ok (.invokestatic 45, 3) := by decide +kernel
theorem dX0_fill_18 : decode cX0_fill 18 = .ok (.aload_n 0, 1) := by decide +kernel
theorem dX0_fill_19 : decode cX0_fill 19 = .ok (.invokevirtual 49, 3) := by decide +kernel
theorem dX0_fill_22 : decode cX0_fill 22 = .ok (.return_, 1) := by decide +kernel
theorem dX0_spread_0 : decode cX0_spread 0 = .ok (.iload_n 2, 1) := by decide +kernel
theorem dX0_spread_1 : decode cX0_spread 1 = .ok (.aload_n 1, 1) := by decide +kernel
theorem dX0_spread_2 : decode cX0_spread 2 = .ok (.getfield 52, 3) := by decide +kernel
theorem dX0_spread_5 : decode cX0_spread 5 = .ok (.if_icmp .lt 12, 3) := by decide +kernel
theorem dX0_spread_8 : decode cX0_spread 8 = .ok (.aload_n 0, 1) := by decide +kernel
theorem dX0_spread_9 : decode cX0_spread 9 = .ok (.aload_n 1, 1) := by decide +kernel
theorem dX0_spread_10 : decode cX0_spread 10 = .ok (.lload_n 3, 1) := by decide +kernel
theorem dX0_spread_11 : decode cX0_spread 11 = .ok (.lload 5, 2) := by decide +kernel
theorem dX0_spread_13 : decode cX0_spread 13 = .ok (.invokevirtual 55, 3) := by decide +kernel
theorem dX0_spread_16 : decode cX0_spread 16 = .ok (.return_, 1) := by decide +kernel
theorem dX0_spread_17 : decode cX0_spread 17 = .ok (.aload_n 1, 1) := by decide +kernel
theorem dX0_spread_18 : decode cX0_spread 18 = .ok (.getfield 59, 3) := by decide +kernel
theorem dX0_spread_21 : decode cX0_spread 21 = .ok (.iload_n 2, 1) := by decide +kernel
theorem dX0_spread_22 : decode cX0_spread 22 = .ok (.iaload, 1) := by decide +kernel
theorem dX0_spread_23 : decode cX0_spread 23 = .ok (.istore 7, 2) := by decide +kernel
theorem dX0_spread_25 : decode cX0_spread 25 = .ok (.lload_n 3, 1) := by decide +kernel
theorem dX0_spread_26 : decode cX0_spread 26 = .ok (.lstore 8, 2) := by decide +kernel
theorem dX0_spread_28 : decode cX0_spread 28 = .ok (.aload_n 0, 1) := by decide +kernel
theorem dX0_spread_29 : decode cX0_spread 29 = .ok (.aload_n 1, 1) := by decide +kernel
theorem dX0_spread_30 : decode cX0_spread 30 = .ok (.iload_n 2, 1) := by decide +kernel
theorem dX0_spread_31 : decode cX0_spread 31 = .ok (.iconst 1, 1) := by decide +kernel
theorem dX0_spread_32 : decode cX0_spread 32 = .ok (.iadd, 1) := by decide +kernel
theorem dX0_spread_33 : decode cX0_spread 33 = .ok (.lload_n 3, 1) := by decide +kernel
theorem dX0_spread_34 : decode cX0_spread 34 = .ok (.lload 5, 2) := by decide +kernel
theorem dX0_spread_36 : decode cX0_spread 36 = .ok (.invokestatic 45, 3) := by decide +kernel
theorem dX0_spread_39 : decode cX0_spread 39 = .ok (.lload 5, 2) := by decide +kernel
theorem dX0_spread_41 : decode cX0_spread 41 = .ok (.lstore 10, 2) := by decide +kernel
theorem dX0_spread_43 : decode cX0_spread 43 = .ok (.iconst 1, 1) := by decide +kernel
theorem dX0_spread_44 : decode cX0_spread 44 = .ok (.istore 12, 2) := by decide +kernel
theorem dX0_spread_46 : decode cX0_spread 46 = .ok (.iload 12, 2) := by decide +kernel
theorem dX0_spread_48 : decode cX0_spread 48 = .ok (.aload_n 1, 1) := by decide +kernel
theorem dX0_spread_49 : decode cX0_spread 49 = .ok (.getfield 62, 3) := by decide +kernel
theorem dX0_spread_52 : decode cX0_spread 52 = .ok (.iload_n 2, 1) := by decide +kernel
theorem dX0_spread_53 : decode cX0_spread 53 = .ok (.iaload, 1) := by decide +kernel
theorem dX0_spread_54 : decode cX0_spread 54 = .ok (.if_icmp .gt 48, 3) := by decide +kernel
theorem dX0_spread_57 : decode cX0_spread 57 = .ok (.lload 8, 2) := by decide +kernel
theorem dX0_spread_59 : decode cX0_spread 59 = .ok (.iload 7, 2) := by decide +kernel
theorem dX0_spread_61 : decode cX0_spread 61 = .ok (.i2l, 1) := by decide +kernel
theorem dX0_spread_62 : decode cX0_spread 62 = .ok (.lmul, 1) := by decide +kernel
theorem dX0_spread_63 : decode cX0_spread 63 = .ok (.lstore 8, 2) := by decide +kernel
theorem dX0_spread_65 : decode cX0_spread 65 = .ok (.lload 10, 2) := by decide +kernel
theorem dX0_spread_67 : decode cX0_spread 67 = .ok (.iload 7, 2) := by decide +kernel
theorem dX0_spread_69 : decode cX0_spread 69 = .ok (.i2l, 1) := by decide +kernel
theorem dX0_spread_70 : decode cX0_spread 70 = .ok (.lmul, 1) := by decide +kernel
theorem dX0_spread_71 : decode cX0_spread 71 = .ok (.lstore 10, 2) := by decide +kernel
theorem dX0_spread_73 : decode cX0_spread 73 = .ok (.aload_n 0, 1) := by decide +kernel
theorem dX0_spread_74 : decode cX0_spread 74 = .ok (.aload_n 1, 1) := by decide +kernel
theorem dX0_spread_75 : decode cX0_spread 75 = .ok (.iload_n 2, 1) := by decide +kernel
theorem dX0_spread_76 : decode cX0_spread 76 = .ok (.iconst 1, 1) := by decide +kernel
theorem dX0_spread_77 : decode cX0_spread 77 = .ok (.iadd, 1) := by decide +kernel
theorem dX0_spread_78 : decode cX0_spread 78 = .ok (.lload 8, 2) := by decide +kernel
theorem dX0_spread_80 : decode cX0_spread 80 = .ok (.lload 5, 2) := by decide +kernel
theorem dX0_spread_82 : decode cX0_spread 82 = .ok (.invokestatic 45, 3) := by decide +kernel
theorem dX0_spread_85 : decode cX0_spread 85 = .ok (.aload_n 0, 1) := by decide +kernel
theorem dX0_spread_86 : decode cX0_spread 86 = .ok (.aload_n 1, 1) := by decide +kernel
theorem dX0_spread_87 : decode cX0_spread 87 = .ok (.iload_n 2, 1) := by decide +kernel
theorem dX0_spread_88 : decode cX0_spread 88 = .ok (.iconst 1, 1) := by decide +kernel
theorem dX0_spread_89 : decode cX0_spread 89 = .ok (.iadd, 1) := by decide +kernel
theorem dX0_spread_90 : decode cX0_spread 90 = .ok (.lload_n 3, 1) := by decide +kernel
theorem dX0_spread_91 : decode cX0_spread 91 = .ok (.lload 10, 2) := by decide +kernel
theorem dX0_spread_93 : decode cX0_spread 93 = .ok (.invokestatic 45, 3) := by decide +kernel
theorem dX0_spread_96 : decode cX0_spread 96 = .ok (.iinc 12 1, 3) := by decide +kernel
theorem dX0_spread_99 : decode cX0_spread 99 = .ok (.goto (-53), 3) := by decide +kernel
theorem dX0_spread_102 : decode cX0_spread 102 = .ok (.return_, 1) := by decide +kernel
theorem dX0_tryGroupOf_0 : decode cX0_tryGroupOf 0 = .ok (.ldc2_w 65, 3) := by decide +kernel
theorem dX0_tryGroupOf_3 : decode cX0_tryGroupOf 3 = .ok (.lload_n 2, 1) := by decide +kernel
theorem dX0_tryGroupOf_4 : decode cX0_tryGroupOf 4 = .ok (.lmul, 1) := by decide +kernel
theorem dX0_tryGroupOf_5 : decode cX0_tryGroupOf 5 = .ok (.lload 4, 2) := by decide +kernel
theorem dX0_tryGroupOf_7 : decode cX0_tryGroupOf 7 = .ok (.lcmp, 1) := by decide +kernel
theorem dX0_tryGroupOf_8 : decode cX0_tryGroupOf 8 = .ok (.ifCond .gt 23, 3) := by decide +kernel
theorem dX0_tryGroupOf_11 : decode cX0_tryGroupOf 11 = .ok (.aload_n 1, 1) := by decide +kernel
theorem dX0_tryGroupOf_12 : decode cX0_tryGroupOf 12 = .ok (.lload 4, 2) := by decide +kernel
theorem dX0_tryGroupOf_14 : decode cX0_tryGroupOf 14 = .ok (.lload_n 2, 1) := by decide +kernel
theorem dX0_tryGroupOf_15 : decode cX0_tryGroupOf 15 = .ok (.lsub, 1) := by decide +kernel
theorem dX0_tryGroupOf_16 : decode cX0_tryGroupOf 16 = .ok (.invokevirtual 67, 3) := by decide +kernel
theorem dX0_tryGroupOf_19 : decode cX0_tryGroupOf 19 = .ok (.ifCond .eq 12, 3) := by decide +kernel
theorem dX0_tryGroupOf_22 : decode cX0_tryGroupOf 22 = .ok (.aload_n 0, 1) := by decide +kernel
theorem dX0_tryGroupOf_23 : decode cX0_tryGroupOf 23 = .ok (.getfield 42, 3) := by decide +kernel
theorem dX0_tryGroupOf_26 : decode cX0_tryGroupOf 26 = .ok (.bipush 44, 2) := by decide +kernel
theorem dX0_tryGroupOf_28 : decode cX0_tryGroupOf 28 = .ok (.if_icmp .lt 4, 3) := by decide +kernel
theorem dX0_tryGroupOf_31 : decode cX0_tryGroupOf 31 = .ok (.return_, 1) := by decide +kernel
theorem dX0_tryGroupOf_32 : decode cX0_tryGroupOf 32 = .ok (.aload_n 0, 1) := by decide +kernel
theorem dX0_tryGroupOf_33 : decode cX0_tryGroupOf 33 = .ok (.getfield 28, 3) := by decide +kernel
theorem dX0_tryGroupOf_36 : decode cX0_tryGroupOf 36 = .ok (.lload_n 2, 1) := by decide +kernel
theorem dX0_tryGroupOf_37 : decode cX0_tryGroupOf 37 = .ok (.lload 4, 2) := by decide +kernel
theorem dX0_tryGroupOf_39 : decode cX0_tryGroupOf 39 = .ok (.invokevirtual 71, 3) := by decide +kernel
theorem dX0_tryGroupOf_42 : decode cX0_tryGroupOf 42 = .ok (.iconst 0, 1) := by decide +kernel
theorem dX0_tryGroupOf_43 : decode cX0_tryGroupOf 43 = .ok (.istore 6, 2) := by decide +kernel
theorem dX0_tryGroupOf_45 : decode cX0_tryGroupOf 45 = .ok (.iload 6, 2) := by decide +kernel
theorem dX0_tryGroupOf_47 : decode cX0_tryGroupOf 47 = .ok (.bipush 6, 2) := by decide +kernel
theorem dX0_tryGroupOf_49 : decode cX0_tryGroupOf 49 = .ok (.if_icmp .ge 35, 3) := by decide +kernel
theorem dX0_tryGroupOf_52 : decode cX0_tryGroupOf 52 = .ok (.aload_n 0, 1) := by decide +kernel
theorem dX0_tryGroupOf_53 : decode cX0_tryGroupOf 53 = .ok (.aload_n 0, 1) := by decide +kernel
theorem dX0_tryGroupOf_54 : decode cX0_tryGroupOf 54 = .ok (.getfield 28, 3) := by decide +kernel
theorem dX0_tryGroupOf_57 : decode cX0_tryGroupOf 57 = .ok (.iload 6, 2) := by decide +kernel
theorem dX0_tryGroupOf_59 : decode cX0_tryGroupOf 59 = .ok (.invokevirtual 75, 3) := by decide +kernel
theorem dX0_tryGroupOf_62 : decode cX0_tryGroupOf 62 = .ok (.aload_n 0, 1) := by decide +kernel
theorem dX0_tryGroupOf_63 : decode cX0_tryGroupOf 63 = .ok (.getfield 28, 3) := by decide +kernel
theorem dX0_tryGroupOf_66 : decode cX0_tryGroupOf 66 = .ok (.iload 6, 2) := by decide +kernel
theorem dX0_tryGroupOf_68 : decode cX0_tryGroupOf 68 = .ok (.invokevirtual 79, 3) := by decide +kernel
theorem dX0_tryGroupOf_71 : decode cX0_tryGroupOf 71 = .ok (.aload_n 0, 1) := by decide +kernel
theorem dX0_tryGroupOf_72 : decode cX0_tryGroupOf 72 = .ok (.getfield 42, 3) := by decide +kernel
theorem dX0_tryGroupOf_75 : decode cX0_tryGroupOf 75 = .ok (.invokevirtual 82, 3) := by decide +kernel
theorem dX0_tryGroupOf_78 : decode cX0_tryGroupOf 78 = .ok (.iinc 6 1, 3) := by decide +kernel
theorem dX0_tryGroupOf_81 : decode cX0_tryGroupOf 81 = .ok (.goto (-36), 3) := by decide +kernel
theorem dX0_tryGroupOf_84 : decode cX0_tryGroupOf 84 = .ok (.aload_n 0, 1) := by decide +kernel
theorem dX0_tryGroupOf_85 : decode cX0_tryGroupOf 85 = .ok (.dup, 1) := by decide +kernel
theorem dX0_tryGroupOf_86 : decode cX0_tryGroupOf 86 = .ok (.getfield 42, 3) := by decide +kernel
theorem dX0_tryGroupOf_89 : decode cX0_tryGroupOf 89 = .ok (.iconst 1, 1) := by decide +kernel
theorem dX0_tryGroupOf_90 : decode cX0_tryGroupOf 90 = .ok (.iadd, 1) := by decide +kernel
theorem dX0_tryGroupOf_91 : decode cX0_tryGroupOf 91 = .ok (.putfield 42, 3) := by decide +kernel
theorem dX0_tryGroupOf_94 : decode cX0_tryGroupOf 94 = .ok (.return_, 1) := by decide +kernel
theorem dX0_insert_0 : decode cX0_insert 0 = .ok (.aload_n 0, 1) := by decide +kernel
theorem dX0_insert_1 : decode cX0_insert 1 = .ok (.lload_n 1, 1) := by decide +kernel
theorem dX0_insert_2 : decode cX0_insert 2 = .ok (.lload_n 3, 1) := by decide +kernel
theorem dX0_insert_3 : decode cX0_insert 3 = .ok (.invokevirtual 86, 3) := by decide +kernel
theorem dX0_insert_6 : decode cX0_insert 6 = .ok (.istore 6, 2) := by decide +kernel
theorem dX0_insert_8 : decode cX0_insert 8 = .ok (.aload_n 0, 1) := by decide +kernel
theorem dX0_insert_9 : decode cX0_insert 9 = .ok (.getfield 32, 3) := by decide +kernel
theorem dX0_insert_12 : decode cX0_insert 12 = .ok (.sipush 264, 3) := by decide +kernel
theorem dX0_insert_15 : decode cX0_insert 15 = .ok (.if_icmp .ge 14, 3) := by decide +kernel
theorem dX0_insert_18 : decode cX0_insert 18 = .ok (.aload_n 0, 1) := by decide +kernel
theorem dX0_insert_19 : decode cX0_insert 19 = .ok (.iload 6, 2) := by decide +kernel
theorem dX0_insert_21 : decode cX0_insert 21 = .ok (.lload_n 1, 1) := by decide +kernel
theorem dX0_insert_22 : decode cX0_insert 22 = .ok (.lload_n 3, 1) := by decide +kernel
theorem dX0_insert_23 : decode cX0_insert 23 = .ok (.invokevirtual 90, 3) := by decide +kernel
theorem dX0_insert_26 : decode cX0_insert 26 = .ok (.ifCond .eq 4, 3) := by decide +kernel
theorem dX0_insert_29 : decode cX0_insert 29 = .ok (.return_, 1) := by decide +kernel
theorem dX0_insert_30 : decode cX0_insert 30 = .ok (.aload_n 0, 1) := by decide +kernel
theorem dX0_insert_31 : decode cX0_insert 31 = .ok (.getfield 9, 3) := by decide +kernel
theorem dX0_insert_34 : decode cX0_insert 34 = .ok (.iload 6, 2) := by decide +kernel
theorem dX0_insert_36 : decode cX0_insert 36 = .ok (.aload_n 0, 1) := by decide +kernel
theorem dX0_insert_37 : decode cX0_insert 37 = .ok (.getfield 9, 3) := by decide +kernel
theorem dX0_insert_40 : decode cX0_insert 40 = .ok (.iload 6, 2) := by decide +kernel
theorem dX0_insert_42 : decode cX0_insert 42 = .ok (.iconst 1, 1) := by decide +kernel
theorem dX0_insert_43 : decode cX0_insert 43 = .ok (.iadd, 1) := by decide +kernel
theorem dX0_insert_44 : decode cX0_insert 44 = .ok (.aload_n 0, 1) := by decide +kernel
theorem dX0_insert_45 : decode cX0_insert 45 = .ok (.getfield 32, 3) := by decide +kernel
theorem dX0_insert_48 : decode cX0_insert 48 = .ok (.iload 6, 2) := by decide +kernel
theorem dX0_insert_50 : decode cX0_insert 50 = .ok (.isub, 1) := by decide +kernel
theorem dX0_insert_51 : decode cX0_insert 51 = .ok (.invokestatic 94, 3) := by decide +kernel
theorem dX0_insert_54 : decode cX0_insert 54 = .ok (.aload_n 0, 1) := by decide +kernel
theorem dX0_insert_55 : decode cX0_insert 55 = .ok (.getfield 15, 3) := by decide +kernel
theorem dX0_insert_58 : decode cX0_insert 58 = .ok (.iload 6, 2) := by decide +kernel
theorem dX0_insert_60 : decode cX0_insert 60 = .ok (.aload_n 0, 1) := by decide +kernel
theorem dX0_insert_61 : decode cX0_insert 61 = .ok (.getfield 15, 3) := by decide +kernel
theorem dX0_insert_64 : decode cX0_insert 64 = .ok (.iload 6, 2) := by decide +kernel
theorem dX0_insert_66 : decode cX0_insert 66 = .ok (.iconst 1, 1) := by decide +kernel
theorem dX0_insert_67 : decode cX0_insert 67 = .ok (.iadd, 1) := by decide +kernel
theorem dX0_insert_68 : decode cX0_insert 68 = .ok (.aload_n 0, 1) := by decide +kernel
theorem dX0_insert_69 : decode cX0_insert 69 = .ok (.getfield 32, 3) := by decide +kernel
theorem dX0_insert_72 : decode cX0_insert 72 = .ok (.iload 6, 2) := by decide +kernel
theorem dX0_insert_74 : decode cX0_insert 74 = .ok (.isub, 1) := by decide +kernel
theorem dX0_insert_75 : decode cX0_insert 75 = .ok (.invokestatic 94, 3) := by decide +kernel
theorem dX0_insert_78 : decode cX0_insert 78 = .ok (.aload_n 0, 1) := by decide +kernel
theorem dX0_insert_79 : decode cX0_insert 79 = .ok (.getfield 18, 3) := by decide +kernel
theorem dX0_insert_82 : decode cX0_insert 82 = .ok (.iload 6, 2) := by decide +kernel
theorem dX0_insert_84 : decode cX0_insert 84 = .ok (.aload_n 0, 1) := by decide +kernel
theorem dX0_insert_85 : decode cX0_insert 85 = .ok (.getfield 18, 3) := by decide +kernel
theorem dX0_insert_88 : decode cX0_insert 88 = .ok (.iload 6, 2) := by decide +kernel
theorem dX0_insert_90 : decode cX0_insert 90 = .ok (.iconst 1, 1) := by decide +kernel
theorem dX0_insert_91 : decode cX0_insert 91 = .ok (.iadd, 1) := by decide +kernel
theorem dX0_insert_92 : decode cX0_insert 92 = .ok (.aload_n 0, 1) := by decide +kernel
theorem dX0_insert_93 : decode cX0_insert 93 = .ok (.getfield 32, 3) := by decide +kernel
theorem dX0_insert_96 : decode cX0_insert 96 = .ok (.iload 6, 2) := by decide +kernel
theorem dX0_insert_98 : decode cX0_insert 98 = .ok (.isub, 1) := by decide +kernel
theorem dX0_insert_99 : decode cX0_insert 99 = .ok (.invokestatic 94, 3) := by decide +kernel
theorem dX0_insert_102 : decode cX0_insert 102 = .ok (.aload_n 0, 1) := by decide +kernel
theorem dX0_insert_103 : decode cX0_insert 103 = .ok (.getfield 9, 3) := by decide +kernel
theorem dX0_insert_106 : decode cX0_insert 106 = .ok (.iload 6, 2) := by decide +kernel
theorem dX0_insert_108 : decode cX0_insert 108 = .ok (.lload_n 1, 1) := by decide +kernel
theorem dX0_insert_109 : decode cX0_insert 109 = .ok (.lastore, 1) := by decide +kernel
theorem dX0_insert_110 : decode cX0_insert 110 = .ok (.aload_n 0, 1) := by decide +kernel
theorem dX0_insert_111 : decode cX0_insert 111 = .ok (.getfield 15, 3) := by decide +kernel
theorem dX0_insert_114 : decode cX0_insert 114 = .ok (.iload 6, 2) := by decide +kernel
theorem dX0_insert_116 : decode cX0_insert 116 = .ok (.lload_n 3, 1) := by decide +kernel
theorem dX0_insert_117 : decode cX0_insert 117 = .ok (.lastore, 1) := by decide +kernel
theorem dX0_insert_118 : decode cX0_insert 118 = .ok (.aload_n 0, 1) := by decide +kernel
theorem dX0_insert_119 : decode cX0_insert 119 = .ok (.getfield 18, 3) := by decide +kernel
theorem dX0_insert_122 : decode cX0_insert 122 = .ok (.iload 6, 2) := by decide +kernel
theorem dX0_insert_124 : decode cX0_insert 124 = .ok (.iload 5, 2) := by decide +kernel
theorem dX0_insert_126 : decode cX0_insert 126 = .ok (.iastore, 1) := by decide +kernel
theorem dX0_insert_127 : decode cX0_insert 127 = .ok (.aload_n 0, 1) := by decide +kernel
theorem dX0_insert_128 : decode cX0_insert 128 = .ok (.dup, 1) := by decide +kernel
theorem dX0_insert_129 : decode cX0_insert 129 = .ok (.getfield 32, 3) := by decide +kernel
theorem dX0_insert_132 : decode cX0_insert 132 = .ok (.iconst 1, 1) := by decide +kernel
theorem dX0_insert_133 : decode cX0_insert 133 = .ok (.iadd, 1) := by decide +kernel
theorem dX0_insert_134 : decode cX0_insert 134 = .ok (.putfield 32, 3) := by decide +kernel
theorem dX0_insert_137 : decode cX0_insert 137 = .ok (.return_, 1) := by decide +kernel
theorem dX0_placeFor_0 : decode cX0_placeFor 0 = .ok (.iconst 0, 1) := by decide +kernel
theorem dX0_placeFor_1 : decode cX0_placeFor 1 = .ok (.istore 5, 2) := by decide +kernel
theorem dX0_placeFor_3 : decode cX0_placeFor 3 = .ok (.aload_n 0, 1) := by decide +kernel
theorem dX0_placeFor_4 : decode cX0_placeFor 4 = .ok (.getfield 32, 3) := by decide +kernel
theorem dX0_placeFor_7 : decode cX0_placeFor 7 = .ok (.istore 6, 2) := by decide +kernel
theorem dX0_placeFor_9 : decode cX0_placeFor 9 = .ok (.iconst 0, 1) := by decide +kernel
theorem dX0_placeFor_10 : decode cX0_placeFor 10 = .ok (.istore 7, 2) := by decide +kernel
theorem dX0_placeFor_12 : decode cX0_placeFor 12 = .ok (.iload 7, 2) := by decide +kernel
theorem dX0_placeFor_14 : decode cX0_placeFor 14 = .ok (.sipush 264, 3) := by decide +kernel
theorem dX0_placeFor_17 : decode cX0_placeFor 17 = .ok (.if_icmp .ge 74, 3) := by decide +kernel
theorem dX0_placeFor_20 : decode cX0_placeFor 20 = .ok (.iload 5, 2) := by decide +kernel
theorem dX0_placeFor_22 : decode cX0_placeFor 22 = .ok (.iload 6, 2) := by decide +kernel
theorem dX0_placeFor_24 : decode cX0_placeFor 24 = .ok (.if_icmp .ge 67, 3) := by decide +kernel
theorem dX0_placeFor_27 : decode cX0_placeFor 27 = .ok (.iload 5, 2) := by decide +kernel
theorem dX0_placeFor_29 : decode cX0_placeFor 29 = .ok (.iload 6, 2) := by decide +kernel
theorem dX0_placeFor_31 : decode cX0_placeFor 31 = .ok (.iadd, 1) := by decide +kernel
theorem dX0_placeFor_32 : decode cX0_placeFor 32 = .ok (.iconst 2, 1) := by decide +kernel
theorem dX0_placeFor_33 : decode cX0_placeFor 33 = .ok (.idiv, 1) := by decide +kernel
theorem dX0_placeFor_34 : decode cX0_placeFor 34 = .ok (.istore 8, 2) := by decide +kernel
theorem dX0_placeFor_36 : decode cX0_placeFor 36 = .ok (.aload_n 0, 1) := by decide +kernel
theorem dX0_placeFor_37 : decode cX0_placeFor 37 = .ok (.getfield 15, 3) := by decide +kernel
theorem dX0_placeFor_40 : decode cX0_placeFor 40 = .ok (.iload 8, 2) := by decide +kernel
theorem dX0_placeFor_42 : decode cX0_placeFor 42 = .ok (.laload, 1) := by decide +kernel
theorem dX0_placeFor_43 : decode cX0_placeFor 43 = .ok (.lload_n 3, 1) := by decide +kernel
theorem dX0_placeFor_44 : decode cX0_placeFor 44 = .ok (.lcmp, 1) := by decide +kernel
theorem dX0_placeFor_45 : decode cX0_placeFor 45 = .ok (.ifCond .lt 27, 3) := by decide +kernel
theorem dX0_placeFor_48 : decode cX0_placeFor 48 = .ok (.aload_n 0, 1) := by decide +kernel
theorem dX0_placeFor_49 : decode cX0_placeFor 49 = .ok (.getfield 15, 3) := by decide +kernel
theorem dX0_placeFor_52 : decode cX0_placeFor 52 = .ok (.iload 8, 2) := by decide +kernel
theorem dX0_placeFor_54 : decode cX0_placeFor 54 = .ok (.laload, 1) := by decide +kernel
theorem dX0_placeFor_55 : decode cX0_placeFor 55 = .ok (.lload_n 3, 1) := by decide +kernel
theorem dX0_placeFor_56 : decode cX0_placeFor 56 = .ok (.lcmp, 1) := by decide +kernel
theorem dX0_placeFor_57 : decode cX0_placeFor 57 = .ok (.ifCond .ne 24, 3) := by decide +kernel
theorem dX0_placeFor_60 : decode cX0_placeFor 60 = .ok (.aload_n 0, 1) := by decide +kernel
theorem dX0_placeFor_61 : decode cX0_placeFor 61 = .ok (.getfield 9, 3) := by decide +kernel
theorem dX0_placeFor_64 : decode cX0_placeFor 64 = .ok (.iload 8, 2) := by decide +kernel
theorem dX0_placeFor_66 : decode cX0_placeFor 66 = .ok (.laload, 1) := by decide +kernel
theorem dX0_placeFor_67 : decode cX0_placeFor 67 = .ok (.lload_n 1, 1) := by decide +kernel
theorem dX0_placeFor_68 : decode cX0_placeFor 68 = .ok (.lcmp, 1) := by decide +kernel
theorem dX0_placeFor_69 : decode cX0_placeFor 69 = .ok (.ifCond .ge 12, 3) := by decide +kernel
theorem dX0_placeFor_72 : decode cX0_placeFor 72 = .ok (.iload 8, 2) := by decide +kernel
theorem dX0_placeFor_74 : decode cX0_placeFor 74 = .ok (.iconst 1, 1) := by decide +kernel
theorem dX0_placeFor_75 : decode cX0_placeFor 75 = .ok (.iadd, 1) := by decide +kernel
theorem dX0_placeFor_76 : decode cX0_placeFor 76 = .ok (.istore 5, 2) := by decide +kernel
theorem dX0_placeFor_78 : decode cX0_placeFor 78 = .ok (.goto 7, 3) := by decide +kernel
theorem dX0_placeFor_81 : decode cX0_placeFor 81 = .ok (.iload 8, 2) := by decide +kernel
theorem dX0_placeFor_83 : decode cX0_placeFor 83 = .ok (.istore 6, 2) := by decide +kernel
theorem dX0_placeFor_85 : decode cX0_placeFor 85 = .ok (.iinc 7 1, 3) := by decide +kernel
theorem dX0_placeFor_88 : decode cX0_placeFor 88 = .ok (.goto (-76), 3) := by decide +kernel
theorem dX0_placeFor_91 : decode cX0_placeFor 91 = .ok (.iload 5, 2) := by decide +kernel
theorem dX0_placeFor_93 : decode cX0_placeFor 93 = .ok (.ireturn, 1) := by decide +kernel
theorem dX0_isAt_0 : decode cX0_isAt 0 = .ok (.iload_n 1, 1) := by decide +kernel
theorem dX0_isAt_1 : decode cX0_isAt 1 = .ok (.aload_n 0, 1) := by decide +kernel
theorem dX0_isAt_2 : decode cX0_isAt 2 = .ok (.getfield 32, 3) := by decide +kernel
theorem dX0_isAt_5 : decode cX0_isAt 5 = .ok (.if_icmp .ge 30, 3) := by decide +kernel
theorem dX0_isAt_8 : decode cX0_isAt 8 = .ok (.aload_n 0, 1) := by decide +kernel
theorem dX0_isAt_9 : decode cX0_isAt 9 = .ok (.getfield 9, 3) := by decide +kernel
theorem dX0_isAt_12 : decode cX0_isAt 12 = .ok (.iload_n 1, 1) := by decide +kernel
theorem dX0_isAt_13 : decode cX0_isAt 13 = .ok (.laload, 1) := by decide +kernel
theorem dX0_isAt_14 : decode cX0_isAt 14 = .ok (.lload_n 2, 1) := by decide +kernel
theorem dX0_isAt_15 : decode cX0_isAt 15 = .ok (.lcmp, 1) := by decide +kernel
theorem dX0_isAt_16 : decode cX0_isAt 16 = .ok (.ifCond .ne 19, 3) := by decide +kernel
theorem dX0_isAt_19 : decode cX0_isAt 19 = .ok (.aload_n 0, 1) := by decide +kernel
theorem dX0_isAt_20 : decode cX0_isAt 20 = .ok (.getfield 15, 3) := by decide +kernel
theorem dX0_isAt_23 : decode cX0_isAt 23 = .ok (.iload_n 1, 1) := by decide +kernel
theorem dX0_isAt_24 : decode cX0_isAt 24 = .ok (.laload, 1) := by decide +kernel
theorem dX0_isAt_25 : decode cX0_isAt 25 = .ok (.lload 4, 2) := by decide +kernel
theorem dX0_isAt_27 : decode cX0_isAt 27 = .ok (.lcmp, 1) := by decide +kernel
theorem dX0_isAt_28 : decode cX0_isAt 28 = .ok (.ifCond .ne 7, 3) := by decide +kernel
theorem dX0_isAt_31 : decode cX0_isAt 31 = .ok (.iconst 1, 1) := by decide +kernel
theorem dX0_isAt_32 : decode cX0_isAt 32 = .ok (.goto 4, 3) := by decide +kernel
theorem dX0_isAt_35 : decode cX0_isAt 35 = .ok (.iconst 0, 1) := by decide +kernel
theorem dX0_isAt_36 : decode cX0_isAt 36 = .ok (.ireturn, 1) := by decide +kernel
theorem dX0_numberOf_0 : decode cX0_numberOf 0 = .ok (.aload_n 1, 1) := by decide +kernel
theorem dX0_numberOf_1 : decode cX0_numberOf 1 = .ok (.aload_n 2, 1) := by decide +kernel
theorem dX0_numberOf_2 : decode cX0_numberOf 2 = .ok (.invokevirtual 100, 3) := by decide +kernel
theorem dX0_numberOf_5 : decode cX0_numberOf 5 = .ok (.lstore_n 3, 1) := by decide +kernel
theorem dX0_numberOf_6 : decode cX0_numberOf 6 = .ok (.aload_n 1, 1) := by decide +kernel
theorem dX0_numberOf_7 : decode cX0_numberOf 7 = .ok (.aload_n 2, 1) := by decide +kernel
theorem dX0_numberOf_8 : decode cX0_numberOf 8 = .ok (.invokevirtual 105, 3) := by decide +kernel
theorem dX0_numberOf_11 : decode cX0_numberOf 11 = .ok (.lstore 5, 2) := by decide +kernel
theorem dX0_numberOf_13 : decode cX0_numberOf 13 = .ok (.aload_n 0, 1) := by decide +kernel
theorem dX0_numberOf_14 : decode cX0_numberOf 14 = .ok (.lload_n 3, 1) := by decide +kernel
theorem dX0_numberOf_15 : decode cX0_numberOf 15 = .ok (.lload 5, 2) := by decide +kernel
theorem dX0_numberOf_17 : decode cX0_numberOf 17 = .ok (.invokevirtual 86, 3) := by decide +kernel
theorem dX0_numberOf_20 : decode cX0_numberOf 20 = .ok (.istore 7, 2) := by decide +kernel
theorem dX0_numberOf_22 : decode cX0_numberOf 22 = .ok (.aload_n 0, 1) := by decide +kernel
theorem dX0_numberOf_23 : decode cX0_numberOf 23 = .ok (.iload 7, 2) := by decide +kernel
theorem dX0_numberOf_25 : decode cX0_numberOf 25 = .ok (.lload_n 3, 1) := by decide +kernel
theorem dX0_numberOf_26 : decode cX0_numberOf 26 = .ok (.lload 5, 2) := by decide +kernel
theorem dX0_numberOf_28 : decode cX0_numberOf 28 = .ok (.invokevirtual 90, 3) := by decide +kernel
theorem dX0_numberOf_31 : decode cX0_numberOf 31 = .ok (.ifCond .eq 8, 3) := by decide +kernel
theorem dX0_numberOf_34 : decode cX0_numberOf 34 = .ok (.iload 7, 2) := by decide +kernel
theorem dX0_numberOf_36 : decode cX0_numberOf 36 = .ok (.goto 4, 3) := by decide +kernel
theorem dX0_numberOf_39 : decode cX0_numberOf 39 = .ok (.iconst (-1), 1) := by decide +kernel
theorem dX0_numberOf_40 : decode cX0_numberOf 40 = .ok (.ireturn, 1) := by decide +kernel
theorem dX0_numberGroups_0 : decode cX0_numberGroups 0 = .ok (.aload_n 0, 1) := by decide +kernel
theorem dX0_numberGroups_1 : decode cX0_numberGroups 1 = .ok (.getfield 22, 3) := by decide +kernel
theorem dX0_numberGroups_4 : decode cX0_numberGroups 4 = .ok (.iconst (-1), 1) := by decide +kernel
theorem dX0_numberGroups_5 : decode cX0_numberGroups 5 = .ok (.invokestatic 107, 3) := by decide +kernel
theorem dX0_numberGroups_8 : decode cX0_numberGroups 8 = .ok (.iconst 0, 1) := by decide +kernel
theorem dX0_numberGroups_9 : decode cX0_numberGroups 9 = .ok (.istore_n 1, 1) := by decide +kernel
theorem dX0_numberGroups_10 : decode cX0_numberGroups 10 = .ok (.iconst 0, 1) := by decide +kernel
theorem dX0_numberGroups_11 : decode cX0_numberGroups 11 = .ok (.istore_n 2, 1) := by decide +kernel
theorem dX0_numberGroups_12 : decode cX0_numberGroups 12 = .ok (.iload_n 2, 1) := by decide +kernel
theorem dX0_numberGroups_13 : decode cX0_numberGroups 13 = .ok (.aload_n 0, 1) := by decide +kernel
theorem dX0_numberGroups_14 : decode cX0_numberGroups 14 = .ok (.getfield 32, 3) := by decide +kernel
theorem dX0_numberGroups_17 : decode cX0_numberGroups 17 = .ok (.if_icmp .ge 47, 3) := by decide +kernel
theorem dX0_numberGroups_20 : decode cX0_numberGroups 20 = .ok (.aload_n 0, 1) := by decide +kernel
theorem dX0_numberGroups_21 : decode cX0_numberGroups 21 = .ok (.getfield 18, 3) := by decide +kernel
theorem dX0_numberGroups_24 : decode cX0_numberGroups 24 = .ok (.iload_n 2, 1) := by decide +kernel
theorem dX0_numberGroups_25 : decode cX0_numberGroups 25 = .ok (.iaload, 1) := by decide +kernel
theorem dX0_numberGroups_26 : decode cX0_numberGroups 26 = .ok (.istore_n 3, 1) := by decide +kernel
theorem dX0_numberGroups_27 : decode cX0_numberGroups 27 = .ok (.aload_n 0, 1) := by decide +kernel
theorem dX0_numberGroups_28 : decode cX0_numberGroups 28 = .ok (.getfield 22, 3) := by decide +kernel
theorem dX0_numberGroups_31 : decode cX0_numberGroups 31 = .ok (.iload_n 3, 1) := by decide +kernel
theorem dX0_numberGroups_32 : decode cX0_numberGroups 32 = .ok (.iaload, 1) := by decide +kernel
theorem dX0_numberGroups_33 : decode cX0_numberGroups 33 = .ok (.ifCond .ge 13, 3) := by decide +kernel
theorem dX0_numberGroups_36 : decode cX0_numberGroups 36 = .ok (.aload_n 0, 1) := by decide +kernel
theorem dX0_numberGroups_37 : decode cX0_numberGroups 37 = .ok (.getfield 22, 3) := by decide +kernel
theorem dX0_numberGroups_40 : decode cX0_numberGroups 40 = .ok (.iload_n 3, 1) := by decide +kernel
theorem dX0_numberGroups_41 : decode cX0_numberGroups 41 = .ok (.iload_n 1, 1) := by decide +kernel
theorem dX0_numberGroups_42 : decode cX0_numberGroups 42 = .ok (.iastore, 1) := by decide +kernel
theorem dX0_numberGroups_43 : decode cX0_numberGroups 43 = .ok (.iinc 1 1, 3) := by decide +kernel
theorem dX0_numberGroups_46 : decode cX0_numberGroups 46 = .ok (.aload_n 0, 1) := by decide +kernel
theorem dX0_numberGroups_47 : decode cX0_numberGroups 47 = .ok (.getfield 18, 3) := by decide +kernel
theorem dX0_numberGroups_50 : decode cX0_numberGroups 50 = .ok (.iload_n 2, 1) := by decide +kernel
theorem dX0_numberGroups_51 : decode cX0_numberGroups 51 = .ok (.aload_n 0, 1) := by decide +kernel
theorem dX0_numberGroups_52 : decode cX0_numberGroups 52 = .ok (.getfield 22, 3) := by decide +kernel
theorem dX0_numberGroups_55 : decode cX0_numberGroups 55 = .ok (.iload_n 3, 1) := by decide +kernel
theorem dX0_numberGroups_56 : decode cX0_numberGroups 56 = .ok (.iaload, 1) := by decide +kernel
theorem dX0_numberGroups_57 : decode cX0_numberGroups 57 = .ok (.iastore, 1) := by decide +kernel
theorem dX0_numberGroups_58 : decode cX0_numberGroups 58 = .ok (.iinc 2 1, 3) := by decide +kernel
theorem dX0_numberGroups_61 : decode cX0_numberGroups 61 = .ok (.goto (-49), 3) := by decide +kernel
theorem dX0_numberGroups_64 : decode cX0_numberGroups 64 = .ok (.return_, 1) := by decide +kernel
theorem dX0_sizeOfGroup_0 : decode cX0_sizeOfGroup 0 = .ok (.iconst 0, 1) := by decide +kernel
theorem dX0_sizeOfGroup_1 : decode cX0_sizeOfGroup 1 = .ok (.istore_n 2, 1) := by decide +kernel
theorem dX0_sizeOfGroup_2 : decode cX0_sizeOfGroup 2 = .ok (.iconst 0, 1) := by decide +kernel
theorem dX0_sizeOfGroup_3 : decode cX0_sizeOfGroup 3 = .ok (.istore_n 3, 1) := by decide +kernel
theorem dX0_sizeOfGroup_4 : decode cX0_sizeOfGroup 4 = .ok (.iload_n 3, 1) := by decide +kernel
theorem dX0_sizeOfGroup_5 : decode cX0_sizeOfGroup 5 = .ok (.aload_n 0, 1) := by decide +kernel
theorem dX0_sizeOfGroup_6 : decode cX0_sizeOfGroup 6 = .ok (.getfield 32, 3) := by decide +kernel
theorem dX0_sizeOfGroup_9 : decode cX0_sizeOfGroup 9 = .ok (.if_icmp .ge 22, 3) := by decide +kernel
theorem dX0_sizeOfGroup_12 : decode cX0_sizeOfGroup 12 = .ok (.aload_n 0, 1) := by decide +kernel
theorem dX0_sizeOfGroup_13 : decode cX0_sizeOfGroup 13 = .ok (.getfield 18, 3) := by decide +kernel
theorem dX0_sizeOfGroup_16 : decode cX0_sizeOfGroup 16 = .ok (.iload_n 3, 1) := by decide +kernel
theorem dX0_sizeOfGroup_17 : decode cX0_sizeOfGroup 17 = .ok (.iaload, 1) := by decide +kernel
theorem dX0_sizeOfGroup_18 : decode cX0_sizeOfGroup 18 = .ok (.iload_n 1, 1) := by decide +kernel
theorem dX0_sizeOfGroup_19 : decode cX0_sizeOfGroup 19 = .ok (.if_icmp .ne 6, 3) := by decide +kernel
theorem dX0_sizeOfGroup_22 : decode cX0_sizeOfGroup 22 = .ok (.iinc 2 1, 3) := by decide +kernel
theorem dX0_sizeOfGroup_25 : decode cX0_sizeOfGroup 25 = .ok (.iinc 3 1, 3) := by decide +kernel
theorem dX0_sizeOfGroup_28 : decode cX0_sizeOfGroup 28 = .ok (.goto (-24), 3) := by decide +kernel
theorem dX0_sizeOfGroup_31 : decode cX0_sizeOfGroup 31 = .ok (.iload_n 2, 1) := by decide +kernel
theorem dX0_sizeOfGroup_32 : decode cX0_sizeOfGroup 32 = .ok (.ireturn, 1) := by decide +kernel
theorem dX0_firstOfGroup_0 : decode cX0_firstOfGroup 0 = .ok (.iconst 0, 1) := by decide +kernel
theorem dX0_firstOfGroup_1 : decode cX0_firstOfGroup 1 = .ok (.istore_n 2, 1) := by decide +kernel
theorem dX0_firstOfGroup_2 : decode cX0_firstOfGroup 2 = .ok (.iload_n 2, 1) := by decide +kernel
theorem dX0_firstOfGroup_3 : decode cX0_firstOfGroup 3 = .ok (.aload_n 0, 1) := by decide +kernel
theorem dX0_firstOfGroup_4 : decode cX0_firstOfGroup 4 = .ok (.getfield 32, 3) := by decide +kernel
theorem dX0_firstOfGroup_7 : decode cX0_firstOfGroup 7 = .ok (.if_icmp .ge 21, 3) := by decide +kernel
theorem dX0_firstOfGroup_10 : decode cX0_firstOfGroup 10 = .ok (.aload_n 0, 1) := by decide +kernel
theorem dX0_firstOfGroup_11 : decode cX0_firstOfGroup 11 = .ok (.getfield 18, 3) := by decide +kernel
theorem dX0_firstOfGroup_14 : decode cX0_firstOfGroup 14 = .ok (.iload_n 2, 1) := by decide +kernel
theorem dX0_firstOfGroup_15 : decode cX0_firstOfGroup 15 = .ok (.iaload, 1) := by decide +kernel
theorem dX0_firstOfGroup_16 : decode cX0_firstOfGroup 16 = .ok (.iload_n 1, 1) := by decide +kernel
theorem dX0_firstOfGroup_17 : decode cX0_firstOfGroup 17 = .ok (.if_icmp .ne 5, 3) := by decide +kernel
theorem dX0_firstOfGroup_20 : decode cX0_firstOfGroup 20 = .ok (.iload_n 2, 1) := by decide +kernel
theorem dX0_firstOfGroup_21 : decode cX0_firstOfGroup 21 = .ok (.ireturn, 1) := by decide +kernel
theorem dX0_firstOfGroup_22 : decode cX0_firstOfGroup 22 = .ok (.iinc 2 1, 3) := by decide +kernel
theorem dX0_firstOfGroup_25 : decode cX0_firstOfGroup 25 = .ok (.goto (-23), 3) := by decide +kernel
theorem dX0_firstOfGroup_28 : decode cX0_firstOfGroup 28 = .ok (.iconst (-1), 1) := by decide +kernel
theorem dX0_firstOfGroup_29 : decode cX0_firstOfGroup 29 = .ok (.ireturn, 1) := by decide +kernel
theorem dX1_init_0 : decode cX1_init 0 = .ok (.aload_n 0, 1) := by decide +kernel
theorem dX1_init_1 : decode cX1_init 1 = .ok (.invokespecial 3, 3) := by decide +kernel
theorem dX1_init_4 : decode cX1_init 4 = .ok (.aload_n 0, 1) := by decide +kernel
theorem dX1_init_5 : decode cX1_init 5 = .ok (.iconst 4, 1) := by decide +kernel
theorem dX1_init_6 : decode cX1_init 6 = .ok (.newarray .int, 2) := by decide +kernel
theorem dX1_init_8 : decode cX1_init 8 = .ok (.putfield 9, 3) := by decide +kernel
theorem dX1_init_11 : decode cX1_init 11 = .ok (.aload_n 0, 1) := by decide +kernel
theorem dX1_init_12 : decode cX1_init 12 = .ok (.iconst 4, 1) := by decide +kernel
theorem dX1_init_13 : decode cX1_init 13 = .ok (.newarray .int, 2) := by decide +kernel
theorem dX1_init_15 : decode cX1_init 15 = .ok (.putfield 15, 3) := by decide +kernel
theorem dX1_init_18 : decode cX1_init 18 = .ok (.return_, 1) := by decide +kernel
theorem dX1_has_0 : decode cX1_has 0 = .ok (.iload_n 1, 1) := by decide +kernel
theorem dX1_has_1 : decode cX1_has 1 = .ok (.ifCond .lt 15, 3) := by decide +kernel
theorem dX1_has_4 : decode cX1_has 4 = .ok (.iload_n 1, 1) := by decide +kernel
theorem dX1_has_5 : decode cX1_has 5 = .ok (.aload_n 0, 1) := by decide +kernel
theorem dX1_has_6 : decode cX1_has 6 = .ok (.getfield 18, 3) := by decide +kernel
theorem dX1_has_9 : decode cX1_has 9 = .ok (.if_icmp .ge 7, 3) := by decide +kernel
theorem dX1_has_12 : decode cX1_has 12 = .ok (.iconst 1, 1) := by decide +kernel
theorem dX1_has_13 : decode cX1_has 13 = .ok (.goto 4, 3) := by decide +kernel
theorem dX1_has_16 : decode cX1_has 16 = .ok (.iconst 0, 1) := by decide +kernel
theorem dX1_has_17 : decode cX1_has 17 = .ok (.ireturn, 1) := by decide +kernel
theorem dX1_placeOf_0 : decode cX1_placeOf 0 = .ok (.iconst 0, 1) := by decide +kernel
theorem dX1_placeOf_1 : decode cX1_placeOf 1 = .ok (.istore_n 2, 1) := by decide +kernel
theorem dX1_placeOf_2 : decode cX1_placeOf 2 = .ok (.iload_n 2, 1) := by decide +kernel
theorem dX1_placeOf_3 : decode cX1_placeOf 3 = .ok (.aload_n 0, 1) := by decide +kernel
theorem dX1_placeOf_4 : decode cX1_placeOf 4 = .ok (.getfield 18, 3) := by decide +kernel
theorem dX1_placeOf_7 : decode cX1_placeOf 7 = .ok (.if_icmp .ge 21, 3) := by decide +kernel
theorem dX1_placeOf_10 : decode cX1_placeOf 10 = .ok (.aload_n 0, 1) := by decide +kernel
theorem dX1_placeOf_11 : decode cX1_placeOf 11 = .ok (.getfield 9, 3) := by decide +kernel
theorem dX1_placeOf_14 : decode cX1_placeOf 14 = .ok (.iload_n 2, 1) := by decide +kernel
theorem dX1_placeOf_15 : decode cX1_placeOf 15 = .ok (.iaload, 1) := by decide +kernel
theorem dX1_placeOf_16 : decode cX1_placeOf 16 = .ok (.iload_n 1, 1) := by decide +kernel
theorem dX1_placeOf_17 : decode cX1_placeOf 17 = .ok (.if_icmp .ne 5, 3) := by decide +kernel
theorem dX1_placeOf_20 : decode cX1_placeOf 20 = .ok (.iload_n 2, 1) := by decide +kernel
theorem dX1_placeOf_21 : decode cX1_placeOf 21 = .ok (.ireturn, 1) := by decide +kernel
theorem dX1_placeOf_22 : decode cX1_placeOf 22 = .ok (.iinc 2 1, 3) := by decide +kernel
theorem dX1_placeOf_25 : decode cX1_placeOf 25 = .ok (.goto (-23), 3) := by decide +kernel
theorem dX1_placeOf_28 : decode cX1_placeOf 28 = .ok (.iconst (-1), 1) := by decide +kernel
theorem dX1_placeOf_29 : decode cX1_placeOf 29 = .ok (.ireturn, 1) := by decide +kernel
theorem dX1_product_0 : decode cX1_product 0 = .ok (.iconst 1, 1) := by decide +kernel
theorem dX1_product_1 : decode cX1_product 1 = .ok (.istore_n 1, 1) := by decide +kernel
theorem dX1_product_2 : decode cX1_product 2 = .ok (.iconst 0, 1) := by decide +kernel
theorem dX1_product_3 : decode cX1_product 3 = .ok (.istore_n 2, 1) := by decide +kernel
theorem dX1_product_4 : decode cX1_product 4 = .ok (.iload_n 2, 1) := by decide +kernel
theorem dX1_product_5 : decode cX1_product 5 = .ok (.aload_n 0, 1) := by decide +kernel
theorem dX1_product_6 : decode cX1_product 6 = .ok (.getfield 18, 3) := by decide +kernel
theorem dX1_product_9 : decode cX1_product 9 = .ok (.if_icmp .ge 18, 3) := by decide +kernel
theorem dX1_product_12 : decode cX1_product 12 = .ok (.iload_n 1, 1) := by decide +kernel
theorem dX1_product_13 : decode cX1_product 13 = .ok (.aload_n 0, 1) := by decide +kernel
theorem dX1_product_14 : decode cX1_product 14 = .ok (.getfield 9, 3) := by decide +kernel
theorem dX1_product_17 : decode cX1_product 17 = .ok (.iload_n 2, 1) := by decide +kernel
theorem dX1_product_18 : decode cX1_product 18 = .ok (.iaload, 1) := by decide +kernel
theorem dX1_product_19 : decode cX1_product 19 = .ok (.imul, 1) := by decide +kernel
theorem dX1_product_20 : decode cX1_product 20 = .ok (.istore_n 1, 1) := by decide +kernel
theorem dX1_product_21 : decode cX1_product 21 = .ok (.iinc 2 1, 3) := by decide +kernel
theorem dX1_product_24 : decode cX1_product 24 = .ok (.goto (-20), 3) := by decide +kernel
theorem dX1_product_27 : decode cX1_product 27 = .ok (.iload_n 1, 1) := by decide +kernel
theorem dX1_product_28 : decode cX1_product 28 = .ok (.ireturn, 1) := by decide +kernel
theorem dX1_insert_0 : decode cX1_insert 0 = .ok (.aload_n 0, 1) := by decide +kernel
theorem dX1_insert_1 : decode cX1_insert 1 = .ok (.getfield 18, 3) := by decide +kernel
theorem dX1_insert_4 : decode cX1_insert 4 = .ok (.iconst 4, 1) := by decide +kernel
theorem dX1_insert_5 : decode cX1_insert 5 = .ok (.if_icmp .lt 5, 3) := by decide +kernel
theorem dX1_insert_8 : decode cX1_insert 8 = .ok (.iconst (-1), 1) := by decide +kernel
theorem dX1_insert_9 : decode cX1_insert 9 = .ok (.ireturn, 1) := by decide +kernel
theorem dX1_insert_10 : decode cX1_insert 10 = .ok (.aload_n 0, 1) := by decide +kernel
theorem dX1_insert_11 : decode cX1_insert 11 = .ok (.getfield 18, 3) := by decide +kernel
theorem dX1_insert_14 : decode cX1_insert 14 = .ok (.istore_n 2, 1) := by decide +kernel
theorem dX1_insert_15 : decode cX1_insert 15 = .ok (.aload_n 0, 1) := by decide +kernel
theorem dX1_insert_16 : decode cX1_insert 16 = .ok (.getfield 18, 3) := by decide +kernel
theorem dX1_insert_19 : decode cX1_insert 19 = .ok (.istore_n 3, 1) := by decide +kernel
theorem dX1_insert_20 : decode cX1_insert 20 = .ok (.iload_n 3, 1) := by decide +kernel
theorem dX1_insert_21 : decode cX1_insert 21 = .ok (.ifCond .le 53, 3) := by decide +kernel
theorem dX1_insert_24 : decode cX1_insert 24 = .ok (.aload_n 0, 1) := by decide +kernel
theorem dX1_insert_25 : decode cX1_insert 25 = .ok (.getfield 9, 3) := by decide +kernel
theorem dX1_insert_28 : decode cX1_insert 28 = .ok (.iload_n 3, 1) := by decide +kernel
theorem dX1_insert_29 : decode cX1_insert 29 = .ok (.iconst 1, 1) := by decide +kernel
theorem dX1_insert_30 : decode cX1_insert 30 = .ok (.isub, 1) := by decide +kernel
theorem dX1_insert_31 : decode cX1_insert 31 = .ok (.iaload, 1) := by decide +kernel
theorem dX1_insert_32 : decode cX1_insert 32 = .ok (.iload_n 1, 1) := by decide +kernel
theorem dX1_insert_33 : decode cX1_insert 33 = .ok (.if_icmp .le 41, 3) := by decide +kernel
theorem dX1_insert_36 : decode cX1_insert 36 = .ok (.aload_n 0, 1) := by decide +kernel
theorem dX1_insert_37 : decode cX1_insert 37 = .ok (.getfield 9, 3) := by decide +kernel
theorem dX1_insert_40 : decode cX1_insert 40 = .ok (.iload_n 3, 1) := by decide +kernel
theorem dX1_insert_41 : decode cX1_insert 41 = .ok (.aload_n 0, 1) := by decide +kernel
theorem dX1_insert_42 : decode cX1_insert 42 = .ok (.getfield 9, 3) := by decide +kernel
theorem dX1_insert_45 : decode cX1_insert 45 = .ok (.iload_n 3, 1) := by decide +kernel
theorem dX1_insert_46 : decode cX1_insert 46 = .ok (.iconst 1, 1) := by decide +kernel
theorem dX1_insert_47 : decode cX1_insert 47 = .ok (.isub, 1) := by decide +kernel
theorem dX1_insert_48 : decode cX1_insert 48 = .ok (.iaload, 1) := by decide +kernel
theorem dX1_insert_49 : decode cX1_insert 49 = .ok (.iastore, 1) := by decide +kernel
theorem dX1_insert_50 : decode cX1_insert 50 = .ok (.aload_n 0, 1) := by decide +kernel
theorem dX1_insert_51 : decode cX1_insert 51 = .ok (.getfield 15, 3) := by decide +kernel
theorem dX1_insert_54 : decode cX1_insert 54 = .ok (.iload_n 3, 1) := by decide +kernel
theorem dX1_insert_55 : decode cX1_insert 55 = .ok (.aload_n 0, 1) := by decide +kernel
theorem dX1_insert_56 : decode cX1_insert 56 = .ok (.getfield 15, 3) := by decide +kernel
theorem dX1_insert_59 : decode cX1_insert 59 = .ok (.iload_n 3, 1) := by decide +kernel
theorem dX1_insert_60 : decode cX1_insert 60 = .ok (.iconst 1, 1) := by decide +kernel
theorem dX1_insert_61 : decode cX1_insert 61 = .ok (.isub, 1) := by decide +kernel
theorem dX1_insert_62 : decode cX1_insert 62 = .ok (.iaload, 1) := by decide +kernel
theorem dX1_insert_63 : decode cX1_insert 63 = .ok (.iastore, 1) := by decide +kernel
theorem dX1_insert_64 : decode cX1_insert 64 = .ok (.iload_n 3, 1) := by decide +kernel
theorem dX1_insert_65 : decode cX1_insert 65 = .ok (.iconst 1, 1) := by decide +kernel
theorem dX1_insert_66 : decode cX1_insert 66 = .ok (.isub, 1) := by decide +kernel
theorem dX1_insert_67 : decode cX1_insert 67 = .ok (.istore_n 2, 1) := by decide +kernel
theorem dX1_insert_68 : decode cX1_insert 68 = .ok (.iinc 3 (-1), 3) := by decide +kernel
theorem dX1_insert_71 : decode cX1_insert 71 = .ok (.goto (-51), 3) := by decide +kernel
theorem dX1_insert_74 : decode cX1_insert 74 = .ok (.aload_n 0, 1) := by decide +kernel
theorem dX1_insert_75 : decode cX1_insert 75 = .ok (.getfield 9, 3) := by decide +kernel
theorem dX1_insert_78 : decode cX1_insert 78 = .ok (.iload_n 2, 1) := by decide +kernel
theorem dX1_insert_79 : decode cX1_insert 79 = .ok (.iload_n 1, 1) := by decide +kernel
theorem dX1_insert_80 : decode cX1_insert 80 = .ok (.iastore, 1) := by decide +kernel
theorem dX1_insert_81 : decode cX1_insert 81 = .ok (.aload_n 0, 1) := by decide +kernel
theorem dX1_insert_82 : decode cX1_insert 82 = .ok (.getfield 15, 3) := by decide +kernel
theorem dX1_insert_85 : decode cX1_insert 85 = .ok (.iload_n 2, 1) := by decide +kernel
theorem dX1_insert_86 : decode cX1_insert 86 = .ok (.iconst 2, 1) := by decide +kernel
theorem dX1_insert_87 : decode cX1_insert 87 = .ok (.iastore, 1) := by decide +kernel
theorem dX1_insert_88 : decode cX1_insert 88 = .ok (.aload_n 0, 1) := by decide +kernel
theorem dX1_insert_89 : decode cX1_insert 89 = .ok (.dup, 1) := by decide +kernel
theorem dX1_insert_90 : decode cX1_insert 90 = .ok (.getfield 18, 3) := by decide +kernel
theorem dX1_insert_93 : decode cX1_insert 93 = .ok (.iconst 1, 1) := by decide +kernel
theorem dX1_insert_94 : decode cX1_insert 94 = .ok (.iadd, 1) := by decide +kernel
theorem dX1_insert_95 : decode cX1_insert 95 = .ok (.putfield 18, 3) := by decide +kernel
theorem dX1_insert_98 : decode cX1_insert 98 = .ok (.iload_n 2, 1) := by decide +kernel
theorem dX1_insert_99 : decode cX1_insert 99 = .ok (.ireturn, 1) := by decide +kernel
theorem dX1_removeAt_0 : decode cX1_removeAt 0 = .ok (.aload_n 0, 1) := by decide +kernel
theorem dX1_removeAt_1 : decode cX1_removeAt 1 = .ok (.iload_n 1, 1) := by decide +kernel
theorem dX1_removeAt_2 : decode cX1_removeAt 2 = .ok (.invokevirtual 22, 3) := by decide +kernel
theorem dX1_removeAt_5 : decode cX1_removeAt 5 = .ok (.ifCond .ne 4, 3) := by decide +kernel
theorem dX1_removeAt_8 : decode cX1_removeAt 8 = .ok (.return_, 1) := by decide +kernel
theorem dX1_removeAt_9 : decode cX1_removeAt 9 = .ok (.iload_n 1, 1) := by decide +kernel
theorem dX1_removeAt_10 : decode cX1_removeAt 10 = .ok (.istore_n 2, 1) := by decide +kernel
theorem dX1_removeAt_11 : decode cX1_removeAt 11 = .ok (.iload_n 2, 1) := by decide +kernel
theorem dX1_removeAt_12 : decode cX1_removeAt 12 = .ok (.aload_n 0, 1) := by decide +kernel
theorem dX1_removeAt_13 : decode cX1_removeAt 13 = .ok (.getfield 18, 3) := by decide +kernel
theorem dX1_removeAt_16 : decode cX1_removeAt 16 = .ok (.iconst 1, 1) := by decide +kernel
theorem dX1_removeAt_17 : decode cX1_removeAt 17 = .ok (.isub, 1) := by decide +kernel
theorem dX1_removeAt_18 : decode cX1_removeAt 18 = .ok (.if_icmp .ge 37, 3) := by decide +kernel
theorem dX1_removeAt_21 : decode cX1_removeAt 21 = .ok (.aload_n 0, 1) := by decide +kernel
theorem dX1_removeAt_22 : decode cX1_removeAt 22 = .ok (.getfield 9, 3) := by decide +kernel
theorem dX1_removeAt_25 : decode cX1_removeAt 25 = .ok (.iload_n 2, 1) := by decide +kernel
theorem dX1_removeAt_26 : decode cX1_removeAt 26 = .ok (.aload_n 0, 1) := by decide +kernel
theorem dX1_removeAt_27 : decode cX1_removeAt 27 = .ok (.getfield 9, 3) := by decide +kernel
theorem dX1_removeAt_30 : decode cX1_removeAt 30 = .ok (.iload_n 2, 1) := by decide +kernel
theorem dX1_removeAt_31 : decode cX1_removeAt 31 = .ok (.iconst 1, 1) := by decide +kernel
theorem dX1_removeAt_32 : decode cX1_removeAt 32 = .ok (.iadd, 1) := by decide +kernel
theorem dX1_removeAt_33 : decode cX1_removeAt 33 = .ok (.iaload, 1) := by decide +kernel
theorem dX1_removeAt_34 : decode cX1_removeAt 34 = .ok (.iastore, 1) := by decide +kernel
theorem dX1_removeAt_35 : decode cX1_removeAt 35 = .ok (.aload_n 0, 1) := by decide +kernel
theorem dX1_removeAt_36 : decode cX1_removeAt 36 = .ok (.getfield 15, 3) := by decide +kernel
theorem dX1_removeAt_39 : decode cX1_removeAt 39 = .ok (.iload_n 2, 1) := by decide +kernel
theorem dX1_removeAt_40 : decode cX1_removeAt 40 = .ok (.aload_n 0, 1) := by decide +kernel
theorem dX1_removeAt_41 : decode cX1_removeAt 41 = .ok (.getfield 15, 3) := by decide +kernel
theorem dX1_removeAt_44 : decode cX1_removeAt 44 = .ok (.iload_n 2, 1) := by decide +kernel
theorem dX1_removeAt_45 : decode cX1_removeAt 45 = .ok (.iconst 1, 1) := by decide +kernel
theorem dX1_removeAt_46 : decode cX1_removeAt 46 = .ok (.iadd, 1) := by decide +kernel
theorem dX1_removeAt_47 : decode cX1_removeAt 47 = .ok (.iaload, 1) := by decide +kernel
theorem dX1_removeAt_48 : decode cX1_removeAt 48 = .ok (.iastore, 1) := by decide +kernel
theorem dX1_removeAt_49 : decode cX1_removeAt 49 = .ok (.iinc 2 1, 3) := by decide +kernel
theorem dX1_removeAt_52 : decode cX1_removeAt 52 = .ok (.goto (-41), 3) := by decide +kernel
theorem dX1_removeAt_55 : decode cX1_removeAt 55 = .ok (.aload_n 0, 1) := by decide +kernel
theorem dX1_removeAt_56 : decode cX1_removeAt 56 = .ok (.dup, 1) := by decide +kernel
theorem dX1_removeAt_57 : decode cX1_removeAt 57 = .ok (.getfield 18, 3) := by decide +kernel
theorem dX1_removeAt_60 : decode cX1_removeAt 60 = .ok (.iconst 1, 1) := by decide +kernel
theorem dX1_removeAt_61 : decode cX1_removeAt 61 = .ok (.isub, 1) := by decide +kernel
theorem dX1_removeAt_62 : decode cX1_removeAt 62 = .ok (.putfield 18, 3) := by decide +kernel
theorem dX1_removeAt_65 : decode cX1_removeAt 65 = .ok (.return_, 1) := by decide +kernel
theorem dX1_boxesHold_0 : decode cX1_boxesHold 0 = .ok (.lload_n 1, 1) := by decide +kernel
theorem dX1_boxesHold_1 : decode cX1_boxesHold 1 = .ok (.lstore_n 3, 1) := by decide +kernel
theorem dX1_boxesHold_2 : decode cX1_boxesHold 2 = .ok (.iconst 0, 1) := by decide +kernel
theorem dX1_boxesHold_3 : decode cX1_boxesHold 3 = .ok (.istore 5, 2) := by decide +kernel
theorem dX1_boxesHold_5 : decode cX1_boxesHold 5 = .ok (.iload 5, 2) := by decide +kernel
theorem dX1_boxesHold_7 : decode cX1_boxesHold 7 = .ok (.aload_n 0, 1) := by decide +kernel
theorem dX1_boxesHold_8 : decode cX1_boxesHold 8 = .ok (.getfield 18, 3) := by decide +kernel
theorem dX1_boxesHold_11 : decode cX1_boxesHold 11 = .ok (.if_icmp .ge 55, 3) := by decide +kernel
theorem dX1_boxesHold_14 : decode cX1_boxesHold 14 = .ok (.iconst 0, 1) := by decide +kernel
theorem dX1_boxesHold_15 : decode cX1_boxesHold 15 = .ok (.istore 6, 2) := by decide +kernel
theorem dX1_boxesHold_17 : decode cX1_boxesHold 17 = .ok (.iload 6, 2) := by decide +kernel
theorem dX1_boxesHold_19 : decode cX1_boxesHold 19 = .ok (.aload_n 0, 1) := by decide +kernel
theorem dX1_boxesHold_20 : decode cX1_boxesHold 20 = .ok (.getfield 15, 3) := by decide +kernel
theorem dX1_boxesHold_23 : decode cX1_boxesHold 23 = .ok (.iload 5, 2) := by decide +kernel
theorem dX1_boxesHold_25 : decode cX1_boxesHold 25 = .ok (.iaload, 1) := by decide +kernel
theorem dX1_boxesHold_26 : decode cX1_boxesHold 26 = .ok (.if_icmp .ge 34, 3) := by decide +kernel
theorem dX1_boxesHold_29 : decode cX1_boxesHold 29 = .ok (.aload_n 0, 1) := by decide +kernel
theorem dX1_boxesHold_30 : decode cX1_boxesHold 30 = .ok (.getfield 9, 3) := by decide +kernel
theorem dX1_boxesHold_33 : decode cX1_boxesHold 33 = .ok (.iload 5, 2) := by decide +kernel
theorem dX1_boxesHold_35 : decode cX1_boxesHold 35 = .ok (.iaload, 1) := by decide +kernel
theorem dX1_boxesHold_36 : decode cX1_boxesHold 36 = .ok (.lload_n 3, 1) := by decide +kernel
theorem dX1_boxesHold_37 : decode cX1_boxesHold 37 = .ok (.invokestatic 26, 3) := by decide +kernel
theorem dX1_boxesHold_40 : decode cX1_boxesHold 40 = .ok (.ifCond .eq 20, 3) := by decide +kernel
theorem dX1_boxesHold_43 : decode cX1_boxesHold 43 = .ok (.lload_n 3, 1) := by decide +kernel
theorem dX1_boxesHold_44 : decode cX1_boxesHold 44 = .ok (.aload_n 0, 1) := by decide +kernel
theorem dX1_boxesHold_45 : decode cX1_boxesHold 45 = .ok (.getfield 9, 3) := by decide +kernel
theorem dX1_boxesHold_48 : decode cX1_boxesHold 48 = .ok (.iload 5, 2) := by decide +kernel
theorem dX1_boxesHold_50 : decode cX1_boxesHold 50 = .ok (.iaload, 1) := by decide +kernel
theorem dX1_boxesHold_51 : decode cX1_boxesHold 51 = .ok (.i2l, 1) := by decide +kernel
theorem dX1_boxesHold_52 : decode cX1_boxesHold 52 = .ok (.ldiv, 1) := by decide +kernel
theorem dX1_boxesHold_53 : decode cX1_boxesHold 53 = .ok (.lstore_n 3, 1) := by decide +kernel
theorem dX1_boxesHold_54 : decode cX1_boxesHold 54 = .ok (.iinc 6 1, 3) := by decide +kernel
theorem dX1_boxesHold_57 : decode cX1_boxesHold 57 = .ok (.goto (-40), 3) := by decide +kernel
theorem dX1_boxesHold_60 : decode cX1_boxesHold 60 = .ok (.iinc 5 1, 3) := by decide +kernel
theorem dX1_boxesHold_63 : decode cX1_boxesHold 63 = .ok (.goto (-58), 3) := by decide +kernel
theorem dX1_boxesHold_66 : decode cX1_boxesHold 66 = .ok (.lload_n 3, 1) := by decide +kernel
theorem dX1_boxesHold_67 : decode cX1_boxesHold 67 = .ok (.lconst 1, 1) := by decide +kernel
theorem dX1_boxesHold_68 : decode cX1_boxesHold 68 = .ok (.lcmp, 1) := by decide +kernel
theorem dX1_boxesHold_69 : decode cX1_boxesHold 69 = .ok (.ifCond .ne 7, 3) := by decide +kernel
theorem dX1_boxesHold_72 : decode cX1_boxesHold 72 = .ok (.iconst 1, 1) := by decide +kernel
theorem dX1_boxesHold_73 : decode cX1_boxesHold 73 = .ok (.goto 4, 3) := by decide +kernel
theorem dX1_boxesHold_76 : decode cX1_boxesHold 76 = .ok (.iconst 0, 1) := by decide +kernel
theorem dX1_boxesHold_77 : decode cX1_boxesHold 77 = .ok (.ireturn, 1) := by decide +kernel
theorem dX1_copy_0 : decode cX1_copy 0 = .ok (.aload_n 1, 1) := by decide +kernel
theorem dX1_copy_1 : decode cX1_copy 1 = .ok (.getfield 9, 3) := by decide +kernel
theorem dX1_copy_4 : decode cX1_copy 4 = .ok (.iconst 0, 1) := by decide +kernel
theorem dX1_copy_5 : decode cX1_copy 5 = .ok (.aload_n 0, 1) := by decide +kernel
theorem dX1_copy_6 : decode cX1_copy 6 = .ok (.getfield 9, 3) := by decide +kernel
theorem dX1_copy_9 : decode cX1_copy 9 = .ok (.iconst 0, 1) := by decide +kernel
theorem dX1_copy_10 : decode cX1_copy 10 = .ok (.iconst 4, 1) := by decide +kernel
theorem dX1_copy_11 : decode cX1_copy 11 = .ok (.invokestatic 30, 3) := by decide +kernel
theorem dX1_copy_14 : decode cX1_copy 14 = .ok (.aload_n 1, 1) := by decide +kernel
theorem dX1_copy_15 : decode cX1_copy 15 = .ok (.getfield 15, 3) := by decide +kernel
theorem dX1_copy_18 : decode cX1_copy 18 = .ok (.iconst 0, 1) := by decide +kernel
theorem dX1_copy_19 : decode cX1_copy 19 = .ok (.aload_n 0, 1) := by decide +kernel
theorem dX1_copy_20 : decode cX1_copy 20 = .ok (.getfield 15, 3) := by decide +kernel
theorem dX1_copy_23 : decode cX1_copy 23 = .ok (.iconst 0, 1) := by decide +kernel
theorem dX1_copy_24 : decode cX1_copy 24 = .ok (.iconst 4, 1) := by decide +kernel
theorem dX1_copy_25 : decode cX1_copy 25 = .ok (.invokestatic 30, 3) := by decide +kernel
theorem dX1_copy_28 : decode cX1_copy 28 = .ok (.aload_n 0, 1) := by decide +kernel
theorem dX1_copy_29 : decode cX1_copy 29 = .ok (.aload_n 1, 1) := by decide +kernel
theorem dX1_copy_30 : decode cX1_copy 30 = .ok (.getfield 18, 3) := by decide +kernel
theorem dX1_copy_33 : decode cX1_copy 33 = .ok (.putfield 18, 3) := by decide +kernel
theorem dX1_copy_36 : decode cX1_copy 36 = .ok (.return_, 1) := by decide +kernel
theorem dX2_init_0 : decode cX2_init 0 = .ok (.aload_n 0, 1) := by decide +kernel
theorem dX2_init_1 : decode cX2_init 1 = .ok (.invokespecial 1, 3) := by decide +kernel
theorem dX2_init_4 : decode cX2_init 4 = .ok (.aload_n 0, 1) := by decide +kernel
theorem dX2_init_5 : decode cX2_init 5 = .ok (.iload_n 1, 1) := by decide +kernel
theorem dX2_init_6 : decode cX2_init 6 = .ok (.iconst 0, 1) := by decide +kernel
theorem dX2_init_7 : decode cX2_init 7 = .ok (.invokestatic 7, 3) := by decide +kernel
theorem dX2_init_10 : decode cX2_init 10 = .ok (.newarray .int, 2) := by decide +kernel
theorem dX2_init_12 : decode cX2_init 12 = .ok (.putfield 13, 3) := by decide +kernel
theorem dX2_init_15 : decode cX2_init 15 = .ok (.return_, 1) := by decide +kernel
theorem dX2_add_0 : decode cX2_add 0 = .ok (.aload_n 0, 1) := by decide +kernel
theorem dX2_add_1 : decode cX2_add 1 = .ok (.getfield 19, 3) := by decide +kernel
theorem dX2_add_4 : decode cX2_add 4 = .ok (.aload_n 0, 1) := by decide +kernel
theorem dX2_add_5 : decode cX2_add 5 = .ok (.getfield 13, 3) := by decide +kernel
theorem dX2_add_8 : decode cX2_add 8 = .ok (.arraylength, 1) := by decide +kernel
theorem dX2_add_9 : decode cX2_add 9 = .ok (.if_icmp .lt 5, 3) := by decide +kernel
theorem dX2_add_12 : decode cX2_add 12 = .ok (.iconst 0, 1) := by decide +kernel
theorem dX2_add_13 : decode cX2_add 13 = .ok (.ireturn, 1) := by decide +kernel
theorem dX2_add_14 : decode cX2_add 14 = .ok (.aload_n 0, 1) := by decide +kernel
theorem dX2_add_15 : decode cX2_add 15 = .ok (.getfield 13, 3) := by decide +kernel
theorem dX2_add_18 : decode cX2_add 18 = .ok (.aload_n 0, 1) := by decide +kernel
theorem dX2_add_19 : decode cX2_add 19 = .ok (.getfield 19, 3) := by decide +kernel
theorem dX2_add_22 : decode cX2_add 22 = .ok (.iload_n 1, 1) := by decide +kernel
theorem dX2_add_23 : decode cX2_add 23 = .ok (.iastore, 1) := by decide +kernel
theorem dX2_add_24 : decode cX2_add 24 = .ok (.aload_n 0, 1) := by decide +kernel
theorem dX2_add_25 : decode cX2_add 25 = .ok (.dup, 1) := by decide +kernel
theorem dX2_add_26 : decode cX2_add 26 = .ok (.getfield 19, 3) := by decide +kernel
theorem dX2_add_29 : decode cX2_add 29 = .ok (.iconst 1, 1) := by decide +kernel
theorem dX2_add_30 : decode cX2_add 30 = .ok (.iadd, 1) := by decide +kernel
theorem dX2_add_31 : decode cX2_add 31 = .ok (.putfield 19, 3) := by decide +kernel
theorem dX2_add_34 : decode cX2_add 34 = .ok (.iconst 1, 1) := by decide +kernel
theorem dX2_add_35 : decode cX2_add 35 = .ok (.ireturn, 1) := by decide +kernel
theorem dX2_at_0 : decode cX2_at 0 = .ok (.iload_n 1, 1) := by decide +kernel
theorem dX2_at_1 : decode cX2_at 1 = .ok (.ifCond .lt 20, 3) := by decide +kernel
theorem dX2_at_4 : decode cX2_at 4 = .ok (.iload_n 1, 1) := by decide +kernel
theorem dX2_at_5 : decode cX2_at 5 = .ok (.aload_n 0, 1) := by decide +kernel
theorem dX2_at_6 : decode cX2_at 6 = .ok (.getfield 19, 3) := by decide +kernel
theorem dX2_at_9 : decode cX2_at 9 = .ok (.if_icmp .ge 12, 3) := by decide +kernel
theorem dX2_at_12 : decode cX2_at 12 = .ok (.aload_n 0, 1) := by decide +kernel
theorem dX2_at_13 : decode cX2_at 13 = .ok (.getfield 13, 3) := by decide +kernel
theorem dX2_at_16 : decode cX2_at 16 = .ok (.iload_n 1, 1) := by decide +kernel
theorem dX2_at_17 : decode cX2_at 17 = .ok (.iaload, 1) := by decide +kernel
theorem dX2_at_18 : decode cX2_at 18 = .ok (.goto 4, 3) := by decide +kernel
theorem dX2_at_21 : decode cX2_at 21 = .ok (.iconst 0, 1) := by decide +kernel
theorem dX2_at_22 : decode cX2_at 22 = .ok (.ireturn, 1) := by decide +kernel
theorem dX2_clear_0 : decode cX2_clear 0 = .ok (.aload_n 0, 1) := by decide +kernel
theorem dX2_clear_1 : decode cX2_clear 1 = .ok (.iconst 0, 1) := by decide +kernel
theorem dX2_clear_2 : decode cX2_clear 2 = .ok (.putfield 19, 3) := by decide +kernel
theorem dX2_clear_5 : decode cX2_clear 5 = .ok (.return_, 1) := by decide +kernel
theorem dX3_init_0 : decode cX3_init 0 = .ok (.aload_n 0, 1) := by decide +kernel
theorem dX3_init_1 : decode cX3_init 1 = .ok (.invokespecial 3, 3) := by decide +kernel
theorem dX3_init_4 : decode cX3_init 4 = .ok (.aload_n 0, 1) := by decide +kernel
theorem dX3_init_5 : decode cX3_init 5 = .ok (.new 9, 3) := by decide +kernel
theorem dX3_init_8 : decode cX3_init 8 = .ok (.dup, 1) := by decide +kernel
theorem dX3_init_9 : decode cX3_init 9 = .ok (.invokespecial 11, 3) := by decide +kernel
theorem dX3_init_12 : decode cX3_init 12 = .ok (.putfield 12, 3) := by decide +kernel
theorem dX3_init_15 : decode cX3_init 15 = .ok (.aload_n 0, 1) := by decide +kernel
theorem dX3_init_16 : decode cX3_init 16 = .ok (.iconst 4, 1) := by decide +kernel
theorem dX3_init_17 : decode cX3_init 17 = .ok (.anewarray 18, 3) := by decide +kernel
theorem dX3_init_20 : decode cX3_init 20 = .ok (.putfield 20, 3) := by decide +kernel
theorem dX3_init_23 : decode cX3_init 23 = .ok (.aload_n 0, 1) := by decide +kernel
theorem dX3_init_24 : decode cX3_init 24 = .ok (.new 24, 3) := by decide +kernel
theorem dX3_init_27 : decode cX3_init 27 = .ok (.dup, 1) := by decide +kernel
theorem dX3_init_28 : decode cX3_init 28 = .ok (.invokespecial 26, 3) := by decide +kernel
theorem dX3_init_31 : decode cX3_init 31 = .ok (.putfield 27, 3) := by decide +kernel
theorem dX3_init_34 : decode cX3_init 34 = .ok (.iconst 0, 1) := by decide +kernel
theorem dX3_init_35 : decode cX3_init 35 = .ok (.istore_n 1, 1) := by decide +kernel
theorem dX3_init_36 : decode cX3_init 36 = .ok (.iload_n 1, 1) := by decide +kernel
theorem dX3_init_37 : decode cX3_init 37 = .ok (.iconst 4, 1) := by decide +kernel
theorem dX3_init_38 : decode cX3_init 38 = .ok (.if_icmp .ge 22, 3) := by decide +kernel
theorem dX3_init_41 : decode cX3_init 41 = .ok (.aload_n 0, 1) := by decide +kernel
theorem dX3_init_42 : decode cX3_init 42 = .ok (.getfield 20, 3) := by decide +kernel
theorem dX3_init_45 : decode cX3_init 45 = .ok (.iload_n 1, 1) := by decide +kernel
theorem dX3_init_46 : decode cX3_init 46 = .ok (.new 18, 3) := by decide +kernel
theorem dX3_init_49 : decode cX3_init 49 = .ok (.dup, 1) := by decide +kernel
theorem dX3_init_50 : decode cX3_init 50 = .ok (.invokespecial 31, 3) := by decide +kernel
theorem dX3_init_53 : decode cX3_init 53 = .ok (.aastore, 1) := by decide +kernel
theorem dX3_init_54 : decode cX3_init 54 = .ok (.iinc 1 1, 3) := by decide +kernel
theorem dX3_init_57 : decode cX3_init 57 = .ok (.goto (-21), 3) := by decide +kernel
theorem dX3_init_60 : decode cX3_init 60 = .ok (.return_, 1) := by decide +kernel
theorem dX3_addPrime_0 : decode cX3_addPrime 0 = .ok (.aload_n 0, 1) := by decide +kernel
theorem dX3_addPrime_1 : decode cX3_addPrime 1 = .ok (.getfield 12, 3) := by decide +kernel
theorem dX3_addPrime_4 : decode cX3_addPrime 4 = .ok (.iload_n 1, 1) := by decide +kernel
theorem dX3_addPrime_5 : decode cX3_addPrime 5 = .ok (.invokevirtual 32, 3) := by decide +kernel
theorem dX3_addPrime_8 : decode cX3_addPrime 8 = .ok (.istore_n 2, 1) := by decide +kernel
theorem dX3_addPrime_9 : decode cX3_addPrime 9 = .ok (.iload_n 2, 1) := by decide +kernel
theorem dX3_addPrime_10 : decode cX3_addPrime 10 = .ok (.ifCond .ge 4, 3) := by decide +kernel
theorem dX3_addPrime_13 : decode cX3_addPrime 13 = .ok (.return_, 1) := by decide +kernel
theorem dX3_addPrime_14 : decode cX3_addPrime 14 = .ok (.aload_n 0, 1) := by decide +kernel
theorem dX3_addPrime_15 : decode cX3_addPrime 15 = .ok (.getfield 20, 3) := by decide +kernel
theorem dX3_addPrime_18 : decode cX3_addPrime 18 = .ok (.astore_n 3, 1) := by decide +kernel
theorem dX3_addPrime_19 : decode cX3_addPrime 19 = .ok (.aload_n 3, 1) := by decide +kernel
theorem dX3_addPrime_20 : decode cX3_addPrime 20 = .ok (.arraylength, 1) := by decide +kernel
theorem dX3_addPrime_21 : decode cX3_addPrime 21 = .ok (.istore 4, 2) := by decide +kernel
theorem dX3_addPrime_23 : decode cX3_addPrime 23 = .ok (.iconst 0, 1) := by decide +kernel
theorem dX3_addPrime_24 : decode cX3_addPrime 24 = .ok (.istore 5, 2) := by decide +kernel
theorem dX3_addPrime_26 : decode cX3_addPrime 26 = .ok (.iload 5, 2) := by decide +kernel
theorem dX3_addPrime_28 : decode cX3_addPrime 28 = .ok (.iload 4, 2) := by decide +kernel
theorem dX3_addPrime_30 : decode cX3_addPrime 30 = .ok (.if_icmp .ge 21, 3) := by decide +kernel
theorem dX3_addPrime_33 : decode cX3_addPrime 33 = .ok (.aload_n 3, 1) := by decide +kernel
theorem dX3_addPrime_34 : decode cX3_addPrime 34 = .ok (.iload 5, 2) := by decide +kernel
theorem dX3_addPrime_36 : decode cX3_addPrime 36 = .ok (.aaload, 1) := by decide +kernel
theorem dX3_addPrime_37 : decode cX3_addPrime 37 = .ok (.astore 6, 2) := by decide +kernel
theorem dX3_addPrime_39 : decode cX3_addPrime 39 = .ok (.aload 6, 2) := by decide +kernel
theorem dX3_addPrime_41 : decode cX3_addPrime 41 = .ok (.iload_n 2, 1) := by decide +kernel
theorem dX3_addPrime_42 : decode cX3_addPrime 42 = .ok (.invokevirtual 36, 3) := by decide +kernel
theorem dX3_addPrime_45 : decode cX3_addPrime 45 = .ok (.iinc 5 1, 3) := by decide +kernel
theorem dX3_addPrime_48 : decode cX3_addPrime 48 = .ok (.goto (-22), 3) := by decide +kernel
theorem dX3_addPrime_51 : decode cX3_addPrime 51 = .ok (.aload_n 0, 1) := by decide +kernel
theorem dX3_addPrime_52 : decode cX3_addPrime 52 = .ok (.getfield 27, 3) := by decide +kernel
theorem dX3_addPrime_55 : decode cX3_addPrime 55 = .ok (.iload_n 1, 1) := by decide +kernel
theorem dX3_addPrime_56 : decode cX3_addPrime 56 = .ok (.invokevirtual 40, 3) := by decide +kernel
theorem dX3_addPrime_59 : decode cX3_addPrime 59 = .ok (.pop, 1) := by decide +kernel
theorem dX3_addPrime_60 : decode cX3_addPrime 60 = .ok (.return_, 1) := by decide +kernel
theorem dX3_removePrime_0 : decode cX3_removePrime 0 = .ok (.aload_n 0, 1) := by decide +kernel
theorem dX3_removePrime_1 : decode cX3_removePrime 1 = .ok (.getfield 12, 3) := by decide +kernel
theorem dX3_removePrime_4 : decode cX3_removePrime 4 = .ok (.iload_n 1, 1) := by decide +kernel
theorem dX3_removePrime_5 : decode cX3_removePrime 5 = .ok (.invokevirtual 44, 3) := by decide +kernel
theorem dX3_removePrime_8 : decode cX3_removePrime 8 = .ok (.aload_n 0, 1) := by decide +kernel
theorem dX3_removePrime_9 : decode cX3_removePrime 9 = .ok (.getfield 20, 3) := by decide +kernel
theorem dX3_removePrime_12 : decode cX3_removePrime 12 = .ok (.astore_n 2, 1) := by decide +kernel
theorem dX3_removePrime_13 : decode cX3_removePrime 13 = .ok (.aload_n 2, 1) := by decide +kernel
theorem dX3_removePrime_14 : decode cX3_removePrime 14 = .ok (.arraylength, 1) := by decide +kernel
theorem dX3_removePrime_15 : decode cX3_removePrime 15 = .ok (.istore_n 3, 1) := by decide +kernel
theorem dX3_removePrime_16 : decode cX3_removePrime 16 = .ok (.iconst 0, 1) := by decide +kernel
theorem dX3_removePrime_17 : decode cX3_removePrime 17 = .ok (.istore 4, 2) := by decide +kernel
theorem dX3_removePrime_19 : decode cX3_removePrime 19 = .ok (.iload 4, 2) := by decide +kernel
theorem dX3_removePrime_21 : decode cX3_removePrime 21 = .ok (.iload_n 3, 1) := by decide +kernel
theorem dX3_removePrime_22 : decode cX3_removePrime 22 = .ok (.if_icmp .ge 21, 3) := by decide +kernel
theorem dX3_removePrime_25 : decode cX3_removePrime 25 = .ok (.aload_n 2, 1) := by decide +kernel
theorem dX3_removePrime_26 : decode cX3_removePrime 26 = .ok (.iload 4, 2) := by decide +kernel
theorem dX3_removePrime_28 : decode cX3_removePrime 28 = .ok (.aaload, 1) := by decide +kernel
theorem dX3_removePrime_29 : decode cX3_removePrime 29 = .ok (.astore 5, 2) := by decide +kernel
theorem dX3_removePrime_31 : decode cX3_removePrime 31 = .ok (.aload 5, 2) := by decide +kernel
theorem dX3_removePrime_33 : decode cX3_removePrime 33 = .ok (.iload_n 1, 1) := by decide +kernel
theorem dX3_removePrime_34 : decode cX3_removePrime 34 = .ok (.invokevirtual 47, 3) := by decide +kernel
theorem dX3_removePrime_37 : decode cX3_removePrime 37 = .ok (.iinc 4 1, 3) := by decide +kernel
theorem dX3_removePrime_40 : decode cX3_removePrime 40 = .ok (.goto (-21), 3) := by decide +kernel
theorem dX3_removePrime_43 : decode cX3_removePrime 43 = .ok (.return_, 1) := by decide +kernel
theorem dX3_copy_0 : decode cX3_copy 0 = .ok (.aload_n 0, 1) := by decide +kernel
theorem dX3_copy_1 : decode cX3_copy 1 = .ok (.getfield 12, 3) := by decide +kernel
theorem dX3_copy_4 : decode cX3_copy 4 = .ok (.aload_n 1, 1) := by decide +kernel
theorem dX3_copy_5 : decode cX3_copy 5 = .ok (.getfield 12, 3) := by decide +kernel
theorem dX3_copy_8 : decode cX3_copy 8 = .ok (.invokevirtual 50, 3) := by decide +kernel
theorem dX3_copy_11 : decode cX3_copy 11 = .ok (.aload_n 0, 1) := by decide +kernel
theorem dX3_copy_12 : decode cX3_copy 12 = .ok (.getfield 27, 3) := by decide +kernel
theorem dX3_copy_15 : decode cX3_copy 15 = .ok (.aload_n 1, 1) := by decide +kernel
theorem dX3_copy_16 : decode cX3_copy 16 = .ok (.getfield 27, 3) := by decide +kernel
theorem dX3_copy_19 : decode cX3_copy 19 = .ok (.invokevirtual 54, 3) := by decide +kernel
theorem dX3_copy_22 : decode cX3_copy 22 = .ok (.iconst 0, 1) := by decide +kernel
theorem dX3_copy_23 : decode cX3_copy 23 = .ok (.istore_n 2, 1) := by decide +kernel
theorem dX3_copy_24 : decode cX3_copy 24 = .ok (.iload_n 2, 1) := by decide +kernel
theorem dX3_copy_25 : decode cX3_copy 25 = .ok (.iconst 4, 1) := by decide +kernel
theorem dX3_copy_26 : decode cX3_copy 26 = .ok (.if_icmp .ge 24, 3) := by decide +kernel
theorem dX3_copy_29 : decode cX3_copy 29 = .ok (.aload_n 0, 1) := by decide +kernel
theorem dX3_copy_30 : decode cX3_copy 30 = .ok (.getfield 20, 3) := by decide +kernel
theorem dX3_copy_33 : decode cX3_copy 33 = .ok (.iload_n 2, 1) := by decide +kernel
theorem dX3_copy_34 : decode cX3_copy 34 = .ok (.aaload, 1) := by decide +kernel
theorem dX3_copy_35 : decode cX3_copy 35 = .ok (.aload_n 1, 1) := by decide +kernel
theorem dX3_copy_36 : decode cX3_copy 36 = .ok (.getfield 20, 3) := by decide +kernel
theorem dX3_copy_39 : decode cX3_copy 39 = .ok (.iload_n 2, 1) := by decide +kernel
theorem dX3_copy_40 : decode cX3_copy 40 = .ok (.aaload, 1) := by decide +kernel
theorem dX3_copy_41 : decode cX3_copy 41 = .ok (.invokevirtual 57, 3) := by decide +kernel
theorem dX3_copy_44 : decode cX3_copy 44 = .ok (.iinc 2 1, 3) := by decide +kernel
theorem dX3_copy_47 : decode cX3_copy 47 = .ok (.goto (-23), 3) := by decide +kernel
theorem dX3_copy_50 : decode cX3_copy 50 = .ok (.return_, 1) := by decide +kernel
theorem dX4_init_0 : decode cX4_init 0 = .ok (.aload_n 0, 1) := by decide +kernel
theorem dX4_init_1 : decode cX4_init 1 = .ok (.invokespecial 3, 3) := by decide +kernel
theorem dX4_init_4 : decode cX4_init 4 = .ok (.aload_n 0, 1) := by decide +kernel
theorem dX4_init_5 : decode cX4_init 5 = .ok (.iconst 3, 1) := by decide +kernel
theorem dX4_init_6 : decode cX4_init 6 = .ok (.bipush 20, 2) := by decide +kernel
theorem dX4_init_8 : decode cX4_init 8 = .ok (.multianewarray 9 2, 4) := by decide +kernel
theorem dX4_init_12 : decode cX4_init 12 = .ok (.putfield 11, 3) := by decide +kernel
theorem dX4_init_15 : decode cX4_init 15 = .ok (.aload_n 0, 1) := by decide +kernel
theorem dX4_init_16 : decode cX4_init 16 = .ok (.iconst 3, 1) := by decide +kernel
theorem dX4_init_17 : decode cX4_init 17 = .ok (.newarray .int, 2) := by decide +kernel
theorem dX4_init_19 : decode cX4_init 19 = .ok (.putfield 16, 3) := by decide +kernel
theorem dX4_init_22 : decode cX4_init 22 = .ok (.aload_n 0, 1) := by decide +kernel
theorem dX4_init_23 : decode cX4_init 23 = .ok (.getfield 16, 3) := by decide +kernel
theorem dX4_init_26 : decode cX4_init 26 = .ok (.iconst (-1), 1) := by decide +kernel
theorem dX4_init_27 : decode cX4_init 27 = .ok (.invokestatic 20, 3) := by decide +kernel
theorem dX4_init_30 : decode cX4_init 30 = .ok (.return_, 1) := by decide +kernel
theorem dX4_start_0 : decode cX4_start 0 = .ok (.aload_n 0, 1) := by decide +kernel
theorem dX4_start_1 : decode cX4_start 1 = .ok (.getfield 11, 3) := by decide +kernel
theorem dX4_start_4 : decode cX4_start 4 = .ok (.iload_n 1, 1) := by decide +kernel
theorem dX4_start_5 : decode cX4_start 5 = .ok (.aaload, 1) := by decide +kernel
theorem dX4_start_6 : decode cX4_start 6 = .ok (.lconst 0, 1) := by decide +kernel
theorem dX4_start_7 : decode cX4_start 7 = .ok (.invokestatic 26, 3) := by decide +kernel
theorem dX4_start_10 : decode cX4_start 10 = .ok (.aload_n 0, 1) := by decide +kernel
theorem dX4_start_11 : decode cX4_start 11 = .ok (.getfield 16, 3) := by decide +kernel
theorem dX4_start_14 : decode cX4_start 14 = .ok (.iload_n 1, 1) := by decide +kernel
theorem dX4_start_15 : decode cX4_start 15 = .ok (.iload_n 2, 1) := by decide +kernel
theorem dX4_start_16 : decode cX4_start 16 = .ok (.iastore, 1) := by decide +kernel
theorem dX4_start_17 : decode cX4_start 17 = .ok (.return_, 1) := by decide +kernel
theorem dX4_isMissing_0 : decode cX4_isMissing 0 = .ok (.aload_n 0, 1) := by decide +kernel
theorem dX4_isMissing_1 : decode cX4_isMissing 1 = .ok (.getfield 16, 3) := by decide +kernel
theorem dX4_isMissing_4 : decode cX4_isMissing 4 = .ok (.iload_n 1, 1) := by decide +kernel
theorem dX4_isMissing_5 : decode cX4_isMissing 5 = .ok (.iaload, 1) := by decide +kernel
theorem dX4_isMissing_6 : decode cX4_isMissing 6 = .ok (.ifCond .ge 7, 3) := by decide +kernel
theorem dX4_isMissing_9 : decode cX4_isMissing 9 = .ok (.iconst 1, 1) := by decide +kernel
theorem dX4_isMissing_10 : decode cX4_isMissing 10 = .ok (.goto 4, 3) := by decide +kernel
theorem dX4_isMissing_13 : decode cX4_isMissing 13 = .ok (.iconst 0, 1) := by decide +kernel
theorem dX4_isMissing_14 : decode cX4_isMissing 14 = .ok (.ireturn, 1) := by decide +kernel
theorem dX4_has_0 : decode cX4_has 0 = .ok (.iload_n 2, 1) := by decide +kernel
theorem dX4_has_1 : decode cX4_has 1 = .ok (.ifCond .lt 17, 3) := by decide +kernel
theorem dX4_has_4 : decode cX4_has 4 = .ok (.iload_n 2, 1) := by decide +kernel
theorem dX4_has_5 : decode cX4_has 5 = .ok (.aload_n 0, 1) := by decide +kernel
theorem dX4_has_6 : decode cX4_has 6 = .ok (.getfield 16, 3) := by decide +kernel
theorem dX4_has_9 : decode cX4_has 9 = .ok (.iload_n 1, 1) := by decide +kernel
theorem dX4_has_10 : decode cX4_has 10 = .ok (.iaload, 1) := by decide +kernel
theorem dX4_has_11 : decode cX4_has 11 = .ok (.if_icmp .ge 7, 3) := by decide +kernel
theorem dX4_has_14 : decode cX4_has 14 = .ok (.iconst 1, 1) := by decide +kernel
theorem dX4_has_15 : decode cX4_has 15 = .ok (.goto 4, 3) := by decide +kernel
theorem dX4_has_18 : decode cX4_has 18 = .ok (.iconst 0, 1) := by decide +kernel
theorem dX4_has_19 : decode cX4_has 19 = .ok (.ireturn, 1) := by decide +kernel
theorem dX4_howManyThere_0 : decode cX4_howManyThere 0 = .ok (.iconst 0, 1) := by decide +kernel
theorem dX4_howManyThere_1 : decode cX4_howManyThere 1 = .ok (.istore_n 1, 1) := by decide +kernel
theorem dX4_howManyThere_2 : decode cX4_howManyThere 2 = .ok (.aload_n 0, 1) := by decide +kernel
theorem dX4_howManyThere_3 : decode cX4_howManyThere 3 = .ok (.getfield 16, 3) := by decide +kernel
theorem dX4_howManyThere_6 : decode cX4_howManyThere 6 = .ok (.astore_n 2, 1) := by decide +kernel
theorem dX4_howManyThere_7 : decode cX4_howManyThere 7 = .ok (.aload_n 2, 1) := by decide +kernel
theorem dX4_howManyThere_8 : decode cX4_howManyThere 8 = .ok (.arraylength, 1) := by decide +kernel
theorem dX4_howManyThere_9 : decode cX4_howManyThere 9 = .ok (.istore_n 3, 1) := by decide +kernel
theorem dX4_howManyThere_10 : decode cX4_howManyThere 10 = .ok (.iconst 0, 1) := by decide +kernel
theorem dX4_howManyThere_11 : decode cX4_howManyThere 11 = .ok (.istore 4, 2) := by decide +kernel
theorem dX4_howManyThere_13 : decode cX4_howManyThere 13 = .ok (.iload 4, 2) := by decide +kernel
theorem dX4_howManyThere_15 : decode cX4_howManyThere 15 = .ok (.iload_n 3, 1) := by decide +kernel
theorem dX4_howManyThere_16 : decode cX4_howManyThere 16 = .ok (.if_icmp .ge 23, 3) := by decide +kernel
theorem dX4_howManyThere_19 : decode cX4_howManyThere 19 = .ok (.aload_n 2, 1) := by decide +kernel
theorem dX4_howManyThere_20 : decode cX4_howManyThere 20 = .ok (.iload 4, 2) := by decide +kernel
theorem dX4_howManyThere_22 : decode cX4_howManyThere 22 = .ok (.iaload, 1) := by decide +kernel
theorem dX4_howManyThere_23 : decode cX4_howManyThere 23 = .ok (.istore 5, 2) := by decide +kernel
theorem dX4_howManyThere_25 : decode cX4_howManyThere 25 = .ok (.iload 5, 2) := by decide +kernel
theorem dX4_howManyThere_27 : decode cX4_howManyThere 27 = .ok (.ifCond .lt 6, 3) := by decide +kernel
theorem dX4_howManyThere_30 : decode cX4_howManyThere 30 = .ok (.iinc 1 1, 3) := by decide +kernel
theorem dX4_howManyThere_33 : decode cX4_howManyThere 33 = .ok (.iinc 4 1, 3) := by decide +kernel
theorem dX4_howManyThere_36 : decode cX4_howManyThere 36 = .ok (.goto (-23), 3) := by decide +kernel
theorem dX4_howManyThere_39 : decode cX4_howManyThere 39 = .ok (.iload_n 1, 1) := by decide +kernel
theorem dX4_howManyThere_40 : decode cX4_howManyThere 40 = .ok (.ireturn, 1) := by decide +kernel
theorem dX5_init_0 : decode cX5_init 0 = .ok (.aload_n 0, 1) := by decide +kernel
theorem dX5_init_1 : decode cX5_init 1 = .ok (.invokespecial 3, 3) := by decide +kernel
theorem dX5_init_4 : decode cX5_init 4 = .ok (.aload_n 0, 1) := by decide +kernel
theorem dX5_init_5 : decode cX5_init 5 = .ok (.bipush 97, 2) := by decide +kernel
theorem dX5_init_7 : decode cX5_init 7 = .ok (.newarray .boolean, 2) := by decide +kernel
theorem dX5_init_9 : decode cX5_init 9 = .ok (.putfield 9, 3) := by decide +kernel
theorem dX5_init_12 : decode cX5_init 12 = .ok (.aload_n 0, 1) := by decide +kernel
theorem dX5_init_13 : decode cX5_init 13 = .ok (.bipush 97, 2) := by decide +kernel
theorem dX5_init_15 : decode cX5_init 15 = .ok (.newarray .int, 2) := by decide +kernel
theorem dX5_init_17 : decode cX5_init 17 = .ok (.putfield 15, 3) := by decide +kernel
theorem dX5_init_20 : decode cX5_init 20 = .ok (.aload_n 0, 1) := by decide +kernel
theorem dX5_init_21 : decode cX5_init 21 = .ok (.iconst 3, 1) := by decide +kernel
theorem dX5_init_22 : decode cX5_init 22 = .ok (.putfield 19, 3) := by decide +kernel
theorem dX5_init_25 : decode cX5_init 25 = .ok (.return_, 1) := by decide +kernel
theorem dX5_fill_0 : decode cX5_fill 0 = .ok (.aload_n 0, 1) := by decide +kernel
theorem dX5_fill_1 : decode cX5_fill 1 = .ok (.iload_n 2, 1) := by decide +kernel
theorem dX5_fill_2 : decode cX5_fill 2 = .ok (.iconst 3, 1) := by decide +kernel
theorem dX5_fill_3 : decode cX5_fill 3 = .ok (.invokestatic 23, 3) := by decide +kernel
theorem dX5_fill_6 : decode cX5_fill 6 = .ok (.bipush 97, 2) := by decide +kernel
theorem dX5_fill_8 : decode cX5_fill 8 = .ok (.invokestatic 29, 3) := by decide +kernel
theorem dX5_fill_11 : decode cX5_fill 11 = .ok (.putfield 19, 3) := by decide +kernel
theorem dX5_fill_14 : decode cX5_fill 14 = .ok (.iconst 0, 1) := by decide +kernel
theorem dX5_fill_15 : decode cX5_fill 15 = .ok (.istore_n 3, 1) := by decide +kernel
theorem dX5_fill_16 : decode cX5_fill 16 = .ok (.iload_n 3, 1) := by decide +kernel
theorem dX5_fill_17 : decode cX5_fill 17 = .ok (.aload_n 0, 1) := by decide +kernel
theorem dX5_fill_18 : decode cX5_fill 18 = .ok (.getfield 19, 3) := by decide +kernel
theorem dX5_fill_21 : decode cX5_fill 21 = .ok (.if_icmp .ge 16, 3) := by decide +kernel
theorem dX5_fill_24 : decode cX5_fill 24 = .ok (.aload_n 0, 1) := by decide +kernel
theorem dX5_fill_25 : decode cX5_fill 25 = .ok (.getfield 9, 3) := by decide +kernel
theorem dX5_fill_28 : decode cX5_fill 28 = .ok (.iload_n 3, 1) := by decide +kernel
theorem dX5_fill_29 : decode cX5_fill 29 = .ok (.iconst 0, 1) := by decide +kernel
theorem dX5_fill_30 : decode cX5_fill 30 = .ok (.bastore, 1) := by decide +kernel
theorem dX5_fill_31 : decode cX5_fill 31 = .ok (.iinc 3 1, 3) := by decide +kernel
theorem dX5_fill_34 : decode cX5_fill 34 = .ok (.goto (-18), 3) := by decide +kernel
theorem dX5_fill_37 : decode cX5_fill 37 = .ok (.aload_n 0, 1) := by decide +kernel
theorem dX5_fill_38 : decode cX5_fill 38 = .ok (.iconst 0, 1) := by decide +kernel
theorem dX5_fill_39 : decode cX5_fill 39 = .ok (.putfield 32, 3) := by decide +kernel
theorem dX5_fill_42 : decode cX5_fill 42 = .ok (.aload_n 0, 1) := by decide +kernel
theorem dX5_fill_43 : decode cX5_fill 43 = .ok (.iconst 1, 1) := by decide +kernel
theorem dX5_fill_44 : decode cX5_fill 44 = .ok (.invokevirtual 35, 3) := by decide +kernel
theorem dX5_fill_47 : decode cX5_fill 47 = .ok (.iconst 0, 1) := by decide +kernel
theorem dX5_fill_48 : decode cX5_fill 48 = .ok (.istore_n 3, 1) := by decide +kernel
theorem dX5_fill_49 : decode cX5_fill 49 = .ok (.iload_n 3, 1) := by decide +kernel
theorem dX5_fill_50 : decode cX5_fill 50 = .ok (.aload_n 0, 1) := by decide +kernel
theorem dX5_fill_51 : decode cX5_fill 51 = .ok (.getfield 32, 3) := by decide +kernel
theorem dX5_fill_54 : decode cX5_fill 54 = .ok (.if_icmp .ge 73, 3) := by decide +kernel
theorem dX5_fill_57 : decode cX5_fill 57 = .ok (.iload_n 3, 1) := by decide +kernel
theorem dX5_fill_58 : decode cX5_fill 58 = .ok (.aload_n 0, 1) := by decide +kernel
theorem dX5_fill_59 : decode cX5_fill 59 = .ok (.getfield 19, 3) := by decide +kernel
theorem dX5_fill_62 : decode cX5_fill 62 = .ok (.if_icmp .ge 65, 3) := by decide +kernel
theorem dX5_fill_65 : decode cX5_fill 65 = .ok (.aload_n 0, 1) := by decide +kernel
theorem dX5_fill_66 : decode cX5_fill 66 = .ok (.aload_n 0, 1) := by decide +kernel
theorem dX5_fill_67 : decode cX5_fill 67 = .ok (.getfield 19, 3) := by decide +kernel
theorem dX5_fill_70 : decode cX5_fill 70 = .ok (.aload_n 0, 1) := by decide +kernel
theorem dX5_fill_71 : decode cX5_fill 71 = .ok (.getfield 15, 3) := by decide +kernel
theorem dX5_fill_74 : decode cX5_fill 74 = .ok (.iload_n 3, 1) := by decide +kernel
theorem dX5_fill_75 : decode cX5_fill 75 = .ok (.iaload, 1) := by decide +kernel
theorem dX5_fill_76 : decode cX5_fill 76 = .ok (.isub, 1) := by decide +kernel
theorem dX5_fill_77 : decode cX5_fill 77 = .ok (.invokevirtual 35, 3) := by decide +kernel
theorem dX5_fill_80 : decode cX5_fill 80 = .ok (.iconst 0, 1) := by decide +kernel
theorem dX5_fill_81 : decode cX5_fill 81 = .ok (.istore 4, 2) := by decide +kernel
theorem dX5_fill_83 : decode cX5_fill 83 = .ok (.iload 4, 2) := by decide +kernel
theorem dX5_fill_85 : decode cX5_fill 85 = .ok (.aload_n 1, 1) := by decide +kernel
theorem dX5_fill_86 : decode cX5_fill 86 = .ok (.getfield 39, 3) := by decide +kernel
theorem dX5_fill_89 : decode cX5_fill 89 = .ok (.if_icmp .ge 32, 3) := by decide +kernel
theorem dX5_fill_92 : decode cX5_fill 92 = .ok (.aload_n 0, 1) := by decide +kernel
theorem dX5_fill_93 : decode cX5_fill 93 = .ok (.aload_n 0, 1) := by decide +kernel
theorem dX5_fill_94 : decode cX5_fill 94 = .ok (.getfield 15, 3) := by decide +kernel
theorem dX5_fill_97 : decode cX5_fill 97 = .ok (.iload_n 3, 1) := by decide +kernel
theorem dX5_fill_98 : decode cX5_fill 98 = .ok (.iaload, 1) := by decide +kernel
theorem dX5_fill_99 : decode cX5_fill 99 = .ok (.aload_n 1, 1) := by decide +kernel
theorem dX5_fill_100 : decode cX5_fill 100 = .ok (.getfield 42, 3) := by decide +kernel
theorem dX5_fill_103 : decode cX5_fill 103 = .ok (.iload 4, 2) := by decide +kernel
theorem dX5_fill_105 : decode cX5_fill 105 = .ok (.iaload, 1) := by decide +kernel
theorem dX5_fill_106 : decode cX5_fill 106 = .ok (.imul, 1) := by decide +kernel
theorem dX5_fill_107 : decode cX5_fill 107 = .ok (.aload_n 0, 1) := by decide +kernel
theorem dX5_fill_108 : decode cX5_fill 108 = .ok (.getfield 19, 3) := by decide +kernel
theorem dX5_fill_111 : decode cX5_fill 111 = .ok (.irem, 1) := by decide +kernel
theorem dX5_fill_112 : decode cX5_fill 112 = .ok (.invokevirtual 35, 3) := by decide +kernel
theorem dX5_fill_115 : decode cX5_fill 115 = .ok (.iinc 4 1, 3) := by decide +kernel
theorem dX5_fill_118 : decode cX5_fill 118 = .ok (.goto (-35), 3) := by decide +kernel
theorem dX5_fill_121 : decode cX5_fill 121 = .ok (.iinc 3 1, 3) := by decide +kernel
theorem dX5_fill_124 : decode cX5_fill 124 = .ok (.goto (-75), 3) := by decide +kernel
theorem dX5_fill_127 : decode cX5_fill 127 = .ok (.return_, 1) := by decide +kernel
theorem dX5_note_0 : decode cX5_note 0 = .ok (.iload_n 1, 1) := by decide +kernel
theorem dX5_note_1 : decode cX5_note 1 = .ok (.ifCond .lt 20, 3) := by decide +kernel
theorem dX5_note_4 : decode cX5_note 4 = .ok (.iload_n 1, 1) := by decide +kernel
theorem dX5_note_5 : decode cX5_note 5 = .ok (.aload_n 0, 1) := by decide +kernel
theorem dX5_note_6 : decode cX5_note 6 = .ok (.getfield 19, 3) := by decide +kernel
theorem dX5_note_9 : decode cX5_note 9 = .ok (.if_icmp .ge 12, 3) := by decide +kernel
theorem dX5_note_12 : decode cX5_note 12 = .ok (.aload_n 0, 1) := by decide +kernel
theorem dX5_note_13 : decode cX5_note 13 = .ok (.getfield 9, 3) := by decide +kernel
theorem dX5_note_16 : decode cX5_note 16 = .ok (.iload_n 1, 1) := by decide +kernel
theorem dX5_note_17 : decode cX5_note 17 = .ok (.baload, 1) := by decide +kernel
theorem dX5_note_18 : decode cX5_note 18 = .ok (.ifCond .eq 4, 3) := by decide +kernel
theorem dX5_note_21 : decode cX5_note 21 = .ok (.return_, 1) := by decide +kernel
theorem dX5_note_22 : decode cX5_note 22 = .ok (.aload_n 0, 1) := by decide +kernel
theorem dX5_note_23 : decode cX5_note 23 = .ok (.getfield 9, 3) := by decide +kernel
theorem dX5_note_26 : decode cX5_note 26 = .ok (.iload_n 1, 1) := by decide +kernel
theorem dX5_note_27 : decode cX5_note 27 = .ok (.iconst 1, 1) := by decide +kernel
theorem dX5_note_28 : decode cX5_note 28 = .ok (.bastore, 1) := by decide +kernel
theorem dX5_note_29 : decode cX5_note 29 = .ok (.aload_n 0, 1) := by decide +kernel
theorem dX5_note_30 : decode cX5_note 30 = .ok (.getfield 15, 3) := by decide +kernel
theorem dX5_note_33 : decode cX5_note 33 = .ok (.aload_n 0, 1) := by decide +kernel
theorem dX5_note_34 : decode cX5_note 34 = .ok (.getfield 32, 3) := by decide +kernel
theorem dX5_note_37 : decode cX5_note 37 = .ok (.iload_n 1, 1) := by decide +kernel
theorem dX5_note_38 : decode cX5_note 38 = .ok (.iastore, 1) := by decide +kernel
theorem dX5_note_39 : decode cX5_note 39 = .ok (.aload_n 0, 1) := by decide +kernel
theorem dX5_note_40 : decode cX5_note 40 = .ok (.dup, 1) := by decide +kernel
theorem dX5_note_41 : decode cX5_note 41 = .ok (.getfield 32, 3) := by decide +kernel
theorem dX5_note_44 : decode cX5_note 44 = .ok (.iconst 1, 1) := by decide +kernel
theorem dX5_note_45 : decode cX5_note 45 = .ok (.iadd, 1) := by decide +kernel
theorem dX5_note_46 : decode cX5_note 46 = .ok (.putfield 32, 3) := by decide +kernel
theorem dX5_note_49 : decode cX5_note 49 = .ok (.return_, 1) := by decide +kernel
theorem dX5_residueOf_0 : decode cX5_residueOf 0 = .ok (.aload_n 1, 1) := by decide +kernel
theorem dX5_residueOf_1 : decode cX5_residueOf 1 = .ok (.getfield 45, 3) := by decide +kernel
theorem dX5_residueOf_4 : decode cX5_residueOf 4 = .ok (.ifCond .ge 12, 3) := by decide +kernel
theorem dX5_residueOf_7 : decode cX5_residueOf 7 = .ok (.aload_n 0, 1) := by decide +kernel
theorem dX5_residueOf_8 : decode cX5_residueOf 8 = .ok (.getfield 19, 3) := by decide +kernel
theorem dX5_residueOf_11 : decode cX5_residueOf 11 = .ok (.iconst 1, 1) := by decide +kernel
theorem dX5_residueOf_12 : decode cX5_residueOf 12 = .ok (.isub, 1) := by decide +kernel
theorem dX5_residueOf_13 : decode cX5_residueOf 13 = .ok (.goto 4, 3) := by decide +kernel
theorem dX5_residueOf_16 : decode cX5_residueOf 16 = .ok (.iconst 1, 1) := by decide +kernel
theorem dX5_residueOf_17 : decode cX5_residueOf 17 = .ok (.istore_n 3, 1) := by decide +kernel
theorem dX5_residueOf_18 : decode cX5_residueOf 18 = .ok (.iconst 0, 1) := by decide +kernel
theorem dX5_residueOf_19 : decode cX5_residueOf 19 = .ok (.istore 4, 2) := by decide +kernel
theorem dX5_residueOf_21 : decode cX5_residueOf 21 = .ok (.iload 4, 2) := by decide +kernel
theorem dX5_residueOf_23 : decode cX5_residueOf 23 = .ok (.aload_n 2, 1) := by decide +kernel
theorem dX5_residueOf_24 : decode cX5_residueOf 24 = .ok (.getfield 39, 3) := by decide +kernel
theorem dX5_residueOf_27 : decode cX5_residueOf 27 = .ok (.if_icmp .ge 35, 3) := by decide +kernel
theorem dX5_residueOf_30 : decode cX5_residueOf 30 = .ok (.iload_n 3, 1) := by decide +kernel
theorem dX5_residueOf_31 : decode cX5_residueOf 31 = .ok (.aload_n 0, 1) := by decide +kernel
theorem dX5_residueOf_32 : decode cX5_residueOf 32 = .ok (.aload_n 2, 1) := by decide +kernel
theorem dX5_residueOf_33 : decode cX5_residueOf 33 = .ok (.getfield 42, 3) := by decide +kernel
theorem dX5_residueOf_36 : decode cX5_residueOf 36 = .ok (.iload 4, 2) := by decide +kernel
theorem dX5_residueOf_38 : decode cX5_residueOf 38 = .ok (.iaload, 1) := by decide +kernel
theorem dX5_residueOf_39 : decode cX5_residueOf 39 = .ok (.aload_n 1, 1) := by decide +kernel
theorem dX5_residueOf_40 : decode cX5_residueOf 40 = .ok (.getfield 50, 3) := by decide +kernel
theorem dX5_residueOf_43 : decode cX5_residueOf 43 = .ok (.iload 4, 2) := by decide +kernel
theorem dX5_residueOf_45 : decode cX5_residueOf 45 = .ok (.iaload, 1) := by decide +kernel
theorem dX5_residueOf_46 : decode cX5_residueOf 46 = .ok (.invokevirtual 53, 3) := by decide +kernel
theorem dX5_residueOf_49 : decode cX5_residueOf 49 = .ok (.imul, 1) := by decide +kernel
theorem dX5_residueOf_50 : decode cX5_residueOf 50 = .ok (.aload_n 0, 1) := by decide +kernel
theorem dX5_residueOf_51 : decode cX5_residueOf 51 = .ok (.getfield 19, 3) := by decide +kernel
theorem dX5_residueOf_54 : decode cX5_residueOf 54 = .ok (.irem, 1) := by decide +kernel
theorem dX5_residueOf_55 : decode cX5_residueOf 55 = .ok (.istore_n 3, 1) := by decide +kernel
theorem dX5_residueOf_56 : decode cX5_residueOf 56 = .ok (.iinc 4 1, 3) := by decide +kernel
theorem dX5_residueOf_59 : decode cX5_residueOf 59 = .ok (.goto (-38), 3) := by decide +kernel
theorem dX5_residueOf_62 : decode cX5_residueOf 62 = .ok (.iload_n 3, 1) := by decide +kernel
theorem dX5_residueOf_63 : decode cX5_residueOf 63 = .ok (.ireturn, 1) := by decide +kernel
theorem dX5_powerOfPrime_0 : decode cX5_powerOfPrime 0 = .ok (.iload_n 2, 1) := by decide +kernel
theorem dX5_powerOfPrime_1 : decode cX5_powerOfPrime 1 = .ok (.aload_n 0, 1) := by decide +kernel
theorem dX5_powerOfPrime_2 : decode cX5_powerOfPrime 2 = .ok (.getfield 19, 3) := by decide +kernel
theorem dX5_powerOfPrime_5 : decode cX5_powerOfPrime 5 = .ok (.iconst 1, 1) := by decide +kernel
theorem dX5_powerOfPrime_6 : decode cX5_powerOfPrime 6 = .ok (.isub, 1) := by decide +kernel
theorem dX5_powerOfPrime_7 : decode cX5_powerOfPrime 7 = .ok (.invokestatic 56, 3) := by decide +kernel
theorem dX5_powerOfPrime_10 : decode cX5_powerOfPrime 10 = .ok (.istore_n 3, 1) := by decide +kernel
theorem dX5_powerOfPrime_11 : decode cX5_powerOfPrime 11 = .ok (.iconst 1, 1) := by decide +kernel
theorem dX5_powerOfPrime_12 : decode cX5_powerOfPrime 12 = .ok (.istore 4, 2) := by decide +kernel
theorem dX5_powerOfPrime_14 : decode cX5_powerOfPrime 14 = .ok (.iconst 0, 1) := by decide +kernel
theorem dX5_powerOfPrime_15 : decode cX5_powerOfPrime 15 = .ok (.istore 5, 2) := by decide +kernel
theorem dX5_powerOfPrime_17 : decode cX5_powerOfPrime 17 = .ok (.iload 5, 2) := by decide +kernel
theorem dX5_powerOfPrime_19 : decode cX5_powerOfPrime 19 = .ok (.iload_n 3, 1) := by decide +kernel
theorem dX5_powerOfPrime_20 : decode cX5_powerOfPrime 20 = .ok (.if_icmp .ge 20, 3) := by decide +kernel
theorem dX5_powerOfPrime_23 : decode cX5_powerOfPrime 23 = .ok (.iload 4, 2) := by decide +kernel
theorem dX5_powerOfPrime_25 : decode cX5_powerOfPrime 25 = .ok (.iload_n 1, 1) := by decide +kernel
theorem dX5_powerOfPrime_26 : decode cX5_powerOfPrime 26 = .ok (.imul, 1) := by decide +kernel
theorem dX5_powerOfPrime_27 : decode cX5_powerOfPrime 27 = .ok (.aload_n 0, 1) := by decide +kernel
theorem dX5_powerOfPrime_28 : decode cX5_powerOfPrime 28 = .ok (.getfield 19, 3) := by decide +kernel
theorem dX5_powerOfPrime_31 : decode cX5_powerOfPrime 31 = .ok (.irem, 1) := by decide +kernel
theorem dX5_powerOfPrime_32 : decode cX5_powerOfPrime 32 = .ok (.istore 4, 2) := by decide +kernel
theorem dX5_powerOfPrime_34 : decode cX5_powerOfPrime 34 = .ok (.iinc 5 1, 3) := by decide +kernel
theorem dX5_powerOfPrime_37 : decode cX5_powerOfPrime 37 = .ok (.goto (-20), 3) := by decide +kernel
theorem dX5_powerOfPrime_40 : decode cX5_powerOfPrime 40 = .ok (.iload 4, 2) := by decide +kernel
theorem dX5_powerOfPrime_42 : decode cX5_powerOfPrime 42 = .ok (.ireturn, 1) := by decide +kernel
theorem dX5_letsPass_0 : decode cX5_letsPass 0 = .ok (.aload_n 0, 1) := by decide +kernel
theorem dX5_letsPass_1 : decode cX5_letsPass 1 = .ok (.getfield 9, 3) := by decide +kernel
theorem dX5_letsPass_4 : decode cX5_letsPass 4 = .ok (.iconst 1, 1) := by decide +kernel
theorem dX5_letsPass_5 : decode cX5_letsPass 5 = .ok (.iload_n 1, 1) := by decide +kernel
theorem dX5_letsPass_6 : decode cX5_letsPass 6 = .ok (.isub, 1) := by decide +kernel
theorem dX5_letsPass_7 : decode cX5_letsPass 7 = .ok (.aload_n 0, 1) := by decide +kernel
theorem dX5_letsPass_8 : decode cX5_letsPass 8 = .ok (.getfield 19, 3) := by decide +kernel
theorem dX5_letsPass_11 : decode cX5_letsPass 11 = .ok (.invokestatic 56, 3) := by decide +kernel
theorem dX5_letsPass_14 : decode cX5_letsPass 14 = .ok (.baload, 1) := by decide +kernel
theorem dX5_letsPass_15 : decode cX5_letsPass 15 = .ok (.ireturn, 1) := by decide +kernel
theorem dX6_init_0 : decode cX6_init 0 = .ok (.aload_n 0, 1) := by decide +kernel
theorem dX6_init_1 : decode cX6_init 1 = .ok (.invokespecial 3, 3) := by decide +kernel
theorem dX6_init_4 : decode cX6_init 4 = .ok (.aload_n 0, 1) := by decide +kernel
theorem dX6_init_5 : decode cX6_init 5 = .ok (.new 9, 3) := by decide +kernel
theorem dX6_init_8 : decode cX6_init 8 = .ok (.dup, 1) := by decide +kernel
theorem dX6_init_9 : decode cX6_init 9 = .ok (.invokespecial 11, 3) := by decide +kernel
theorem dX6_init_12 : decode cX6_init 12 = .ok (.putfield 12, 3) := by decide +kernel
theorem dX6_init_15 : decode cX6_init 15 = .ok (.return_, 1) := by decide +kernel
theorem dX6_scan_0 : decode cX6_scan 0 = .ok (.aload_n 0, 1) := by decide +kernel
theorem dX6_scan_1 : decode cX6_scan 1 = .ok (.getfield 12, 3) := by decide +kernel
theorem dX6_scan_4 : decode cX6_scan 4 = .ok (.invokevirtual 18, 3) := by decide +kernel
theorem dX6_scan_7 : decode cX6_scan 7 = .ok (.aload_n 0, 1) := by decide +kernel
theorem dX6_scan_8 : decode cX6_scan 8 = .ok (.iconst 0, 1) := by decide +kernel
theorem dX6_scan_9 : decode cX6_scan 9 = .ok (.putfield 21, 3) := by decide +kernel
theorem dX6_scan_12 : decode cX6_scan 12 = .ok (.aload_n 1, 1) := by decide +kernel
theorem dX6_scan_13 : decode cX6_scan 13 = .ok (.iconst 0, 1) := by decide +kernel
theorem dX6_scan_14 : decode cX6_scan 14 = .ok (.invokevirtual 25, 3) := by decide +kernel
theorem dX6_scan_17 : decode cX6_scan 17 = .ok (.bipush 45, 2) := by decide +kernel
theorem dX6_scan_19 : decode cX6_scan 19 = .ok (.if_icmp .ne 21, 3) := by decide +kernel
theorem dX6_scan_22 : decode cX6_scan 22 = .ok (.aload_n 0, 1) := by decide +kernel
theorem dX6_scan_23 : decode cX6_scan 23 = .ok (.getfield 12, 3) := by decide +kernel
theorem dX6_scan_26 : decode cX6_scan 26 = .ok (.iconst (-1), 1) := by decide +kernel
theorem dX6_scan_27 : decode cX6_scan 27 = .ok (.putfield 31, 3) := by decide +kernel
theorem dX6_scan_30 : decode cX6_scan 30 = .ok (.aload_n 0, 1) := by decide +kernel
theorem dX6_scan_31 : decode cX6_scan 31 = .ok (.dup, 1) := by decide +kernel
theorem dX6_scan_32 : decode cX6_scan 32 = .ok (.getfield 21, 3) := by decide +kernel
theorem dX6_scan_35 : decode cX6_scan 35 = .ok (.iconst 1, 1) := by decide +kernel
theorem dX6_scan_36 : decode cX6_scan 36 = .ok (.iadd, 1) := by decide +kernel
theorem dX6_scan_37 : decode cX6_scan 37 = .ok (.putfield 21, 3) := by decide +kernel
theorem dX6_scan_40 : decode cX6_scan 40 = .ok (.aload_n 1, 1) := by decide +kernel
theorem dX6_scan_41 : decode cX6_scan 41 = .ok (.aload_n 0, 1) := by decide +kernel
theorem dX6_scan_42 : decode cX6_scan 42 = .ok (.getfield 21, 3) := by decide +kernel
theorem dX6_scan_45 : decode cX6_scan 45 = .ok (.invokevirtual 25, 3) := by decide +kernel
theorem dX6_scan_48 : decode cX6_scan 48 = .ok (.bipush 49, 2) := by decide +kernel
theorem dX6_scan_50 : decode cX6_scan 50 = .ok (.if_icmp .ne 46, 3) := by decide +kernel
theorem dX6_scan_53 : decode cX6_scan 53 = .ok (.aload_n 1, 1) := by decide +kernel
theorem dX6_scan_54 : decode cX6_scan 54 = .ok (.aload_n 0, 1) := by decide +kernel
theorem dX6_scan_55 : decode cX6_scan 55 = .ok (.getfield 21, 3) := by decide +kernel
theorem dX6_scan_58 : decode cX6_scan 58 = .ok (.iconst 1, 1) := by decide +kernel
theorem dX6_scan_59 : decode cX6_scan 59 = .ok (.iadd, 1) := by decide +kernel
theorem dX6_scan_60 : decode cX6_scan 60 = .ok (.invokevirtual 25, 3) := by decide +kernel
theorem dX6_scan_63 : decode cX6_scan 63 = .ok (.invokestatic 34, 3) := by decide +kernel
theorem dX6_scan_66 : decode cX6_scan 66 = .ok (.ifCond .ne 30, 3) := by decide +kernel
theorem dX6_scan_69 : decode cX6_scan 69 = .ok (.aload_n 0, 1) := by decide +kernel
theorem dX6_scan_70 : decode cX6_scan 70 = .ok (.dup, 1) := by decide +kernel
theorem dX6_scan_71 : decode cX6_scan 71 = .ok (.getfield 21, 3) := by decide +kernel
theorem dX6_scan_74 : decode cX6_scan 74 = .ok (.iconst 1, 1) := by decide +kernel
theorem dX6_scan_75 : decode cX6_scan 75 = .ok (.iadd, 1) := by decide +kernel
theorem dX6_scan_76 : decode cX6_scan 76 = .ok (.putfield 21, 3) := by decide +kernel
theorem dX6_scan_79 : decode cX6_scan 79 = .ok (.aload_n 0, 1) := by decide +kernel
theorem dX6_scan_80 : decode cX6_scan 80 = .ok (.getfield 21, 3) := by decide +kernel
theorem dX6_scan_83 : decode cX6_scan 83 = .ok (.aload_n 1, 1) := by decide +kernel
theorem dX6_scan_84 : decode cX6_scan 84 = .ok (.getfield 38, 3) := by decide +kernel
theorem dX6_scan_87 : decode cX6_scan 87 = .ok (.if_icmp .ne 7, 3) := by decide +kernel
theorem dX6_scan_90 : decode cX6_scan 90 = .ok (.iconst 1, 1) := by decide +kernel
theorem dX6_scan_91 : decode cX6_scan 91 = .ok (.goto 4, 3) := by decide +kernel
theorem dX6_scan_94 : decode cX6_scan 94 = .ok (.iconst 0, 1) := by decide +kernel
theorem dX6_scan_95 : decode cX6_scan 95 = .ok (.ireturn, 1) := by decide +kernel
theorem dX6_scan_96 : decode cX6_scan 96 = .ok (.aload_n 0, 1) := by decide +kernel
theorem dX6_scan_97 : decode cX6_scan 97 = .ok (.aload_n 1, 1) := by decide +kernel
theorem dX6_scan_98 : decode cX6_scan 98 = .ok (.aload_n 2, 1) := by decide +kernel
theorem dX6_scan_99 : decode cX6_scan 99 = .ok (.invokevirtual 41, 3) := by decide +kernel
theorem dX6_scan_102 : decode cX6_scan 102 = .ok (.ifCond .ne 5, 3) := by decide +kernel
theorem dX6_scan_105 : decode cX6_scan 105 = .ok (.iconst 0, 1) := by decide +kernel
theorem dX6_scan_106 : decode cX6_scan 106 = .ok (.ireturn, 1) := by decide +kernel
theorem dX6_scan_107 : decode cX6_scan 107 = .ok (.iconst 0, 1) := by decide +kernel
theorem dX6_scan_108 : decode cX6_scan 108 = .ok (.istore_n 3, 1) := by decide +kernel
theorem dX6_scan_109 : decode cX6_scan 109 = .ok (.iload_n 3, 1) := by decide +kernel
theorem dX6_scan_110 : decode cX6_scan 110 = .ok (.bipush 60, 2) := by decide +kernel
theorem dX6_scan_112 : decode cX6_scan 112 = .ok (.if_icmp .ge 43, 3) := by decide +kernel
theorem dX6_scan_115 : decode cX6_scan 115 = .ok (.aload_n 1, 1) := by decide +kernel
theorem dX6_scan_116 : decode cX6_scan 116 = .ok (.aload_n 0, 1) := by decide +kernel
theorem dX6_scan_117 : decode cX6_scan 117 = .ok (.getfield 21, 3) := by decide +kernel
theorem dX6_scan_120 : decode cX6_scan 120 = .ok (.invokevirtual 25, 3) := by decide +kernel
theorem dX6_scan_123 : decode cX6_scan 123 = .ok (.bipush 42, 2) := by decide +kernel
theorem dX6_scan_125 : decode cX6_scan 125 = .ok (.if_icmp .ne 30, 3) := by decide +kernel
theorem dX6_scan_128 : decode cX6_scan 128 = .ok (.aload_n 0, 1) := by decide +kernel
theorem dX6_scan_129 : decode cX6_scan 129 = .ok (.dup, 1) := by decide +kernel
theorem dX6_scan_130 : decode cX6_scan 130 = .ok (.getfield 21, 3) := by decide +kernel
theorem dX6_scan_133 : decode cX6_scan 133 = .ok (.iconst 1, 1) := by decide +kernel
theorem dX6_scan_134 : decode cX6_scan 134 = .ok (.iadd, 1) := by decide +kernel
theorem dX6_scan_135 : decode cX6_scan 135 = .ok (.putfield 21, 3) := by decide +kernel
theorem dX6_scan_138 : decode cX6_scan 138 = .ok (.aload_n 0, 1) := by decide +kernel
theorem dX6_scan_139 : decode cX6_scan 139 = .ok (.aload_n 1, 1) := by decide +kernel
theorem dX6_scan_140 : decode cX6_scan 140 = .ok (.aload_n 2, 1) := by decide +kernel
theorem dX6_scan_141 : decode cX6_scan 141 = .ok (.invokevirtual 41, 3) := by decide +kernel
theorem dX6_scan_144 : decode cX6_scan 144 = .ok (.ifCond .ne 5, 3) := by decide +kernel
theorem dX6_scan_147 : decode cX6_scan 147 = .ok (.iconst 0, 1) := by decide +kernel
theorem dX6_scan_148 : decode cX6_scan 148 = .ok (.ireturn, 1) := by decide +kernel
theorem dX6_scan_149 : decode cX6_scan 149 = .ok (.iinc 3 1, 3) := by decide +kernel
theorem dX6_scan_152 : decode cX6_scan 152 = .ok (.goto (-43), 3) := by decide +kernel
theorem dX6_scan_155 : decode cX6_scan 155 = .ok (.aload_n 0, 1) := by decide +kernel
theorem dX6_scan_156 : decode cX6_scan 156 = .ok (.getfield 21, 3) := by decide +kernel
theorem dX6_scan_159 : decode cX6_scan 159 = .ok (.aload_n 1, 1) := by decide +kernel
theorem dX6_scan_160 : decode cX6_scan 160 = .ok (.getfield 38, 3) := by decide +kernel
theorem dX6_scan_163 : decode cX6_scan 163 = .ok (.if_icmp .ne 7, 3) := by decide +kernel
theorem dX6_scan_166 : decode cX6_scan 166 = .ok (.iconst 1, 1) := by decide +kernel
theorem dX6_scan_167 : decode cX6_scan 167 = .ok (.goto 4, 3) := by decide +kernel
theorem dX6_scan_170 : decode cX6_scan 170 = .ok (.iconst 0, 1) := by decide +kernel
theorem dX6_scan_171 : decode cX6_scan 171 = .ok (.ireturn, 1) := by decide +kernel
theorem dX6_scanFactor_0 : decode cX6_scanFactor 0 = .ok (.aload_n 1, 1) := by decide +kernel
theorem dX6_scanFactor_1 : decode cX6_scanFactor 1 = .ok (.aload_n 0, 1) := by decide +kernel
theorem dX6_scanFactor_2 : decode cX6_scanFactor 2 = .ok (.getfield 21, 3) := by decide +kernel
theorem dX6_scanFactor_5 : decode cX6_scanFactor 5 = .ok (.invokevirtual 25, 3) := by decide +kernel
theorem dX6_scanFactor_8 : decode cX6_scanFactor 8 = .ok (.invokestatic 34, 3) := by decide +kernel
theorem dX6_scanFactor_11 : decode cX6_scanFactor 11 = .ok (.ifCond .eq 16, 3) := by decide +kernel
theorem dX6_scanFactor_14 : decode cX6_scanFactor 14 = .ok (.aload_n 1, 1) := by decide +kernel
theorem dX6_scanFactor_15 : decode cX6_scanFactor 15 = .ok (.aload_n 0, 1) := by decide +kernel
theorem dX6_scanFactor_16 : decode cX6_scanFactor 16 = .ok (.getfield 21, 3) := by decide +kernel
theorem dX6_scanFactor_19 : decode cX6_scanFactor 19 = .ok (.invokevirtual 25, 3) := by decide +kernel
theorem dX6_scanFactor_22 : decode cX6_scanFactor 22 = .ok (.bipush 48, 2) := by decide +kernel
theorem dX6_scanFactor_24 : decode cX6_scanFactor 24 = .ok (.if_icmp .ne 5, 3) := by decide +kernel
theorem dX6_scanFactor_27 : decode cX6_scanFactor 27 = .ok (.iconst 0, 1) := by decide +kernel
theorem dX6_scanFactor_28 : decode cX6_scanFactor 28 = .ok (.ireturn, 1) := by decide +kernel
theorem dX6_scanFactor_29 : decode cX6_scanFactor 29 = .ok (.aload_n 2, 1) := by decide +kernel
theorem dX6_scanFactor_30 : decode cX6_scanFactor 30 = .ok (.aload_n 0, 1) := by decide +kernel
theorem dX6_scanFactor_31 : decode cX6_scanFactor 31 = .ok (.aload_n 1, 1) := by decide +kernel
theorem dX6_scanFactor_32 : decode cX6_scanFactor 32 = .ok (.invokevirtual 45, 3) := by decide +kernel
theorem dX6_scanFactor_35 : decode cX6_scanFactor 35 = .ok (.invokevirtual 49, 3) := by decide +kernel
theorem dX6_scanFactor_38 : decode cX6_scanFactor 38 = .ok (.istore_n 3, 1) := by decide +kernel
theorem dX6_scanFactor_39 : decode cX6_scanFactor 39 = .ok (.iload_n 3, 1) := by decide +kernel
theorem dX6_scanFactor_40 : decode cX6_scanFactor 40 = .ok (.ifCond .ge 5, 3) := by decide +kernel
theorem dX6_scanFactor_43 : decode cX6_scanFactor 43 = .ok (.iconst 0, 1) := by decide +kernel
theorem dX6_scanFactor_44 : decode cX6_scanFactor 44 = .ok (.ireturn, 1) := by decide +kernel
theorem dX6_scanFactor_45 : decode cX6_scanFactor 45 = .ok (.aload_n 1, 1) := by decide +kernel
theorem dX6_scanFactor_46 : decode cX6_scanFactor 46 = .ok (.aload_n 0, 1) := by decide +kernel
theorem dX6_scanFactor_47 : decode cX6_scanFactor 47 = .ok (.getfield 21, 3) := by decide +kernel
theorem dX6_scanFactor_50 : decode cX6_scanFactor 50 = .ok (.invokevirtual 25, 3) := by decide +kernel
theorem dX6_scanFactor_53 : decode cX6_scanFactor 53 = .ok (.bipush 94, 2) := by decide +kernel
theorem dX6_scanFactor_55 : decode cX6_scanFactor 55 = .ok (.if_icmp .eq 18, 3) := by decide +kernel
theorem dX6_scanFactor_58 : decode cX6_scanFactor 58 = .ok (.aload_n 0, 1) := by decide +kernel
theorem dX6_scanFactor_59 : decode cX6_scanFactor 59 = .ok (.getfield 12, 3) := by decide +kernel
theorem dX6_scanFactor_62 : decode cX6_scanFactor 62 = .ok (.getfield 54, 3) := by decide +kernel
theorem dX6_scanFactor_65 : decode cX6_scanFactor 65 = .ok (.iload_n 3, 1) := by decide +kernel
theorem dX6_scanFactor_66 : decode cX6_scanFactor 66 = .ok (.dup2, 1) := by decide +kernel
theorem dX6_scanFactor_67 : decode cX6_scanFactor 67 = .ok (.iaload, 1) := by decide +kernel
theorem dX6_scanFactor_68 : decode cX6_scanFactor 68 = .ok (.iconst 1, 1) := by decide +kernel
theorem dX6_scanFactor_69 : decode cX6_scanFactor 69 = .ok (.iadd, 1) := by decide +kernel
theorem dX6_scanFactor_70 : decode cX6_scanFactor 70 = .ok (.iastore, 1) := by decide +kernel
theorem dX6_scanFactor_71 : decode cX6_scanFactor 71 = .ok (.iconst 1, 1) := by decide +kernel
theorem dX6_scanFactor_72 : decode cX6_scanFactor 72 = .ok (.ireturn, 1) := by decide +kernel
theorem dX6_scanFactor_73 : decode cX6_scanFactor 73 = .ok (.aload_n 0, 1) := by decide +kernel
theorem dX6_scanFactor_74 : decode cX6_scanFactor 74 = .ok (.dup, 1) := by decide +kernel
theorem dX6_scanFactor_75 : decode cX6_scanFactor 75 = .ok (.getfield 21, 3) := by decide +kernel
theorem dX6_scanFactor_78 : decode cX6_scanFactor 78 = .ok (.iconst 1, 1) := by decide +kernel
theorem dX6_scanFactor_79 : decode cX6_scanFactor 79 = .ok (.iadd, 1) := by decide +kernel
theorem dX6_scanFactor_80 : decode cX6_scanFactor 80 = .ok (.putfield 21, 3) := by decide +kernel
theorem dX6_scanFactor_83 : decode cX6_scanFactor 83 = .ok (.aload_n 0, 1) := by decide +kernel
theorem dX6_scanFactor_84 : decode cX6_scanFactor 84 = .ok (.aload_n 1, 1) := by decide +kernel
theorem dX6_scanFactor_85 : decode cX6_scanFactor 85 = .ok (.iload_n 3, 1) := by decide +kernel
theorem dX6_scanFactor_86 : decode cX6_scanFactor 86 = .ok (.invokevirtual 58, 3) := by decide +kernel
theorem dX6_scanFactor_89 : decode cX6_scanFactor 89 = .ok (.ireturn, 1) := by decide +kernel
theorem dX6_scanNumber_0 : decode cX6_scanNumber 0 = .ok (.iconst 0, 1) := by decide +kernel
theorem dX6_scanNumber_1 : decode cX6_scanNumber 1 = .ok (.istore_n 2, 1) := by decide +kernel
theorem dX6_scanNumber_2 : decode cX6_scanNumber 2 = .ok (.iconst 0, 1) := by decide +kernel
theorem dX6_scanNumber_3 : decode cX6_scanNumber 3 = .ok (.istore_n 3, 1) := by decide +kernel
theorem dX6_scanNumber_4 : decode cX6_scanNumber 4 = .ok (.iload_n 3, 1) := by decide +kernel
theorem dX6_scanNumber_5 : decode cX6_scanNumber 5 = .ok (.iconst 2, 1) := by decide +kernel
theorem dX6_scanNumber_6 : decode cX6_scanNumber 6 = .ok (.if_icmp .ge 50, 3) := by decide +kernel
theorem dX6_scanNumber_9 : decode cX6_scanNumber 9 = .ok (.aload_n 1, 1) := by decide +kernel
theorem dX6_scanNumber_10 : decode cX6_scanNumber 10 = .ok (.aload_n 0, 1) := by decide +kernel
theorem dX6_scanNumber_11 : decode cX6_scanNumber 11 = .ok (.getfield 21, 3) := by decide +kernel
theorem dX6_scanNumber_14 : decode cX6_scanNumber 14 = .ok (.invokevirtual 25, 3) := by decide +kernel
theorem dX6_scanNumber_17 : decode cX6_scanNumber 17 = .ok (.invokestatic 34, 3) := by decide +kernel
theorem dX6_scanNumber_20 : decode cX6_scanNumber 20 = .ok (.ifCond .eq 36, 3) := by decide +kernel
theorem dX6_scanNumber_23 : decode cX6_scanNumber 23 = .ok (.bipush 10, 2) := by decide +kernel
theorem dX6_scanNumber_25 : decode cX6_scanNumber 25 = .ok (.iload_n 2, 1) := by decide +kernel
theorem dX6_scanNumber_26 : decode cX6_scanNumber 26 = .ok (.imul, 1) := by decide +kernel
theorem dX6_scanNumber_27 : decode cX6_scanNumber 27 = .ok (.aload_n 1, 1) := by decide +kernel
theorem dX6_scanNumber_28 : decode cX6_scanNumber 28 = .ok (.aload_n 0, 1) := by decide +kernel
theorem dX6_scanNumber_29 : decode cX6_scanNumber 29 = .ok (.getfield 21, 3) := by decide +kernel
theorem dX6_scanNumber_32 : decode cX6_scanNumber 32 = .ok (.invokevirtual 25, 3) := by decide +kernel
theorem dX6_scanNumber_35 : decode cX6_scanNumber 35 = .ok (.iadd, 1) := by decide +kernel
theorem dX6_scanNumber_36 : decode cX6_scanNumber 36 = .ok (.bipush 48, 2) := by decide +kernel
theorem dX6_scanNumber_38 : decode cX6_scanNumber 38 = .ok (.isub, 1) := by decide +kernel
theorem dX6_scanNumber_39 : decode cX6_scanNumber 39 = .ok (.istore_n 2, 1) := by decide +kernel
theorem dX6_scanNumber_40 : decode cX6_scanNumber 40 = .ok (.aload_n 0, 1) := by decide +kernel
theorem dX6_scanNumber_41 : decode cX6_scanNumber 41 = .ok (.dup, 1) := by decide +kernel
theorem dX6_scanNumber_42 : decode cX6_scanNumber 42 = .ok (.getfield 21, 3) := by decide +kernel
theorem dX6_scanNumber_45 : decode cX6_scanNumber 45 = .ok (.iconst 1, 1) := by decide +kernel
theorem dX6_scanNumber_46 : decode cX6_scanNumber 46 = .ok (.iadd, 1) := by decide +kernel
theorem dX6_scanNumber_47 : decode cX6_scanNumber 47 = .ok (.putfield 21, 3) := by decide +kernel
theorem dX6_scanNumber_50 : decode cX6_scanNumber 50 = .ok (.iinc 3 1, 3) := by decide +kernel
theorem dX6_scanNumber_53 : decode cX6_scanNumber 53 = .ok (.goto (-49), 3) := by decide +kernel
theorem dX6_scanNumber_56 : decode cX6_scanNumber 56 = .ok (.iload_n 2, 1) := by decide +kernel
theorem dX6_scanNumber_57 : decode cX6_scanNumber 57 = .ok (.ireturn, 1) := by decide +kernel
theorem dX6_scanPower_0 : decode cX6_scanPower 0 = .ok (.iconst 1, 1) := by decide +kernel
theorem dX6_scanPower_1 : decode cX6_scanPower 1 = .ok (.istore_n 3, 1) := by decide +kernel
theorem dX6_scanPower_2 : decode cX6_scanPower 2 = .ok (.aload_n 1, 1) := by decide +kernel
theorem dX6_scanPower_3 : decode cX6_scanPower 3 = .ok (.aload_n 0, 1) := by decide +kernel
theorem dX6_scanPower_4 : decode cX6_scanPower 4 = .ok (.getfield 21, 3) := by decide +kernel
theorem dX6_scanPower_7 : decode cX6_scanPower 7 = .ok (.invokevirtual 25, 3) := by decide +kernel
theorem dX6_scanPower_10 : decode cX6_scanPower 10 = .ok (.bipush 45, 2) := by decide +kernel
theorem dX6_scanPower_12 : decode cX6_scanPower 12 = .ok (.if_icmp .ne 15, 3) := by decide +kernel
theorem dX6_scanPower_15 : decode cX6_scanPower 15 = .ok (.iconst (-1), 1) := by decide +kernel
theorem dX6_scanPower_16 : decode cX6_scanPower 16 = .ok (.istore_n 3, 1) := by decide +kernel
theorem dX6_scanPower_17 : decode cX6_scanPower 17 = .ok (.aload_n 0, 1) := by decide +kernel
theorem dX6_scanPower_18 : decode cX6_scanPower 18 = .ok (.dup, 1) := by decide +kernel
theorem dX6_scanPower_19 : decode cX6_scanPower 19 = .ok (.getfield 21, 3) := by decide +kernel
theorem dX6_scanPower_22 : decode cX6_scanPower 22 = .ok (.iconst 1, 1) := by decide +kernel
theorem dX6_scanPower_23 : decode cX6_scanPower 23 = .ok (.iadd, 1) := by decide +kernel
theorem dX6_scanPower_24 : decode cX6_scanPower 24 = .ok (.putfield 21, 3) := by decide +kernel
theorem dX6_scanPower_27 : decode cX6_scanPower 27 = .ok (.aload_n 1, 1) := by decide +kernel
theorem dX6_scanPower_28 : decode cX6_scanPower 28 = .ok (.aload_n 0, 1) := by decide +kernel
theorem dX6_scanPower_29 : decode cX6_scanPower 29 = .ok (.getfield 21, 3) := by decide +kernel
theorem dX6_scanPower_32 : decode cX6_scanPower 32 = .ok (.invokevirtual 25, 3) := by decide +kernel
theorem dX6_scanPower_35 : decode cX6_scanPower 35 = .ok (.bipush 48, 2) := by decide +kernel
theorem dX6_scanPower_37 : decode cX6_scanPower 37 = .ok (.isub, 1) := by decide +kernel
theorem dX6_scanPower_38 : decode cX6_scanPower 38 = .ok (.istore 4, 2) := by decide +kernel
theorem dX6_scanPower_40 : decode cX6_scanPower 40 = .ok (.iload 4, 2) := by decide +kernel
theorem dX6_scanPower_42 : decode cX6_scanPower 42 = .ok (.ifCond .lt 10, 3) := by decide +kernel
theorem dX6_scanPower_45 : decode cX6_scanPower 45 = .ok (.iload 4, 2) := by decide +kernel
theorem dX6_scanPower_47 : decode cX6_scanPower 47 = .ok (.bipush 6, 2) := by decide +kernel
theorem dX6_scanPower_49 : decode cX6_scanPower 49 = .ok (.if_icmp .le 5, 3) := by decide +kernel
theorem dX6_scanPower_52 : decode cX6_scanPower 52 = .ok (.iconst 0, 1) := by decide +kernel
theorem dX6_scanPower_53 : decode cX6_scanPower 53 = .ok (.ireturn, 1) := by decide +kernel
theorem dX6_scanPower_54 : decode cX6_scanPower 54 = .ok (.aload_n 0, 1) := by decide +kernel
theorem dX6_scanPower_55 : decode cX6_scanPower 55 = .ok (.dup, 1) := by decide +kernel
theorem dX6_scanPower_56 : decode cX6_scanPower 56 = .ok (.getfield 21, 3) := by decide +kernel
theorem dX6_scanPower_59 : decode cX6_scanPower 59 = .ok (.iconst 1, 1) := by decide +kernel
theorem dX6_scanPower_60 : decode cX6_scanPower 60 = .ok (.iadd, 1) := by decide +kernel
theorem dX6_scanPower_61 : decode cX6_scanPower 61 = .ok (.putfield 21, 3) := by decide +kernel
theorem dX6_scanPower_64 : decode cX6_scanPower 64 = .ok (.aload_n 0, 1) := by decide +kernel
theorem dX6_scanPower_65 : decode cX6_scanPower 65 = .ok (.getfield 12, 3) := by decide +kernel
theorem dX6_scanPower_68 : decode cX6_scanPower 68 = .ok (.getfield 54, 3) := by decide +kernel
theorem dX6_scanPower_71 : decode cX6_scanPower 71 = .ok (.iload_n 2, 1) := by decide +kernel
theorem dX6_scanPower_72 : decode cX6_scanPower 72 = .ok (.dup2, 1) := by decide +kernel
theorem dX6_scanPower_73 : decode cX6_scanPower 73 = .ok (.iaload, 1) := by decide +kernel
theorem dX6_scanPower_74 : decode cX6_scanPower 74 = .ok (.iload_n 3, 1) := by decide +kernel
theorem dX6_scanPower_75 : decode cX6_scanPower 75 = .ok (.iload 4, 2) := by decide +kernel
theorem dX6_scanPower_77 : decode cX6_scanPower 77 = .ok (.imul, 1) := by decide +kernel
theorem dX6_scanPower_78 : decode cX6_scanPower 78 = .ok (.iadd, 1) := by decide +kernel
theorem dX6_scanPower_79 : decode cX6_scanPower 79 = .ok (.iastore, 1) := by decide +kernel
theorem dX6_scanPower_80 : decode cX6_scanPower 80 = .ok (.iconst 1, 1) := by decide +kernel
theorem dX6_scanPower_81 : decode cX6_scanPower 81 = .ok (.ireturn, 1) := by decide +kernel
