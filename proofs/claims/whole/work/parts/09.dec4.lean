theorem dX12_primeOf_0 : decode cX12_primeOf 0 = .ok (.aload_n 0, 1) := by decide +kernel
theorem dX12_primeOf_1 : decode cX12_primeOf 1 = .ok (.iload_n 1, 1) := by decide +kernel
theorem dX12_primeOf_2 : decode cX12_primeOf 2 = .ok (.invokevirtual 106, 3) := by decide +kernel
theorem dX12_primeOf_5 : decode cX12_primeOf 5 = .ok (.ifCond .eq 12, 3) := by decide +kernel
theorem dX12_primeOf_8 : decode cX12_primeOf 8 = .ok (.aload_n 0, 1) := by decide +kernel
theorem dX12_primeOf_9 : decode cX12_primeOf 9 = .ok (.getfield 9, 3) := by decide +kernel
theorem dX12_primeOf_12 : decode cX12_primeOf 12 = .ok (.iload_n 1, 1) := by decide +kernel
theorem dX12_primeOf_13 : decode cX12_primeOf 13 = .ok (.iaload, 1) := by decide +kernel
theorem dX12_primeOf_14 : decode cX12_primeOf 14 = .ok (.goto 4, 3) := by decide +kernel
theorem dX12_primeOf_17 : decode cX12_primeOf 17 = .ok (.iconst (-1), 1) := by decide +kernel
theorem dX12_primeOf_18 : decode cX12_primeOf 18 = .ok (.ireturn, 1) := by decide +kernel
theorem dX12_box_0 : decode cX12_box 0 = .ok (.aload_n 0, 1) := by decide +kernel
theorem dX12_box_1 : decode cX12_box 1 = .ok (.iload_n 1, 1) := by decide +kernel
theorem dX12_box_2 : decode cX12_box 2 = .ok (.invokevirtual 106, 3) := by decide +kernel
theorem dX12_box_5 : decode cX12_box 5 = .ok (.ifCond .ne 5, 3) := by decide +kernel
theorem dX12_box_8 : decode cX12_box 8 = .ok (.iconst (-1), 1) := by decide +kernel
theorem dX12_box_9 : decode cX12_box 9 = .ok (.ireturn, 1) := by decide +kernel
theorem dX12_box_10 : decode cX12_box 10 = .ok (.iload_n 2, 1) := by decide +kernel
theorem dX12_box_11 : decode cX12_box 11 = .ok (.iconst 0, 1) := by decide +kernel
theorem dX12_box_12 : decode cX12_box 12 = .ok (.iconst 4, 1) := by decide +kernel
theorem dX12_box_13 : decode cX12_box 13 = .ok (.invokestatic 87, 3) := by decide +kernel
theorem dX12_box_16 : decode cX12_box 16 = .ok (.ifCond .ne 6, 3) := by decide +kernel
theorem dX12_box_19 : decode cX12_box 19 = .ok (.bipush (-2), 2) := by decide +kernel
theorem dX12_box_21 : decode cX12_box 21 = .ok (.ireturn, 1) := by decide +kernel
theorem dX12_box_22 : decode cX12_box 22 = .ok (.aload_n 0, 1) := by decide +kernel
theorem dX12_box_23 : decode cX12_box 23 = .ok (.getfield 15, 3) := by decide +kernel
theorem dX12_box_26 : decode cX12_box 26 = .ok (.iload_n 1, 1) := by decide +kernel
theorem dX12_box_27 : decode cX12_box 27 = .ok (.iaload, 1) := by decide +kernel
theorem dX12_box_28 : decode cX12_box 28 = .ok (.istore_n 3, 1) := by decide +kernel
theorem dX12_box_29 : decode cX12_box 29 = .ok (.aload_n 0, 1) := by decide +kernel
theorem dX12_box_30 : decode cX12_box 30 = .ok (.getfield 15, 3) := by decide +kernel
theorem dX12_box_33 : decode cX12_box 33 = .ok (.iload_n 1, 1) := by decide +kernel
theorem dX12_box_34 : decode cX12_box 34 = .ok (.iload_n 2, 1) := by decide +kernel
theorem dX12_box_35 : decode cX12_box 35 = .ok (.iastore, 1) := by decide +kernel
theorem dX12_box_36 : decode cX12_box 36 = .ok (.iload_n 3, 1) := by decide +kernel
theorem dX12_box_37 : decode cX12_box 37 = .ok (.ireturn, 1) := by decide +kernel
theorem dX12_boxOf_0 : decode cX12_boxOf 0 = .ok (.aload_n 0, 1) := by decide +kernel
theorem dX12_boxOf_1 : decode cX12_boxOf 1 = .ok (.iload_n 1, 1) := by decide +kernel
theorem dX12_boxOf_2 : decode cX12_boxOf 2 = .ok (.invokevirtual 106, 3) := by decide +kernel
theorem dX12_boxOf_5 : decode cX12_boxOf 5 = .ok (.ifCond .eq 12, 3) := by decide +kernel
theorem dX12_boxOf_8 : decode cX12_boxOf 8 = .ok (.aload_n 0, 1) := by decide +kernel
theorem dX12_boxOf_9 : decode cX12_boxOf 9 = .ok (.getfield 15, 3) := by decide +kernel
theorem dX12_boxOf_12 : decode cX12_boxOf 12 = .ok (.iload_n 1, 1) := by decide +kernel
theorem dX12_boxOf_13 : decode cX12_boxOf 13 = .ok (.iaload, 1) := by decide +kernel
theorem dX12_boxOf_14 : decode cX12_boxOf 14 = .ok (.goto 4, 3) := by decide +kernel
theorem dX12_boxOf_17 : decode cX12_boxOf 17 = .ok (.iconst (-1), 1) := by decide +kernel
theorem dX12_boxOf_18 : decode cX12_boxOf 18 = .ok (.ireturn, 1) := by decide +kernel
theorem dX12_looks_0 : decode cX12_looks 0 = .ok (.iconst 0, 1) := by decide +kernel
theorem dX12_looks_1 : decode cX12_looks 1 = .ok (.istore_n 2, 1) := by decide +kernel
theorem dX12_looks_2 : decode cX12_looks 2 = .ok (.iload_n 2, 1) := by decide +kernel
theorem dX12_looks_3 : decode cX12_looks 3 = .ok (.aload_n 0, 1) := by decide +kernel
theorem dX12_looks_4 : decode cX12_looks 4 = .ok (.getfield 83, 3) := by decide +kernel
theorem dX12_looks_7 : decode cX12_looks 7 = .ok (.if_icmp .ge 25, 3) := by decide +kernel
theorem dX12_looks_10 : decode cX12_looks 10 = .ok (.aload_n 0, 1) := by decide +kernel
theorem dX12_looks_11 : decode cX12_looks 11 = .ok (.getfield 37, 3) := by decide +kernel
theorem dX12_looks_14 : decode cX12_looks 14 = .ok (.iload_n 2, 1) := by decide +kernel
theorem dX12_looks_15 : decode cX12_looks 15 = .ok (.aload_n 0, 1) := by decide +kernel
theorem dX12_looks_16 : decode cX12_looks 16 = .ok (.getfield 18, 3) := by decide +kernel
theorem dX12_looks_19 : decode cX12_looks 19 = .ok (.iconst 4, 1) := by decide +kernel
theorem dX12_looks_20 : decode cX12_looks 20 = .ok (.iload_n 1, 1) := by decide +kernel
theorem dX12_looks_21 : decode cX12_looks 21 = .ok (.imul, 1) := by decide +kernel
theorem dX12_looks_22 : decode cX12_looks 22 = .ok (.iload_n 2, 1) := by decide +kernel
theorem dX12_looks_23 : decode cX12_looks 23 = .ok (.iadd, 1) := by decide +kernel
theorem dX12_looks_24 : decode cX12_looks 24 = .ok (.iaload, 1) := by decide +kernel
theorem dX12_looks_25 : decode cX12_looks 25 = .ok (.iastore, 1) := by decide +kernel
theorem dX12_looks_26 : decode cX12_looks 26 = .ok (.iinc 2 1, 3) := by decide +kernel
theorem dX12_looks_29 : decode cX12_looks 29 = .ok (.goto (-27), 3) := by decide +kernel
theorem dX12_looks_32 : decode cX12_looks 32 = .ok (.aload_n 0, 1) := by decide +kernel
theorem dX12_looks_33 : decode cX12_looks 33 = .ok (.aload_n 0, 1) := by decide +kernel
theorem dX12_looks_34 : decode cX12_looks 34 = .ok (.getfield 21, 3) := by decide +kernel
theorem dX12_looks_37 : decode cX12_looks 37 = .ok (.iload_n 1, 1) := by decide +kernel
theorem dX12_looks_38 : decode cX12_looks 38 = .ok (.iaload, 1) := by decide +kernel
theorem dX12_looks_39 : decode cX12_looks 39 = .ok (.putfield 109, 3) := by decide +kernel
theorem dX12_looks_42 : decode cX12_looks 42 = .ok (.return_, 1) := by decide +kernel
theorem dX12_aboveOf_0 : decode cX12_aboveOf 0 = .ok (.iload_n 2, 1) := by decide +kernel
theorem dX12_aboveOf_1 : decode cX12_aboveOf 1 = .ok (.i2l, 1) := by decide +kernel
theorem dX12_aboveOf_2 : decode cX12_aboveOf 2 = .ok (.lstore_n 3, 1) := by decide +kernel
theorem dX12_aboveOf_3 : decode cX12_aboveOf 3 = .ok (.iconst 0, 1) := by decide +kernel
theorem dX12_aboveOf_4 : decode cX12_aboveOf 4 = .ok (.istore 5, 2) := by decide +kernel
theorem dX12_aboveOf_6 : decode cX12_aboveOf 6 = .ok (.iload 5, 2) := by decide +kernel
theorem dX12_aboveOf_8 : decode cX12_aboveOf 8 = .ok (.aload_n 0, 1) := by decide +kernel
theorem dX12_aboveOf_9 : decode cX12_aboveOf 9 = .ok (.getfield 83, 3) := by decide +kernel
theorem dX12_aboveOf_12 : decode cX12_aboveOf 12 = .ok (.if_icmp .ge 38, 3) := by decide +kernel
theorem dX12_aboveOf_15 : decode cX12_aboveOf 15 = .ok (.iconst 0, 1) := by decide +kernel
theorem dX12_aboveOf_16 : decode cX12_aboveOf 16 = .ok (.istore 6, 2) := by decide +kernel
theorem dX12_aboveOf_18 : decode cX12_aboveOf 18 = .ok (.iload 6, 2) := by decide +kernel
theorem dX12_aboveOf_20 : decode cX12_aboveOf 20 = .ok (.aload_n 1, 1) := by decide +kernel
theorem dX12_aboveOf_21 : decode cX12_aboveOf 21 = .ok (.iload 5, 2) := by decide +kernel
theorem dX12_aboveOf_23 : decode cX12_aboveOf 23 = .ok (.iaload, 1) := by decide +kernel
theorem dX12_aboveOf_24 : decode cX12_aboveOf 24 = .ok (.if_icmp .ge 20, 3) := by decide +kernel
theorem dX12_aboveOf_27 : decode cX12_aboveOf 27 = .ok (.lload_n 3, 1) := by decide +kernel
theorem dX12_aboveOf_28 : decode cX12_aboveOf 28 = .ok (.aload_n 0, 1) := by decide +kernel
theorem dX12_aboveOf_29 : decode cX12_aboveOf 29 = .ok (.getfield 9, 3) := by decide +kernel
theorem dX12_aboveOf_32 : decode cX12_aboveOf 32 = .ok (.iload 5, 2) := by decide +kernel
theorem dX12_aboveOf_34 : decode cX12_aboveOf 34 = .ok (.iaload, 1) := by decide +kernel
theorem dX12_aboveOf_35 : decode cX12_aboveOf 35 = .ok (.i2l, 1) := by decide +kernel
theorem dX12_aboveOf_36 : decode cX12_aboveOf 36 = .ok (.lmul, 1) := by decide +kernel
theorem dX12_aboveOf_37 : decode cX12_aboveOf 37 = .ok (.lstore_n 3, 1) := by decide +kernel
theorem dX12_aboveOf_38 : decode cX12_aboveOf 38 = .ok (.iinc 6 1, 3) := by decide +kernel
theorem dX12_aboveOf_41 : decode cX12_aboveOf 41 = .ok (.goto (-23), 3) := by decide +kernel
theorem dX12_aboveOf_44 : decode cX12_aboveOf 44 = .ok (.iinc 5 1, 3) := by decide +kernel
theorem dX12_aboveOf_47 : decode cX12_aboveOf 47 = .ok (.goto (-41), 3) := by decide +kernel
theorem dX12_aboveOf_50 : decode cX12_aboveOf 50 = .ok (.lload_n 3, 1) := by decide +kernel
theorem dX12_aboveOf_51 : decode cX12_aboveOf 51 = .ok (.lreturn, 1) := by decide +kernel
theorem dX12_belowOf_0 : decode cX12_belowOf 0 = .ok (.lconst 1, 1) := by decide +kernel
theorem dX12_belowOf_1 : decode cX12_belowOf 1 = .ok (.lstore_n 2, 1) := by decide +kernel
theorem dX12_belowOf_2 : decode cX12_belowOf 2 = .ok (.iconst 0, 1) := by decide +kernel
theorem dX12_belowOf_3 : decode cX12_belowOf 3 = .ok (.istore 4, 2) := by decide +kernel
theorem dX12_belowOf_5 : decode cX12_belowOf 5 = .ok (.iload 4, 2) := by decide +kernel
theorem dX12_belowOf_7 : decode cX12_belowOf 7 = .ok (.aload_n 0, 1) := by decide +kernel
theorem dX12_belowOf_8 : decode cX12_belowOf 8 = .ok (.getfield 83, 3) := by decide +kernel
theorem dX12_belowOf_11 : decode cX12_belowOf 11 = .ok (.if_icmp .ge 38, 3) := by decide +kernel
theorem dX12_belowOf_14 : decode cX12_belowOf 14 = .ok (.iconst 0, 1) := by decide +kernel
theorem dX12_belowOf_15 : decode cX12_belowOf 15 = .ok (.istore 5, 2) := by decide +kernel
theorem dX12_belowOf_17 : decode cX12_belowOf 17 = .ok (.iload 5, 2) := by decide +kernel
theorem dX12_belowOf_19 : decode cX12_belowOf 19 = .ok (.aload_n 1, 1) := by decide +kernel
theorem dX12_belowOf_20 : decode cX12_belowOf 20 = .ok (.iload 4, 2) := by decide +kernel
theorem dX12_belowOf_22 : decode cX12_belowOf 22 = .ok (.iaload, 1) := by decide +kernel
theorem dX12_belowOf_23 : decode cX12_belowOf 23 = .ok (.if_icmp .le 20, 3) := by decide +kernel
theorem dX12_belowOf_26 : decode cX12_belowOf 26 = .ok (.lload_n 2, 1) := by decide +kernel
theorem dX12_belowOf_27 : decode cX12_belowOf 27 = .ok (.aload_n 0, 1) := by decide +kernel
theorem dX12_belowOf_28 : decode cX12_belowOf 28 = .ok (.getfield 9, 3) := by decide +kernel
theorem dX12_belowOf_31 : decode cX12_belowOf 31 = .ok (.iload 4, 2) := by decide +kernel
theorem dX12_belowOf_33 : decode cX12_belowOf 33 = .ok (.iaload, 1) := by decide +kernel
theorem dX12_belowOf_34 : decode cX12_belowOf 34 = .ok (.i2l, 1) := by decide +kernel
theorem dX12_belowOf_35 : decode cX12_belowOf 35 = .ok (.lmul, 1) := by decide +kernel
theorem dX12_belowOf_36 : decode cX12_belowOf 36 = .ok (.lstore_n 2, 1) := by decide +kernel
theorem dX12_belowOf_37 : decode cX12_belowOf 37 = .ok (.iinc 5 (-1), 3) := by decide +kernel
theorem dX12_belowOf_40 : decode cX12_belowOf 40 = .ok (.goto (-23), 3) := by decide +kernel
theorem dX12_belowOf_43 : decode cX12_belowOf 43 = .ok (.iinc 4 1, 3) := by decide +kernel
theorem dX12_belowOf_46 : decode cX12_belowOf 46 = .ok (.goto (-41), 3) := by decide +kernel
theorem dX12_belowOf_49 : decode cX12_belowOf 49 = .ok (.lload_n 2, 1) := by decide +kernel
theorem dX12_belowOf_50 : decode cX12_belowOf 50 = .ok (.lreturn, 1) := by decide +kernel
theorem dX12_isInBox_0 : decode cX12_isInBox 0 = .ok (.iconst 0, 1) := by decide +kernel
theorem dX12_isInBox_1 : decode cX12_isInBox 1 = .ok (.istore_n 2, 1) := by decide +kernel
theorem dX12_isInBox_2 : decode cX12_isInBox 2 = .ok (.iload_n 2, 1) := by decide +kernel
theorem dX12_isInBox_3 : decode cX12_isInBox 3 = .ok (.aload_n 0, 1) := by decide +kernel
theorem dX12_isInBox_4 : decode cX12_isInBox 4 = .ok (.getfield 83, 3) := by decide +kernel
theorem dX12_isInBox_7 : decode cX12_isInBox 7 = .ok (.if_icmp .ge 33, 3) := by decide +kernel
theorem dX12_isInBox_10 : decode cX12_isInBox 10 = .ok (.aload_n 1, 1) := by decide +kernel
theorem dX12_isInBox_11 : decode cX12_isInBox 11 = .ok (.iload_n 2, 1) := by decide +kernel
theorem dX12_isInBox_12 : decode cX12_isInBox 12 = .ok (.iaload, 1) := by decide +kernel
theorem dX12_isInBox_13 : decode cX12_isInBox 13 = .ok (.aload_n 0, 1) := by decide +kernel
theorem dX12_isInBox_14 : decode cX12_isInBox 14 = .ok (.getfield 15, 3) := by decide +kernel
theorem dX12_isInBox_17 : decode cX12_isInBox 17 = .ok (.iload_n 2, 1) := by decide +kernel
theorem dX12_isInBox_18 : decode cX12_isInBox 18 = .ok (.iaload, 1) := by decide +kernel
theorem dX12_isInBox_19 : decode cX12_isInBox 19 = .ok (.ineg, 1) := by decide +kernel
theorem dX12_isInBox_20 : decode cX12_isInBox 20 = .ok (.aload_n 0, 1) := by decide +kernel
theorem dX12_isInBox_21 : decode cX12_isInBox 21 = .ok (.getfield 15, 3) := by decide +kernel
theorem dX12_isInBox_24 : decode cX12_isInBox 24 = .ok (.iload_n 2, 1) := by decide +kernel
theorem dX12_isInBox_25 : decode cX12_isInBox 25 = .ok (.iaload, 1) := by decide +kernel
theorem dX12_isInBox_26 : decode cX12_isInBox 26 = .ok (.invokestatic 87, 3) := by decide +kernel
theorem dX12_isInBox_29 : decode cX12_isInBox 29 = .ok (.ifCond .ne 5, 3) := by decide +kernel
theorem dX12_isInBox_32 : decode cX12_isInBox 32 = .ok (.iconst 0, 1) := by decide +kernel
theorem dX12_isInBox_33 : decode cX12_isInBox 33 = .ok (.ireturn, 1) := by decide +kernel
theorem dX12_isInBox_34 : decode cX12_isInBox 34 = .ok (.iinc 2 1, 3) := by decide +kernel
theorem dX12_isInBox_37 : decode cX12_isInBox 37 = .ok (.goto (-35), 3) := by decide +kernel
theorem dX12_isInBox_40 : decode cX12_isInBox 40 = .ok (.iconst 1, 1) := by decide +kernel
theorem dX12_isInBox_41 : decode cX12_isInBox 41 = .ok (.ireturn, 1) := by decide +kernel
theorem dX12_hasMate_0 : decode cX12_hasMate 0 = .ok (.aload_n 0, 1) := by decide +kernel
theorem dX12_hasMate_1 : decode cX12_hasMate 1 = .ok (.aload_n 0, 1) := by decide +kernel
theorem dX12_hasMate_2 : decode cX12_hasMate 2 = .ok (.getfield 37, 3) := by decide +kernel
theorem dX12_hasMate_5 : decode cX12_hasMate 5 = .ok (.invokevirtual 112, 3) := by decide +kernel
theorem dX12_hasMate_8 : decode cX12_hasMate 8 = .ok (.aload_n 0, 1) := by decide +kernel
theorem dX12_hasMate_9 : decode cX12_hasMate 9 = .ok (.aload_n 0, 1) := by decide +kernel
theorem dX12_hasMate_10 : decode cX12_hasMate 10 = .ok (.getfield 37, 3) := by decide +kernel
theorem dX12_hasMate_13 : decode cX12_hasMate 13 = .ok (.aload_n 0, 1) := by decide +kernel
theorem dX12_hasMate_14 : decode cX12_hasMate 14 = .ok (.getfield 109, 3) := by decide +kernel
theorem dX12_hasMate_17 : decode cX12_hasMate 17 = .ok (.invokevirtual 116, 3) := by decide +kernel
theorem dX12_hasMate_20 : decode cX12_hasMate 20 = .ok (.lsub, 1) := by decide +kernel
theorem dX12_hasMate_21 : decode cX12_hasMate 21 = .ok (.lstore_n 1, 1) := by decide +kernel
theorem dX12_hasMate_22 : decode cX12_hasMate 22 = .ok (.lload_n 1, 1) := by decide +kernel
theorem dX12_hasMate_23 : decode cX12_hasMate 23 = .ok (.lconst 0, 1) := by decide +kernel
theorem dX12_hasMate_24 : decode cX12_hasMate 24 = .ok (.lcmp, 1) := by decide +kernel
theorem dX12_hasMate_25 : decode cX12_hasMate 25 = .ok (.ifCond .ne 5, 3) := by decide +kernel
theorem dX12_hasMate_28 : decode cX12_hasMate 28 = .ok (.iconst 0, 1) := by decide +kernel
theorem dX12_hasMate_29 : decode cX12_hasMate 29 = .ok (.ireturn, 1) := by decide +kernel
theorem dX12_hasMate_30 : decode cX12_hasMate 30 = .ok (.aload_n 0, 1) := by decide +kernel
theorem dX12_hasMate_31 : decode cX12_hasMate 31 = .ok (.lload_n 1, 1) := by decide +kernel
theorem dX12_hasMate_32 : decode cX12_hasMate 32 = .ok (.lconst 0, 1) := by decide +kernel
theorem dX12_hasMate_33 : decode cX12_hasMate 33 = .ok (.lcmp, 1) := by decide +kernel
theorem dX12_hasMate_34 : decode cX12_hasMate 34 = .ok (.ifCond .ge 7, 3) := by decide +kernel
theorem dX12_hasMate_37 : decode cX12_hasMate 37 = .ok (.iconst (-1), 1) := by decide +kernel
theorem dX12_hasMate_38 : decode cX12_hasMate 38 = .ok (.goto 4, 3) := by decide +kernel
theorem dX12_hasMate_41 : decode cX12_hasMate 41 = .ok (.iconst 1, 1) := by decide +kernel
theorem dX12_hasMate_42 : decode cX12_hasMate 42 = .ok (.putfield 120, 3) := by decide +kernel
theorem dX12_hasMate_45 : decode cX12_hasMate 45 = .ok (.lload_n 1, 1) := by decide +kernel
theorem dX12_hasMate_46 : decode cX12_hasMate 46 = .ok (.aload_n 0, 1) := by decide +kernel
theorem dX12_hasMate_47 : decode cX12_hasMate 47 = .ok (.getfield 120, 3) := by decide +kernel
theorem dX12_hasMate_50 : decode cX12_hasMate 50 = .ok (.i2l, 1) := by decide +kernel
theorem dX12_hasMate_51 : decode cX12_hasMate 51 = .ok (.lmul, 1) := by decide +kernel
theorem dX12_hasMate_52 : decode cX12_hasMate 52 = .ok (.lstore_n 1, 1) := by decide +kernel
theorem dX12_hasMate_53 : decode cX12_hasMate 53 = .ok (.iconst 0, 1) := by decide +kernel
theorem dX12_hasMate_54 : decode cX12_hasMate 54 = .ok (.istore_n 3, 1) := by decide +kernel
theorem dX12_hasMate_55 : decode cX12_hasMate 55 = .ok (.iload_n 3, 1) := by decide +kernel
theorem dX12_hasMate_56 : decode cX12_hasMate 56 = .ok (.aload_n 0, 1) := by decide +kernel
theorem dX12_hasMate_57 : decode cX12_hasMate 57 = .ok (.getfield 83, 3) := by decide +kernel
theorem dX12_hasMate_60 : decode cX12_hasMate 60 = .ok (.if_icmp .ge 75, 3) := by decide +kernel
theorem dX12_hasMate_63 : decode cX12_hasMate 63 = .ok (.aload_n 0, 1) := by decide +kernel
theorem dX12_hasMate_64 : decode cX12_hasMate 64 = .ok (.getfield 40, 3) := by decide +kernel
theorem dX12_hasMate_67 : decode cX12_hasMate 67 = .ok (.iload_n 3, 1) := by decide +kernel
theorem dX12_hasMate_68 : decode cX12_hasMate 68 = .ok (.iconst 0, 1) := by decide +kernel
theorem dX12_hasMate_69 : decode cX12_hasMate 69 = .ok (.aload_n 0, 1) := by decide +kernel
theorem dX12_hasMate_70 : decode cX12_hasMate 70 = .ok (.getfield 37, 3) := by decide +kernel
theorem dX12_hasMate_73 : decode cX12_hasMate 73 = .ok (.iload_n 3, 1) := by decide +kernel
theorem dX12_hasMate_74 : decode cX12_hasMate 74 = .ok (.iaload, 1) := by decide +kernel
theorem dX12_hasMate_75 : decode cX12_hasMate 75 = .ok (.invokestatic 123, 3) := by decide +kernel
theorem dX12_hasMate_78 : decode cX12_hasMate 78 = .ok (.iastore, 1) := by decide +kernel
theorem dX12_hasMate_79 : decode cX12_hasMate 79 = .ok (.lload_n 1, 1) := by decide +kernel
theorem dX12_hasMate_80 : decode cX12_hasMate 80 = .ok (.aload_n 0, 1) := by decide +kernel
theorem dX12_hasMate_81 : decode cX12_hasMate 81 = .ok (.getfield 9, 3) := by decide +kernel
theorem dX12_hasMate_84 : decode cX12_hasMate 84 = .ok (.iload_n 3, 1) := by decide +kernel
theorem dX12_hasMate_85 : decode cX12_hasMate 85 = .ok (.iaload, 1) := by decide +kernel
theorem dX12_hasMate_86 : decode cX12_hasMate 86 = .ok (.i2l, 1) := by decide +kernel
theorem dX12_hasMate_87 : decode cX12_hasMate 87 = .ok (.lrem, 1) := by decide +kernel
theorem dX12_hasMate_88 : decode cX12_hasMate 88 = .ok (.lconst 0, 1) := by decide +kernel
theorem dX12_hasMate_89 : decode cX12_hasMate 89 = .ok (.lcmp, 1) := by decide +kernel
theorem dX12_hasMate_90 : decode cX12_hasMate 90 = .ok (.ifCond .ne 26, 3) := by decide +kernel
theorem dX12_hasMate_93 : decode cX12_hasMate 93 = .ok (.lload_n 1, 1) := by decide +kernel
theorem dX12_hasMate_94 : decode cX12_hasMate 94 = .ok (.aload_n 0, 1) := by decide +kernel
theorem dX12_hasMate_95 : decode cX12_hasMate 95 = .ok (.getfield 9, 3) := by decide +kernel
theorem dX12_hasMate_98 : decode cX12_hasMate 98 = .ok (.iload_n 3, 1) := by decide +kernel
theorem dX12_hasMate_99 : decode cX12_hasMate 99 = .ok (.iaload, 1) := by decide +kernel
theorem dX12_hasMate_100 : decode cX12_hasMate 100 = .ok (.i2l, 1) := by decide +kernel
theorem dX12_hasMate_101 : decode cX12_hasMate 101 = .ok (.ldiv, 1) := by decide +kernel
theorem dX12_hasMate_102 : decode cX12_hasMate 102 = .ok (.lstore_n 1, 1) := by decide +kernel
theorem dX12_hasMate_103 : decode cX12_hasMate 103 = .ok (.aload_n 0, 1) := by decide +kernel
theorem dX12_hasMate_104 : decode cX12_hasMate 104 = .ok (.getfield 40, 3) := by decide +kernel
theorem dX12_hasMate_107 : decode cX12_hasMate 107 = .ok (.iload_n 3, 1) := by decide +kernel
theorem dX12_hasMate_108 : decode cX12_hasMate 108 = .ok (.dup2, 1) := by decide +kernel
theorem dX12_hasMate_109 : decode cX12_hasMate 109 = .ok (.iaload, 1) := by decide +kernel
theorem dX12_hasMate_110 : decode cX12_hasMate 110 = .ok (.iconst 1, 1) := by decide +kernel
theorem dX12_hasMate_111 : decode cX12_hasMate 111 = .ok (.iadd, 1) := by decide +kernel
theorem dX12_hasMate_112 : decode cX12_hasMate 112 = .ok (.iastore, 1) := by decide +kernel
theorem dX12_hasMate_113 : decode cX12_hasMate 113 = .ok (.goto (-34), 3) := by decide +kernel
theorem dX12_hasMate_116 : decode cX12_hasMate 116 = .ok (.aload_n 0, 1) := by decide +kernel
theorem dX12_hasMate_117 : decode cX12_hasMate 117 = .ok (.getfield 40, 3) := by decide +kernel
theorem dX12_hasMate_120 : decode cX12_hasMate 120 = .ok (.iload_n 3, 1) := by decide +kernel
theorem dX12_hasMate_121 : decode cX12_hasMate 121 = .ok (.iaload, 1) := by decide +kernel
theorem dX12_hasMate_122 : decode cX12_hasMate 122 = .ok (.bipush 6, 2) := by decide +kernel
theorem dX12_hasMate_124 : decode cX12_hasMate 124 = .ok (.if_icmp .le 5, 3) := by decide +kernel
theorem dX12_hasMate_127 : decode cX12_hasMate 127 = .ok (.iconst 0, 1) := by decide +kernel
theorem dX12_hasMate_128 : decode cX12_hasMate 128 = .ok (.ireturn, 1) := by decide +kernel
theorem dX12_hasMate_129 : decode cX12_hasMate 129 = .ok (.iinc 3 1, 3) := by decide +kernel
theorem dX12_hasMate_132 : decode cX12_hasMate 132 = .ok (.goto (-77), 3) := by decide +kernel
theorem dX12_hasMate_135 : decode cX12_hasMate 135 = .ok (.lload_n 1, 1) := by decide +kernel
theorem dX12_hasMate_136 : decode cX12_hasMate 136 = .ok (.lconst 1, 1) := by decide +kernel
theorem dX12_hasMate_137 : decode cX12_hasMate 137 = .ok (.lcmp, 1) := by decide +kernel
theorem dX12_hasMate_138 : decode cX12_hasMate 138 = .ok (.ifCond .ne 7, 3) := by decide +kernel
theorem dX12_hasMate_141 : decode cX12_hasMate 141 = .ok (.iconst 1, 1) := by decide +kernel
theorem dX12_hasMate_142 : decode cX12_hasMate 142 = .ok (.goto 4, 3) := by decide +kernel
theorem dX12_hasMate_145 : decode cX12_hasMate 145 = .ok (.iconst 0, 1) := by decide +kernel
theorem dX12_hasMate_146 : decode cX12_hasMate 146 = .ok (.ireturn, 1) := by decide +kernel
theorem dX12_hasForm_0 : decode cX12_hasForm 0 = .ok (.aload_n 0, 1) := by decide +kernel
theorem dX12_hasForm_1 : decode cX12_hasForm 1 = .ok (.iload_n 1, 1) := by decide +kernel
theorem dX12_hasForm_2 : decode cX12_hasForm 2 = .ok (.ifCond .eq 8, 3) := by decide +kernel
theorem dX12_hasForm_5 : decode cX12_hasForm 5 = .ok (.iload_n 1, 1) := by decide +kernel
theorem dX12_hasForm_6 : decode cX12_hasForm 6 = .ok (.iconst 2, 1) := by decide +kernel
theorem dX12_hasForm_7 : decode cX12_hasForm 7 = .ok (.if_icmp .ne 10, 3) := by decide +kernel
theorem dX12_hasForm_10 : decode cX12_hasForm 10 = .ok (.aload_n 0, 1) := by decide +kernel
theorem dX12_hasForm_11 : decode cX12_hasForm 11 = .ok (.getfield 109, 3) := by decide +kernel
theorem dX12_hasForm_14 : decode cX12_hasForm 14 = .ok (.goto 30, 3) := by decide +kernel
theorem dX12_hasForm_17 : decode cX12_hasForm 17 = .ok (.iload_n 1, 1) := by decide +kernel
theorem dX12_hasForm_18 : decode cX12_hasForm 18 = .ok (.iconst 1, 1) := by decide +kernel
theorem dX12_hasForm_19 : decode cX12_hasForm 19 = .ok (.if_icmp .eq 8, 3) := by decide +kernel
theorem dX12_hasForm_22 : decode cX12_hasForm 22 = .ok (.iload_n 1, 1) := by decide +kernel
theorem dX12_hasForm_23 : decode cX12_hasForm 23 = .ok (.iconst 3, 1) := by decide +kernel
theorem dX12_hasForm_24 : decode cX12_hasForm 24 = .ok (.if_icmp .ne 10, 3) := by decide +kernel
theorem dX12_hasForm_27 : decode cX12_hasForm 27 = .ok (.aload_n 0, 1) := by decide +kernel
theorem dX12_hasForm_28 : decode cX12_hasForm 28 = .ok (.getfield 120, 3) := by decide +kernel
theorem dX12_hasForm_31 : decode cX12_hasForm 31 = .ok (.goto 13, 3) := by decide +kernel
theorem dX12_hasForm_34 : decode cX12_hasForm 34 = .ok (.aload_n 0, 1) := by decide +kernel
theorem dX12_hasForm_35 : decode cX12_hasForm 35 = .ok (.getfield 109, 3) := by decide +kernel
theorem dX12_hasForm_38 : decode cX12_hasForm 38 = .ok (.ineg, 1) := by decide +kernel
theorem dX12_hasForm_39 : decode cX12_hasForm 39 = .ok (.aload_n 0, 1) := by decide +kernel
theorem dX12_hasForm_40 : decode cX12_hasForm 40 = .ok (.getfield 120, 3) := by decide +kernel
theorem dX12_hasForm_43 : decode cX12_hasForm 43 = .ok (.imul, 1) := by decide +kernel
theorem dX12_hasForm_44 : decode cX12_hasForm 44 = .ok (.putfield 129, 3) := by decide +kernel
theorem dX12_hasForm_47 : decode cX12_hasForm 47 = .ok (.iconst 0, 1) := by decide +kernel
theorem dX12_hasForm_48 : decode cX12_hasForm 48 = .ok (.istore_n 2, 1) := by decide +kernel
theorem dX12_hasForm_49 : decode cX12_hasForm 49 = .ok (.iload_n 2, 1) := by decide +kernel
theorem dX12_hasForm_50 : decode cX12_hasForm 50 = .ok (.aload_n 0, 1) := by decide +kernel
theorem dX12_hasForm_51 : decode cX12_hasForm 51 = .ok (.getfield 83, 3) := by decide +kernel
theorem dX12_hasForm_54 : decode cX12_hasForm 54 = .ok (.if_icmp .ge 103, 3) := by decide +kernel
theorem dX12_hasForm_57 : decode cX12_hasForm 57 = .ok (.aload_n 0, 1) := by decide +kernel
theorem dX12_hasForm_58 : decode cX12_hasForm 58 = .ok (.getfield 37, 3) := by decide +kernel
theorem dX12_hasForm_61 : decode cX12_hasForm 61 = .ok (.iload_n 2, 1) := by decide +kernel
theorem dX12_hasForm_62 : decode cX12_hasForm 62 = .ok (.iaload, 1) := by decide +kernel
theorem dX12_hasForm_63 : decode cX12_hasForm 63 = .ok (.istore_n 3, 1) := by decide +kernel
theorem dX12_hasForm_64 : decode cX12_hasForm 64 = .ok (.aload_n 0, 1) := by decide +kernel
theorem dX12_hasForm_65 : decode cX12_hasForm 65 = .ok (.getfield 40, 3) := by decide +kernel
theorem dX12_hasForm_68 : decode cX12_hasForm 68 = .ok (.iload_n 2, 1) := by decide +kernel
theorem dX12_hasForm_69 : decode cX12_hasForm 69 = .ok (.iaload, 1) := by decide +kernel
theorem dX12_hasForm_70 : decode cX12_hasForm 70 = .ok (.istore 4, 2) := by decide +kernel
theorem dX12_hasForm_72 : decode cX12_hasForm 72 = .ok (.aload_n 0, 1) := by decide +kernel
theorem dX12_hasForm_73 : decode cX12_hasForm 73 = .ok (.getfield 43, 3) := by decide +kernel
theorem dX12_hasForm_76 : decode cX12_hasForm 76 = .ok (.iload_n 2, 1) := by decide +kernel
theorem dX12_hasForm_77 : decode cX12_hasForm 77 = .ok (.iload_n 1, 1) := by decide +kernel
theorem dX12_hasForm_78 : decode cX12_hasForm 78 = .ok (.ifCond .ne 7, 3) := by decide +kernel
theorem dX12_hasForm_81 : decode cX12_hasForm 81 = .ok (.iload_n 3, 1) := by decide +kernel
theorem dX12_hasForm_82 : decode cX12_hasForm 82 = .ok (.goto 50, 3) := by decide +kernel
theorem dX12_hasForm_85 : decode cX12_hasForm 85 = .ok (.iload_n 1, 1) := by decide +kernel
theorem dX12_hasForm_86 : decode cX12_hasForm 86 = .ok (.iconst 1, 1) := by decide +kernel
theorem dX12_hasForm_87 : decode cX12_hasForm 87 = .ok (.if_icmp .ne 8, 3) := by decide +kernel
theorem dX12_hasForm_90 : decode cX12_hasForm 90 = .ok (.iload 4, 2) := by decide +kernel
theorem dX12_hasForm_92 : decode cX12_hasForm 92 = .ok (.goto 40, 3) := by decide +kernel
theorem dX12_hasForm_95 : decode cX12_hasForm 95 = .ok (.iload_n 1, 1) := by decide +kernel
theorem dX12_hasForm_96 : decode cX12_hasForm 96 = .ok (.iconst 2, 1) := by decide +kernel
theorem dX12_hasForm_97 : decode cX12_hasForm 97 = .ok (.if_icmp .ne 8, 3) := by decide +kernel
theorem dX12_hasForm_100 : decode cX12_hasForm 100 = .ok (.iload_n 3, 1) := by decide +kernel
theorem dX12_hasForm_101 : decode cX12_hasForm 101 = .ok (.ineg, 1) := by decide +kernel
theorem dX12_hasForm_102 : decode cX12_hasForm 102 = .ok (.goto 30, 3) := by decide +kernel
theorem dX12_hasForm_105 : decode cX12_hasForm 105 = .ok (.iload_n 1, 1) := by decide +kernel
theorem dX12_hasForm_106 : decode cX12_hasForm 106 = .ok (.iconst 3, 1) := by decide +kernel
theorem dX12_hasForm_107 : decode cX12_hasForm 107 = .ok (.if_icmp .ne 9, 3) := by decide +kernel
theorem dX12_hasForm_110 : decode cX12_hasForm 110 = .ok (.iload 4, 2) := by decide +kernel
theorem dX12_hasForm_112 : decode cX12_hasForm 112 = .ok (.ineg, 1) := by decide +kernel
theorem dX12_hasForm_113 : decode cX12_hasForm 113 = .ok (.goto 19, 3) := by decide +kernel
theorem dX12_hasForm_116 : decode cX12_hasForm 116 = .ok (.iload_n 1, 1) := by decide +kernel
theorem dX12_hasForm_117 : decode cX12_hasForm 117 = .ok (.iconst 4, 1) := by decide +kernel
theorem dX12_hasForm_118 : decode cX12_hasForm 118 = .ok (.if_icmp .ne 10, 3) := by decide +kernel
theorem dX12_hasForm_121 : decode cX12_hasForm 121 = .ok (.iload 4, 2) := by decide +kernel
theorem dX12_hasForm_123 : decode cX12_hasForm 123 = .ok (.iload_n 3, 1) := by decide +kernel
theorem dX12_hasForm_124 : decode cX12_hasForm 124 = .ok (.isub, 1) := by decide +kernel
theorem dX12_hasForm_125 : decode cX12_hasForm 125 = .ok (.goto 7, 3) := by decide +kernel
theorem dX12_hasForm_128 : decode cX12_hasForm 128 = .ok (.iload_n 3, 1) := by decide +kernel
theorem dX12_hasForm_129 : decode cX12_hasForm 129 = .ok (.iload 4, 2) := by decide +kernel
theorem dX12_hasForm_131 : decode cX12_hasForm 131 = .ok (.isub, 1) := by decide +kernel
theorem dX12_hasForm_132 : decode cX12_hasForm 132 = .ok (.iastore, 1) := by decide +kernel
theorem dX12_hasForm_133 : decode cX12_hasForm 133 = .ok (.aload_n 0, 1) := by decide +kernel
theorem dX12_hasForm_134 : decode cX12_hasForm 134 = .ok (.getfield 43, 3) := by decide +kernel
theorem dX12_hasForm_137 : decode cX12_hasForm 137 = .ok (.iload_n 2, 1) := by decide +kernel
theorem dX12_hasForm_138 : decode cX12_hasForm 138 = .ok (.iaload, 1) := by decide +kernel
theorem dX12_hasForm_139 : decode cX12_hasForm 139 = .ok (.bipush (-6), 2) := by decide +kernel
theorem dX12_hasForm_141 : decode cX12_hasForm 141 = .ok (.bipush 6, 2) := by decide +kernel
theorem dX12_hasForm_143 : decode cX12_hasForm 143 = .ok (.invokestatic 87, 3) := by decide +kernel
theorem dX12_hasForm_146 : decode cX12_hasForm 146 = .ok (.ifCond .ne 5, 3) := by decide +kernel
theorem dX12_hasForm_149 : decode cX12_hasForm 149 = .ok (.iconst 0, 1) := by decide +kernel
theorem dX12_hasForm_150 : decode cX12_hasForm 150 = .ok (.ireturn, 1) := by decide +kernel
theorem dX12_hasForm_151 : decode cX12_hasForm 151 = .ok (.iinc 2 1, 3) := by decide +kernel
theorem dX12_hasForm_154 : decode cX12_hasForm 154 = .ok (.goto (-105), 3) := by decide +kernel
theorem dX12_hasForm_157 : decode cX12_hasForm 157 = .ok (.iconst 1, 1) := by decide +kernel
theorem dX12_hasForm_158 : decode cX12_hasForm 158 = .ok (.ireturn, 1) := by decide +kernel
theorem dX12_gets_0 : decode cX12_gets 0 = .ok (.iconst 0, 1) := by decide +kernel
theorem dX12_gets_1 : decode cX12_gets 1 = .ok (.istore 4, 2) := by decide +kernel
theorem dX12_gets_3 : decode cX12_gets 3 = .ok (.iload 4, 2) := by decide +kernel
theorem dX12_gets_5 : decode cX12_gets 5 = .ok (.aload_n 0, 1) := by decide +kernel
theorem dX12_gets_6 : decode cX12_gets 6 = .ok (.getfield 83, 3) := by decide +kernel
theorem dX12_gets_9 : decode cX12_gets 9 = .ok (.if_icmp .ge 24, 3) := by decide +kernel
theorem dX12_gets_12 : decode cX12_gets 12 = .ok (.aload_n 0, 1) := by decide +kernel
theorem dX12_gets_13 : decode cX12_gets 13 = .ok (.getfield 18, 3) := by decide +kernel
theorem dX12_gets_16 : decode cX12_gets 16 = .ok (.iconst 4, 1) := by decide +kernel
theorem dX12_gets_17 : decode cX12_gets 17 = .ok (.iload_n 1, 1) := by decide +kernel
theorem dX12_gets_18 : decode cX12_gets 18 = .ok (.imul, 1) := by decide +kernel
theorem dX12_gets_19 : decode cX12_gets 19 = .ok (.iload 4, 2) := by decide +kernel
theorem dX12_gets_21 : decode cX12_gets 21 = .ok (.iadd, 1) := by decide +kernel
theorem dX12_gets_22 : decode cX12_gets 22 = .ok (.aload_n 2, 1) := by decide +kernel
theorem dX12_gets_23 : decode cX12_gets 23 = .ok (.iload 4, 2) := by decide +kernel
theorem dX12_gets_25 : decode cX12_gets 25 = .ok (.iaload, 1) := by decide +kernel
theorem dX12_gets_26 : decode cX12_gets 26 = .ok (.iastore, 1) := by decide +kernel
theorem dX12_gets_27 : decode cX12_gets 27 = .ok (.iinc 4 1, 3) := by decide +kernel
theorem dX12_gets_30 : decode cX12_gets 30 = .ok (.goto (-27), 3) := by decide +kernel
theorem dX12_gets_33 : decode cX12_gets 33 = .ok (.aload_n 0, 1) := by decide +kernel
theorem dX12_gets_34 : decode cX12_gets 34 = .ok (.getfield 21, 3) := by decide +kernel
theorem dX12_gets_37 : decode cX12_gets 37 = .ok (.iload_n 1, 1) := by decide +kernel
theorem dX12_gets_38 : decode cX12_gets 38 = .ok (.iload_n 3, 1) := by decide +kernel
theorem dX12_gets_39 : decode cX12_gets 39 = .ok (.iastore, 1) := by decide +kernel
theorem dX12_gets_40 : decode cX12_gets 40 = .ok (.return_, 1) := by decide +kernel
theorem dX12_put_0 : decode cX12_put 0 = .ok (.iload_n 1, 1) := by decide +kernel
theorem dX12_put_1 : decode cX12_put 1 = .ok (.invokestatic 132, 3) := by decide +kernel
theorem dX12_put_4 : decode cX12_put 4 = .ok (.ifCond .eq 11, 3) := by decide +kernel
theorem dX12_put_7 : decode cX12_put 7 = .ok (.aload_n 0, 1) := by decide +kernel
theorem dX12_put_8 : decode cX12_put 8 = .ok (.iload_n 2, 1) := by decide +kernel
theorem dX12_put_9 : decode cX12_put 9 = .ok (.invokevirtual 106, 3) := by decide +kernel
theorem dX12_put_12 : decode cX12_put 12 = .ok (.ifCond .ne 5, 3) := by decide +kernel
theorem dX12_put_15 : decode cX12_put 15 = .ok (.iconst (-1), 1) := by decide +kernel
theorem dX12_put_16 : decode cX12_put 16 = .ok (.ireturn, 1) := by decide +kernel
theorem dX12_put_17 : decode cX12_put 17 = .ok (.iload_n 3, 1) := by decide +kernel
theorem dX12_put_18 : decode cX12_put 18 = .ok (.bipush (-6), 2) := by decide +kernel
theorem dX12_put_20 : decode cX12_put 20 = .ok (.bipush 6, 2) := by decide +kernel
theorem dX12_put_22 : decode cX12_put 22 = .ok (.invokestatic 87, 3) := by decide +kernel
theorem dX12_put_25 : decode cX12_put 25 = .ok (.ifCond .ne 6, 3) := by decide +kernel
theorem dX12_put_28 : decode cX12_put 28 = .ok (.bipush (-2), 2) := by decide +kernel
theorem dX12_put_30 : decode cX12_put 30 = .ok (.ireturn, 1) := by decide +kernel
theorem dX12_put_31 : decode cX12_put 31 = .ok (.aload_n 0, 1) := by decide +kernel
theorem dX12_put_32 : decode cX12_put 32 = .ok (.getfield 18, 3) := by decide +kernel
theorem dX12_put_35 : decode cX12_put 35 = .ok (.iconst 4, 1) := by decide +kernel
theorem dX12_put_36 : decode cX12_put 36 = .ok (.iload_n 1, 1) := by decide +kernel
theorem dX12_put_37 : decode cX12_put 37 = .ok (.imul, 1) := by decide +kernel
theorem dX12_put_38 : decode cX12_put 38 = .ok (.iload_n 2, 1) := by decide +kernel
theorem dX12_put_39 : decode cX12_put 39 = .ok (.iadd, 1) := by decide +kernel
theorem dX12_put_40 : decode cX12_put 40 = .ok (.iaload, 1) := by decide +kernel
theorem dX12_put_41 : decode cX12_put 41 = .ok (.istore 4, 2) := by decide +kernel
theorem dX12_put_43 : decode cX12_put 43 = .ok (.aload_n 0, 1) := by decide +kernel
theorem dX12_put_44 : decode cX12_put 44 = .ok (.getfield 18, 3) := by decide +kernel
theorem dX12_put_47 : decode cX12_put 47 = .ok (.iconst 4, 1) := by decide +kernel
theorem dX12_put_48 : decode cX12_put 48 = .ok (.iload_n 1, 1) := by decide +kernel
theorem dX12_put_49 : decode cX12_put 49 = .ok (.imul, 1) := by decide +kernel
theorem dX12_put_50 : decode cX12_put 50 = .ok (.iload_n 2, 1) := by decide +kernel
theorem dX12_put_51 : decode cX12_put 51 = .ok (.iadd, 1) := by decide +kernel
theorem dX12_put_52 : decode cX12_put 52 = .ok (.iload_n 3, 1) := by decide +kernel
theorem dX12_put_53 : decode cX12_put 53 = .ok (.iastore, 1) := by decide +kernel
theorem dX12_put_54 : decode cX12_put 54 = .ok (.iload 4, 2) := by decide +kernel
theorem dX12_put_56 : decode cX12_put 56 = .ok (.bipush 10, 2) := by decide +kernel
theorem dX12_put_58 : decode cX12_put 58 = .ok (.iadd, 1) := by decide +kernel
theorem dX12_put_59 : decode cX12_put 59 = .ok (.ireturn, 1) := by decide +kernel
theorem dX12_sign_0 : decode cX12_sign 0 = .ok (.iload_n 1, 1) := by decide +kernel
theorem dX12_sign_1 : decode cX12_sign 1 = .ok (.invokestatic 132, 3) := by decide +kernel
theorem dX12_sign_4 : decode cX12_sign 4 = .ok (.ifCond .ne 5, 3) := by decide +kernel
theorem dX12_sign_7 : decode cX12_sign 7 = .ok (.iconst (-1), 1) := by decide +kernel
theorem dX12_sign_8 : decode cX12_sign 8 = .ok (.ireturn, 1) := by decide +kernel
theorem dX12_sign_9 : decode cX12_sign 9 = .ok (.iload_n 2, 1) := by decide +kernel
theorem dX12_sign_10 : decode cX12_sign 10 = .ok (.iconst 1, 1) := by decide +kernel
theorem dX12_sign_11 : decode cX12_sign 11 = .ok (.if_icmp .eq 11, 3) := by decide +kernel
theorem dX12_sign_14 : decode cX12_sign 14 = .ok (.iload_n 2, 1) := by decide +kernel
theorem dX12_sign_15 : decode cX12_sign 15 = .ok (.iconst (-1), 1) := by decide +kernel
theorem dX12_sign_16 : decode cX12_sign 16 = .ok (.if_icmp .eq 6, 3) := by decide +kernel
theorem dX12_sign_19 : decode cX12_sign 19 = .ok (.bipush (-2), 2) := by decide +kernel
theorem dX12_sign_21 : decode cX12_sign 21 = .ok (.ireturn, 1) := by decide +kernel
theorem dX12_sign_22 : decode cX12_sign 22 = .ok (.aload_n 0, 1) := by decide +kernel
theorem dX12_sign_23 : decode cX12_sign 23 = .ok (.getfield 21, 3) := by decide +kernel
theorem dX12_sign_26 : decode cX12_sign 26 = .ok (.iload_n 1, 1) := by decide +kernel
theorem dX12_sign_27 : decode cX12_sign 27 = .ok (.iload_n 2, 1) := by decide +kernel
theorem dX12_sign_28 : decode cX12_sign 28 = .ok (.iastore, 1) := by decide +kernel
theorem dX12_sign_29 : decode cX12_sign 29 = .ok (.iconst 1, 1) := by decide +kernel
theorem dX12_sign_30 : decode cX12_sign 30 = .ok (.ireturn, 1) := by decide +kernel
theorem dX12_powerOf_0 : decode cX12_powerOf 0 = .ok (.iload_n 1, 1) := by decide +kernel
theorem dX12_powerOf_1 : decode cX12_powerOf 1 = .ok (.invokestatic 132, 3) := by decide +kernel
theorem dX12_powerOf_4 : decode cX12_powerOf 4 = .ok (.ifCond .eq 27, 3) := by decide +kernel
theorem dX12_powerOf_7 : decode cX12_powerOf 7 = .ok (.aload_n 0, 1) := by decide +kernel
theorem dX12_powerOf_8 : decode cX12_powerOf 8 = .ok (.iload_n 2, 1) := by decide +kernel
theorem dX12_powerOf_9 : decode cX12_powerOf 9 = .ok (.invokevirtual 106, 3) := by decide +kernel
theorem dX12_powerOf_12 : decode cX12_powerOf 12 = .ok (.ifCond .eq 19, 3) := by decide +kernel
theorem dX12_powerOf_15 : decode cX12_powerOf 15 = .ok (.aload_n 0, 1) := by decide +kernel
theorem dX12_powerOf_16 : decode cX12_powerOf 16 = .ok (.getfield 18, 3) := by decide +kernel
theorem dX12_powerOf_19 : decode cX12_powerOf 19 = .ok (.iconst 4, 1) := by decide +kernel
theorem dX12_powerOf_20 : decode cX12_powerOf 20 = .ok (.iload_n 1, 1) := by decide +kernel
theorem dX12_powerOf_21 : decode cX12_powerOf 21 = .ok (.imul, 1) := by decide +kernel
theorem dX12_powerOf_22 : decode cX12_powerOf 22 = .ok (.iload_n 2, 1) := by decide +kernel
theorem dX12_powerOf_23 : decode cX12_powerOf 23 = .ok (.iadd, 1) := by decide +kernel
theorem dX12_powerOf_24 : decode cX12_powerOf 24 = .ok (.iaload, 1) := by decide +kernel
theorem dX12_powerOf_25 : decode cX12_powerOf 25 = .ok (.bipush 10, 2) := by decide +kernel
theorem dX12_powerOf_27 : decode cX12_powerOf 27 = .ok (.iadd, 1) := by decide +kernel
theorem dX12_powerOf_28 : decode cX12_powerOf 28 = .ok (.goto 4, 3) := by decide +kernel
theorem dX12_powerOf_31 : decode cX12_powerOf 31 = .ok (.iconst (-1), 1) := by decide +kernel
theorem dX12_powerOf_32 : decode cX12_powerOf 32 = .ok (.ireturn, 1) := by decide +kernel
theorem dX12_value_0 : decode cX12_value 0 = .ok (.iload_n 1, 1) := by decide +kernel
theorem dX12_value_1 : decode cX12_value 1 = .ok (.invokestatic 132, 3) := by decide +kernel
theorem dX12_value_4 : decode cX12_value 4 = .ok (.ifCond .eq 12, 3) := by decide +kernel
theorem dX12_value_7 : decode cX12_value 7 = .ok (.iload_n 2, 1) := by decide +kernel
theorem dX12_value_8 : decode cX12_value 8 = .ok (.iconst 0, 1) := by decide +kernel
theorem dX12_value_9 : decode cX12_value 9 = .ok (.iconst 1, 1) := by decide +kernel
theorem dX12_value_10 : decode cX12_value 10 = .ok (.invokestatic 87, 3) := by decide +kernel
theorem dX12_value_13 : decode cX12_value 13 = .ok (.ifCond .ne 7, 3) := by decide +kernel
theorem dX12_value_16 : decode cX12_value 16 = .ok (.ldc2_w 135, 3) := by decide +kernel
theorem dX12_value_19 : decode cX12_value 19 = .ok (.lreturn, 1) := by decide +kernel
theorem dX12_value_20 : decode cX12_value 20 = .ok (.aload_n 0, 1) := by decide +kernel
theorem dX12_value_21 : decode cX12_value 21 = .ok (.iload_n 1, 1) := by decide +kernel
theorem dX12_value_22 : decode cX12_value 22 = .ok (.invokevirtual 137, 3) := by decide +kernel
theorem dX12_value_25 : decode cX12_value 25 = .ok (.iload_n 2, 1) := by decide +kernel
theorem dX12_value_26 : decode cX12_value 26 = .ok (.ifCond .ne 18, 3) := by decide +kernel
theorem dX12_value_29 : decode cX12_value 29 = .ok (.aload_n 0, 1) := by decide +kernel
theorem dX12_value_30 : decode cX12_value 30 = .ok (.aload_n 0, 1) := by decide +kernel
theorem dX12_value_31 : decode cX12_value 31 = .ok (.getfield 37, 3) := by decide +kernel
theorem dX12_value_34 : decode cX12_value 34 = .ok (.aload_n 0, 1) := by decide +kernel
theorem dX12_value_35 : decode cX12_value 35 = .ok (.getfield 109, 3) := by decide +kernel
theorem dX12_value_38 : decode cX12_value 38 = .ok (.invokevirtual 116, 3) := by decide +kernel
theorem dX12_value_41 : decode cX12_value 41 = .ok (.goto 11, 3) := by decide +kernel
theorem dX12_value_44 : decode cX12_value 44 = .ok (.aload_n 0, 1) := by decide +kernel
theorem dX12_value_45 : decode cX12_value 45 = .ok (.aload_n 0, 1) := by decide +kernel
theorem dX12_value_46 : decode cX12_value 46 = .ok (.getfield 37, 3) := by decide +kernel
theorem dX12_value_49 : decode cX12_value 49 = .ok (.invokevirtual 112, 3) := by decide +kernel
theorem dX12_value_52 : decode cX12_value 52 = .ok (.lreturn, 1) := by decide +kernel
theorem dX12_heightOf_0 : decode cX12_heightOf 0 = .ok (.iconst 0, 1) := by decide +kernel
theorem dX12_heightOf_1 : decode cX12_heightOf 1 = .ok (.istore_n 2, 1) := by decide +kernel
theorem dX12_heightOf_2 : decode cX12_heightOf 2 = .ok (.iconst 0, 1) := by decide +kernel
theorem dX12_heightOf_3 : decode cX12_heightOf 3 = .ok (.istore_n 3, 1) := by decide +kernel
theorem dX12_heightOf_4 : decode cX12_heightOf 4 = .ok (.iload_n 3, 1) := by decide +kernel
theorem dX12_heightOf_5 : decode cX12_heightOf 5 = .ok (.aload_n 0, 1) := by decide +kernel
theorem dX12_heightOf_6 : decode cX12_heightOf 6 = .ok (.getfield 83, 3) := by decide +kernel
theorem dX12_heightOf_9 : decode cX12_heightOf 9 = .ok (.if_icmp .ge 24, 3) := by decide +kernel
theorem dX12_heightOf_12 : decode cX12_heightOf 12 = .ok (.iload_n 2, 1) := by decide +kernel
theorem dX12_heightOf_13 : decode cX12_heightOf 13 = .ok (.aload_n 1, 1) := by decide +kernel
theorem dX12_heightOf_14 : decode cX12_heightOf 14 = .ok (.iload_n 3, 1) := by decide +kernel
theorem dX12_heightOf_15 : decode cX12_heightOf 15 = .ok (.iaload, 1) := by decide +kernel
theorem dX12_heightOf_16 : decode cX12_heightOf 16 = .ok (.aload_n 1, 1) := by decide +kernel
theorem dX12_heightOf_17 : decode cX12_heightOf 17 = .ok (.iload_n 3, 1) := by decide +kernel
theorem dX12_heightOf_18 : decode cX12_heightOf 18 = .ok (.iaload, 1) := by decide +kernel
theorem dX12_heightOf_19 : decode cX12_heightOf 19 = .ok (.ineg, 1) := by decide +kernel
theorem dX12_heightOf_20 : decode cX12_heightOf 20 = .ok (.invokestatic 141, 3) := by decide +kernel
theorem dX12_heightOf_23 : decode cX12_heightOf 23 = .ok (.invokestatic 141, 3) := by decide +kernel
theorem dX12_heightOf_26 : decode cX12_heightOf 26 = .ok (.istore_n 2, 1) := by decide +kernel
theorem dX12_heightOf_27 : decode cX12_heightOf 27 = .ok (.iinc 3 1, 3) := by decide +kernel
theorem dX12_heightOf_30 : decode cX12_heightOf 30 = .ok (.goto (-26), 3) := by decide +kernel
theorem dX12_heightOf_33 : decode cX12_heightOf 33 = .ok (.iload_n 2, 1) := by decide +kernel
theorem dX12_heightOf_34 : decode cX12_heightOf 34 = .ok (.ireturn, 1) := by decide +kernel
theorem dX12_height_0 : decode cX12_height 0 = .ok (.iload_n 1, 1) := by decide +kernel
theorem dX12_height_1 : decode cX12_height 1 = .ok (.invokestatic 132, 3) := by decide +kernel
theorem dX12_height_4 : decode cX12_height 4 = .ok (.ifCond .ne 5, 3) := by decide +kernel
theorem dX12_height_7 : decode cX12_height 7 = .ok (.iconst (-1), 1) := by decide +kernel
theorem dX12_height_8 : decode cX12_height 8 = .ok (.ireturn, 1) := by decide +kernel
theorem dX12_height_9 : decode cX12_height 9 = .ok (.aload_n 0, 1) := by decide +kernel
theorem dX12_height_10 : decode cX12_height 10 = .ok (.iload_n 1, 1) := by decide +kernel
theorem dX12_height_11 : decode cX12_height 11 = .ok (.invokevirtual 137, 3) := by decide +kernel
theorem dX12_height_14 : decode cX12_height 14 = .ok (.aload_n 0, 1) := by decide +kernel
theorem dX12_height_15 : decode cX12_height 15 = .ok (.aload_n 0, 1) := by decide +kernel
theorem dX12_height_16 : decode cX12_height 16 = .ok (.getfield 37, 3) := by decide +kernel
theorem dX12_height_19 : decode cX12_height 19 = .ok (.invokevirtual 144, 3) := by decide +kernel
theorem dX12_height_22 : decode cX12_height 22 = .ok (.ireturn, 1) := by decide +kernel
theorem dX12_isIn_0 : decode cX12_isIn 0 = .ok (.iload_n 1, 1) := by decide +kernel
theorem dX12_isIn_1 : decode cX12_isIn 1 = .ok (.invokestatic 132, 3) := by decide +kernel
theorem dX12_isIn_4 : decode cX12_isIn 4 = .ok (.ifCond .ne 5, 3) := by decide +kernel
theorem dX12_isIn_7 : decode cX12_isIn 7 = .ok (.iconst (-1), 1) := by decide +kernel
theorem dX12_isIn_8 : decode cX12_isIn 8 = .ok (.ireturn, 1) := by decide +kernel
theorem dX12_isIn_9 : decode cX12_isIn 9 = .ok (.aload_n 0, 1) := by decide +kernel
theorem dX12_isIn_10 : decode cX12_isIn 10 = .ok (.iload_n 1, 1) := by decide +kernel
theorem dX12_isIn_11 : decode cX12_isIn 11 = .ok (.invokevirtual 137, 3) := by decide +kernel
theorem dX12_isIn_14 : decode cX12_isIn 14 = .ok (.aload_n 0, 1) := by decide +kernel
theorem dX12_isIn_15 : decode cX12_isIn 15 = .ok (.aload_n 0, 1) := by decide +kernel
theorem dX12_isIn_16 : decode cX12_isIn 16 = .ok (.getfield 37, 3) := by decide +kernel
theorem dX12_isIn_19 : decode cX12_isIn 19 = .ok (.invokevirtual 148, 3) := by decide +kernel
theorem dX12_isIn_22 : decode cX12_isIn 22 = .ok (.ifCond .eq 7, 3) := by decide +kernel
theorem dX12_isIn_25 : decode cX12_isIn 25 = .ok (.iconst 1, 1) := by decide +kernel
theorem dX12_isIn_26 : decode cX12_isIn 26 = .ok (.goto 4, 3) := by decide +kernel
theorem dX12_isIn_29 : decode cX12_isIn 29 = .ok (.iconst 0, 1) := by decide +kernel
theorem dX12_isIn_30 : decode cX12_isIn 30 = .ok (.ireturn, 1) := by decide +kernel
theorem dX12_joins_0 : decode cX12_joins 0 = .ok (.iload_n 1, 1) := by decide +kernel
theorem dX12_joins_1 : decode cX12_joins 1 = .ok (.invokestatic 132, 3) := by decide +kernel
theorem dX12_joins_4 : decode cX12_joins 4 = .ok (.ifCond .eq 17, 3) := by decide +kernel
theorem dX12_joins_7 : decode cX12_joins 7 = .ok (.iload_n 2, 1) := by decide +kernel
theorem dX12_joins_8 : decode cX12_joins 8 = .ok (.invokestatic 132, 3) := by decide +kernel
theorem dX12_joins_11 : decode cX12_joins 11 = .ok (.ifCond .eq 10, 3) := by decide +kernel
theorem dX12_joins_14 : decode cX12_joins 14 = .ok (.iload_n 3, 1) := by decide +kernel
theorem dX12_joins_15 : decode cX12_joins 15 = .ok (.invokestatic 132, 3) := by decide +kernel
theorem dX12_joins_18 : decode cX12_joins 18 = .ok (.ifCond .ne 5, 3) := by decide +kernel
theorem dX12_joins_21 : decode cX12_joins 21 = .ok (.iconst (-1), 1) := by decide +kernel
theorem dX12_joins_22 : decode cX12_joins 22 = .ok (.ireturn, 1) := by decide +kernel
theorem dX12_joins_23 : decode cX12_joins 23 = .ok (.iconst 0, 1) := by decide +kernel
theorem dX12_joins_24 : decode cX12_joins 24 = .ok (.istore 5, 2) := by decide +kernel
theorem dX12_joins_26 : decode cX12_joins 26 = .ok (.iload 5, 2) := by decide +kernel
theorem dX12_joins_28 : decode cX12_joins 28 = .ok (.aload_n 0, 1) := by decide +kernel
theorem dX12_joins_29 : decode cX12_joins 29 = .ok (.getfield 83, 3) := by decide +kernel
theorem dX12_joins_32 : decode cX12_joins 32 = .ok (.if_icmp .ge 62, 3) := by decide +kernel
theorem dX12_joins_35 : decode cX12_joins 35 = .ok (.aload_n 0, 1) := by decide +kernel
theorem dX12_joins_36 : decode cX12_joins 36 = .ok (.getfield 43, 3) := by decide +kernel
theorem dX12_joins_39 : decode cX12_joins 39 = .ok (.iload 5, 2) := by decide +kernel
theorem dX12_joins_41 : decode cX12_joins 41 = .ok (.aload_n 0, 1) := by decide +kernel
theorem dX12_joins_42 : decode cX12_joins 42 = .ok (.getfield 18, 3) := by decide +kernel
theorem dX12_joins_45 : decode cX12_joins 45 = .ok (.iconst 4, 1) := by decide +kernel
theorem dX12_joins_46 : decode cX12_joins 46 = .ok (.iload_n 1, 1) := by decide +kernel
theorem dX12_joins_47 : decode cX12_joins 47 = .ok (.imul, 1) := by decide +kernel
theorem dX12_joins_48 : decode cX12_joins 48 = .ok (.iload 5, 2) := by decide +kernel
theorem dX12_joins_50 : decode cX12_joins 50 = .ok (.iadd, 1) := by decide +kernel
theorem dX12_joins_51 : decode cX12_joins 51 = .ok (.iaload, 1) := by decide +kernel
theorem dX12_joins_52 : decode cX12_joins 52 = .ok (.iload 4, 2) := by decide +kernel
theorem dX12_joins_54 : decode cX12_joins 54 = .ok (.aload_n 0, 1) := by decide +kernel
theorem dX12_joins_55 : decode cX12_joins 55 = .ok (.getfield 18, 3) := by decide +kernel
theorem dX12_joins_58 : decode cX12_joins 58 = .ok (.iconst 4, 1) := by decide +kernel
theorem dX12_joins_59 : decode cX12_joins 59 = .ok (.iload_n 2, 1) := by decide +kernel
theorem dX12_joins_60 : decode cX12_joins 60 = .ok (.imul, 1) := by decide +kernel
theorem dX12_joins_61 : decode cX12_joins 61 = .ok (.iload 5, 2) := by decide +kernel
theorem dX12_joins_63 : decode cX12_joins 63 = .ok (.iadd, 1) := by decide +kernel
theorem dX12_joins_64 : decode cX12_joins 64 = .ok (.iaload, 1) := by decide +kernel
theorem dX12_joins_65 : decode cX12_joins 65 = .ok (.imul, 1) := by decide +kernel
theorem dX12_joins_66 : decode cX12_joins 66 = .ok (.iadd, 1) := by decide +kernel
theorem dX12_joins_67 : decode cX12_joins 67 = .ok (.iastore, 1) := by decide +kernel
theorem dX12_joins_68 : decode cX12_joins 68 = .ok (.aload_n 0, 1) := by decide +kernel
theorem dX12_joins_69 : decode cX12_joins 69 = .ok (.getfield 43, 3) := by decide +kernel
theorem dX12_joins_72 : decode cX12_joins 72 = .ok (.iload 5, 2) := by decide +kernel
theorem dX12_joins_74 : decode cX12_joins 74 = .ok (.iaload, 1) := by decide +kernel
theorem dX12_joins_75 : decode cX12_joins 75 = .ok (.bipush (-6), 2) := by decide +kernel
theorem dX12_joins_77 : decode cX12_joins 77 = .ok (.bipush 6, 2) := by decide +kernel
theorem dX12_joins_79 : decode cX12_joins 79 = .ok (.invokestatic 87, 3) := by decide +kernel
theorem dX12_joins_82 : decode cX12_joins 82 = .ok (.ifCond .ne 6, 3) := by decide +kernel
theorem dX12_joins_85 : decode cX12_joins 85 = .ok (.bipush (-6), 2) := by decide +kernel
theorem dX12_joins_87 : decode cX12_joins 87 = .ok (.ireturn, 1) := by decide +kernel
theorem dX12_joins_88 : decode cX12_joins 88 = .ok (.iinc 5 1, 3) := by decide +kernel
theorem dX12_joins_91 : decode cX12_joins 91 = .ok (.goto (-65), 3) := by decide +kernel
theorem dX12_joins_94 : decode cX12_joins 94 = .ok (.aload_n 0, 1) := by decide +kernel
theorem dX12_joins_95 : decode cX12_joins 95 = .ok (.iload_n 3, 1) := by decide +kernel
theorem dX12_joins_96 : decode cX12_joins 96 = .ok (.aload_n 0, 1) := by decide +kernel
theorem dX12_joins_97 : decode cX12_joins 97 = .ok (.getfield 43, 3) := by decide +kernel
theorem dX12_joins_100 : decode cX12_joins 100 = .ok (.aload_n 0, 1) := by decide +kernel
theorem dX12_joins_101 : decode cX12_joins 101 = .ok (.getfield 21, 3) := by decide +kernel
theorem dX12_joins_104 : decode cX12_joins 104 = .ok (.iload_n 1, 1) := by decide +kernel
theorem dX12_joins_105 : decode cX12_joins 105 = .ok (.iaload, 1) := by decide +kernel
theorem dX12_joins_106 : decode cX12_joins 106 = .ok (.aload_n 0, 1) := by decide +kernel
theorem dX12_joins_107 : decode cX12_joins 107 = .ok (.getfield 21, 3) := by decide +kernel
theorem dX12_joins_110 : decode cX12_joins 110 = .ok (.iload_n 2, 1) := by decide +kernel
theorem dX12_joins_111 : decode cX12_joins 111 = .ok (.iaload, 1) := by decide +kernel
theorem dX12_joins_112 : decode cX12_joins 112 = .ok (.imul, 1) := by decide +kernel
theorem dX12_joins_113 : decode cX12_joins 113 = .ok (.invokevirtual 152, 3) := by decide +kernel
theorem dX12_joins_116 : decode cX12_joins 116 = .ok (.iconst 1, 1) := by decide +kernel
theorem dX12_joins_117 : decode cX12_joins 117 = .ok (.ireturn, 1) := by decide +kernel
theorem dX12_times_0 : decode cX12_times 0 = .ok (.aload_n 0, 1) := by decide +kernel
theorem dX12_times_1 : decode cX12_times 1 = .ok (.iload_n 1, 1) := by decide +kernel
theorem dX12_times_2 : decode cX12_times 2 = .ok (.iload_n 2, 1) := by decide +kernel
theorem dX12_times_3 : decode cX12_times 3 = .ok (.iload_n 3, 1) := by decide +kernel
theorem dX12_times_4 : decode cX12_times 4 = .ok (.iconst 1, 1) := by decide +kernel
theorem dX12_times_5 : decode cX12_times 5 = .ok (.invokevirtual 156, 3) := by decide +kernel
theorem dX12_times_8 : decode cX12_times 8 = .ok (.ireturn, 1) := by decide +kernel
theorem dX12_over_0 : decode cX12_over 0 = .ok (.aload_n 0, 1) := by decide +kernel
theorem dX12_over_1 : decode cX12_over 1 = .ok (.iload_n 1, 1) := by decide +kernel
theorem dX12_over_2 : decode cX12_over 2 = .ok (.iload_n 2, 1) := by decide +kernel
theorem dX12_over_3 : decode cX12_over 3 = .ok (.iload_n 3, 1) := by decide +kernel
theorem dX12_over_4 : decode cX12_over 4 = .ok (.iconst (-1), 1) := by decide +kernel
theorem dX12_over_5 : decode cX12_over 5 = .ok (.invokevirtual 156, 3) := by decide +kernel
theorem dX12_over_8 : decode cX12_over 8 = .ok (.ireturn, 1) := by decide +kernel
theorem dX12_partner_0 : decode cX12_partner 0 = .ok (.iload_n 1, 1) := by decide +kernel
theorem dX12_partner_1 : decode cX12_partner 1 = .ok (.invokestatic 132, 3) := by decide +kernel
theorem dX12_partner_4 : decode cX12_partner 4 = .ok (.ifCond .eq 10, 3) := by decide +kernel
theorem dX12_partner_7 : decode cX12_partner 7 = .ok (.iload_n 2, 1) := by decide +kernel
theorem dX12_partner_8 : decode cX12_partner 8 = .ok (.invokestatic 132, 3) := by decide +kernel
theorem dX12_partner_11 : decode cX12_partner 11 = .ok (.ifCond .ne 5, 3) := by decide +kernel
theorem dX12_partner_14 : decode cX12_partner 14 = .ok (.iconst (-1), 1) := by decide +kernel
theorem dX12_partner_15 : decode cX12_partner 15 = .ok (.ireturn, 1) := by decide +kernel
theorem dX12_partner_16 : decode cX12_partner 16 = .ok (.aload_n 0, 1) := by decide +kernel
theorem dX12_partner_17 : decode cX12_partner 17 = .ok (.iload_n 1, 1) := by decide +kernel
theorem dX12_partner_18 : decode cX12_partner 18 = .ok (.invokevirtual 137, 3) := by decide +kernel
theorem dX12_partner_21 : decode cX12_partner 21 = .ok (.aload_n 0, 1) := by decide +kernel
theorem dX12_partner_22 : decode cX12_partner 22 = .ok (.invokevirtual 160, 3) := by decide +kernel
theorem dX12_partner_25 : decode cX12_partner 25 = .ok (.ifCond .ne 6, 3) := by decide +kernel
theorem dX12_partner_28 : decode cX12_partner 28 = .ok (.bipush (-5), 2) := by decide +kernel
theorem dX12_partner_30 : decode cX12_partner 30 = .ok (.ireturn, 1) := by decide +kernel
theorem dX12_partner_31 : decode cX12_partner 31 = .ok (.aload_n 0, 1) := by decide +kernel
theorem dX12_partner_32 : decode cX12_partner 32 = .ok (.iload_n 2, 1) := by decide +kernel
theorem dX12_partner_33 : decode cX12_partner 33 = .ok (.aload_n 0, 1) := by decide +kernel
theorem dX12_partner_34 : decode cX12_partner 34 = .ok (.getfield 40, 3) := by decide +kernel
theorem dX12_partner_37 : decode cX12_partner 37 = .ok (.aload_n 0, 1) := by decide +kernel
theorem dX12_partner_38 : decode cX12_partner 38 = .ok (.getfield 120, 3) := by decide +kernel
theorem dX12_partner_41 : decode cX12_partner 41 = .ok (.invokevirtual 152, 3) := by decide +kernel
theorem dX12_partner_44 : decode cX12_partner 44 = .ok (.iconst 1, 1) := by decide +kernel
theorem dX12_partner_45 : decode cX12_partner 45 = .ok (.ireturn, 1) := by decide +kernel
theorem dX12_form_0 : decode cX12_form 0 = .ok (.iload_n 1, 1) := by decide +kernel
theorem dX12_form_1 : decode cX12_form 1 = .ok (.invokestatic 132, 3) := by decide +kernel
theorem dX12_form_4 : decode cX12_form 4 = .ok (.ifCond .eq 19, 3) := by decide +kernel
theorem dX12_form_7 : decode cX12_form 7 = .ok (.iload_n 3, 1) := by decide +kernel
theorem dX12_form_8 : decode cX12_form 8 = .ok (.invokestatic 132, 3) := by decide +kernel
theorem dX12_form_11 : decode cX12_form 11 = .ok (.ifCond .eq 12, 3) := by decide +kernel
theorem dX12_form_14 : decode cX12_form 14 = .ok (.iload_n 2, 1) := by decide +kernel
theorem dX12_form_15 : decode cX12_form 15 = .ok (.iconst 0, 1) := by decide +kernel
theorem dX12_form_16 : decode cX12_form 16 = .ok (.iconst 5, 1) := by decide +kernel
theorem dX12_form_17 : decode cX12_form 17 = .ok (.invokestatic 87, 3) := by decide +kernel
theorem dX12_form_20 : decode cX12_form 20 = .ok (.ifCond .ne 5, 3) := by decide +kernel
theorem dX12_form_23 : decode cX12_form 23 = .ok (.iconst (-1), 1) := by decide +kernel
theorem dX12_form_24 : decode cX12_form 24 = .ok (.ireturn, 1) := by decide +kernel
theorem dX12_form_25 : decode cX12_form 25 = .ok (.aload_n 0, 1) := by decide +kernel
theorem dX12_form_26 : decode cX12_form 26 = .ok (.iload_n 1, 1) := by decide +kernel
theorem dX12_form_27 : decode cX12_form 27 = .ok (.invokevirtual 137, 3) := by decide +kernel
theorem dX12_form_30 : decode cX12_form 30 = .ok (.aload_n 0, 1) := by decide +kernel
theorem dX12_form_31 : decode cX12_form 31 = .ok (.invokevirtual 160, 3) := by decide +kernel
theorem dX12_form_34 : decode cX12_form 34 = .ok (.ifCond .eq 11, 3) := by decide +kernel
theorem dX12_form_37 : decode cX12_form 37 = .ok (.aload_n 0, 1) := by decide +kernel
theorem dX12_form_38 : decode cX12_form 38 = .ok (.iload_n 2, 1) := by decide +kernel
theorem dX12_form_39 : decode cX12_form 39 = .ok (.invokevirtual 164, 3) := by decide +kernel
theorem dX12_form_42 : decode cX12_form 42 = .ok (.ifCond .ne 6, 3) := by decide +kernel
theorem dX12_form_45 : decode cX12_form 45 = .ok (.bipush (-5), 2) := by decide +kernel
theorem dX12_form_47 : decode cX12_form 47 = .ok (.ireturn, 1) := by decide +kernel
theorem dX12_form_48 : decode cX12_form 48 = .ok (.aload_n 0, 1) := by decide +kernel
theorem dX12_form_49 : decode cX12_form 49 = .ok (.iload_n 3, 1) := by decide +kernel
theorem dX12_form_50 : decode cX12_form 50 = .ok (.aload_n 0, 1) := by decide +kernel
theorem dX12_form_51 : decode cX12_form 51 = .ok (.getfield 43, 3) := by decide +kernel
theorem dX12_form_54 : decode cX12_form 54 = .ok (.aload_n 0, 1) := by decide +kernel
theorem dX12_form_55 : decode cX12_form 55 = .ok (.getfield 129, 3) := by decide +kernel
theorem dX12_form_58 : decode cX12_form 58 = .ok (.invokevirtual 152, 3) := by decide +kernel
theorem dX12_form_61 : decode cX12_form 61 = .ok (.iconst 1, 1) := by decide +kernel
theorem dX12_form_62 : decode cX12_form 62 = .ok (.ireturn, 1) := by decide +kernel
theorem dX12_forms_0 : decode cX12_forms 0 = .ok (.iload_n 1, 1) := by decide +kernel
theorem dX12_forms_1 : decode cX12_forms 1 = .ok (.invokestatic 132, 3) := by decide +kernel
theorem dX12_forms_4 : decode cX12_forms 4 = .ok (.ifCond .ne 5, 3) := by decide +kernel
theorem dX12_forms_7 : decode cX12_forms 7 = .ok (.iconst (-1), 1) := by decide +kernel
theorem dX12_forms_8 : decode cX12_forms 8 = .ok (.ireturn, 1) := by decide +kernel
theorem dX12_forms_9 : decode cX12_forms 9 = .ok (.aload_n 0, 1) := by decide +kernel
theorem dX12_forms_10 : decode cX12_forms 10 = .ok (.iload_n 1, 1) := by decide +kernel
theorem dX12_forms_11 : decode cX12_forms 11 = .ok (.invokevirtual 137, 3) := by decide +kernel
theorem dX12_forms_14 : decode cX12_forms 14 = .ok (.aload_n 0, 1) := by decide +kernel
theorem dX12_forms_15 : decode cX12_forms 15 = .ok (.invokevirtual 160, 3) := by decide +kernel
theorem dX12_forms_18 : decode cX12_forms 18 = .ok (.ifCond .ne 6, 3) := by decide +kernel
theorem dX12_forms_21 : decode cX12_forms 21 = .ok (.bipush (-5), 2) := by decide +kernel
theorem dX12_forms_23 : decode cX12_forms 23 = .ok (.ireturn, 1) := by decide +kernel
theorem dX12_forms_24 : decode cX12_forms 24 = .ok (.iconst 0, 1) := by decide +kernel
theorem dX12_forms_25 : decode cX12_forms 25 = .ok (.istore_n 2, 1) := by decide +kernel
theorem dX12_forms_26 : decode cX12_forms 26 = .ok (.iconst 0, 1) := by decide +kernel
theorem dX12_forms_27 : decode cX12_forms 27 = .ok (.istore_n 3, 1) := by decide +kernel
theorem dX12_forms_28 : decode cX12_forms 28 = .ok (.iload_n 3, 1) := by decide +kernel
theorem dX12_forms_29 : decode cX12_forms 29 = .ok (.bipush 6, 2) := by decide +kernel
theorem dX12_forms_31 : decode cX12_forms 31 = .ok (.if_icmp .ge 132, 3) := by decide +kernel
theorem dX12_forms_34 : decode cX12_forms 34 = .ok (.aload_n 0, 1) := by decide +kernel
theorem dX12_forms_35 : decode cX12_forms 35 = .ok (.iload_n 3, 1) := by decide +kernel
theorem dX12_forms_36 : decode cX12_forms 36 = .ok (.invokevirtual 164, 3) := by decide +kernel
theorem dX12_forms_39 : decode cX12_forms 39 = .ok (.ifCond .ne 6, 3) := by decide +kernel
theorem dX12_forms_42 : decode cX12_forms 42 = .ok (.goto 115, 3) := by decide +kernel
theorem dX12_forms_45 : decode cX12_forms 45 = .ok (.iconst 0, 1) := by decide +kernel
theorem dX12_forms_46 : decode cX12_forms 46 = .ok (.istore 4, 2) := by decide +kernel
theorem dX12_forms_48 : decode cX12_forms 48 = .ok (.iconst 0, 1) := by decide +kernel
theorem dX12_forms_49 : decode cX12_forms 49 = .ok (.istore 5, 2) := by decide +kernel
theorem dX12_forms_51 : decode cX12_forms 51 = .ok (.iload 5, 2) := by decide +kernel
theorem dX12_forms_53 : decode cX12_forms 53 = .ok (.iload_n 2, 1) := by decide +kernel
theorem dX12_forms_54 : decode cX12_forms 54 = .ok (.if_icmp .ge 63, 3) := by decide +kernel
theorem dX12_forms_57 : decode cX12_forms 57 = .ok (.iload 4, 2) := by decide +kernel
theorem dX12_forms_59 : decode cX12_forms 59 = .ok (.ifCond .ne 45, 3) := by decide +kernel
theorem dX12_forms_62 : decode cX12_forms 62 = .ok (.aload_n 0, 1) := by decide +kernel
theorem dX12_forms_63 : decode cX12_forms 63 = .ok (.getfield 46, 3) := by decide +kernel
theorem dX12_forms_66 : decode cX12_forms 66 = .ok (.iload 5, 2) := by decide +kernel
theorem dX12_forms_68 : decode cX12_forms 68 = .ok (.laload, 1) := by decide +kernel
theorem dX12_forms_69 : decode cX12_forms 69 = .ok (.aload_n 0, 1) := by decide +kernel
theorem dX12_forms_70 : decode cX12_forms 70 = .ok (.aload_n 0, 1) := by decide +kernel
theorem dX12_forms_71 : decode cX12_forms 71 = .ok (.getfield 43, 3) := by decide +kernel
theorem dX12_forms_74 : decode cX12_forms 74 = .ok (.aload_n 0, 1) := by decide +kernel
theorem dX12_forms_75 : decode cX12_forms 75 = .ok (.getfield 129, 3) := by decide +kernel
theorem dX12_forms_78 : decode cX12_forms 78 = .ok (.invokevirtual 116, 3) := by decide +kernel
theorem dX12_forms_81 : decode cX12_forms 81 = .ok (.lcmp, 1) := by decide +kernel
theorem dX12_forms_82 : decode cX12_forms 82 = .ok (.ifCond .ne 26, 3) := by decide +kernel
theorem dX12_forms_85 : decode cX12_forms 85 = .ok (.aload_n 0, 1) := by decide +kernel
theorem dX12_forms_86 : decode cX12_forms 86 = .ok (.getfield 49, 3) := by decide +kernel
theorem dX12_forms_89 : decode cX12_forms 89 = .ok (.iload 5, 2) := by decide +kernel
theorem dX12_forms_91 : decode cX12_forms 91 = .ok (.laload, 1) := by decide +kernel
theorem dX12_forms_92 : decode cX12_forms 92 = .ok (.aload_n 0, 1) := by decide +kernel
theorem dX12_forms_93 : decode cX12_forms 93 = .ok (.aload_n 0, 1) := by decide +kernel
theorem dX12_forms_94 : decode cX12_forms 94 = .ok (.getfield 43, 3) := by decide +kernel
theorem dX12_forms_97 : decode cX12_forms 97 = .ok (.invokevirtual 112, 3) := by decide +kernel
theorem dX12_forms_100 : decode cX12_forms 100 = .ok (.lcmp, 1) := by decide +kernel
theorem dX12_forms_101 : decode cX12_forms 101 = .ok (.ifCond .ne 7, 3) := by decide +kernel
theorem dX12_forms_104 : decode cX12_forms 104 = .ok (.iconst 1, 1) := by decide +kernel
theorem dX12_forms_105 : decode cX12_forms 105 = .ok (.goto 4, 3) := by decide +kernel
theorem dX12_forms_108 : decode cX12_forms 108 = .ok (.iconst 0, 1) := by decide +kernel
theorem dX12_forms_109 : decode cX12_forms 109 = .ok (.istore 4, 2) := by decide +kernel
theorem dX12_forms_111 : decode cX12_forms 111 = .ok (.iinc 5 1, 3) := by decide +kernel
theorem dX12_forms_114 : decode cX12_forms 114 = .ok (.goto (-63), 3) := by decide +kernel
theorem dX12_forms_117 : decode cX12_forms 117 = .ok (.iload 4, 2) := by decide +kernel
theorem dX12_forms_119 : decode cX12_forms 119 = .ok (.ifCond .ne 38, 3) := by decide +kernel
theorem dX12_forms_122 : decode cX12_forms 122 = .ok (.aload_n 0, 1) := by decide +kernel
theorem dX12_forms_123 : decode cX12_forms 123 = .ok (.getfield 46, 3) := by decide +kernel
theorem dX12_forms_126 : decode cX12_forms 126 = .ok (.iload_n 2, 1) := by decide +kernel
theorem dX12_forms_127 : decode cX12_forms 127 = .ok (.aload_n 0, 1) := by decide +kernel
theorem dX12_forms_128 : decode cX12_forms 128 = .ok (.aload_n 0, 1) := by decide +kernel
theorem dX12_forms_129 : decode cX12_forms 129 = .ok (.getfield 43, 3) := by decide +kernel
theorem dX12_forms_132 : decode cX12_forms 132 = .ok (.aload_n 0, 1) := by decide +kernel
theorem dX12_forms_133 : decode cX12_forms 133 = .ok (.getfield 129, 3) := by decide +kernel
theorem dX12_forms_136 : decode cX12_forms 136 = .ok (.invokevirtual 116, 3) := by decide +kernel
theorem dX12_forms_139 : decode cX12_forms 139 = .ok (.lastore, 1) := by decide +kernel
theorem dX12_forms_140 : decode cX12_forms 140 = .ok (.aload_n 0, 1) := by decide +kernel
theorem dX12_forms_141 : decode cX12_forms 141 = .ok (.getfield 49, 3) := by decide +kernel
theorem dX12_forms_144 : decode cX12_forms 144 = .ok (.iload_n 2, 1) := by decide +kernel
theorem dX12_forms_145 : decode cX12_forms 145 = .ok (.aload_n 0, 1) := by decide +kernel
theorem dX12_forms_146 : decode cX12_forms 146 = .ok (.aload_n 0, 1) := by decide +kernel
theorem dX12_forms_147 : decode cX12_forms 147 = .ok (.getfield 43, 3) := by decide +kernel
theorem dX12_forms_150 : decode cX12_forms 150 = .ok (.invokevirtual 112, 3) := by decide +kernel
theorem dX12_forms_153 : decode cX12_forms 153 = .ok (.lastore, 1) := by decide +kernel
theorem dX12_forms_154 : decode cX12_forms 154 = .ok (.iinc 2 1, 3) := by decide +kernel
theorem dX12_forms_157 : decode cX12_forms 157 = .ok (.iinc 3 1, 3) := by decide +kernel
theorem dX12_forms_160 : decode cX12_forms 160 = .ok (.goto (-132), 3) := by decide +kernel
theorem dX12_forms_163 : decode cX12_forms 163 = .ok (.iload_n 2, 1) := by decide +kernel
theorem dX12_forms_164 : decode cX12_forms 164 = .ok (.ireturn, 1) := by decide +kernel
theorem dX12_looksFirst_0 : decode cX12_looksFirst 0 = .ok (.iconst 0, 1) := by decide +kernel
theorem dX12_looksFirst_1 : decode cX12_looksFirst 1 = .ok (.istore_n 1, 1) := by decide +kernel
theorem dX12_looksFirst_2 : decode cX12_looksFirst 2 = .ok (.iload_n 1, 1) := by decide +kernel
theorem dX12_looksFirst_3 : decode cX12_looksFirst 3 = .ok (.aload_n 0, 1) := by decide +kernel
theorem dX12_looksFirst_4 : decode cX12_looksFirst 4 = .ok (.getfield 83, 3) := by decide +kernel
theorem dX12_looksFirst_7 : decode cX12_looksFirst 7 = .ok (.if_icmp .ge 22, 3) := by decide +kernel
theorem dX12_looksFirst_10 : decode cX12_looksFirst 10 = .ok (.aload_n 0, 1) := by decide +kernel
theorem dX12_looksFirst_11 : decode cX12_looksFirst 11 = .ok (.getfield 37, 3) := by decide +kernel
theorem dX12_looksFirst_14 : decode cX12_looksFirst 14 = .ok (.iload_n 1, 1) := by decide +kernel
theorem dX12_looksFirst_15 : decode cX12_looksFirst 15 = .ok (.aload_n 0, 1) := by decide +kernel
theorem dX12_looksFirst_16 : decode cX12_looksFirst 16 = .ok (.getfield 15, 3) := by decide +kernel
theorem dX12_looksFirst_19 : decode cX12_looksFirst 19 = .ok (.iload_n 1, 1) := by decide +kernel
theorem dX12_looksFirst_20 : decode cX12_looksFirst 20 = .ok (.iaload, 1) := by decide +kernel
theorem dX12_looksFirst_21 : decode cX12_looksFirst 21 = .ok (.ineg, 1) := by decide +kernel
theorem dX12_looksFirst_22 : decode cX12_looksFirst 22 = .ok (.iastore, 1) := by decide +kernel
theorem dX12_looksFirst_23 : decode cX12_looksFirst 23 = .ok (.iinc 1 1, 3) := by decide +kernel
theorem dX12_looksFirst_26 : decode cX12_looksFirst 26 = .ok (.goto (-24), 3) := by decide +kernel
theorem dX12_looksFirst_29 : decode cX12_looksFirst 29 = .ok (.aload_n 0, 1) := by decide +kernel
theorem dX12_looksFirst_30 : decode cX12_looksFirst 30 = .ok (.iconst 1, 1) := by decide +kernel
theorem dX12_looksFirst_31 : decode cX12_looksFirst 31 = .ok (.putfield 109, 3) := by decide +kernel
theorem dX12_looksFirst_34 : decode cX12_looksFirst 34 = .ok (.return_, 1) := by decide +kernel
theorem dX12_looksOn_0 : decode cX12_looksOn 0 = .ok (.aload_n 0, 1) := by decide +kernel
theorem dX12_looksOn_1 : decode cX12_looksOn 1 = .ok (.getfield 109, 3) := by decide +kernel
theorem dX12_looksOn_4 : decode cX12_looksOn 4 = .ok (.iconst 1, 1) := by decide +kernel
theorem dX12_looksOn_5 : decode cX12_looksOn 5 = .ok (.if_icmp .ne 10, 3) := by decide +kernel
theorem dX12_looksOn_8 : decode cX12_looksOn 8 = .ok (.aload_n 0, 1) := by decide +kernel
theorem dX12_looksOn_9 : decode cX12_looksOn 9 = .ok (.iconst (-1), 1) := by decide +kernel
theorem dX12_looksOn_10 : decode cX12_looksOn 10 = .ok (.putfield 109, 3) := by decide +kernel
theorem dX12_looksOn_13 : decode cX12_looksOn 13 = .ok (.iconst 1, 1) := by decide +kernel
theorem dX12_looksOn_14 : decode cX12_looksOn 14 = .ok (.ireturn, 1) := by decide +kernel
theorem dX12_looksOn_15 : decode cX12_looksOn 15 = .ok (.aload_n 0, 1) := by decide +kernel
theorem dX12_looksOn_16 : decode cX12_looksOn 16 = .ok (.iconst 1, 1) := by decide +kernel
theorem dX12_looksOn_17 : decode cX12_looksOn 17 = .ok (.putfield 109, 3) := by decide +kernel
theorem dX12_looksOn_20 : decode cX12_looksOn 20 = .ok (.iconst 0, 1) := by decide +kernel
theorem dX12_looksOn_21 : decode cX12_looksOn 21 = .ok (.istore_n 1, 1) := by decide +kernel
theorem dX12_looksOn_22 : decode cX12_looksOn 22 = .ok (.iload_n 1, 1) := by decide +kernel
theorem dX12_looksOn_23 : decode cX12_looksOn 23 = .ok (.aload_n 0, 1) := by decide +kernel
theorem dX12_looksOn_24 : decode cX12_looksOn 24 = .ok (.getfield 83, 3) := by decide +kernel
theorem dX12_looksOn_27 : decode cX12_looksOn 27 = .ok (.if_icmp .ge 49, 3) := by decide +kernel
theorem dX12_looksOn_30 : decode cX12_looksOn 30 = .ok (.aload_n 0, 1) := by decide +kernel
theorem dX12_looksOn_31 : decode cX12_looksOn 31 = .ok (.getfield 37, 3) := by decide +kernel
theorem dX12_looksOn_34 : decode cX12_looksOn 34 = .ok (.iload_n 1, 1) := by decide +kernel
theorem dX12_looksOn_35 : decode cX12_looksOn 35 = .ok (.iaload, 1) := by decide +kernel
theorem dX12_looksOn_36 : decode cX12_looksOn 36 = .ok (.aload_n 0, 1) := by decide +kernel
theorem dX12_looksOn_37 : decode cX12_looksOn 37 = .ok (.getfield 15, 3) := by decide +kernel
theorem dX12_looksOn_40 : decode cX12_looksOn 40 = .ok (.iload_n 1, 1) := by decide +kernel
theorem dX12_looksOn_41 : decode cX12_looksOn 41 = .ok (.iaload, 1) := by decide +kernel
theorem dX12_looksOn_42 : decode cX12_looksOn 42 = .ok (.if_icmp .ge 15, 3) := by decide +kernel
theorem dX12_looksOn_45 : decode cX12_looksOn 45 = .ok (.aload_n 0, 1) := by decide +kernel
theorem dX12_looksOn_46 : decode cX12_looksOn 46 = .ok (.getfield 37, 3) := by decide +kernel
theorem dX12_looksOn_49 : decode cX12_looksOn 49 = .ok (.iload_n 1, 1) := by decide +kernel
theorem dX12_looksOn_50 : decode cX12_looksOn 50 = .ok (.dup2, 1) := by decide +kernel
theorem dX12_looksOn_51 : decode cX12_looksOn 51 = .ok (.iaload, 1) := by decide +kernel
theorem dX12_looksOn_52 : decode cX12_looksOn 52 = .ok (.iconst 1, 1) := by decide +kernel
theorem dX12_looksOn_53 : decode cX12_looksOn 53 = .ok (.iadd, 1) := by decide +kernel
theorem dX12_looksOn_54 : decode cX12_looksOn 54 = .ok (.iastore, 1) := by decide +kernel
theorem dX12_looksOn_55 : decode cX12_looksOn 55 = .ok (.iconst 1, 1) := by decide +kernel
theorem dX12_looksOn_56 : decode cX12_looksOn 56 = .ok (.ireturn, 1) := by decide +kernel
theorem dX12_looksOn_57 : decode cX12_looksOn 57 = .ok (.aload_n 0, 1) := by decide +kernel
theorem dX12_looksOn_58 : decode cX12_looksOn 58 = .ok (.getfield 37, 3) := by decide +kernel
theorem dX12_looksOn_61 : decode cX12_looksOn 61 = .ok (.iload_n 1, 1) := by decide +kernel
theorem dX12_looksOn_62 : decode cX12_looksOn 62 = .ok (.aload_n 0, 1) := by decide +kernel
theorem dX12_looksOn_63 : decode cX12_looksOn 63 = .ok (.getfield 15, 3) := by decide +kernel
theorem dX12_looksOn_66 : decode cX12_looksOn 66 = .ok (.iload_n 1, 1) := by decide +kernel
theorem dX12_looksOn_67 : decode cX12_looksOn 67 = .ok (.iaload, 1) := by decide +kernel
theorem dX12_looksOn_68 : decode cX12_looksOn 68 = .ok (.ineg, 1) := by decide +kernel
theorem dX12_looksOn_69 : decode cX12_looksOn 69 = .ok (.iastore, 1) := by decide +kernel
theorem dX12_looksOn_70 : decode cX12_looksOn 70 = .ok (.iinc 1 1, 3) := by decide +kernel
theorem dX12_looksOn_73 : decode cX12_looksOn 73 = .ok (.goto (-51), 3) := by decide +kernel
theorem dX12_looksOn_76 : decode cX12_looksOn 76 = .ok (.iconst 0, 1) := by decide +kernel
theorem dX12_looksOn_77 : decode cX12_looksOn 77 = .ok (.ireturn, 1) := by decide +kernel
theorem dX12_isAnswer_0 : decode cX12_isAnswer 0 = .ok (.aload_n 0, 1) := by decide +kernel
theorem dX12_isAnswer_1 : decode cX12_isAnswer 1 = .ok (.aload_n 0, 1) := by decide +kernel
theorem dX12_isAnswer_2 : decode cX12_isAnswer 2 = .ok (.getfield 37, 3) := by decide +kernel
theorem dX12_isAnswer_5 : decode cX12_isAnswer 5 = .ok (.invokevirtual 148, 3) := by decide +kernel
theorem dX12_isAnswer_8 : decode cX12_isAnswer 8 = .ok (.ifCond .eq 25, 3) := by decide +kernel
theorem dX12_isAnswer_11 : decode cX12_isAnswer 11 = .ok (.aload_n 0, 1) := by decide +kernel
theorem dX12_isAnswer_12 : decode cX12_isAnswer 12 = .ok (.invokevirtual 160, 3) := by decide +kernel
theorem dX12_isAnswer_15 : decode cX12_isAnswer 15 = .ok (.ifCond .eq 18, 3) := by decide +kernel
theorem dX12_isAnswer_18 : decode cX12_isAnswer 18 = .ok (.aload_n 0, 1) := by decide +kernel
theorem dX12_isAnswer_19 : decode cX12_isAnswer 19 = .ok (.aload_n 0, 1) := by decide +kernel
theorem dX12_isAnswer_20 : decode cX12_isAnswer 20 = .ok (.getfield 40, 3) := by decide +kernel
theorem dX12_isAnswer_23 : decode cX12_isAnswer 23 = .ok (.invokevirtual 148, 3) := by decide +kernel
theorem dX12_isAnswer_26 : decode cX12_isAnswer 26 = .ok (.ifCond .eq 7, 3) := by decide +kernel
theorem dX12_isAnswer_29 : decode cX12_isAnswer 29 = .ok (.iconst 1, 1) := by decide +kernel
theorem dX12_isAnswer_30 : decode cX12_isAnswer 30 = .ok (.goto 4, 3) := by decide +kernel
theorem dX12_isAnswer_33 : decode cX12_isAnswer 33 = .ok (.iconst 0, 1) := by decide +kernel
theorem dX12_isAnswer_34 : decode cX12_isAnswer 34 = .ok (.ireturn, 1) := by decide +kernel
theorem dX12_answerComes_0 : decode cX12_answerComes 0 = .ok (.aload_n 0, 1) := by decide +kernel
theorem dX12_answerComes_1 : decode cX12_answerComes 1 = .ok (.aload_n 0, 1) := by decide +kernel
theorem dX12_answerComes_2 : decode cX12_answerComes 2 = .ok (.getfield 37, 3) := by decide +kernel
theorem dX12_answerComes_5 : decode cX12_answerComes 5 = .ok (.aload_n 0, 1) := by decide +kernel
theorem dX12_answerComes_6 : decode cX12_answerComes 6 = .ok (.getfield 109, 3) := by decide +kernel
theorem dX12_answerComes_9 : decode cX12_answerComes 9 = .ok (.invokevirtual 116, 3) := by decide +kernel
theorem dX12_answerComes_12 : decode cX12_answerComes 12 = .ok (.lstore_n 1, 1) := by decide +kernel
theorem dX12_answerComes_13 : decode cX12_answerComes 13 = .ok (.aload_n 0, 1) := by decide +kernel
theorem dX12_answerComes_14 : decode cX12_answerComes 14 = .ok (.aload_n 0, 1) := by decide +kernel
theorem dX12_answerComes_15 : decode cX12_answerComes 15 = .ok (.getfield 37, 3) := by decide +kernel
theorem dX12_answerComes_18 : decode cX12_answerComes 18 = .ok (.invokevirtual 112, 3) := by decide +kernel
theorem dX12_answerComes_21 : decode cX12_answerComes 21 = .ok (.lstore_n 3, 1) := by decide +kernel
theorem dX12_answerComes_22 : decode cX12_answerComes 22 = .ok (.aload_n 0, 1) := by decide +kernel
theorem dX12_answerComes_23 : decode cX12_answerComes 23 = .ok (.getfield 167, 3) := by decide +kernel
theorem dX12_answerComes_26 : decode cX12_answerComes 26 = .ok (.istore 5, 2) := by decide +kernel
theorem dX12_answerComes_28 : decode cX12_answerComes 28 = .ok (.iload 5, 2) := by decide +kernel
theorem dX12_answerComes_30 : decode cX12_answerComes 30 = .ok (.ifCond .le 143, 3) := by decide +kernel
theorem dX12_answerComes_33 : decode cX12_answerComes 33 = .ok (.aload_n 0, 1) := by decide +kernel
theorem dX12_answerComes_34 : decode cX12_answerComes 34 = .ok (.getfield 55, 3) := by decide +kernel
theorem dX12_answerComes_37 : decode cX12_answerComes 37 = .ok (.iload 5, 2) := by decide +kernel
theorem dX12_answerComes_39 : decode cX12_answerComes 39 = .ok (.iconst 1, 1) := by decide +kernel
theorem dX12_answerComes_40 : decode cX12_answerComes 40 = .ok (.isub, 1) := by decide +kernel
theorem dX12_answerComes_41 : decode cX12_answerComes 41 = .ok (.laload, 1) := by decide +kernel
theorem dX12_answerComes_42 : decode cX12_answerComes 42 = .ok (.lload_n 3, 1) := by decide +kernel
theorem dX12_answerComes_43 : decode cX12_answerComes 43 = .ok (.lcmp, 1) := by decide +kernel
theorem dX12_answerComes_44 : decode cX12_answerComes 44 = .ok (.ifCond .gt 31, 3) := by decide +kernel
theorem dX12_answerComes_47 : decode cX12_answerComes 47 = .ok (.aload_n 0, 1) := by decide +kernel
theorem dX12_answerComes_48 : decode cX12_answerComes 48 = .ok (.getfield 55, 3) := by decide +kernel
theorem dX12_answerComes_51 : decode cX12_answerComes 51 = .ok (.iload 5, 2) := by decide +kernel
theorem dX12_answerComes_53 : decode cX12_answerComes 53 = .ok (.iconst 1, 1) := by decide +kernel
theorem dX12_answerComes_54 : decode cX12_answerComes 54 = .ok (.isub, 1) := by decide +kernel
theorem dX12_answerComes_55 : decode cX12_answerComes 55 = .ok (.laload, 1) := by decide +kernel
theorem dX12_answerComes_56 : decode cX12_answerComes 56 = .ok (.lload_n 3, 1) := by decide +kernel
theorem dX12_answerComes_57 : decode cX12_answerComes 57 = .ok (.lcmp, 1) := by decide +kernel
theorem dX12_answerComes_58 : decode cX12_answerComes 58 = .ok (.ifCond .ne 115, 3) := by decide +kernel
theorem dX12_answerComes_61 : decode cX12_answerComes 61 = .ok (.aload_n 0, 1) := by decide +kernel
theorem dX12_answerComes_62 : decode cX12_answerComes 62 = .ok (.getfield 52, 3) := by decide +kernel
theorem dX12_answerComes_65 : decode cX12_answerComes 65 = .ok (.iload 5, 2) := by decide +kernel
theorem dX12_answerComes_67 : decode cX12_answerComes 67 = .ok (.iconst 1, 1) := by decide +kernel
theorem dX12_answerComes_68 : decode cX12_answerComes 68 = .ok (.isub, 1) := by decide +kernel
theorem dX12_answerComes_69 : decode cX12_answerComes 69 = .ok (.laload, 1) := by decide +kernel
theorem dX12_answerComes_70 : decode cX12_answerComes 70 = .ok (.lload_n 1, 1) := by decide +kernel
theorem dX12_answerComes_71 : decode cX12_answerComes 71 = .ok (.lcmp, 1) := by decide +kernel
theorem dX12_answerComes_72 : decode cX12_answerComes 72 = .ok (.ifCond .le 101, 3) := by decide +kernel
theorem dX12_answerComes_75 : decode cX12_answerComes 75 = .ok (.aload_n 0, 1) := by decide +kernel
theorem dX12_answerComes_76 : decode cX12_answerComes 76 = .ok (.getfield 52, 3) := by decide +kernel
theorem dX12_answerComes_79 : decode cX12_answerComes 79 = .ok (.iload 5, 2) := by decide +kernel
theorem dX12_answerComes_81 : decode cX12_answerComes 81 = .ok (.aload_n 0, 1) := by decide +kernel
theorem dX12_answerComes_82 : decode cX12_answerComes 82 = .ok (.getfield 52, 3) := by decide +kernel
theorem dX12_answerComes_85 : decode cX12_answerComes 85 = .ok (.iload 5, 2) := by decide +kernel
theorem dX12_answerComes_87 : decode cX12_answerComes 87 = .ok (.iconst 1, 1) := by decide +kernel
theorem dX12_answerComes_88 : decode cX12_answerComes 88 = .ok (.isub, 1) := by decide +kernel
theorem dX12_answerComes_89 : decode cX12_answerComes 89 = .ok (.laload, 1) := by decide +kernel
theorem dX12_answerComes_90 : decode cX12_answerComes 90 = .ok (.lastore, 1) := by decide +kernel
theorem dX12_answerComes_91 : decode cX12_answerComes 91 = .ok (.aload_n 0, 1) := by decide +kernel
theorem dX12_answerComes_92 : decode cX12_answerComes 92 = .ok (.getfield 55, 3) := by decide +kernel
theorem dX12_answerComes_95 : decode cX12_answerComes 95 = .ok (.iload 5, 2) := by decide +kernel
theorem dX12_answerComes_97 : decode cX12_answerComes 97 = .ok (.aload_n 0, 1) := by decide +kernel
theorem dX12_answerComes_98 : decode cX12_answerComes 98 = .ok (.getfield 55, 3) := by decide +kernel
theorem dX12_answerComes_101 : decode cX12_answerComes 101 = .ok (.iload 5, 2) := by decide +kernel
theorem dX12_answerComes_103 : decode cX12_answerComes 103 = .ok (.iconst 1, 1) := by decide +kernel
theorem dX12_answerComes_104 : decode cX12_answerComes 104 = .ok (.isub, 1) := by decide +kernel
theorem dX12_answerComes_105 : decode cX12_answerComes 105 = .ok (.laload, 1) := by decide +kernel
theorem dX12_answerComes_106 : decode cX12_answerComes 106 = .ok (.lastore, 1) := by decide +kernel
theorem dX12_answerComes_107 : decode cX12_answerComes 107 = .ok (.aload_n 0, 1) := by decide +kernel
theorem dX12_answerComes_108 : decode cX12_answerComes 108 = .ok (.getfield 61, 3) := by decide +kernel
theorem dX12_answerComes_111 : decode cX12_answerComes 111 = .ok (.iload 5, 2) := by decide +kernel
theorem dX12_answerComes_113 : decode cX12_answerComes 113 = .ok (.aload_n 0, 1) := by decide +kernel
theorem dX12_answerComes_114 : decode cX12_answerComes 114 = .ok (.getfield 61, 3) := by decide +kernel
theorem dX12_answerComes_117 : decode cX12_answerComes 117 = .ok (.iload 5, 2) := by decide +kernel
theorem dX12_answerComes_119 : decode cX12_answerComes 119 = .ok (.iconst 1, 1) := by decide +kernel
theorem dX12_answerComes_120 : decode cX12_answerComes 120 = .ok (.isub, 1) := by decide +kernel
theorem dX12_answerComes_121 : decode cX12_answerComes 121 = .ok (.iaload, 1) := by decide +kernel
theorem dX12_answerComes_122 : decode cX12_answerComes 122 = .ok (.iastore, 1) := by decide +kernel
theorem dX12_answerComes_123 : decode cX12_answerComes 123 = .ok (.iconst 0, 1) := by decide +kernel
theorem dX12_answerComes_124 : decode cX12_answerComes 124 = .ok (.istore 6, 2) := by decide +kernel
theorem dX12_answerComes_126 : decode cX12_answerComes 126 = .ok (.iload 6, 2) := by decide +kernel
theorem dX12_answerComes_128 : decode cX12_answerComes 128 = .ok (.aload_n 0, 1) := by decide +kernel
theorem dX12_answerComes_129 : decode cX12_answerComes 129 = .ok (.getfield 83, 3) := by decide +kernel
theorem dX12_answerComes_132 : decode cX12_answerComes 132 = .ok (.if_icmp .ge 35, 3) := by decide +kernel
theorem dX12_answerComes_135 : decode cX12_answerComes 135 = .ok (.aload_n 0, 1) := by decide +kernel
theorem dX12_answerComes_136 : decode cX12_answerComes 136 = .ok (.getfield 58, 3) := by decide +kernel
theorem dX12_answerComes_139 : decode cX12_answerComes 139 = .ok (.iconst 4, 1) := by decide +kernel
theorem dX12_answerComes_140 : decode cX12_answerComes 140 = .ok (.iload 5, 2) := by decide +kernel
theorem dX12_answerComes_142 : decode cX12_answerComes 142 = .ok (.imul, 1) := by decide +kernel
theorem dX12_answerComes_143 : decode cX12_answerComes 143 = .ok (.iload 6, 2) := by decide +kernel
theorem dX12_answerComes_145 : decode cX12_answerComes 145 = .ok (.iadd, 1) := by decide +kernel
theorem dX12_answerComes_146 : decode cX12_answerComes 146 = .ok (.aload_n 0, 1) := by decide +kernel
theorem dX12_answerComes_147 : decode cX12_answerComes 147 = .ok (.getfield 58, 3) := by decide +kernel
theorem dX12_answerComes_150 : decode cX12_answerComes 150 = .ok (.iconst 4, 1) := by decide +kernel
theorem dX12_answerComes_151 : decode cX12_answerComes 151 = .ok (.iload 5, 2) := by decide +kernel
theorem dX12_answerComes_153 : decode cX12_answerComes 153 = .ok (.iconst 1, 1) := by decide +kernel
theorem dX12_answerComes_154 : decode cX12_answerComes 154 = .ok (.isub, 1) := by decide +kernel
theorem dX12_answerComes_155 : decode cX12_answerComes 155 = .ok (.imul, 1) := by decide +kernel
theorem dX12_answerComes_156 : decode cX12_answerComes 156 = .ok (.iload 6, 2) := by decide +kernel
theorem dX12_answerComes_158 : decode cX12_answerComes 158 = .ok (.iadd, 1) := by decide +kernel
theorem dX12_answerComes_159 : decode cX12_answerComes 159 = .ok (.iaload, 1) := by decide +kernel
theorem dX12_answerComes_160 : decode cX12_answerComes 160 = .ok (.iastore, 1) := by decide +kernel
theorem dX12_answerComes_161 : decode cX12_answerComes 161 = .ok (.iinc 6 1, 3) := by decide +kernel
theorem dX12_answerComes_164 : decode cX12_answerComes 164 = .ok (.goto (-38), 3) := by decide +kernel
theorem dX12_answerComes_167 : decode cX12_answerComes 167 = .ok (.iinc 5 (-1), 3) := by decide +kernel
theorem dX12_answerComes_170 : decode cX12_answerComes 170 = .ok (.goto (-142), 3) := by decide +kernel
theorem dX12_answerComes_173 : decode cX12_answerComes 173 = .ok (.aload_n 0, 1) := by decide +kernel
theorem dX12_answerComes_174 : decode cX12_answerComes 174 = .ok (.getfield 52, 3) := by decide +kernel
theorem dX12_answerComes_177 : decode cX12_answerComes 177 = .ok (.iload 5, 2) := by decide +kernel
theorem dX12_answerComes_179 : decode cX12_answerComes 179 = .ok (.lload_n 1, 1) := by decide +kernel
theorem dX12_answerComes_180 : decode cX12_answerComes 180 = .ok (.lastore, 1) := by decide +kernel
theorem dX12_answerComes_181 : decode cX12_answerComes 181 = .ok (.aload_n 0, 1) := by decide +kernel
theorem dX12_answerComes_182 : decode cX12_answerComes 182 = .ok (.getfield 55, 3) := by decide +kernel
theorem dX12_answerComes_185 : decode cX12_answerComes 185 = .ok (.iload 5, 2) := by decide +kernel
theorem dX12_answerComes_187 : decode cX12_answerComes 187 = .ok (.lload_n 3, 1) := by decide +kernel
theorem dX12_answerComes_188 : decode cX12_answerComes 188 = .ok (.lastore, 1) := by decide +kernel
theorem dX12_answerComes_189 : decode cX12_answerComes 189 = .ok (.aload_n 0, 1) := by decide +kernel
theorem dX12_answerComes_190 : decode cX12_answerComes 190 = .ok (.getfield 61, 3) := by decide +kernel
theorem dX12_answerComes_193 : decode cX12_answerComes 193 = .ok (.iload 5, 2) := by decide +kernel
theorem dX12_answerComes_195 : decode cX12_answerComes 195 = .ok (.aload_n 0, 1) := by decide +kernel
theorem dX12_answerComes_196 : decode cX12_answerComes 196 = .ok (.getfield 109, 3) := by decide +kernel
theorem dX12_answerComes_199 : decode cX12_answerComes 199 = .ok (.iastore, 1) := by decide +kernel
theorem dX12_answerComes_200 : decode cX12_answerComes 200 = .ok (.iconst 0, 1) := by decide +kernel
theorem dX12_answerComes_201 : decode cX12_answerComes 201 = .ok (.istore 6, 2) := by decide +kernel
theorem dX12_answerComes_203 : decode cX12_answerComes 203 = .ok (.iload 6, 2) := by decide +kernel
theorem dX12_answerComes_205 : decode cX12_answerComes 205 = .ok (.aload_n 0, 1) := by decide +kernel
theorem dX12_answerComes_206 : decode cX12_answerComes 206 = .ok (.getfield 83, 3) := by decide +kernel
theorem dX12_answerComes_209 : decode cX12_answerComes 209 = .ok (.if_icmp .ge 28, 3) := by decide +kernel
theorem dX12_answerComes_212 : decode cX12_answerComes 212 = .ok (.aload_n 0, 1) := by decide +kernel
theorem dX12_answerComes_213 : decode cX12_answerComes 213 = .ok (.getfield 58, 3) := by decide +kernel
theorem dX12_answerComes_216 : decode cX12_answerComes 216 = .ok (.iconst 4, 1) := by decide +kernel
theorem dX12_answerComes_217 : decode cX12_answerComes 217 = .ok (.iload 5, 2) := by decide +kernel
theorem dX12_answerComes_219 : decode cX12_answerComes 219 = .ok (.imul, 1) := by decide +kernel
theorem dX12_answerComes_220 : decode cX12_answerComes 220 = .ok (.iload 6, 2) := by decide +kernel
theorem dX12_answerComes_222 : decode cX12_answerComes 222 = .ok (.iadd, 1) := by decide +kernel
theorem dX12_answerComes_223 : decode cX12_answerComes 223 = .ok (.aload_n 0, 1) := by decide +kernel
theorem dX12_answerComes_224 : decode cX12_answerComes 224 = .ok (.getfield 37, 3) := by decide +kernel
theorem dX12_answerComes_227 : decode cX12_answerComes 227 = .ok (.iload 6, 2) := by decide +kernel
theorem dX12_answerComes_229 : decode cX12_answerComes 229 = .ok (.iaload, 1) := by decide +kernel
theorem dX12_answerComes_230 : decode cX12_answerComes 230 = .ok (.iastore, 1) := by decide +kernel
theorem dX12_answerComes_231 : decode cX12_answerComes 231 = .ok (.iinc 6 1, 3) := by decide +kernel
theorem dX12_answerComes_234 : decode cX12_answerComes 234 = .ok (.goto (-31), 3) := by decide +kernel
theorem dX12_answerComes_237 : decode cX12_answerComes 237 = .ok (.aload_n 0, 1) := by decide +kernel
theorem dX12_answerComes_238 : decode cX12_answerComes 238 = .ok (.dup, 1) := by decide +kernel
theorem dX12_answerComes_239 : decode cX12_answerComes 239 = .ok (.getfield 167, 3) := by decide +kernel
theorem dX12_answerComes_242 : decode cX12_answerComes 242 = .ok (.iconst 1, 1) := by decide +kernel
theorem dX12_answerComes_243 : decode cX12_answerComes 243 = .ok (.iadd, 1) := by decide +kernel
theorem dX12_answerComes_244 : decode cX12_answerComes 244 = .ok (.putfield 167, 3) := by decide +kernel
theorem dX12_answerComes_247 : decode cX12_answerComes 247 = .ok (.return_, 1) := by decide +kernel
theorem dX12_layAnswers_0 : decode cX12_layAnswers 0 = .ok (.aload_n 0, 1) := by decide +kernel
theorem dX12_layAnswers_1 : decode cX12_layAnswers 1 = .ok (.iconst 0, 1) := by decide +kernel
theorem dX12_layAnswers_2 : decode cX12_layAnswers 2 = .ok (.putfield 167, 3) := by decide +kernel
theorem dX12_layAnswers_5 : decode cX12_layAnswers 5 = .ok (.aload_n 0, 1) := by decide +kernel
theorem dX12_layAnswers_6 : decode cX12_layAnswers 6 = .ok (.invokevirtual 170, 3) := by decide +kernel
theorem dX12_layAnswers_9 : decode cX12_layAnswers 9 = .ok (.iconst 1, 1) := by decide +kernel
theorem dX12_layAnswers_10 : decode cX12_layAnswers 10 = .ok (.istore_n 1, 1) := by decide +kernel
theorem dX12_layAnswers_11 : decode cX12_layAnswers 11 = .ok (.iload_n 1, 1) := by decide +kernel
theorem dX12_layAnswers_12 : decode cX12_layAnswers 12 = .ok (.ifCond .eq 22, 3) := by decide +kernel
theorem dX12_layAnswers_15 : decode cX12_layAnswers 15 = .ok (.aload_n 0, 1) := by decide +kernel
theorem dX12_layAnswers_16 : decode cX12_layAnswers 16 = .ok (.invokevirtual 173, 3) := by decide +kernel
theorem dX12_layAnswers_19 : decode cX12_layAnswers 19 = .ok (.ifCond .eq 7, 3) := by decide +kernel
theorem dX12_layAnswers_22 : decode cX12_layAnswers 22 = .ok (.aload_n 0, 1) := by decide +kernel
theorem dX12_layAnswers_23 : decode cX12_layAnswers 23 = .ok (.invokevirtual 176, 3) := by decide +kernel
theorem dX12_layAnswers_26 : decode cX12_layAnswers 26 = .ok (.aload_n 0, 1) := by decide +kernel
theorem dX12_layAnswers_27 : decode cX12_layAnswers 27 = .ok (.invokevirtual 179, 3) := by decide +kernel
theorem dX12_layAnswers_30 : decode cX12_layAnswers 30 = .ok (.istore_n 1, 1) := by decide +kernel
theorem dX12_layAnswers_31 : decode cX12_layAnswers 31 = .ok (.goto (-20), 3) := by decide +kernel
theorem dX12_layAnswers_34 : decode cX12_layAnswers 34 = .ok (.return_, 1) := by decide +kernel
theorem dX12_answerBy_0 : decode cX12_answerBy 0 = .ok (.iconst 0, 1) := by decide +kernel
theorem dX12_answerBy_1 : decode cX12_answerBy 1 = .ok (.istore 5, 2) := by decide +kernel
theorem dX12_answerBy_3 : decode cX12_answerBy 3 = .ok (.iload 5, 2) := by decide +kernel
theorem dX12_answerBy_5 : decode cX12_answerBy 5 = .ok (.aload_n 0, 1) := by decide +kernel
theorem dX12_answerBy_6 : decode cX12_answerBy 6 = .ok (.getfield 167, 3) := by decide +kernel
theorem dX12_answerBy_9 : decode cX12_answerBy 9 = .ok (.if_icmp .ge 36, 3) := by decide +kernel
theorem dX12_answerBy_12 : decode cX12_answerBy 12 = .ok (.aload_n 0, 1) := by decide +kernel
theorem dX12_answerBy_13 : decode cX12_answerBy 13 = .ok (.getfield 52, 3) := by decide +kernel
theorem dX12_answerBy_16 : decode cX12_answerBy 16 = .ok (.iload 5, 2) := by decide +kernel
theorem dX12_answerBy_18 : decode cX12_answerBy 18 = .ok (.laload, 1) := by decide +kernel
theorem dX12_answerBy_19 : decode cX12_answerBy 19 = .ok (.lload_n 1, 1) := by decide +kernel
theorem dX12_answerBy_20 : decode cX12_answerBy 20 = .ok (.lcmp, 1) := by decide +kernel
theorem dX12_answerBy_21 : decode cX12_answerBy 21 = .ok (.ifCond .ne 18, 3) := by decide +kernel
theorem dX12_answerBy_24 : decode cX12_answerBy 24 = .ok (.aload_n 0, 1) := by decide +kernel
theorem dX12_answerBy_25 : decode cX12_answerBy 25 = .ok (.getfield 55, 3) := by decide +kernel
theorem dX12_answerBy_28 : decode cX12_answerBy 28 = .ok (.iload 5, 2) := by decide +kernel
theorem dX12_answerBy_30 : decode cX12_answerBy 30 = .ok (.laload, 1) := by decide +kernel
theorem dX12_answerBy_31 : decode cX12_answerBy 31 = .ok (.lload_n 3, 1) := by decide +kernel
theorem dX12_answerBy_32 : decode cX12_answerBy 32 = .ok (.lcmp, 1) := by decide +kernel
theorem dX12_answerBy_33 : decode cX12_answerBy 33 = .ok (.ifCond .ne 6, 3) := by decide +kernel
theorem dX12_answerBy_36 : decode cX12_answerBy 36 = .ok (.iload 5, 2) := by decide +kernel
theorem dX12_answerBy_38 : decode cX12_answerBy 38 = .ok (.ireturn, 1) := by decide +kernel
theorem dX12_answerBy_39 : decode cX12_answerBy 39 = .ok (.iinc 5 1, 3) := by decide +kernel
theorem dX12_answerBy_42 : decode cX12_answerBy 42 = .ok (.goto (-39), 3) := by decide +kernel
theorem dX12_answerBy_45 : decode cX12_answerBy 45 = .ok (.bipush (-5), 2) := by decide +kernel
theorem dX12_answerBy_47 : decode cX12_answerBy 47 = .ok (.ireturn, 1) := by decide +kernel
theorem dX12_looksAnswer_0 : decode cX12_looksAnswer 0 = .ok (.iconst 0, 1) := by decide +kernel
theorem dX12_looksAnswer_1 : decode cX12_looksAnswer 1 = .ok (.istore_n 2, 1) := by decide +kernel
theorem dX12_looksAnswer_2 : decode cX12_looksAnswer 2 = .ok (.iload_n 2, 1) := by decide +kernel
theorem dX12_looksAnswer_3 : decode cX12_looksAnswer 3 = .ok (.aload_n 0, 1) := by decide +kernel
theorem dX12_looksAnswer_4 : decode cX12_looksAnswer 4 = .ok (.getfield 83, 3) := by decide +kernel
theorem dX12_looksAnswer_7 : decode cX12_looksAnswer 7 = .ok (.if_icmp .ge 25, 3) := by decide +kernel
theorem dX12_looksAnswer_10 : decode cX12_looksAnswer 10 = .ok (.aload_n 0, 1) := by decide +kernel
theorem dX12_looksAnswer_11 : decode cX12_looksAnswer 11 = .ok (.getfield 37, 3) := by decide +kernel
theorem dX12_looksAnswer_14 : decode cX12_looksAnswer 14 = .ok (.iload_n 2, 1) := by decide +kernel
theorem dX12_looksAnswer_15 : decode cX12_looksAnswer 15 = .ok (.aload_n 0, 1) := by decide +kernel
theorem dX12_looksAnswer_16 : decode cX12_looksAnswer 16 = .ok (.getfield 58, 3) := by decide +kernel
theorem dX12_looksAnswer_19 : decode cX12_looksAnswer 19 = .ok (.iconst 4, 1) := by decide +kernel
theorem dX12_looksAnswer_20 : decode cX12_looksAnswer 20 = .ok (.iload_n 1, 1) := by decide +kernel
theorem dX12_looksAnswer_21 : decode cX12_looksAnswer 21 = .ok (.imul, 1) := by decide +kernel
theorem dX12_looksAnswer_22 : decode cX12_looksAnswer 22 = .ok (.iload_n 2, 1) := by decide +kernel
theorem dX12_looksAnswer_23 : decode cX12_looksAnswer 23 = .ok (.iadd, 1) := by decide +kernel
theorem dX12_looksAnswer_24 : decode cX12_looksAnswer 24 = .ok (.iaload, 1) := by decide +kernel
theorem dX12_looksAnswer_25 : decode cX12_looksAnswer 25 = .ok (.iastore, 1) := by decide +kernel
theorem dX12_looksAnswer_26 : decode cX12_looksAnswer 26 = .ok (.iinc 2 1, 3) := by decide +kernel
theorem dX12_looksAnswer_29 : decode cX12_looksAnswer 29 = .ok (.goto (-27), 3) := by decide +kernel
theorem dX12_looksAnswer_32 : decode cX12_looksAnswer 32 = .ok (.aload_n 0, 1) := by decide +kernel
theorem dX12_looksAnswer_33 : decode cX12_looksAnswer 33 = .ok (.aload_n 0, 1) := by decide +kernel
theorem dX12_looksAnswer_34 : decode cX12_looksAnswer 34 = .ok (.getfield 61, 3) := by decide +kernel
theorem dX12_looksAnswer_37 : decode cX12_looksAnswer 37 = .ok (.iload_n 1, 1) := by decide +kernel
theorem dX12_looksAnswer_38 : decode cX12_looksAnswer 38 = .ok (.iaload, 1) := by decide +kernel
theorem dX12_looksAnswer_39 : decode cX12_looksAnswer 39 = .ok (.putfield 109, 3) := by decide +kernel
theorem dX12_looksAnswer_42 : decode cX12_looksAnswer 42 = .ok (.return_, 1) := by decide +kernel
theorem dX12_layGroups_0 : decode cX12_layGroups 0 = .ok (.aload_n 0, 1) := by decide +kernel
theorem dX12_layGroups_1 : decode cX12_layGroups 1 = .ok (.invokevirtual 182, 3) := by decide +kernel
theorem dX12_layGroups_4 : decode cX12_layGroups 4 = .ok (.iconst 0, 1) := by decide +kernel
theorem dX12_layGroups_5 : decode cX12_layGroups 5 = .ok (.istore_n 1, 1) := by decide +kernel
theorem dX12_layGroups_6 : decode cX12_layGroups 6 = .ok (.iload_n 1, 1) := by decide +kernel
theorem dX12_layGroups_7 : decode cX12_layGroups 7 = .ok (.aload_n 0, 1) := by decide +kernel
theorem dX12_layGroups_8 : decode cX12_layGroups 8 = .ok (.getfield 167, 3) := by decide +kernel
theorem dX12_layGroups_11 : decode cX12_layGroups 11 = .ok (.if_icmp .ge 105, 3) := by decide +kernel
theorem dX12_layGroups_14 : decode cX12_layGroups 14 = .ok (.aload_n 0, 1) := by decide +kernel
theorem dX12_layGroups_15 : decode cX12_layGroups 15 = .ok (.iload_n 1, 1) := by decide +kernel
theorem dX12_layGroups_16 : decode cX12_layGroups 16 = .ok (.invokevirtual 185, 3) := by decide +kernel
theorem dX12_layGroups_19 : decode cX12_layGroups 19 = .ok (.aload_n 0, 1) := by decide +kernel
theorem dX12_layGroups_20 : decode cX12_layGroups 20 = .ok (.invokevirtual 160, 3) := by decide +kernel
theorem dX12_layGroups_23 : decode cX12_layGroups 23 = .ok (.istore_n 2, 1) := by decide +kernel
theorem dX12_layGroups_24 : decode cX12_layGroups 24 = .ok (.aload_n 0, 1) := by decide +kernel
theorem dX12_layGroups_25 : decode cX12_layGroups 25 = .ok (.getfield 64, 3) := by decide +kernel
theorem dX12_layGroups_28 : decode cX12_layGroups 28 = .ok (.iload_n 1, 1) := by decide +kernel
theorem dX12_layGroups_29 : decode cX12_layGroups 29 = .ok (.iload_n 1, 1) := by decide +kernel
theorem dX12_layGroups_30 : decode cX12_layGroups 30 = .ok (.iastore, 1) := by decide +kernel
theorem dX12_layGroups_31 : decode cX12_layGroups 31 = .ok (.iconst 0, 1) := by decide +kernel
theorem dX12_layGroups_32 : decode cX12_layGroups 32 = .ok (.istore_n 3, 1) := by decide +kernel
theorem dX12_layGroups_33 : decode cX12_layGroups 33 = .ok (.iload_n 3, 1) := by decide +kernel
theorem dX12_layGroups_34 : decode cX12_layGroups 34 = .ok (.bipush 6, 2) := by decide +kernel
theorem dX12_layGroups_36 : decode cX12_layGroups 36 = .ok (.if_icmp .ge 74, 3) := by decide +kernel
theorem dX12_layGroups_39 : decode cX12_layGroups 39 = .ok (.aload_n 0, 1) := by decide +kernel
theorem dX12_layGroups_40 : decode cX12_layGroups 40 = .ok (.iload_n 3, 1) := by decide +kernel
theorem dX12_layGroups_41 : decode cX12_layGroups 41 = .ok (.invokevirtual 164, 3) := by decide +kernel
theorem dX12_layGroups_44 : decode cX12_layGroups 44 = .ok (.ifCond .eq 60, 3) := by decide +kernel
theorem dX12_layGroups_47 : decode cX12_layGroups 47 = .ok (.aload_n 0, 1) := by decide +kernel
theorem dX12_layGroups_48 : decode cX12_layGroups 48 = .ok (.aload_n 0, 1) := by decide +kernel
theorem dX12_layGroups_49 : decode cX12_layGroups 49 = .ok (.aload_n 0, 1) := by decide +kernel
theorem dX12_layGroups_50 : decode cX12_layGroups 50 = .ok (.getfield 43, 3) := by decide +kernel
theorem dX12_layGroups_53 : decode cX12_layGroups 53 = .ok (.aload_n 0, 1) := by decide +kernel
theorem dX12_layGroups_54 : decode cX12_layGroups 54 = .ok (.getfield 129, 3) := by decide +kernel
theorem dX12_layGroups_57 : decode cX12_layGroups 57 = .ok (.invokevirtual 116, 3) := by decide +kernel
theorem dX12_layGroups_60 : decode cX12_layGroups 60 = .ok (.aload_n 0, 1) := by decide +kernel
theorem dX12_layGroups_61 : decode cX12_layGroups 61 = .ok (.aload_n 0, 1) := by decide +kernel
theorem dX12_layGroups_62 : decode cX12_layGroups 62 = .ok (.getfield 43, 3) := by decide +kernel
theorem dX12_layGroups_65 : decode cX12_layGroups 65 = .ok (.invokevirtual 112, 3) := by decide +kernel
theorem dX12_layGroups_68 : decode cX12_layGroups 68 = .ok (.invokevirtual 188, 3) := by decide +kernel
theorem dX12_layGroups_71 : decode cX12_layGroups 71 = .ok (.istore 4, 2) := by decide +kernel
theorem dX12_layGroups_73 : decode cX12_layGroups 73 = .ok (.aload_n 0, 1) := by decide +kernel
theorem dX12_layGroups_74 : decode cX12_layGroups 74 = .ok (.getfield 64, 3) := by decide +kernel
theorem dX12_layGroups_77 : decode cX12_layGroups 77 = .ok (.iload_n 1, 1) := by decide +kernel
theorem dX12_layGroups_78 : decode cX12_layGroups 78 = .ok (.iload 4, 2) := by decide +kernel
theorem dX12_layGroups_80 : decode cX12_layGroups 80 = .ok (.ifCond .lt 17, 3) := by decide +kernel
theorem dX12_layGroups_83 : decode cX12_layGroups 83 = .ok (.aload_n 0, 1) := by decide +kernel
theorem dX12_layGroups_84 : decode cX12_layGroups 84 = .ok (.getfield 64, 3) := by decide +kernel
theorem dX12_layGroups_87 : decode cX12_layGroups 87 = .ok (.iload_n 1, 1) := by decide +kernel
theorem dX12_layGroups_88 : decode cX12_layGroups 88 = .ok (.iaload, 1) := by decide +kernel
theorem dX12_layGroups_89 : decode cX12_layGroups 89 = .ok (.iload 4, 2) := by decide +kernel
theorem dX12_layGroups_91 : decode cX12_layGroups 91 = .ok (.invokestatic 123, 3) := by decide +kernel
theorem dX12_layGroups_94 : decode cX12_layGroups 94 = .ok (.goto 9, 3) := by decide +kernel
theorem dX12_layGroups_97 : decode cX12_layGroups 97 = .ok (.aload_n 0, 1) := by decide +kernel
theorem dX12_layGroups_98 : decode cX12_layGroups 98 = .ok (.getfield 64, 3) := by decide +kernel
theorem dX12_layGroups_101 : decode cX12_layGroups 101 = .ok (.iload_n 1, 1) := by decide +kernel
theorem dX12_layGroups_102 : decode cX12_layGroups 102 = .ok (.iaload, 1) := by decide +kernel
theorem dX12_layGroups_103 : decode cX12_layGroups 103 = .ok (.iastore, 1) := by decide +kernel
theorem dX12_layGroups_104 : decode cX12_layGroups 104 = .ok (.iinc 3 1, 3) := by decide +kernel
theorem dX12_layGroups_107 : decode cX12_layGroups 107 = .ok (.goto (-74), 3) := by decide +kernel
theorem dX12_layGroups_110 : decode cX12_layGroups 110 = .ok (.iinc 1 1, 3) := by decide +kernel
theorem dX12_layGroups_113 : decode cX12_layGroups 113 = .ok (.goto (-107), 3) := by decide +kernel
theorem dX12_layGroups_116 : decode cX12_layGroups 116 = .ok (.return_, 1) := by decide +kernel
theorem dX12_groupNumber_0 : decode cX12_groupNumber 0 = .ok (.iconst 0, 1) := by decide +kernel
theorem dX12_groupNumber_1 : decode cX12_groupNumber 1 = .ok (.istore_n 2, 1) := by decide +kernel
theorem dX12_groupNumber_2 : decode cX12_groupNumber 2 = .ok (.iconst 0, 1) := by decide +kernel
theorem dX12_groupNumber_3 : decode cX12_groupNumber 3 = .ok (.istore_n 3, 1) := by decide +kernel
theorem dX12_groupNumber_4 : decode cX12_groupNumber 4 = .ok (.iload_n 3, 1) := by decide +kernel
theorem dX12_groupNumber_5 : decode cX12_groupNumber 5 = .ok (.aload_n 0, 1) := by decide +kernel
theorem dX12_groupNumber_6 : decode cX12_groupNumber 6 = .ok (.getfield 64, 3) := by decide +kernel
theorem dX12_groupNumber_9 : decode cX12_groupNumber 9 = .ok (.iload_n 1, 1) := by decide +kernel
theorem dX12_groupNumber_10 : decode cX12_groupNumber 10 = .ok (.iaload, 1) := by decide +kernel
theorem dX12_groupNumber_11 : decode cX12_groupNumber 11 = .ok (.if_icmp .ge 27, 3) := by decide +kernel
theorem dX12_groupNumber_14 : decode cX12_groupNumber 14 = .ok (.iload_n 2, 1) := by decide +kernel
theorem dX12_groupNumber_15 : decode cX12_groupNumber 15 = .ok (.aload_n 0, 1) := by decide +kernel
theorem dX12_groupNumber_16 : decode cX12_groupNumber 16 = .ok (.getfield 64, 3) := by decide +kernel
theorem dX12_groupNumber_19 : decode cX12_groupNumber 19 = .ok (.iload_n 3, 1) := by decide +kernel
theorem dX12_groupNumber_20 : decode cX12_groupNumber 20 = .ok (.iaload, 1) := by decide +kernel
theorem dX12_groupNumber_21 : decode cX12_groupNumber 21 = .ok (.iload_n 3, 1) := by decide +kernel
theorem dX12_groupNumber_22 : decode cX12_groupNumber 22 = .ok (.if_icmp .ne 7, 3) := by decide +kernel
theorem dX12_groupNumber_25 : decode cX12_groupNumber 25 = .ok (.iconst 1, 1) := by decide +kernel
theorem dX12_groupNumber_26 : decode cX12_groupNumber 26 = .ok (.goto 4, 3) := by decide +kernel
theorem dX12_groupNumber_29 : decode cX12_groupNumber 29 = .ok (.iconst 0, 1) := by decide +kernel
theorem dX12_groupNumber_30 : decode cX12_groupNumber 30 = .ok (.iadd, 1) := by decide +kernel
theorem dX12_groupNumber_31 : decode cX12_groupNumber 31 = .ok (.istore_n 2, 1) := by decide +kernel
theorem dX12_groupNumber_32 : decode cX12_groupNumber 32 = .ok (.iinc 3 1, 3) := by decide +kernel
theorem dX12_groupNumber_35 : decode cX12_groupNumber 35 = .ok (.goto (-31), 3) := by decide +kernel
theorem dX12_groupNumber_38 : decode cX12_groupNumber 38 = .ok (.iload_n 2, 1) := by decide +kernel
theorem dX12_groupNumber_39 : decode cX12_groupNumber 39 = .ok (.ireturn, 1) := by decide +kernel
theorem dX12_answers_0 : decode cX12_answers 0 = .ok (.aload_n 0, 1) := by decide +kernel
theorem dX12_answers_1 : decode cX12_answers 1 = .ok (.invokevirtual 182, 3) := by decide +kernel
theorem dX12_answers_4 : decode cX12_answers 4 = .ok (.aload_n 0, 1) := by decide +kernel
theorem dX12_answers_5 : decode cX12_answers 5 = .ok (.getfield 167, 3) := by decide +kernel
theorem dX12_answers_8 : decode cX12_answers 8 = .ok (.ireturn, 1) := by decide +kernel
theorem dX12_answer_0 : decode cX12_answer 0 = .ok (.aload_n 0, 1) := by decide +kernel
theorem dX12_answer_1 : decode cX12_answer 1 = .ok (.invokevirtual 182, 3) := by decide +kernel
theorem dX12_answer_4 : decode cX12_answer 4 = .ok (.iload_n 1, 1) := by decide +kernel
theorem dX12_answer_5 : decode cX12_answer 5 = .ok (.iconst 0, 1) := by decide +kernel
theorem dX12_answer_6 : decode cX12_answer 6 = .ok (.aload_n 0, 1) := by decide +kernel
theorem dX12_answer_7 : decode cX12_answer 7 = .ok (.getfield 167, 3) := by decide +kernel
theorem dX12_answer_10 : decode cX12_answer 10 = .ok (.iconst 1, 1) := by decide +kernel
theorem dX12_answer_11 : decode cX12_answer 11 = .ok (.isub, 1) := by decide +kernel
theorem dX12_answer_12 : decode cX12_answer 12 = .ok (.invokestatic 87, 3) := by decide +kernel
theorem dX12_answer_15 : decode cX12_answer 15 = .ok (.ifCond .eq 12, 3) := by decide +kernel
theorem dX12_answer_18 : decode cX12_answer 18 = .ok (.iload_n 2, 1) := by decide +kernel
theorem dX12_answer_19 : decode cX12_answer 19 = .ok (.iconst 0, 1) := by decide +kernel
theorem dX12_answer_20 : decode cX12_answer 20 = .ok (.iconst 1, 1) := by decide +kernel
theorem dX12_answer_21 : decode cX12_answer 21 = .ok (.invokestatic 87, 3) := by decide +kernel
theorem dX12_answer_24 : decode cX12_answer 24 = .ok (.ifCond .ne 7, 3) := by decide +kernel
theorem dX12_answer_27 : decode cX12_answer 27 = .ok (.ldc2_w 135, 3) := by decide +kernel
theorem dX12_answer_30 : decode cX12_answer 30 = .ok (.lreturn, 1) := by decide +kernel
theorem dX12_answer_31 : decode cX12_answer 31 = .ok (.iload_n 2, 1) := by decide +kernel
theorem dX12_answer_32 : decode cX12_answer 32 = .ok (.ifCond .ne 12, 3) := by decide +kernel
theorem dX12_answer_35 : decode cX12_answer 35 = .ok (.aload_n 0, 1) := by decide +kernel
theorem dX12_answer_36 : decode cX12_answer 36 = .ok (.getfield 52, 3) := by decide +kernel
theorem dX12_answer_39 : decode cX12_answer 39 = .ok (.iload_n 1, 1) := by decide +kernel
theorem dX12_answer_40 : decode cX12_answer 40 = .ok (.laload, 1) := by decide +kernel
theorem dX12_answer_41 : decode cX12_answer 41 = .ok (.goto 9, 3) := by decide +kernel
theorem dX12_answer_44 : decode cX12_answer 44 = .ok (.aload_n 0, 1) := by decide +kernel
theorem dX12_answer_45 : decode cX12_answer 45 = .ok (.getfield 55, 3) := by decide +kernel
theorem dX12_answer_48 : decode cX12_answer 48 = .ok (.iload_n 1, 1) := by decide +kernel
theorem dX12_answer_49 : decode cX12_answer 49 = .ok (.laload, 1) := by decide +kernel
theorem dX12_answer_50 : decode cX12_answer 50 = .ok (.lreturn, 1) := by decide +kernel
theorem dX12_take_0 : decode cX12_take 0 = .ok (.aload_n 0, 1) := by decide +kernel
theorem dX12_take_1 : decode cX12_take 1 = .ok (.invokevirtual 182, 3) := by decide +kernel
theorem dX12_take_4 : decode cX12_take 4 = .ok (.iload_n 1, 1) := by decide +kernel
theorem dX12_take_5 : decode cX12_take 5 = .ok (.iconst 0, 1) := by decide +kernel
theorem dX12_take_6 : decode cX12_take 6 = .ok (.aload_n 0, 1) := by decide +kernel
theorem dX12_take_7 : decode cX12_take 7 = .ok (.getfield 167, 3) := by decide +kernel
theorem dX12_take_10 : decode cX12_take 10 = .ok (.iconst 1, 1) := by decide +kernel
theorem dX12_take_11 : decode cX12_take 11 = .ok (.isub, 1) := by decide +kernel
theorem dX12_take_12 : decode cX12_take 12 = .ok (.invokestatic 87, 3) := by decide +kernel
theorem dX12_take_15 : decode cX12_take 15 = .ok (.ifCond .eq 10, 3) := by decide +kernel
theorem dX12_take_18 : decode cX12_take 18 = .ok (.iload_n 2, 1) := by decide +kernel
theorem dX12_take_19 : decode cX12_take 19 = .ok (.invokestatic 132, 3) := by decide +kernel
theorem dX12_take_22 : decode cX12_take 22 = .ok (.ifCond .ne 5, 3) := by decide +kernel
theorem dX12_take_25 : decode cX12_take 25 = .ok (.iconst (-1), 1) := by decide +kernel
theorem dX12_take_26 : decode cX12_take 26 = .ok (.ireturn, 1) := by decide +kernel
theorem dX12_take_27 : decode cX12_take 27 = .ok (.aload_n 0, 1) := by decide +kernel
theorem dX12_take_28 : decode cX12_take 28 = .ok (.iload_n 1, 1) := by decide +kernel
theorem dX12_take_29 : decode cX12_take 29 = .ok (.invokevirtual 185, 3) := by decide +kernel
theorem dX12_take_32 : decode cX12_take 32 = .ok (.aload_n 0, 1) := by decide +kernel
theorem dX12_take_33 : decode cX12_take 33 = .ok (.iload_n 2, 1) := by decide +kernel
theorem dX12_take_34 : decode cX12_take 34 = .ok (.aload_n 0, 1) := by decide +kernel
theorem dX12_take_35 : decode cX12_take 35 = .ok (.getfield 37, 3) := by decide +kernel
theorem dX12_take_38 : decode cX12_take 38 = .ok (.aload_n 0, 1) := by decide +kernel
theorem dX12_take_39 : decode cX12_take 39 = .ok (.getfield 109, 3) := by decide +kernel
theorem dX12_take_42 : decode cX12_take 42 = .ok (.invokevirtual 152, 3) := by decide +kernel
theorem dX12_take_45 : decode cX12_take 45 = .ok (.iconst 1, 1) := by decide +kernel
theorem dX12_take_46 : decode cX12_take 46 = .ok (.ireturn, 1) := by decide +kernel
theorem dX12_which_0 : decode cX12_which 0 = .ok (.iload_n 1, 1) := by decide +kernel
theorem dX12_which_1 : decode cX12_which 1 = .ok (.invokestatic 132, 3) := by decide +kernel
theorem dX12_which_4 : decode cX12_which 4 = .ok (.ifCond .ne 5, 3) := by decide +kernel
theorem dX12_which_7 : decode cX12_which 7 = .ok (.iconst (-1), 1) := by decide +kernel
theorem dX12_which_8 : decode cX12_which 8 = .ok (.ireturn, 1) := by decide +kernel
theorem dX12_which_9 : decode cX12_which 9 = .ok (.aload_n 0, 1) := by decide +kernel
theorem dX12_which_10 : decode cX12_which 10 = .ok (.invokevirtual 182, 3) := by decide +kernel
theorem dX12_which_13 : decode cX12_which 13 = .ok (.aload_n 0, 1) := by decide +kernel
theorem dX12_which_14 : decode cX12_which 14 = .ok (.iload_n 1, 1) := by decide +kernel
theorem dX12_which_15 : decode cX12_which 15 = .ok (.invokevirtual 137, 3) := by decide +kernel
theorem dX12_which_18 : decode cX12_which 18 = .ok (.aload_n 0, 1) := by decide +kernel
theorem dX12_which_19 : decode cX12_which 19 = .ok (.aload_n 0, 1) := by decide +kernel
theorem dX12_which_20 : decode cX12_which 20 = .ok (.aload_n 0, 1) := by decide +kernel
theorem dX12_which_21 : decode cX12_which 21 = .ok (.getfield 37, 3) := by decide +kernel
theorem dX12_which_24 : decode cX12_which 24 = .ok (.aload_n 0, 1) := by decide +kernel
theorem dX12_which_25 : decode cX12_which 25 = .ok (.getfield 109, 3) := by decide +kernel
theorem dX12_which_28 : decode cX12_which 28 = .ok (.invokevirtual 116, 3) := by decide +kernel
theorem dX12_which_31 : decode cX12_which 31 = .ok (.aload_n 0, 1) := by decide +kernel
theorem dX12_which_32 : decode cX12_which 32 = .ok (.aload_n 0, 1) := by decide +kernel
theorem dX12_which_33 : decode cX12_which 33 = .ok (.getfield 37, 3) := by decide +kernel
theorem dX12_which_36 : decode cX12_which 36 = .ok (.invokevirtual 112, 3) := by decide +kernel
theorem dX12_which_39 : decode cX12_which 39 = .ok (.invokevirtual 188, 3) := by decide +kernel
theorem dX12_which_42 : decode cX12_which 42 = .ok (.ireturn, 1) := by decide +kernel
theorem dX12_groups_0 : decode cX12_groups 0 = .ok (.aload_n 0, 1) := by decide +kernel
theorem dX12_groups_1 : decode cX12_groups 1 = .ok (.invokevirtual 192, 3) := by decide +kernel
theorem dX12_groups_4 : decode cX12_groups 4 = .ok (.iconst 0, 1) := by decide +kernel
theorem dX12_groups_5 : decode cX12_groups 5 = .ok (.istore_n 1, 1) := by decide +kernel
theorem dX12_groups_6 : decode cX12_groups 6 = .ok (.iconst 0, 1) := by decide +kernel
theorem dX12_groups_7 : decode cX12_groups 7 = .ok (.istore_n 2, 1) := by decide +kernel
theorem dX12_groups_8 : decode cX12_groups 8 = .ok (.iload_n 2, 1) := by decide +kernel
theorem dX12_groups_9 : decode cX12_groups 9 = .ok (.aload_n 0, 1) := by decide +kernel
theorem dX12_groups_10 : decode cX12_groups 10 = .ok (.getfield 167, 3) := by decide +kernel
theorem dX12_groups_13 : decode cX12_groups 13 = .ok (.if_icmp .ge 27, 3) := by decide +kernel
theorem dX12_groups_16 : decode cX12_groups 16 = .ok (.iload_n 1, 1) := by decide +kernel
theorem dX12_groups_17 : decode cX12_groups 17 = .ok (.aload_n 0, 1) := by decide +kernel
theorem dX12_groups_18 : decode cX12_groups 18 = .ok (.getfield 64, 3) := by decide +kernel
theorem dX12_groups_21 : decode cX12_groups 21 = .ok (.iload_n 2, 1) := by decide +kernel
theorem dX12_groups_22 : decode cX12_groups 22 = .ok (.iaload, 1) := by decide +kernel
theorem dX12_groups_23 : decode cX12_groups 23 = .ok (.iload_n 2, 1) := by decide +kernel
theorem dX12_groups_24 : decode cX12_groups 24 = .ok (.if_icmp .ne 7, 3) := by decide +kernel
theorem dX12_groups_27 : decode cX12_groups 27 = .ok (.iconst 1, 1) := by decide +kernel
theorem dX12_groups_28 : decode cX12_groups 28 = .ok (.goto 4, 3) := by decide +kernel
theorem dX12_groups_31 : decode cX12_groups 31 = .ok (.iconst 0, 1) := by decide +kernel
theorem dX12_groups_32 : decode cX12_groups 32 = .ok (.iadd, 1) := by decide +kernel
theorem dX12_groups_33 : decode cX12_groups 33 = .ok (.istore_n 1, 1) := by decide +kernel
theorem dX12_groups_34 : decode cX12_groups 34 = .ok (.iinc 2 1, 3) := by decide +kernel
theorem dX12_groups_37 : decode cX12_groups 37 = .ok (.goto (-29), 3) := by decide +kernel
theorem dX12_groups_40 : decode cX12_groups 40 = .ok (.iload_n 1, 1) := by decide +kernel
theorem dX12_groups_41 : decode cX12_groups 41 = .ok (.ireturn, 1) := by decide +kernel
theorem dX12_groupOf_0 : decode cX12_groupOf 0 = .ok (.aload_n 0, 1) := by decide +kernel
theorem dX12_groupOf_1 : decode cX12_groupOf 1 = .ok (.invokevirtual 192, 3) := by decide +kernel
theorem dX12_groupOf_4 : decode cX12_groupOf 4 = .ok (.iload_n 1, 1) := by decide +kernel
theorem dX12_groupOf_5 : decode cX12_groupOf 5 = .ok (.iconst 0, 1) := by decide +kernel
theorem dX12_groupOf_6 : decode cX12_groupOf 6 = .ok (.aload_n 0, 1) := by decide +kernel
theorem dX12_groupOf_7 : decode cX12_groupOf 7 = .ok (.getfield 167, 3) := by decide +kernel
theorem dX12_groupOf_10 : decode cX12_groupOf 10 = .ok (.iconst 1, 1) := by decide +kernel
theorem dX12_groupOf_11 : decode cX12_groupOf 11 = .ok (.isub, 1) := by decide +kernel
theorem dX12_groupOf_12 : decode cX12_groupOf 12 = .ok (.invokestatic 87, 3) := by decide +kernel
theorem dX12_groupOf_15 : decode cX12_groupOf 15 = .ok (.ifCond .eq 11, 3) := by decide +kernel
theorem dX12_groupOf_18 : decode cX12_groupOf 18 = .ok (.aload_n 0, 1) := by decide +kernel
theorem dX12_groupOf_19 : decode cX12_groupOf 19 = .ok (.iload_n 1, 1) := by decide +kernel
theorem dX12_groupOf_20 : decode cX12_groupOf 20 = .ok (.invokevirtual 195, 3) := by decide +kernel
theorem dX12_groupOf_23 : decode cX12_groupOf 23 = .ok (.goto 4, 3) := by decide +kernel
theorem dX12_groupOf_26 : decode cX12_groupOf 26 = .ok (.iconst (-1), 1) := by decide +kernel
theorem dX12_groupOf_27 : decode cX12_groupOf 27 = .ok (.ireturn, 1) := by decide +kernel
theorem dX12_group_0 : decode cX12_group 0 = .ok (.aload_n 0, 1) := by decide +kernel
theorem dX12_group_1 : decode cX12_group 1 = .ok (.invokevirtual 192, 3) := by decide +kernel
theorem dX12_group_4 : decode cX12_group 4 = .ok (.iload_n 2, 1) := by decide +kernel
theorem dX12_group_5 : decode cX12_group 5 = .ok (.iconst 0, 1) := by decide +kernel
theorem dX12_group_6 : decode cX12_group 6 = .ok (.iconst 2, 1) := by decide +kernel
theorem dX12_group_7 : decode cX12_group 7 = .ok (.invokestatic 87, 3) := by decide +kernel
theorem dX12_group_10 : decode cX12_group 10 = .ok (.ifCond .ne 5, 3) := by decide +kernel
theorem dX12_group_13 : decode cX12_group 13 = .ok (.iconst (-1), 1) := by decide +kernel
theorem dX12_group_14 : decode cX12_group 14 = .ok (.ireturn, 1) := by decide +kernel
theorem dX12_group_15 : decode cX12_group 15 = .ok (.iconst 0, 1) := by decide +kernel
theorem dX12_group_16 : decode cX12_group 16 = .ok (.istore_n 3, 1) := by decide +kernel
theorem dX12_group_17 : decode cX12_group 17 = .ok (.iconst (-1), 1) := by decide +kernel
theorem dX12_group_18 : decode cX12_group 18 = .ok (.istore 4, 2) := by decide +kernel
theorem dX12_group_20 : decode cX12_group 20 = .ok (.iconst 0, 1) := by decide +kernel
theorem dX12_group_21 : decode cX12_group 21 = .ok (.istore 5, 2) := by decide +kernel
theorem dX12_group_23 : decode cX12_group 23 = .ok (.iconst 0, 1) := by decide +kernel
theorem dX12_group_24 : decode cX12_group 24 = .ok (.istore 6, 2) := by decide +kernel
theorem dX12_group_26 : decode cX12_group 26 = .ok (.iload 6, 2) := by decide +kernel
theorem dX12_group_28 : decode cX12_group 28 = .ok (.aload_n 0, 1) := by decide +kernel
theorem dX12_group_29 : decode cX12_group 29 = .ok (.getfield 167, 3) := by decide +kernel
theorem dX12_group_32 : decode cX12_group 32 = .ok (.if_icmp .ge 60, 3) := by decide +kernel
theorem dX12_group_35 : decode cX12_group 35 = .ok (.aload_n 0, 1) := by decide +kernel
theorem dX12_group_36 : decode cX12_group 36 = .ok (.iload 6, 2) := by decide +kernel
theorem dX12_group_38 : decode cX12_group 38 = .ok (.invokevirtual 195, 3) := by decide +kernel
theorem dX12_group_41 : decode cX12_group 41 = .ok (.iload_n 1, 1) := by decide +kernel
theorem dX12_group_42 : decode cX12_group 42 = .ok (.if_icmp .eq 6, 3) := by decide +kernel
theorem dX12_group_45 : decode cX12_group 45 = .ok (.goto 41, 3) := by decide +kernel
theorem dX12_group_48 : decode cX12_group 48 = .ok (.iinc 3 1, 3) := by decide +kernel
theorem dX12_group_51 : decode cX12_group 51 = .ok (.iload 4, 2) := by decide +kernel
theorem dX12_group_53 : decode cX12_group 53 = .ok (.ifCond .ge 8, 3) := by decide +kernel
theorem dX12_group_56 : decode cX12_group 56 = .ok (.iload 6, 2) := by decide +kernel
theorem dX12_group_58 : decode cX12_group 58 = .ok (.goto 5, 3) := by decide +kernel
theorem dX12_group_61 : decode cX12_group 61 = .ok (.iload 4, 2) := by decide +kernel
theorem dX12_group_63 : decode cX12_group 63 = .ok (.istore 4, 2) := by decide +kernel
theorem dX12_group_65 : decode cX12_group 65 = .ok (.aload_n 0, 1) := by decide +kernel
theorem dX12_group_66 : decode cX12_group 66 = .ok (.iload 6, 2) := by decide +kernel
theorem dX12_group_68 : decode cX12_group 68 = .ok (.invokevirtual 185, 3) := by decide +kernel
theorem dX12_group_71 : decode cX12_group 71 = .ok (.iload 5, 2) := by decide +kernel
theorem dX12_group_73 : decode cX12_group 73 = .ok (.aload_n 0, 1) := by decide +kernel
theorem dX12_group_74 : decode cX12_group 74 = .ok (.aload_n 0, 1) := by decide +kernel
theorem dX12_group_75 : decode cX12_group 75 = .ok (.getfield 37, 3) := by decide +kernel
theorem dX12_group_78 : decode cX12_group 78 = .ok (.invokevirtual 144, 3) := by decide +kernel
theorem dX12_group_81 : decode cX12_group 81 = .ok (.invokestatic 141, 3) := by decide +kernel
theorem dX12_group_84 : decode cX12_group 84 = .ok (.istore 5, 2) := by decide +kernel
theorem dX12_group_86 : decode cX12_group 86 = .ok (.iinc 6 1, 3) := by decide +kernel
theorem dX12_group_89 : decode cX12_group 89 = .ok (.goto (-63), 3) := by decide +kernel
theorem dX12_group_92 : decode cX12_group 92 = .ok (.iload 4, 2) := by decide +kernel
theorem dX12_group_94 : decode cX12_group 94 = .ok (.ifCond .ge 7, 3) := by decide +kernel
theorem dX12_group_97 : decode cX12_group 97 = .ok (.iconst (-1), 1) := by decide +kernel
theorem dX12_group_98 : decode cX12_group 98 = .ok (.goto 23, 3) := by decide +kernel
theorem dX12_group_101 : decode cX12_group 101 = .ok (.iload_n 2, 1) := by decide +kernel
theorem dX12_group_102 : decode cX12_group 102 = .ok (.ifCond .ne 7, 3) := by decide +kernel
theorem dX12_group_105 : decode cX12_group 105 = .ok (.iload_n 3, 1) := by decide +kernel
theorem dX12_group_106 : decode cX12_group 106 = .ok (.goto 15, 3) := by decide +kernel
theorem dX12_group_109 : decode cX12_group 109 = .ok (.iload_n 2, 1) := by decide +kernel
theorem dX12_group_110 : decode cX12_group 110 = .ok (.iconst 1, 1) := by decide +kernel
theorem dX12_group_111 : decode cX12_group 111 = .ok (.if_icmp .ne 8, 3) := by decide +kernel
theorem dX12_group_114 : decode cX12_group 114 = .ok (.iload 4, 2) := by decide +kernel
theorem dX12_group_116 : decode cX12_group 116 = .ok (.goto 5, 3) := by decide +kernel
theorem dX12_group_119 : decode cX12_group 119 = .ok (.iload 5, 2) := by decide +kernel
theorem dX12_group_121 : decode cX12_group 121 = .ok (.ireturn, 1) := by decide +kernel
