theorem dX6_isFigure_0 : decode cX6_isFigure 0 = .ok (.iload_n 0, 1) := by decide +kernel
theorem dX6_isFigure_1 : decode cX6_isFigure 1 = .ok (.bipush 48, 2) := by decide +kernel
theorem dX6_isFigure_3 : decode cX6_isFigure 3 = .ok (.if_icmp .lt 13, 3) := by decide +kernel
theorem dX6_isFigure_6 : decode cX6_isFigure 6 = .ok (.iload_n 0, 1) := by decide +kernel
theorem dX6_isFigure_7 : decode cX6_isFigure 7 = .ok (.bipush 57, 2) := by decide +kernel
theorem dX6_isFigure_9 : decode cX6_isFigure 9 = .ok (.if_icmp .gt 7, 3) := by decide +kernel
theorem dX6_isFigure_12 : decode cX6_isFigure 12 = .ok (.iconst 1, 1) := by decide +kernel
theorem dX6_isFigure_13 : decode cX6_isFigure 13 = .ok (.goto 4, 3) := by decide +kernel
theorem dX6_isFigure_16 : decode cX6_isFigure 16 = .ok (.iconst 0, 1) := by decide +kernel
theorem dX6_isFigure_17 : decode cX6_isFigure 17 = .ok (.ireturn, 1) := by decide +kernel
theorem dX7_init_0 : decode cX7_init 0 = .ok (.aload_n 0, 1) := by decide +kernel
theorem dX7_init_1 : decode cX7_init 1 = .ok (.invokespecial 3, 3) := by decide +kernel
theorem dX7_init_4 : decode cX7_init 4 = .ok (.aload_n 0, 1) := by decide +kernel
theorem dX7_init_5 : decode cX7_init 5 = .ok (.iconst 4, 1) := by decide +kernel
theorem dX7_init_6 : decode cX7_init 6 = .ok (.newarray .int, 2) := by decide +kernel
theorem dX7_init_8 : decode cX7_init 8 = .ok (.putfield 9, 3) := by decide +kernel
theorem dX7_init_11 : decode cX7_init 11 = .ok (.return_, 1) := by decide +kernel
theorem dX7_ask_0 : decode cX7_ask 0 = .ok (.aload_n 0, 1) := by decide +kernel
theorem dX7_ask_1 : decode cX7_ask 1 = .ok (.iload_n 1, 1) := by decide +kernel
theorem dX7_ask_2 : decode cX7_ask 2 = .ok (.invokevirtual 15, 3) := by decide +kernel
theorem dX7_ask_5 : decode cX7_ask 5 = .ok (.pop, 1) := by decide +kernel
theorem dX7_ask_6 : decode cX7_ask 6 = .ok (.aload_n 0, 1) := by decide +kernel
theorem dX7_ask_7 : decode cX7_ask 7 = .ok (.getfield 19, 3) := by decide +kernel
theorem dX7_ask_10 : decode cX7_ask 10 = .ok (.iconst 4, 1) := by decide +kernel
theorem dX7_ask_11 : decode cX7_ask 11 = .ok (.if_icmp .lt 8, 3) := by decide +kernel
theorem dX7_ask_14 : decode cX7_ask 14 = .ok (.aload_n 0, 1) := by decide +kernel
theorem dX7_ask_15 : decode cX7_ask 15 = .ok (.iconst 0, 1) := by decide +kernel
theorem dX7_ask_16 : decode cX7_ask 16 = .ok (.invokevirtual 23, 3) := by decide +kernel
theorem dX7_ask_19 : decode cX7_ask 19 = .ok (.aload_n 0, 1) := by decide +kernel
theorem dX7_ask_20 : decode cX7_ask 20 = .ok (.getfield 9, 3) := by decide +kernel
theorem dX7_ask_23 : decode cX7_ask 23 = .ok (.aload_n 0, 1) := by decide +kernel
theorem dX7_ask_24 : decode cX7_ask 24 = .ok (.getfield 19, 3) := by decide +kernel
theorem dX7_ask_27 : decode cX7_ask 27 = .ok (.iload_n 1, 1) := by decide +kernel
theorem dX7_ask_28 : decode cX7_ask 28 = .ok (.iastore, 1) := by decide +kernel
theorem dX7_ask_29 : decode cX7_ask 29 = .ok (.aload_n 0, 1) := by decide +kernel
theorem dX7_ask_30 : decode cX7_ask 30 = .ok (.dup, 1) := by decide +kernel
theorem dX7_ask_31 : decode cX7_ask 31 = .ok (.getfield 19, 3) := by decide +kernel
theorem dX7_ask_34 : decode cX7_ask 34 = .ok (.iconst 1, 1) := by decide +kernel
theorem dX7_ask_35 : decode cX7_ask 35 = .ok (.iadd, 1) := by decide +kernel
theorem dX7_ask_36 : decode cX7_ask 36 = .ok (.putfield 19, 3) := by decide +kernel
theorem dX7_ask_39 : decode cX7_ask 39 = .ok (.return_, 1) := by decide +kernel
theorem dX7_remove_0 : decode cX7_remove 0 = .ok (.iconst 0, 1) := by decide +kernel
theorem dX7_remove_1 : decode cX7_remove 1 = .ok (.istore_n 2, 1) := by decide +kernel
theorem dX7_remove_2 : decode cX7_remove 2 = .ok (.iload_n 2, 1) := by decide +kernel
theorem dX7_remove_3 : decode cX7_remove 3 = .ok (.aload_n 0, 1) := by decide +kernel
theorem dX7_remove_4 : decode cX7_remove 4 = .ok (.getfield 19, 3) := by decide +kernel
theorem dX7_remove_7 : decode cX7_remove 7 = .ok (.if_icmp .ge 26, 3) := by decide +kernel
theorem dX7_remove_10 : decode cX7_remove 10 = .ok (.aload_n 0, 1) := by decide +kernel
theorem dX7_remove_11 : decode cX7_remove 11 = .ok (.getfield 9, 3) := by decide +kernel
theorem dX7_remove_14 : decode cX7_remove 14 = .ok (.iload_n 2, 1) := by decide +kernel
theorem dX7_remove_15 : decode cX7_remove 15 = .ok (.iaload, 1) := by decide +kernel
theorem dX7_remove_16 : decode cX7_remove 16 = .ok (.iload_n 1, 1) := by decide +kernel
theorem dX7_remove_17 : decode cX7_remove 17 = .ok (.if_icmp .ne 10, 3) := by decide +kernel
theorem dX7_remove_20 : decode cX7_remove 20 = .ok (.aload_n 0, 1) := by decide +kernel
theorem dX7_remove_21 : decode cX7_remove 21 = .ok (.iload_n 2, 1) := by decide +kernel
theorem dX7_remove_22 : decode cX7_remove 22 = .ok (.invokevirtual 23, 3) := by decide +kernel
theorem dX7_remove_25 : decode cX7_remove 25 = .ok (.iconst 1, 1) := by decide +kernel
theorem dX7_remove_26 : decode cX7_remove 26 = .ok (.ireturn, 1) := by decide +kernel
theorem dX7_remove_27 : decode cX7_remove 27 = .ok (.iinc 2 1, 3) := by decide +kernel
theorem dX7_remove_30 : decode cX7_remove 30 = .ok (.goto (-28), 3) := by decide +kernel
theorem dX7_remove_33 : decode cX7_remove 33 = .ok (.iconst 0, 1) := by decide +kernel
theorem dX7_remove_34 : decode cX7_remove 34 = .ok (.ireturn, 1) := by decide +kernel
theorem dX7_removeAt_0 : decode cX7_removeAt 0 = .ok (.iload_n 1, 1) := by decide +kernel
theorem dX7_removeAt_1 : decode cX7_removeAt 1 = .ok (.istore_n 2, 1) := by decide +kernel
theorem dX7_removeAt_2 : decode cX7_removeAt 2 = .ok (.iload_n 2, 1) := by decide +kernel
theorem dX7_removeAt_3 : decode cX7_removeAt 3 = .ok (.aload_n 0, 1) := by decide +kernel
theorem dX7_removeAt_4 : decode cX7_removeAt 4 = .ok (.getfield 19, 3) := by decide +kernel
theorem dX7_removeAt_7 : decode cX7_removeAt 7 = .ok (.iconst 1, 1) := by decide +kernel
theorem dX7_removeAt_8 : decode cX7_removeAt 8 = .ok (.isub, 1) := by decide +kernel
theorem dX7_removeAt_9 : decode cX7_removeAt 9 = .ok (.if_icmp .ge 23, 3) := by decide +kernel
theorem dX7_removeAt_12 : decode cX7_removeAt 12 = .ok (.aload_n 0, 1) := by decide +kernel
theorem dX7_removeAt_13 : decode cX7_removeAt 13 = .ok (.getfield 9, 3) := by decide +kernel
theorem dX7_removeAt_16 : decode cX7_removeAt 16 = .ok (.iload_n 2, 1) := by decide +kernel
theorem dX7_removeAt_17 : decode cX7_removeAt 17 = .ok (.aload_n 0, 1) := by decide +kernel
theorem dX7_removeAt_18 : decode cX7_removeAt 18 = .ok (.getfield 9, 3) := by decide +kernel
theorem dX7_removeAt_21 : decode cX7_removeAt 21 = .ok (.iload_n 2, 1) := by decide +kernel
theorem dX7_removeAt_22 : decode cX7_removeAt 22 = .ok (.iconst 1, 1) := by decide +kernel
theorem dX7_removeAt_23 : decode cX7_removeAt 23 = .ok (.iadd, 1) := by decide +kernel
theorem dX7_removeAt_24 : decode cX7_removeAt 24 = .ok (.iaload, 1) := by decide +kernel
theorem dX7_removeAt_25 : decode cX7_removeAt 25 = .ok (.iastore, 1) := by decide +kernel
theorem dX7_removeAt_26 : decode cX7_removeAt 26 = .ok (.iinc 2 1, 3) := by decide +kernel
theorem dX7_removeAt_29 : decode cX7_removeAt 29 = .ok (.goto (-27), 3) := by decide +kernel
theorem dX7_removeAt_32 : decode cX7_removeAt 32 = .ok (.aload_n 0, 1) := by decide +kernel
theorem dX7_removeAt_33 : decode cX7_removeAt 33 = .ok (.dup, 1) := by decide +kernel
theorem dX7_removeAt_34 : decode cX7_removeAt 34 = .ok (.getfield 19, 3) := by decide +kernel
theorem dX7_removeAt_37 : decode cX7_removeAt 37 = .ok (.iconst 1, 1) := by decide +kernel
theorem dX7_removeAt_38 : decode cX7_removeAt 38 = .ok (.isub, 1) := by decide +kernel
theorem dX7_removeAt_39 : decode cX7_removeAt 39 = .ok (.putfield 19, 3) := by decide +kernel
theorem dX7_removeAt_42 : decode cX7_removeAt 42 = .ok (.return_, 1) := by decide +kernel
theorem dX7_copy_0 : decode cX7_copy 0 = .ok (.aload_n 1, 1) := by decide +kernel
theorem dX7_copy_1 : decode cX7_copy 1 = .ok (.getfield 9, 3) := by decide +kernel
theorem dX7_copy_4 : decode cX7_copy 4 = .ok (.iconst 0, 1) := by decide +kernel
theorem dX7_copy_5 : decode cX7_copy 5 = .ok (.aload_n 0, 1) := by decide +kernel
theorem dX7_copy_6 : decode cX7_copy 6 = .ok (.getfield 9, 3) := by decide +kernel
theorem dX7_copy_9 : decode cX7_copy 9 = .ok (.iconst 0, 1) := by decide +kernel
theorem dX7_copy_10 : decode cX7_copy 10 = .ok (.iconst 4, 1) := by decide +kernel
theorem dX7_copy_11 : decode cX7_copy 11 = .ok (.invokestatic 27, 3) := by decide +kernel
theorem dX7_copy_14 : decode cX7_copy 14 = .ok (.aload_n 0, 1) := by decide +kernel
theorem dX7_copy_15 : decode cX7_copy 15 = .ok (.aload_n 1, 1) := by decide +kernel
theorem dX7_copy_16 : decode cX7_copy 16 = .ok (.getfield 19, 3) := by decide +kernel
theorem dX7_copy_19 : decode cX7_copy 19 = .ok (.putfield 19, 3) := by decide +kernel
theorem dX7_copy_22 : decode cX7_copy 22 = .ok (.return_, 1) := by decide +kernel
theorem dX8_init_0 : decode cX8_init 0 = .ok (.aload_n 0, 1) := by decide +kernel
theorem dX8_init_1 : decode cX8_init 1 = .ok (.invokespecial 3, 3) := by decide +kernel
theorem dX8_init_4 : decode cX8_init 4 = .ok (.aload_n 0, 1) := by decide +kernel
theorem dX8_init_5 : decode cX8_init 5 = .ok (.iconst 4, 1) := by decide +kernel
theorem dX8_init_6 : decode cX8_init 6 = .ok (.anewarray 9, 3) := by decide +kernel
theorem dX8_init_9 : decode cX8_init 9 = .ok (.putfield 11, 3) := by decide +kernel
theorem dX8_init_12 : decode cX8_init 12 = .ok (.aload_n 0, 1) := by decide +kernel
theorem dX8_init_13 : decode cX8_init 13 = .ok (.iconst 5, 1) := by decide +kernel
theorem dX8_init_14 : decode cX8_init 14 = .ok (.iconst 4, 1) := by decide +kernel
theorem dX8_init_15 : decode cX8_init 15 = .ok (.multianewarray 17 2, 4) := by decide +kernel
theorem dX8_init_19 : decode cX8_init 19 = .ok (.putfield 19, 3) := by decide +kernel
theorem dX8_init_22 : decode cX8_init 22 = .ok (.iconst 0, 1) := by decide +kernel
theorem dX8_init_23 : decode cX8_init 23 = .ok (.istore_n 1, 1) := by decide +kernel
theorem dX8_init_24 : decode cX8_init 24 = .ok (.iload_n 1, 1) := by decide +kernel
theorem dX8_init_25 : decode cX8_init 25 = .ok (.iconst 4, 1) := by decide +kernel
theorem dX8_init_26 : decode cX8_init 26 = .ok (.if_icmp .ge 22, 3) := by decide +kernel
theorem dX8_init_29 : decode cX8_init 29 = .ok (.aload_n 0, 1) := by decide +kernel
theorem dX8_init_30 : decode cX8_init 30 = .ok (.getfield 11, 3) := by decide +kernel
theorem dX8_init_33 : decode cX8_init 33 = .ok (.iload_n 1, 1) := by decide +kernel
theorem dX8_init_34 : decode cX8_init 34 = .ok (.new 9, 3) := by decide +kernel
theorem dX8_init_37 : decode cX8_init 37 = .ok (.dup, 1) := by decide +kernel
theorem dX8_init_38 : decode cX8_init 38 = .ok (.invokespecial 22, 3) := by decide +kernel
theorem dX8_init_41 : decode cX8_init 41 = .ok (.aastore, 1) := by decide +kernel
theorem dX8_init_42 : decode cX8_init 42 = .ok (.iinc 1 1, 3) := by decide +kernel
theorem dX8_init_45 : decode cX8_init 45 = .ok (.goto (-21), 3) := by decide +kernel
theorem dX8_init_48 : decode cX8_init 48 = .ok (.return_, 1) := by decide +kernel
theorem dX8_sift_0 : decode cX8_sift 0 = .ok (.aload_n 0, 1) := by decide +kernel
theorem dX8_sift_1 : decode cX8_sift 1 = .ok (.aload_n 2, 1) := by decide +kernel
theorem dX8_sift_2 : decode cX8_sift 2 = .ok (.getfield 23, 3) := by decide +kernel
theorem dX8_sift_5 : decode cX8_sift 5 = .ok (.putfield 29, 3) := by decide +kernel
theorem dX8_sift_8 : decode cX8_sift 8 = .ok (.iconst 0, 1) := by decide +kernel
theorem dX8_sift_9 : decode cX8_sift 9 = .ok (.istore_n 3, 1) := by decide +kernel
theorem dX8_sift_10 : decode cX8_sift 10 = .ok (.iload_n 3, 1) := by decide +kernel
theorem dX8_sift_11 : decode cX8_sift 11 = .ok (.aload_n 0, 1) := by decide +kernel
theorem dX8_sift_12 : decode cX8_sift 12 = .ok (.getfield 29, 3) := by decide +kernel
theorem dX8_sift_15 : decode cX8_sift 15 = .ok (.if_icmp .ge 34, 3) := by decide +kernel
theorem dX8_sift_18 : decode cX8_sift 18 = .ok (.aload_n 0, 1) := by decide +kernel
theorem dX8_sift_19 : decode cX8_sift 19 = .ok (.getfield 11, 3) := by decide +kernel
theorem dX8_sift_22 : decode cX8_sift 22 = .ok (.iload_n 3, 1) := by decide +kernel
theorem dX8_sift_23 : decode cX8_sift 23 = .ok (.aaload, 1) := by decide +kernel
theorem dX8_sift_24 : decode cX8_sift 24 = .ok (.aload_n 1, 1) := by decide +kernel
theorem dX8_sift_25 : decode cX8_sift 25 = .ok (.aload_n 2, 1) := by decide +kernel
theorem dX8_sift_26 : decode cX8_sift 26 = .ok (.getfield 32, 3) := by decide +kernel
theorem dX8_sift_29 : decode cX8_sift 29 = .ok (.iload_n 3, 1) := by decide +kernel
theorem dX8_sift_30 : decode cX8_sift 30 = .ok (.iaload, 1) := by decide +kernel
theorem dX8_sift_31 : decode cX8_sift 31 = .ok (.invokevirtual 36, 3) := by decide +kernel
theorem dX8_sift_34 : decode cX8_sift 34 = .ok (.aload_n 0, 1) := by decide +kernel
theorem dX8_sift_35 : decode cX8_sift 35 = .ok (.getfield 19, 3) := by decide +kernel
theorem dX8_sift_38 : decode cX8_sift 38 = .ok (.iconst 0, 1) := by decide +kernel
theorem dX8_sift_39 : decode cX8_sift 39 = .ok (.aaload, 1) := by decide +kernel
theorem dX8_sift_40 : decode cX8_sift 40 = .ok (.iload_n 3, 1) := by decide +kernel
theorem dX8_sift_41 : decode cX8_sift 41 = .ok (.iconst 1, 1) := by decide +kernel
theorem dX8_sift_42 : decode cX8_sift 42 = .ok (.iastore, 1) := by decide +kernel
theorem dX8_sift_43 : decode cX8_sift 43 = .ok (.iinc 3 1, 3) := by decide +kernel
theorem dX8_sift_46 : decode cX8_sift 46 = .ok (.goto (-36), 3) := by decide +kernel
theorem dX8_sift_49 : decode cX8_sift 49 = .ok (.aload_n 0, 1) := by decide +kernel
theorem dX8_sift_50 : decode cX8_sift 50 = .ok (.aload_n 1, 1) := by decide +kernel
theorem dX8_sift_51 : decode cX8_sift 51 = .ok (.iconst 0, 1) := by decide +kernel
theorem dX8_sift_52 : decode cX8_sift 52 = .ok (.invokestatic 40, 3) := by decide +kernel
theorem dX8_sift_55 : decode cX8_sift 55 = .ok (.ireturn, 1) := by decide +kernel
theorem dX8_passing_0 : decode cX8_passing 0 = .ok (.iload_n 2, 1) := by decide +kernel
theorem dX8_passing_1 : decode cX8_passing 1 = .ok (.aload_n 1, 1) := by decide +kernel
theorem dX8_passing_2 : decode cX8_passing 2 = .ok (.getfield 44, 3) := by decide +kernel
theorem dX8_passing_5 : decode cX8_passing 5 = .ok (.if_icmp .lt 14, 3) := by decide +kernel
theorem dX8_passing_8 : decode cX8_passing 8 = .ok (.aload_n 0, 1) := by decide +kernel
theorem dX8_passing_9 : decode cX8_passing 9 = .ok (.aload_n 0, 1) := by decide +kernel
theorem dX8_passing_10 : decode cX8_passing 10 = .ok (.getfield 19, 3) := by decide +kernel
theorem dX8_passing_13 : decode cX8_passing 13 = .ok (.iload_n 2, 1) := by decide +kernel
theorem dX8_passing_14 : decode cX8_passing 14 = .ok (.aaload, 1) := by decide +kernel
theorem dX8_passing_15 : decode cX8_passing 15 = .ok (.invokevirtual 47, 3) := by decide +kernel
theorem dX8_passing_18 : decode cX8_passing 18 = .ok (.ireturn, 1) := by decide +kernel
theorem dX8_passing_19 : decode cX8_passing 19 = .ok (.aload_n 1, 1) := by decide +kernel
theorem dX8_passing_20 : decode cX8_passing 20 = .ok (.getfield 51, 3) := by decide +kernel
theorem dX8_passing_23 : decode cX8_passing 23 = .ok (.iload_n 2, 1) := by decide +kernel
theorem dX8_passing_24 : decode cX8_passing 24 = .ok (.iaload, 1) := by decide +kernel
theorem dX8_passing_25 : decode cX8_passing 25 = .ok (.istore_n 3, 1) := by decide +kernel
theorem dX8_passing_26 : decode cX8_passing 26 = .ok (.aload_n 1, 1) := by decide +kernel
theorem dX8_passing_27 : decode cX8_passing 27 = .ok (.getfield 54, 3) := by decide +kernel
theorem dX8_passing_30 : decode cX8_passing 30 = .ok (.iload_n 2, 1) := by decide +kernel
theorem dX8_passing_31 : decode cX8_passing 31 = .ok (.iaload, 1) := by decide +kernel
theorem dX8_passing_32 : decode cX8_passing 32 = .ok (.istore 4, 2) := by decide +kernel
theorem dX8_passing_34 : decode cX8_passing 34 = .ok (.aload_n 0, 1) := by decide +kernel
theorem dX8_passing_35 : decode cX8_passing 35 = .ok (.getfield 19, 3) := by decide +kernel
theorem dX8_passing_38 : decode cX8_passing 38 = .ok (.iload_n 2, 1) := by decide +kernel
theorem dX8_passing_39 : decode cX8_passing 39 = .ok (.aaload, 1) := by decide +kernel
theorem dX8_passing_40 : decode cX8_passing 40 = .ok (.astore 5, 2) := by decide +kernel
theorem dX8_passing_42 : decode cX8_passing 42 = .ok (.aload_n 0, 1) := by decide +kernel
theorem dX8_passing_43 : decode cX8_passing 43 = .ok (.getfield 19, 3) := by decide +kernel
theorem dX8_passing_46 : decode cX8_passing 46 = .ok (.iload_n 2, 1) := by decide +kernel
theorem dX8_passing_47 : decode cX8_passing 47 = .ok (.iconst 1, 1) := by decide +kernel
theorem dX8_passing_48 : decode cX8_passing 48 = .ok (.iadd, 1) := by decide +kernel
theorem dX8_passing_49 : decode cX8_passing 49 = .ok (.aaload, 1) := by decide +kernel
theorem dX8_passing_50 : decode cX8_passing 50 = .ok (.astore 6, 2) := by decide +kernel
theorem dX8_passing_52 : decode cX8_passing 52 = .ok (.iconst 0, 1) := by decide +kernel
theorem dX8_passing_53 : decode cX8_passing 53 = .ok (.istore 7, 2) := by decide +kernel
theorem dX8_passing_55 : decode cX8_passing 55 = .ok (.iload 7, 2) := by decide +kernel
theorem dX8_passing_57 : decode cX8_passing 57 = .ok (.aload_n 0, 1) := by decide +kernel
theorem dX8_passing_58 : decode cX8_passing 58 = .ok (.getfield 29, 3) := by decide +kernel
theorem dX8_passing_61 : decode cX8_passing 61 = .ok (.if_icmp .ge 45, 3) := by decide +kernel
theorem dX8_passing_64 : decode cX8_passing 64 = .ok (.aload 6, 2) := by decide +kernel
theorem dX8_passing_66 : decode cX8_passing 66 = .ok (.iload 7, 2) := by decide +kernel
theorem dX8_passing_68 : decode cX8_passing 68 = .ok (.aload 5, 2) := by decide +kernel
theorem dX8_passing_70 : decode cX8_passing 70 = .ok (.iload 7, 2) := by decide +kernel
theorem dX8_passing_72 : decode cX8_passing 72 = .ok (.iaload, 1) := by decide +kernel
theorem dX8_passing_73 : decode cX8_passing 73 = .ok (.aload_n 0, 1) := by decide +kernel
theorem dX8_passing_74 : decode cX8_passing 74 = .ok (.getfield 11, 3) := by decide +kernel
theorem dX8_passing_77 : decode cX8_passing 77 = .ok (.iload 7, 2) := by decide +kernel
theorem dX8_passing_79 : decode cX8_passing 79 = .ok (.aaload, 1) := by decide +kernel
theorem dX8_passing_80 : decode cX8_passing 80 = .ok (.iload_n 3, 1) := by decide +kernel
theorem dX8_passing_81 : decode cX8_passing 81 = .ok (.iload 4, 2) := by decide +kernel
theorem dX8_passing_83 : decode cX8_passing 83 = .ok (.ineg, 1) := by decide +kernel
theorem dX8_passing_84 : decode cX8_passing 84 = .ok (.invokevirtual 57, 3) := by decide +kernel
theorem dX8_passing_87 : decode cX8_passing 87 = .ok (.imul, 1) := by decide +kernel
theorem dX8_passing_88 : decode cX8_passing 88 = .ok (.aload_n 0, 1) := by decide +kernel
theorem dX8_passing_89 : decode cX8_passing 89 = .ok (.getfield 11, 3) := by decide +kernel
theorem dX8_passing_92 : decode cX8_passing 92 = .ok (.iload 7, 2) := by decide +kernel
theorem dX8_passing_94 : decode cX8_passing 94 = .ok (.aaload, 1) := by decide +kernel
theorem dX8_passing_95 : decode cX8_passing 95 = .ok (.getfield 61, 3) := by decide +kernel
theorem dX8_passing_98 : decode cX8_passing 98 = .ok (.irem, 1) := by decide +kernel
theorem dX8_passing_99 : decode cX8_passing 99 = .ok (.iastore, 1) := by decide +kernel
theorem dX8_passing_100 : decode cX8_passing 100 = .ok (.iinc 7 1, 3) := by decide +kernel
theorem dX8_passing_103 : decode cX8_passing 103 = .ok (.goto (-48), 3) := by decide +kernel
theorem dX8_passing_106 : decode cX8_passing 106 = .ok (.iconst 0, 1) := by decide +kernel
theorem dX8_passing_107 : decode cX8_passing 107 = .ok (.istore 7, 2) := by decide +kernel
theorem dX8_passing_109 : decode cX8_passing 109 = .ok (.iload 4, 2) := by decide +kernel
theorem dX8_passing_111 : decode cX8_passing 111 = .ok (.ineg, 1) := by decide +kernel
theorem dX8_passing_112 : decode cX8_passing 112 = .ok (.istore 8, 2) := by decide +kernel
theorem dX8_passing_114 : decode cX8_passing 114 = .ok (.iload 8, 2) := by decide +kernel
theorem dX8_passing_116 : decode cX8_passing 116 = .ok (.iload 4, 2) := by decide +kernel
theorem dX8_passing_118 : decode cX8_passing 118 = .ok (.if_icmp .gt 63, 3) := by decide +kernel
theorem dX8_passing_121 : decode cX8_passing 121 = .ok (.iload 7, 2) := by decide +kernel
theorem dX8_passing_123 : decode cX8_passing 123 = .ok (.aload_n 0, 1) := by decide +kernel
theorem dX8_passing_124 : decode cX8_passing 124 = .ok (.aload_n 1, 1) := by decide +kernel
theorem dX8_passing_125 : decode cX8_passing 125 = .ok (.iload_n 2, 1) := by decide +kernel
theorem dX8_passing_126 : decode cX8_passing 126 = .ok (.iconst 1, 1) := by decide +kernel
theorem dX8_passing_127 : decode cX8_passing 127 = .ok (.iadd, 1) := by decide +kernel
theorem dX8_passing_128 : decode cX8_passing 128 = .ok (.invokestatic 40, 3) := by decide +kernel
theorem dX8_passing_131 : decode cX8_passing 131 = .ok (.iadd, 1) := by decide +kernel
theorem dX8_passing_132 : decode cX8_passing 132 = .ok (.istore 7, 2) := by decide +kernel
theorem dX8_passing_134 : decode cX8_passing 134 = .ok (.iconst 0, 1) := by decide +kernel
theorem dX8_passing_135 : decode cX8_passing 135 = .ok (.istore 9, 2) := by decide +kernel
theorem dX8_passing_137 : decode cX8_passing 137 = .ok (.iload 9, 2) := by decide +kernel
theorem dX8_passing_139 : decode cX8_passing 139 = .ok (.aload_n 0, 1) := by decide +kernel
theorem dX8_passing_140 : decode cX8_passing 140 = .ok (.getfield 29, 3) := by decide +kernel
theorem dX8_passing_143 : decode cX8_passing 143 = .ok (.if_icmp .ge 32, 3) := by decide +kernel
theorem dX8_passing_146 : decode cX8_passing 146 = .ok (.aload 6, 2) := by decide +kernel
theorem dX8_passing_148 : decode cX8_passing 148 = .ok (.iload 9, 2) := by decide +kernel
theorem dX8_passing_150 : decode cX8_passing 150 = .ok (.aload 6, 2) := by decide +kernel
theorem dX8_passing_152 : decode cX8_passing 152 = .ok (.iload 9, 2) := by decide +kernel
theorem dX8_passing_154 : decode cX8_passing 154 = .ok (.iaload, 1) := by decide +kernel
theorem dX8_passing_155 : decode cX8_passing 155 = .ok (.iload_n 3, 1) := by decide +kernel
theorem dX8_passing_156 : decode cX8_passing 156 = .ok (.imul, 1) := by decide +kernel
theorem dX8_passing_157 : decode cX8_passing 157 = .ok (.aload_n 0, 1) := by decide +kernel
theorem dX8_passing_158 : decode cX8_passing 158 = .ok (.getfield 11, 3) := by decide +kernel
theorem dX8_passing_161 : decode cX8_passing 161 = .ok (.iload 9, 2) := by decide +kernel
theorem dX8_passing_163 : decode cX8_passing 163 = .ok (.aaload, 1) := by decide +kernel
theorem dX8_passing_164 : decode cX8_passing 164 = .ok (.getfield 61, 3) := by decide +kernel
theorem dX8_passing_167 : decode cX8_passing 167 = .ok (.irem, 1) := by decide +kernel
theorem dX8_passing_168 : decode cX8_passing 168 = .ok (.iastore, 1) := by decide +kernel
theorem dX8_passing_169 : decode cX8_passing 169 = .ok (.iinc 9 1, 3) := by decide +kernel
theorem dX8_passing_172 : decode cX8_passing 172 = .ok (.goto (-35), 3) := by decide +kernel
theorem dX8_passing_175 : decode cX8_passing 175 = .ok (.iinc 8 1, 3) := by decide +kernel
theorem dX8_passing_178 : decode cX8_passing 178 = .ok (.goto (-64), 3) := by decide +kernel
theorem dX8_passing_181 : decode cX8_passing 181 = .ok (.iload 7, 2) := by decide +kernel
theorem dX8_passing_183 : decode cX8_passing 183 = .ok (.ireturn, 1) := by decide +kernel
theorem dX8_passingSigns_0 : decode cX8_passingSigns 0 = .ok (.iconst 2, 1) := by decide +kernel
theorem dX8_passingSigns_1 : decode cX8_passingSigns 1 = .ok (.istore_n 2, 1) := by decide +kernel
theorem dX8_passingSigns_2 : decode cX8_passingSigns 2 = .ok (.aload_n 0, 1) := by decide +kernel
theorem dX8_passingSigns_3 : decode cX8_passingSigns 3 = .ok (.aload_n 1, 1) := by decide +kernel
theorem dX8_passingSigns_4 : decode cX8_passingSigns 4 = .ok (.iconst 1, 1) := by decide +kernel
theorem dX8_passingSigns_5 : decode cX8_passingSigns 5 = .ok (.invokevirtual 64, 3) := by decide +kernel
theorem dX8_passingSigns_8 : decode cX8_passingSigns 8 = .ok (.ifCond .eq 6, 3) := by decide +kernel
theorem dX8_passingSigns_11 : decode cX8_passingSigns 11 = .ok (.iinc 2 (-1), 3) := by decide +kernel
theorem dX8_passingSigns_14 : decode cX8_passingSigns 14 = .ok (.aload_n 0, 1) := by decide +kernel
theorem dX8_passingSigns_15 : decode cX8_passingSigns 15 = .ok (.aload_n 1, 1) := by decide +kernel
theorem dX8_passingSigns_16 : decode cX8_passingSigns 16 = .ok (.iconst (-1), 1) := by decide +kernel
theorem dX8_passingSigns_17 : decode cX8_passingSigns 17 = .ok (.invokevirtual 64, 3) := by decide +kernel
theorem dX8_passingSigns_20 : decode cX8_passingSigns 20 = .ok (.ifCond .eq 6, 3) := by decide +kernel
theorem dX8_passingSigns_23 : decode cX8_passingSigns 23 = .ok (.iinc 2 (-1), 3) := by decide +kernel
theorem dX8_passingSigns_26 : decode cX8_passingSigns 26 = .ok (.iload_n 2, 1) := by decide +kernel
theorem dX8_passingSigns_27 : decode cX8_passingSigns 27 = .ok (.ireturn, 1) := by decide +kernel
theorem dX8_isCaught_0 : decode cX8_isCaught 0 = .ok (.iconst 0, 1) := by decide +kernel
theorem dX8_isCaught_1 : decode cX8_isCaught 1 = .ok (.istore_n 3, 1) := by decide +kernel
theorem dX8_isCaught_2 : decode cX8_isCaught 2 = .ok (.iload_n 3, 1) := by decide +kernel
theorem dX8_isCaught_3 : decode cX8_isCaught 3 = .ok (.aload_n 0, 1) := by decide +kernel
theorem dX8_isCaught_4 : decode cX8_isCaught 4 = .ok (.getfield 29, 3) := by decide +kernel
theorem dX8_isCaught_7 : decode cX8_isCaught 7 = .ok (.if_icmp .ge 28, 3) := by decide +kernel
theorem dX8_isCaught_10 : decode cX8_isCaught 10 = .ok (.aload_n 0, 1) := by decide +kernel
theorem dX8_isCaught_11 : decode cX8_isCaught 11 = .ok (.getfield 11, 3) := by decide +kernel
theorem dX8_isCaught_14 : decode cX8_isCaught 14 = .ok (.iload_n 3, 1) := by decide +kernel
theorem dX8_isCaught_15 : decode cX8_isCaught 15 = .ok (.aaload, 1) := by decide +kernel
theorem dX8_isCaught_16 : decode cX8_isCaught 16 = .ok (.iload_n 2, 1) := by decide +kernel
theorem dX8_isCaught_17 : decode cX8_isCaught 17 = .ok (.aload_n 1, 1) := by decide +kernel
theorem dX8_isCaught_18 : decode cX8_isCaught 18 = .ok (.iload_n 3, 1) := by decide +kernel
theorem dX8_isCaught_19 : decode cX8_isCaught 19 = .ok (.iaload, 1) := by decide +kernel
theorem dX8_isCaught_20 : decode cX8_isCaught 20 = .ok (.imul, 1) := by decide +kernel
theorem dX8_isCaught_21 : decode cX8_isCaught 21 = .ok (.invokevirtual 68, 3) := by decide +kernel
theorem dX8_isCaught_24 : decode cX8_isCaught 24 = .ok (.ifCond .ne 5, 3) := by decide +kernel
theorem dX8_isCaught_27 : decode cX8_isCaught 27 = .ok (.iconst 1, 1) := by decide +kernel
theorem dX8_isCaught_28 : decode cX8_isCaught 28 = .ok (.ireturn, 1) := by decide +kernel
theorem dX8_isCaught_29 : decode cX8_isCaught 29 = .ok (.iinc 3 1, 3) := by decide +kernel
theorem dX8_isCaught_32 : decode cX8_isCaught 32 = .ok (.goto (-30), 3) := by decide +kernel
theorem dX8_isCaught_35 : decode cX8_isCaught 35 = .ok (.iconst 0, 1) := by decide +kernel
theorem dX8_isCaught_36 : decode cX8_isCaught 36 = .ok (.ireturn, 1) := by decide +kernel
theorem dX9_init_0 : decode cX9_init 0 = .ok (.aload_n 0, 1) := by decide +kernel
theorem dX9_init_1 : decode cX9_init 1 = .ok (.invokespecial 3, 3) := by decide +kernel
theorem dX9_init_4 : decode cX9_init 4 = .ok (.aload_n 0, 1) := by decide +kernel
theorem dX9_init_5 : decode cX9_init 5 = .ok (.lconst 1, 1) := by decide +kernel
theorem dX9_init_6 : decode cX9_init 6 = .ok (.putfield 9, 3) := by decide +kernel
theorem dX9_init_9 : decode cX9_init 9 = .ok (.aload_n 0, 1) := by decide +kernel
theorem dX9_init_10 : decode cX9_init 10 = .ok (.lconst 1, 1) := by decide +kernel
theorem dX9_init_11 : decode cX9_init 11 = .ok (.putfield 15, 3) := by decide +kernel
theorem dX9_init_14 : decode cX9_init 14 = .ok (.return_, 1) := by decide +kernel
theorem dX9_set_0 : decode cX9_set 0 = .ok (.aload_n 0, 1) := by decide +kernel
theorem dX9_set_1 : decode cX9_set 1 = .ok (.lload_n 1, 1) := by decide +kernel
theorem dX9_set_2 : decode cX9_set 2 = .ok (.putfield 18, 3) := by decide +kernel
theorem dX9_set_5 : decode cX9_set 5 = .ok (.aload_n 0, 1) := by decide +kernel
theorem dX9_set_6 : decode cX9_set 6 = .ok (.lload_n 3, 1) := by decide +kernel
theorem dX9_set_7 : decode cX9_set 7 = .ok (.putfield 9, 3) := by decide +kernel
theorem dX9_set_10 : decode cX9_set 10 = .ok (.aload_n 0, 1) := by decide +kernel
theorem dX9_set_11 : decode cX9_set 11 = .ok (.lload_n 3, 1) := by decide +kernel
theorem dX9_set_12 : decode cX9_set 12 = .ok (.lload_n 1, 1) := by decide +kernel
theorem dX9_set_13 : decode cX9_set 13 = .ok (.lsub, 1) := by decide +kernel
theorem dX9_set_14 : decode cX9_set 14 = .ok (.putfield 15, 3) := by decide +kernel
theorem dX9_set_17 : decode cX9_set 17 = .ok (.return_, 1) := by decide +kernel
theorem dX9_formAbove_0 : decode cX9_formAbove 0 = .ok (.aload_n 0, 1) := by decide +kernel
theorem dX9_formAbove_1 : decode cX9_formAbove 1 = .ok (.iload_n 1, 1) := by decide +kernel
theorem dX9_formAbove_2 : decode cX9_formAbove 2 = .ok (.invokevirtual 21, 3) := by decide +kernel
theorem dX9_formAbove_5 : decode cX9_formAbove 5 = .ok (.lconst 0, 1) := by decide +kernel
theorem dX9_formAbove_6 : decode cX9_formAbove 6 = .ok (.lcmp, 1) := by decide +kernel
theorem dX9_formAbove_7 : decode cX9_formAbove 7 = .ok (.ifCond .ge 12, 3) := by decide +kernel
theorem dX9_formAbove_10 : decode cX9_formAbove 10 = .ok (.aload_n 0, 1) := by decide +kernel
theorem dX9_formAbove_11 : decode cX9_formAbove 11 = .ok (.iload_n 1, 1) := by decide +kernel
theorem dX9_formAbove_12 : decode cX9_formAbove 12 = .ok (.invokevirtual 25, 3) := by decide +kernel
theorem dX9_formAbove_15 : decode cX9_formAbove 15 = .ok (.lneg, 1) := by decide +kernel
theorem dX9_formAbove_16 : decode cX9_formAbove 16 = .ok (.goto 8, 3) := by decide +kernel
theorem dX9_formAbove_19 : decode cX9_formAbove 19 = .ok (.aload_n 0, 1) := by decide +kernel
theorem dX9_formAbove_20 : decode cX9_formAbove 20 = .ok (.iload_n 1, 1) := by decide +kernel
theorem dX9_formAbove_21 : decode cX9_formAbove 21 = .ok (.invokevirtual 25, 3) := by decide +kernel
theorem dX9_formAbove_24 : decode cX9_formAbove 24 = .ok (.lreturn, 1) := by decide +kernel
theorem dX9_formBelow_0 : decode cX9_formBelow 0 = .ok (.aload_n 0, 1) := by decide +kernel
theorem dX9_formBelow_1 : decode cX9_formBelow 1 = .ok (.iload_n 1, 1) := by decide +kernel
theorem dX9_formBelow_2 : decode cX9_formBelow 2 = .ok (.invokevirtual 21, 3) := by decide +kernel
theorem dX9_formBelow_5 : decode cX9_formBelow 5 = .ok (.invokestatic 28, 3) := by decide +kernel
theorem dX9_formBelow_8 : decode cX9_formBelow 8 = .ok (.lreturn, 1) := by decide +kernel
theorem dX9_rawAbove_0 : decode cX9_rawAbove 0 = .ok (.iload_n 1, 1) := by decide +kernel
theorem dX9_rawAbove_1 : decode cX9_rawAbove 1 = .ok (.tableswitch 61 0 5 #[39, 44, 61, 61, 49, 55], 39) := by decide +kernel
theorem dX9_rawAbove_40 : decode cX9_rawAbove 40 = .ok (.aload_n 0, 1) := by decide +kernel
theorem dX9_rawAbove_41 : decode cX9_rawAbove 41 = .ok (.getfield 18, 3) := by decide +kernel
theorem dX9_rawAbove_44 : decode cX9_rawAbove 44 = .ok (.lreturn, 1) := by decide +kernel
theorem dX9_rawAbove_45 : decode cX9_rawAbove 45 = .ok (.aload_n 0, 1) := by decide +kernel
theorem dX9_rawAbove_46 : decode cX9_rawAbove 46 = .ok (.getfield 15, 3) := by decide +kernel
theorem dX9_rawAbove_49 : decode cX9_rawAbove 49 = .ok (.lreturn, 1) := by decide +kernel
theorem dX9_rawAbove_50 : decode cX9_rawAbove 50 = .ok (.aload_n 0, 1) := by decide +kernel
theorem dX9_rawAbove_51 : decode cX9_rawAbove 51 = .ok (.getfield 15, 3) := by decide +kernel
theorem dX9_rawAbove_54 : decode cX9_rawAbove 54 = .ok (.lneg, 1) := by decide +kernel
theorem dX9_rawAbove_55 : decode cX9_rawAbove 55 = .ok (.lreturn, 1) := by decide +kernel
theorem dX9_rawAbove_56 : decode cX9_rawAbove 56 = .ok (.aload_n 0, 1) := by decide +kernel
theorem dX9_rawAbove_57 : decode cX9_rawAbove 57 = .ok (.getfield 18, 3) := by decide +kernel
theorem dX9_rawAbove_60 : decode cX9_rawAbove 60 = .ok (.lneg, 1) := by decide +kernel
theorem dX9_rawAbove_61 : decode cX9_rawAbove 61 = .ok (.lreturn, 1) := by decide +kernel
theorem dX9_rawAbove_62 : decode cX9_rawAbove 62 = .ok (.aload_n 0, 1) := by decide +kernel
theorem dX9_rawAbove_63 : decode cX9_rawAbove 63 = .ok (.getfield 9, 3) := by decide +kernel
theorem dX9_rawAbove_66 : decode cX9_rawAbove 66 = .ok (.lreturn, 1) := by decide +kernel
theorem dX9_rawBelow_0 : decode cX9_rawBelow 0 = .ok (.iload_n 1, 1) := by decide +kernel
theorem dX9_rawBelow_1 : decode cX9_rawBelow 1 = .ok (.tableswitch 41 2 5 #[31, 36, 31, 36], 31) := by decide +kernel
theorem dX9_rawBelow_32 : decode cX9_rawBelow 32 = .ok (.aload_n 0, 1) := by decide +kernel
theorem dX9_rawBelow_33 : decode cX9_rawBelow 33 = .ok (.getfield 18, 3) := by decide +kernel
theorem dX9_rawBelow_36 : decode cX9_rawBelow 36 = .ok (.lreturn, 1) := by decide +kernel
theorem dX9_rawBelow_37 : decode cX9_rawBelow 37 = .ok (.aload_n 0, 1) := by decide +kernel
theorem dX9_rawBelow_38 : decode cX9_rawBelow 38 = .ok (.getfield 15, 3) := by decide +kernel
theorem dX9_rawBelow_41 : decode cX9_rawBelow 41 = .ok (.lreturn, 1) := by decide +kernel
theorem dX9_rawBelow_42 : decode cX9_rawBelow 42 = .ok (.aload_n 0, 1) := by decide +kernel
theorem dX9_rawBelow_43 : decode cX9_rawBelow 43 = .ok (.getfield 9, 3) := by decide +kernel
theorem dX9_rawBelow_46 : decode cX9_rawBelow 46 = .ok (.lreturn, 1) := by decide +kernel
theorem dX9_unlikeForms_0 : decode cX9_unlikeForms 0 = .ok (.iconst 0, 1) := by decide +kernel
theorem dX9_unlikeForms_1 : decode cX9_unlikeForms 1 = .ok (.istore_n 1, 1) := by decide +kernel
theorem dX9_unlikeForms_2 : decode cX9_unlikeForms 2 = .ok (.iconst 0, 1) := by decide +kernel
theorem dX9_unlikeForms_3 : decode cX9_unlikeForms 3 = .ok (.istore_n 2, 1) := by decide +kernel
theorem dX9_unlikeForms_4 : decode cX9_unlikeForms 4 = .ok (.iload_n 2, 1) := by decide +kernel
theorem dX9_unlikeForms_5 : decode cX9_unlikeForms 5 = .ok (.bipush 6, 2) := by decide +kernel
theorem dX9_unlikeForms_7 : decode cX9_unlikeForms 7 = .ok (.if_icmp .ge 20, 3) := by decide +kernel
theorem dX9_unlikeForms_10 : decode cX9_unlikeForms 10 = .ok (.aload_n 0, 1) := by decide +kernel
theorem dX9_unlikeForms_11 : decode cX9_unlikeForms 11 = .ok (.iload_n 2, 1) := by decide +kernel
theorem dX9_unlikeForms_12 : decode cX9_unlikeForms 12 = .ok (.invokevirtual 34, 3) := by decide +kernel
theorem dX9_unlikeForms_15 : decode cX9_unlikeForms 15 = .ok (.ifCond .ne 6, 3) := by decide +kernel
theorem dX9_unlikeForms_18 : decode cX9_unlikeForms 18 = .ok (.iinc 1 1, 3) := by decide +kernel
theorem dX9_unlikeForms_21 : decode cX9_unlikeForms 21 = .ok (.iinc 2 1, 3) := by decide +kernel
theorem dX9_unlikeForms_24 : decode cX9_unlikeForms 24 = .ok (.goto (-20), 3) := by decide +kernel
theorem dX9_unlikeForms_27 : decode cX9_unlikeForms 27 = .ok (.iload_n 1, 1) := by decide +kernel
theorem dX9_unlikeForms_28 : decode cX9_unlikeForms 28 = .ok (.ireturn, 1) := by decide +kernel
theorem dX9_isLikeAnEarlierOne_0 : decode cX9_isLikeAnEarlierOne 0 = .ok (.iconst 0, 1) := by decide +kernel
theorem dX9_isLikeAnEarlierOne_1 : decode cX9_isLikeAnEarlierOne 1 = .ok (.istore_n 2, 1) := by decide +kernel
theorem dX9_isLikeAnEarlierOne_2 : decode cX9_isLikeAnEarlierOne 2 = .ok (.iload_n 2, 1) := by decide +kernel
theorem dX9_isLikeAnEarlierOne_3 : decode cX9_isLikeAnEarlierOne 3 = .ok (.iload_n 1, 1) := by decide +kernel
theorem dX9_isLikeAnEarlierOne_4 : decode cX9_isLikeAnEarlierOne 4 = .ok (.if_icmp .ge 39, 3) := by decide +kernel
theorem dX9_isLikeAnEarlierOne_7 : decode cX9_isLikeAnEarlierOne 7 = .ok (.aload_n 0, 1) := by decide +kernel
theorem dX9_isLikeAnEarlierOne_8 : decode cX9_isLikeAnEarlierOne 8 = .ok (.iload_n 2, 1) := by decide +kernel
theorem dX9_isLikeAnEarlierOne_9 : decode cX9_isLikeAnEarlierOne 9 = .ok (.invokevirtual 38, 3) := by decide +kernel
theorem dX9_isLikeAnEarlierOne_12 : decode cX9_isLikeAnEarlierOne 12 = .ok (.aload_n 0, 1) := by decide +kernel
theorem dX9_isLikeAnEarlierOne_13 : decode cX9_isLikeAnEarlierOne 13 = .ok (.iload_n 1, 1) := by decide +kernel
theorem dX9_isLikeAnEarlierOne_14 : decode cX9_isLikeAnEarlierOne 14 = .ok (.invokevirtual 38, 3) := by decide +kernel
theorem dX9_isLikeAnEarlierOne_17 : decode cX9_isLikeAnEarlierOne 17 = .ok (.lcmp, 1) := by decide +kernel
theorem dX9_isLikeAnEarlierOne_18 : decode cX9_isLikeAnEarlierOne 18 = .ok (.ifCond .ne 19, 3) := by decide +kernel
theorem dX9_isLikeAnEarlierOne_21 : decode cX9_isLikeAnEarlierOne 21 = .ok (.aload_n 0, 1) := by decide +kernel
theorem dX9_isLikeAnEarlierOne_22 : decode cX9_isLikeAnEarlierOne 22 = .ok (.iload_n 2, 1) := by decide +kernel
theorem dX9_isLikeAnEarlierOne_23 : decode cX9_isLikeAnEarlierOne 23 = .ok (.invokevirtual 41, 3) := by decide +kernel
theorem dX9_isLikeAnEarlierOne_26 : decode cX9_isLikeAnEarlierOne 26 = .ok (.aload_n 0, 1) := by decide +kernel
theorem dX9_isLikeAnEarlierOne_27 : decode cX9_isLikeAnEarlierOne 27 = .ok (.iload_n 1, 1) := by decide +kernel
theorem dX9_isLikeAnEarlierOne_28 : decode cX9_isLikeAnEarlierOne 28 = .ok (.invokevirtual 41, 3) := by decide +kernel
theorem dX9_isLikeAnEarlierOne_31 : decode cX9_isLikeAnEarlierOne 31 = .ok (.lcmp, 1) := by decide +kernel
theorem dX9_isLikeAnEarlierOne_32 : decode cX9_isLikeAnEarlierOne 32 = .ok (.ifCond .ne 5, 3) := by decide +kernel
theorem dX9_isLikeAnEarlierOne_35 : decode cX9_isLikeAnEarlierOne 35 = .ok (.iconst 1, 1) := by decide +kernel
theorem dX9_isLikeAnEarlierOne_36 : decode cX9_isLikeAnEarlierOne 36 = .ok (.ireturn, 1) := by decide +kernel
theorem dX9_isLikeAnEarlierOne_37 : decode cX9_isLikeAnEarlierOne 37 = .ok (.iinc 2 1, 3) := by decide +kernel
theorem dX9_isLikeAnEarlierOne_40 : decode cX9_isLikeAnEarlierOne 40 = .ok (.goto (-38), 3) := by decide +kernel
theorem dX9_isLikeAnEarlierOne_43 : decode cX9_isLikeAnEarlierOne 43 = .ok (.iconst 0, 1) := by decide +kernel
theorem dX9_isLikeAnEarlierOne_44 : decode cX9_isLikeAnEarlierOne 44 = .ok (.ireturn, 1) := by decide +kernel
theorem dX10_init_0 : decode cX10_init 0 = .ok (.aload_n 0, 1) := by decide +kernel
theorem dX10_init_1 : decode cX10_init 1 = .ok (.invokespecial 3, 3) := by decide +kernel
theorem dX10_init_4 : decode cX10_init 4 = .ok (.aload_n 0, 1) := by decide +kernel
theorem dX10_init_5 : decode cX10_init 5 = .ok (.iconst 4, 1) := by decide +kernel
theorem dX10_init_6 : decode cX10_init 6 = .ok (.newarray .int, 2) := by decide +kernel
theorem dX10_init_8 : decode cX10_init 8 = .ok (.putfield 9, 3) := by decide +kernel
theorem dX10_init_11 : decode cX10_init 11 = .ok (.aload_n 0, 1) := by decide +kernel
theorem dX10_init_12 : decode cX10_init 12 = .ok (.iconst 1, 1) := by decide +kernel
theorem dX10_init_13 : decode cX10_init 13 = .ok (.putfield 15, 3) := by decide +kernel
theorem dX10_init_16 : decode cX10_init 16 = .ok (.return_, 1) := by decide +kernel
theorem dX10_setOne_0 : decode cX10_setOne 0 = .ok (.aload_n 0, 1) := by decide +kernel
theorem dX10_setOne_1 : decode cX10_setOne 1 = .ok (.getfield 9, 3) := by decide +kernel
theorem dX10_setOne_4 : decode cX10_setOne 4 = .ok (.iconst 0, 1) := by decide +kernel
theorem dX10_setOne_5 : decode cX10_setOne 5 = .ok (.invokestatic 19, 3) := by decide +kernel
theorem dX10_setOne_8 : decode cX10_setOne 8 = .ok (.aload_n 0, 1) := by decide +kernel
theorem dX10_setOne_9 : decode cX10_setOne 9 = .ok (.iconst 1, 1) := by decide +kernel
theorem dX10_setOne_10 : decode cX10_setOne 10 = .ok (.putfield 15, 3) := by decide +kernel
theorem dX10_setOne_13 : decode cX10_setOne 13 = .ok (.return_, 1) := by decide +kernel
theorem dX10_copy_0 : decode cX10_copy 0 = .ok (.aload_n 1, 1) := by decide +kernel
theorem dX10_copy_1 : decode cX10_copy 1 = .ok (.getfield 9, 3) := by decide +kernel
theorem dX10_copy_4 : decode cX10_copy 4 = .ok (.iconst 0, 1) := by decide +kernel
theorem dX10_copy_5 : decode cX10_copy 5 = .ok (.aload_n 0, 1) := by decide +kernel
theorem dX10_copy_6 : decode cX10_copy 6 = .ok (.getfield 9, 3) := by decide +kernel
theorem dX10_copy_9 : decode cX10_copy 9 = .ok (.iconst 0, 1) := by decide +kernel
theorem dX10_copy_10 : decode cX10_copy 10 = .ok (.iconst 4, 1) := by decide +kernel
theorem dX10_copy_11 : decode cX10_copy 11 = .ok (.invokestatic 25, 3) := by decide +kernel
theorem dX10_copy_14 : decode cX10_copy 14 = .ok (.aload_n 0, 1) := by decide +kernel
theorem dX10_copy_15 : decode cX10_copy 15 = .ok (.aload_n 1, 1) := by decide +kernel
theorem dX10_copy_16 : decode cX10_copy 16 = .ok (.getfield 15, 3) := by decide +kernel
theorem dX10_copy_19 : decode cX10_copy 19 = .ok (.putfield 15, 3) := by decide +kernel
theorem dX10_copy_22 : decode cX10_copy 22 = .ok (.return_, 1) := by decide +kernel
theorem dX10_insertPower_0 : decode cX10_insertPower 0 = .ok (.iconst 3, 1) := by decide +kernel
theorem dX10_insertPower_1 : decode cX10_insertPower 1 = .ok (.istore_n 2, 1) := by decide +kernel
theorem dX10_insertPower_2 : decode cX10_insertPower 2 = .ok (.iload_n 2, 1) := by decide +kernel
theorem dX10_insertPower_3 : decode cX10_insertPower 3 = .ok (.iload_n 1, 1) := by decide +kernel
theorem dX10_insertPower_4 : decode cX10_insertPower 4 = .ok (.if_icmp .le 23, 3) := by decide +kernel
theorem dX10_insertPower_7 : decode cX10_insertPower 7 = .ok (.aload_n 0, 1) := by decide +kernel
theorem dX10_insertPower_8 : decode cX10_insertPower 8 = .ok (.getfield 9, 3) := by decide +kernel
theorem dX10_insertPower_11 : decode cX10_insertPower 11 = .ok (.iload_n 2, 1) := by decide +kernel
theorem dX10_insertPower_12 : decode cX10_insertPower 12 = .ok (.aload_n 0, 1) := by decide +kernel
theorem dX10_insertPower_13 : decode cX10_insertPower 13 = .ok (.getfield 9, 3) := by decide +kernel
theorem dX10_insertPower_16 : decode cX10_insertPower 16 = .ok (.iload_n 2, 1) := by decide +kernel
theorem dX10_insertPower_17 : decode cX10_insertPower 17 = .ok (.iconst 1, 1) := by decide +kernel
theorem dX10_insertPower_18 : decode cX10_insertPower 18 = .ok (.isub, 1) := by decide +kernel
theorem dX10_insertPower_19 : decode cX10_insertPower 19 = .ok (.iaload, 1) := by decide +kernel
theorem dX10_insertPower_20 : decode cX10_insertPower 20 = .ok (.iastore, 1) := by decide +kernel
theorem dX10_insertPower_21 : decode cX10_insertPower 21 = .ok (.iinc 2 (-1), 3) := by decide +kernel
theorem dX10_insertPower_24 : decode cX10_insertPower 24 = .ok (.goto (-22), 3) := by decide +kernel
theorem dX10_insertPower_27 : decode cX10_insertPower 27 = .ok (.iload_n 1, 1) := by decide +kernel
theorem dX10_insertPower_28 : decode cX10_insertPower 28 = .ok (.ifCond .lt 15, 3) := by decide +kernel
theorem dX10_insertPower_31 : decode cX10_insertPower 31 = .ok (.iload_n 1, 1) := by decide +kernel
theorem dX10_insertPower_32 : decode cX10_insertPower 32 = .ok (.iconst 4, 1) := by decide +kernel
theorem dX10_insertPower_33 : decode cX10_insertPower 33 = .ok (.if_icmp .ge 10, 3) := by decide +kernel
theorem dX10_insertPower_36 : decode cX10_insertPower 36 = .ok (.aload_n 0, 1) := by decide +kernel
theorem dX10_insertPower_37 : decode cX10_insertPower 37 = .ok (.getfield 9, 3) := by decide +kernel
theorem dX10_insertPower_40 : decode cX10_insertPower 40 = .ok (.iload_n 1, 1) := by decide +kernel
theorem dX10_insertPower_41 : decode cX10_insertPower 41 = .ok (.iconst 0, 1) := by decide +kernel
theorem dX10_insertPower_42 : decode cX10_insertPower 42 = .ok (.iastore, 1) := by decide +kernel
theorem dX10_insertPower_43 : decode cX10_insertPower 43 = .ok (.return_, 1) := by decide +kernel
theorem dX10_removePower_0 : decode cX10_removePower 0 = .ok (.iload_n 1, 1) := by decide +kernel
theorem dX10_removePower_1 : decode cX10_removePower 1 = .ok (.iconst 0, 1) := by decide +kernel
theorem dX10_removePower_2 : decode cX10_removePower 2 = .ok (.invokestatic 31, 3) := by decide +kernel
theorem dX10_removePower_5 : decode cX10_removePower 5 = .ok (.istore_n 2, 1) := by decide +kernel
theorem dX10_removePower_6 : decode cX10_removePower 6 = .ok (.iload_n 2, 1) := by decide +kernel
theorem dX10_removePower_7 : decode cX10_removePower 7 = .ok (.iconst 3, 1) := by decide +kernel
theorem dX10_removePower_8 : decode cX10_removePower 8 = .ok (.if_icmp .ge 23, 3) := by decide +kernel
theorem dX10_removePower_11 : decode cX10_removePower 11 = .ok (.aload_n 0, 1) := by decide +kernel
theorem dX10_removePower_12 : decode cX10_removePower 12 = .ok (.getfield 9, 3) := by decide +kernel
theorem dX10_removePower_15 : decode cX10_removePower 15 = .ok (.iload_n 2, 1) := by decide +kernel
theorem dX10_removePower_16 : decode cX10_removePower 16 = .ok (.aload_n 0, 1) := by decide +kernel
theorem dX10_removePower_17 : decode cX10_removePower 17 = .ok (.getfield 9, 3) := by decide +kernel
theorem dX10_removePower_20 : decode cX10_removePower 20 = .ok (.iload_n 2, 1) := by decide +kernel
theorem dX10_removePower_21 : decode cX10_removePower 21 = .ok (.iconst 1, 1) := by decide +kernel
theorem dX10_removePower_22 : decode cX10_removePower 22 = .ok (.iadd, 1) := by decide +kernel
theorem dX10_removePower_23 : decode cX10_removePower 23 = .ok (.iaload, 1) := by decide +kernel
theorem dX10_removePower_24 : decode cX10_removePower 24 = .ok (.iastore, 1) := by decide +kernel
theorem dX10_removePower_25 : decode cX10_removePower 25 = .ok (.iinc 2 1, 3) := by decide +kernel
theorem dX10_removePower_28 : decode cX10_removePower 28 = .ok (.goto (-22), 3) := by decide +kernel
theorem dX10_removePower_31 : decode cX10_removePower 31 = .ok (.aload_n 0, 1) := by decide +kernel
theorem dX10_removePower_32 : decode cX10_removePower 32 = .ok (.getfield 9, 3) := by decide +kernel
theorem dX10_removePower_35 : decode cX10_removePower 35 = .ok (.iconst 3, 1) := by decide +kernel
theorem dX10_removePower_36 : decode cX10_removePower 36 = .ok (.iconst 0, 1) := by decide +kernel
theorem dX10_removePower_37 : decode cX10_removePower 37 = .ok (.iastore, 1) := by decide +kernel
theorem dX10_removePower_38 : decode cX10_removePower 38 = .ok (.return_, 1) := by decide +kernel
theorem dX10_above_0 : decode cX10_above 0 = .ok (.aload_n 0, 1) := by decide +kernel
theorem dX10_above_1 : decode cX10_above 1 = .ok (.getfield 15, 3) := by decide +kernel
theorem dX10_above_4 : decode cX10_above 4 = .ok (.i2l, 1) := by decide +kernel
theorem dX10_above_5 : decode cX10_above 5 = .ok (.aload_n 0, 1) := by decide +kernel
theorem dX10_above_6 : decode cX10_above 6 = .ok (.aload_n 1, 1) := by decide +kernel
theorem dX10_above_7 : decode cX10_above 7 = .ok (.iconst 1, 1) := by decide +kernel
theorem dX10_above_8 : decode cX10_above 8 = .ok (.invokevirtual 37, 3) := by decide +kernel
theorem dX10_above_11 : decode cX10_above 11 = .ok (.lmul, 1) := by decide +kernel
theorem dX10_above_12 : decode cX10_above 12 = .ok (.lreturn, 1) := by decide +kernel
theorem dX10_below_0 : decode cX10_below 0 = .ok (.aload_n 0, 1) := by decide +kernel
theorem dX10_below_1 : decode cX10_below 1 = .ok (.aload_n 1, 1) := by decide +kernel
theorem dX10_below_2 : decode cX10_below 2 = .ok (.iconst (-1), 1) := by decide +kernel
theorem dX10_below_3 : decode cX10_below 3 = .ok (.invokevirtual 37, 3) := by decide +kernel
theorem dX10_below_6 : decode cX10_below 6 = .ok (.lreturn, 1) := by decide +kernel
theorem dX10_oneSide_0 : decode cX10_oneSide 0 = .ok (.lconst 1, 1) := by decide +kernel
theorem dX10_oneSide_1 : decode cX10_oneSide 1 = .ok (.lstore_n 3, 1) := by decide +kernel
theorem dX10_oneSide_2 : decode cX10_oneSide 2 = .ok (.iconst 0, 1) := by decide +kernel
theorem dX10_oneSide_3 : decode cX10_oneSide 3 = .ok (.istore 5, 2) := by decide +kernel
theorem dX10_oneSide_5 : decode cX10_oneSide 5 = .ok (.iload 5, 2) := by decide +kernel
theorem dX10_oneSide_7 : decode cX10_oneSide 7 = .ok (.aload_n 1, 1) := by decide +kernel
theorem dX10_oneSide_8 : decode cX10_oneSide 8 = .ok (.getfield 41, 3) := by decide +kernel
theorem dX10_oneSide_11 : decode cX10_oneSide 11 = .ok (.if_icmp .ge 47, 3) := by decide +kernel
theorem dX10_oneSide_14 : decode cX10_oneSide 14 = .ok (.iload_n 2, 1) := by decide +kernel
theorem dX10_oneSide_15 : decode cX10_oneSide 15 = .ok (.aload_n 0, 1) := by decide +kernel
theorem dX10_oneSide_16 : decode cX10_oneSide 16 = .ok (.getfield 9, 3) := by decide +kernel
theorem dX10_oneSide_19 : decode cX10_oneSide 19 = .ok (.iload 5, 2) := by decide +kernel
theorem dX10_oneSide_21 : decode cX10_oneSide 21 = .ok (.iaload, 1) := by decide +kernel
theorem dX10_oneSide_22 : decode cX10_oneSide 22 = .ok (.imul, 1) := by decide +kernel
theorem dX10_oneSide_23 : decode cX10_oneSide 23 = .ok (.istore 6, 2) := by decide +kernel
theorem dX10_oneSide_25 : decode cX10_oneSide 25 = .ok (.iconst 0, 1) := by decide +kernel
theorem dX10_oneSide_26 : decode cX10_oneSide 26 = .ok (.istore 7, 2) := by decide +kernel
theorem dX10_oneSide_28 : decode cX10_oneSide 28 = .ok (.iload 7, 2) := by decide +kernel
theorem dX10_oneSide_30 : decode cX10_oneSide 30 = .ok (.iload 6, 2) := by decide +kernel
theorem dX10_oneSide_32 : decode cX10_oneSide 32 = .ok (.if_icmp .ge 20, 3) := by decide +kernel
theorem dX10_oneSide_35 : decode cX10_oneSide 35 = .ok (.lload_n 3, 1) := by decide +kernel
theorem dX10_oneSide_36 : decode cX10_oneSide 36 = .ok (.aload_n 1, 1) := by decide +kernel
theorem dX10_oneSide_37 : decode cX10_oneSide 37 = .ok (.getfield 46, 3) := by decide +kernel
theorem dX10_oneSide_40 : decode cX10_oneSide 40 = .ok (.iload 5, 2) := by decide +kernel
theorem dX10_oneSide_42 : decode cX10_oneSide 42 = .ok (.iaload, 1) := by decide +kernel
theorem dX10_oneSide_43 : decode cX10_oneSide 43 = .ok (.i2l, 1) := by decide +kernel
theorem dX10_oneSide_44 : decode cX10_oneSide 44 = .ok (.lmul, 1) := by decide +kernel
theorem dX10_oneSide_45 : decode cX10_oneSide 45 = .ok (.lstore_n 3, 1) := by decide +kernel
theorem dX10_oneSide_46 : decode cX10_oneSide 46 = .ok (.iinc 7 1, 3) := by decide +kernel
theorem dX10_oneSide_49 : decode cX10_oneSide 49 = .ok (.goto (-21), 3) := by decide +kernel
theorem dX10_oneSide_52 : decode cX10_oneSide 52 = .ok (.iinc 5 1, 3) := by decide +kernel
theorem dX10_oneSide_55 : decode cX10_oneSide 55 = .ok (.goto (-50), 3) := by decide +kernel
theorem dX10_oneSide_58 : decode cX10_oneSide 58 = .ok (.lload_n 3, 1) := by decide +kernel
theorem dX10_oneSide_59 : decode cX10_oneSide 59 = .ok (.lreturn, 1) := by decide +kernel
theorem dX10_greatestPower_0 : decode cX10_greatestPower 0 = .ok (.iconst 0, 1) := by decide +kernel
theorem dX10_greatestPower_1 : decode cX10_greatestPower 1 = .ok (.istore_n 1, 1) := by decide +kernel
theorem dX10_greatestPower_2 : decode cX10_greatestPower 2 = .ok (.aload_n 0, 1) := by decide +kernel
theorem dX10_greatestPower_3 : decode cX10_greatestPower 3 = .ok (.getfield 9, 3) := by decide +kernel
theorem dX10_greatestPower_6 : decode cX10_greatestPower 6 = .ok (.astore_n 2, 1) := by decide +kernel
theorem dX10_greatestPower_7 : decode cX10_greatestPower 7 = .ok (.aload_n 2, 1) := by decide +kernel
theorem dX10_greatestPower_8 : decode cX10_greatestPower 8 = .ok (.arraylength, 1) := by decide +kernel
theorem dX10_greatestPower_9 : decode cX10_greatestPower 9 = .ok (.istore_n 3, 1) := by decide +kernel
theorem dX10_greatestPower_10 : decode cX10_greatestPower 10 = .ok (.iconst 0, 1) := by decide +kernel
theorem dX10_greatestPower_11 : decode cX10_greatestPower 11 = .ok (.istore 4, 2) := by decide +kernel
theorem dX10_greatestPower_13 : decode cX10_greatestPower 13 = .ok (.iload 4, 2) := by decide +kernel
theorem dX10_greatestPower_15 : decode cX10_greatestPower 15 = .ok (.iload_n 3, 1) := by decide +kernel
theorem dX10_greatestPower_16 : decode cX10_greatestPower 16 = .ok (.if_icmp .ge 25, 3) := by decide +kernel
theorem dX10_greatestPower_19 : decode cX10_greatestPower 19 = .ok (.aload_n 2, 1) := by decide +kernel
theorem dX10_greatestPower_20 : decode cX10_greatestPower 20 = .ok (.iload 4, 2) := by decide +kernel
theorem dX10_greatestPower_22 : decode cX10_greatestPower 22 = .ok (.iaload, 1) := by decide +kernel
theorem dX10_greatestPower_23 : decode cX10_greatestPower 23 = .ok (.istore 5, 2) := by decide +kernel
theorem dX10_greatestPower_25 : decode cX10_greatestPower 25 = .ok (.iload_n 1, 1) := by decide +kernel
theorem dX10_greatestPower_26 : decode cX10_greatestPower 26 = .ok (.iload 5, 2) := by decide +kernel
theorem dX10_greatestPower_28 : decode cX10_greatestPower 28 = .ok (.invokestatic 49, 3) := by decide +kernel
theorem dX10_greatestPower_31 : decode cX10_greatestPower 31 = .ok (.invokestatic 31, 3) := by decide +kernel
theorem dX10_greatestPower_34 : decode cX10_greatestPower 34 = .ok (.istore_n 1, 1) := by decide +kernel
theorem dX10_greatestPower_35 : decode cX10_greatestPower 35 = .ok (.iinc 4 1, 3) := by decide +kernel
theorem dX10_greatestPower_38 : decode cX10_greatestPower 38 = .ok (.goto (-25), 3) := by decide +kernel
theorem dX10_greatestPower_41 : decode cX10_greatestPower 41 = .ok (.iload_n 1, 1) := by decide +kernel
theorem dX10_greatestPower_42 : decode cX10_greatestPower 42 = .ok (.ireturn, 1) := by decide +kernel
theorem dX10_isInRange_0 : decode cX10_isInRange 0 = .ok (.aload_n 0, 1) := by decide +kernel
theorem dX10_isInRange_1 : decode cX10_isInRange 1 = .ok (.invokevirtual 53, 3) := by decide +kernel
theorem dX10_isInRange_4 : decode cX10_isInRange 4 = .ok (.bipush 6, 2) := by decide +kernel
theorem dX10_isInRange_6 : decode cX10_isInRange 6 = .ok (.if_icmp .gt 7, 3) := by decide +kernel
theorem dX10_isInRange_9 : decode cX10_isInRange 9 = .ok (.iconst 1, 1) := by decide +kernel
theorem dX10_isInRange_10 : decode cX10_isInRange 10 = .ok (.goto 4, 3) := by decide +kernel
theorem dX10_isInRange_13 : decode cX10_isInRange 13 = .ok (.iconst 0, 1) := by decide +kernel
theorem dX10_isInRange_14 : decode cX10_isInRange 14 = .ok (.ireturn, 1) := by decide +kernel
theorem dX10_isWithin_0 : decode cX10_isWithin 0 = .ok (.iconst 0, 1) := by decide +kernel
theorem dX10_isWithin_1 : decode cX10_isWithin 1 = .ok (.istore_n 2, 1) := by decide +kernel
theorem dX10_isWithin_2 : decode cX10_isWithin 2 = .ok (.iload_n 2, 1) := by decide +kernel
theorem dX10_isWithin_3 : decode cX10_isWithin 3 = .ok (.aload_n 1, 1) := by decide +kernel
theorem dX10_isWithin_4 : decode cX10_isWithin 4 = .ok (.getfield 41, 3) := by decide +kernel
theorem dX10_isWithin_7 : decode cX10_isWithin 7 = .ok (.if_icmp .ge 29, 3) := by decide +kernel
theorem dX10_isWithin_10 : decode cX10_isWithin 10 = .ok (.aload_n 0, 1) := by decide +kernel
theorem dX10_isWithin_11 : decode cX10_isWithin 11 = .ok (.getfield 9, 3) := by decide +kernel
theorem dX10_isWithin_14 : decode cX10_isWithin 14 = .ok (.iload_n 2, 1) := by decide +kernel
theorem dX10_isWithin_15 : decode cX10_isWithin 15 = .ok (.iaload, 1) := by decide +kernel
theorem dX10_isWithin_16 : decode cX10_isWithin 16 = .ok (.invokestatic 49, 3) := by decide +kernel
theorem dX10_isWithin_19 : decode cX10_isWithin 19 = .ok (.aload_n 1, 1) := by decide +kernel
theorem dX10_isWithin_20 : decode cX10_isWithin 20 = .ok (.getfield 57, 3) := by decide +kernel
theorem dX10_isWithin_23 : decode cX10_isWithin 23 = .ok (.iload_n 2, 1) := by decide +kernel
theorem dX10_isWithin_24 : decode cX10_isWithin 24 = .ok (.iaload, 1) := by decide +kernel
theorem dX10_isWithin_25 : decode cX10_isWithin 25 = .ok (.if_icmp .le 5, 3) := by decide +kernel
theorem dX10_isWithin_28 : decode cX10_isWithin 28 = .ok (.iconst 0, 1) := by decide +kernel
theorem dX10_isWithin_29 : decode cX10_isWithin 29 = .ok (.ireturn, 1) := by decide +kernel
theorem dX10_isWithin_30 : decode cX10_isWithin 30 = .ok (.iinc 2 1, 3) := by decide +kernel
theorem dX10_isWithin_33 : decode cX10_isWithin 33 = .ok (.goto (-31), 3) := by decide +kernel
theorem dX10_isWithin_36 : decode cX10_isWithin 36 = .ok (.iconst 1, 1) := by decide +kernel
theorem dX10_isWithin_37 : decode cX10_isWithin 37 = .ok (.ireturn, 1) := by decide +kernel
theorem dX10_setProduct_0 : decode cX10_setProduct 0 = .ok (.iconst 0, 1) := by decide +kernel
theorem dX10_setProduct_1 : decode cX10_setProduct 1 = .ok (.istore 4, 2) := by decide +kernel
theorem dX10_setProduct_3 : decode cX10_setProduct 3 = .ok (.iload 4, 2) := by decide +kernel
theorem dX10_setProduct_5 : decode cX10_setProduct 5 = .ok (.iconst 4, 1) := by decide +kernel
theorem dX10_setProduct_6 : decode cX10_setProduct 6 = .ok (.if_icmp .ge 33, 3) := by decide +kernel
theorem dX10_setProduct_9 : decode cX10_setProduct 9 = .ok (.aload_n 0, 1) := by decide +kernel
theorem dX10_setProduct_10 : decode cX10_setProduct 10 = .ok (.getfield 9, 3) := by decide +kernel
theorem dX10_setProduct_13 : decode cX10_setProduct 13 = .ok (.iload 4, 2) := by decide +kernel
theorem dX10_setProduct_15 : decode cX10_setProduct 15 = .ok (.aload_n 1, 1) := by decide +kernel
theorem dX10_setProduct_16 : decode cX10_setProduct 16 = .ok (.getfield 9, 3) := by decide +kernel
theorem dX10_setProduct_19 : decode cX10_setProduct 19 = .ok (.iload 4, 2) := by decide +kernel
theorem dX10_setProduct_21 : decode cX10_setProduct 21 = .ok (.iaload, 1) := by decide +kernel
theorem dX10_setProduct_22 : decode cX10_setProduct 22 = .ok (.iload_n 3, 1) := by decide +kernel
theorem dX10_setProduct_23 : decode cX10_setProduct 23 = .ok (.aload_n 2, 1) := by decide +kernel
theorem dX10_setProduct_24 : decode cX10_setProduct 24 = .ok (.getfield 9, 3) := by decide +kernel
theorem dX10_setProduct_27 : decode cX10_setProduct 27 = .ok (.iload 4, 2) := by decide +kernel
theorem dX10_setProduct_29 : decode cX10_setProduct 29 = .ok (.iaload, 1) := by decide +kernel
theorem dX10_setProduct_30 : decode cX10_setProduct 30 = .ok (.imul, 1) := by decide +kernel
theorem dX10_setProduct_31 : decode cX10_setProduct 31 = .ok (.iadd, 1) := by decide +kernel
theorem dX10_setProduct_32 : decode cX10_setProduct 32 = .ok (.iastore, 1) := by decide +kernel
theorem dX10_setProduct_33 : decode cX10_setProduct 33 = .ok (.iinc 4 1, 3) := by decide +kernel
theorem dX10_setProduct_36 : decode cX10_setProduct 36 = .ok (.goto (-33), 3) := by decide +kernel
theorem dX10_setProduct_39 : decode cX10_setProduct 39 = .ok (.aload_n 0, 1) := by decide +kernel
theorem dX10_setProduct_40 : decode cX10_setProduct 40 = .ok (.aload_n 1, 1) := by decide +kernel
theorem dX10_setProduct_41 : decode cX10_setProduct 41 = .ok (.getfield 15, 3) := by decide +kernel
theorem dX10_setProduct_44 : decode cX10_setProduct 44 = .ok (.aload_n 2, 1) := by decide +kernel
theorem dX10_setProduct_45 : decode cX10_setProduct 45 = .ok (.getfield 15, 3) := by decide +kernel
theorem dX10_setProduct_48 : decode cX10_setProduct 48 = .ok (.imul, 1) := by decide +kernel
theorem dX10_setProduct_49 : decode cX10_setProduct 49 = .ok (.putfield 15, 3) := by decide +kernel
theorem dX10_setProduct_52 : decode cX10_setProduct 52 = .ok (.return_, 1) := by decide +kernel
theorem dX10_setFraction_0 : decode cX10_setFraction 0 = .ok (.aload_n 0, 1) := by decide +kernel
theorem dX10_setFraction_1 : decode cX10_setFraction 1 = .ok (.invokevirtual 60, 3) := by decide +kernel
theorem dX10_setFraction_4 : decode cX10_setFraction 4 = .ok (.lload_n 2, 1) := by decide +kernel
theorem dX10_setFraction_5 : decode cX10_setFraction 5 = .ok (.lconst 0, 1) := by decide +kernel
theorem dX10_setFraction_6 : decode cX10_setFraction 6 = .ok (.lcmp, 1) := by decide +kernel
theorem dX10_setFraction_7 : decode cX10_setFraction 7 = .ok (.ifCond .eq 10, 3) := by decide +kernel
theorem dX10_setFraction_10 : decode cX10_setFraction 10 = .ok (.lload 4, 2) := by decide +kernel
theorem dX10_setFraction_12 : decode cX10_setFraction 12 = .ok (.lconst 0, 1) := by decide +kernel
theorem dX10_setFraction_13 : decode cX10_setFraction 13 = .ok (.lcmp, 1) := by decide +kernel
theorem dX10_setFraction_14 : decode cX10_setFraction 14 = .ok (.ifCond .gt 5, 3) := by decide +kernel
theorem dX10_setFraction_17 : decode cX10_setFraction 17 = .ok (.iconst 0, 1) := by decide +kernel
theorem dX10_setFraction_18 : decode cX10_setFraction 18 = .ok (.ireturn, 1) := by decide +kernel
theorem dX10_setFraction_19 : decode cX10_setFraction 19 = .ok (.aload_n 0, 1) := by decide +kernel
theorem dX10_setFraction_20 : decode cX10_setFraction 20 = .ok (.lload_n 2, 1) := by decide +kernel
theorem dX10_setFraction_21 : decode cX10_setFraction 21 = .ok (.lconst 0, 1) := by decide +kernel
theorem dX10_setFraction_22 : decode cX10_setFraction 22 = .ok (.lcmp, 1) := by decide +kernel
theorem dX10_setFraction_23 : decode cX10_setFraction 23 = .ok (.ifCond .ge 7, 3) := by decide +kernel
theorem dX10_setFraction_26 : decode cX10_setFraction 26 = .ok (.iconst (-1), 1) := by decide +kernel
theorem dX10_setFraction_27 : decode cX10_setFraction 27 = .ok (.goto 4, 3) := by decide +kernel
theorem dX10_setFraction_30 : decode cX10_setFraction 30 = .ok (.iconst 1, 1) := by decide +kernel
theorem dX10_setFraction_31 : decode cX10_setFraction 31 = .ok (.putfield 15, 3) := by decide +kernel
theorem dX10_setFraction_34 : decode cX10_setFraction 34 = .ok (.lload_n 2, 1) := by decide +kernel
theorem dX10_setFraction_35 : decode cX10_setFraction 35 = .ok (.invokestatic 63, 3) := by decide +kernel
theorem dX10_setFraction_38 : decode cX10_setFraction 38 = .ok (.lstore 6, 2) := by decide +kernel
theorem dX10_setFraction_40 : decode cX10_setFraction 40 = .ok (.lload 4, 2) := by decide +kernel
theorem dX10_setFraction_42 : decode cX10_setFraction 42 = .ok (.lstore 8, 2) := by decide +kernel
theorem dX10_setFraction_44 : decode cX10_setFraction 44 = .ok (.iconst 0, 1) := by decide +kernel
theorem dX10_setFraction_45 : decode cX10_setFraction 45 = .ok (.istore 10, 2) := by decide +kernel
theorem dX10_setFraction_47 : decode cX10_setFraction 47 = .ok (.iload 10, 2) := by decide +kernel
theorem dX10_setFraction_49 : decode cX10_setFraction 49 = .ok (.aload_n 1, 1) := by decide +kernel
theorem dX10_setFraction_50 : decode cX10_setFraction 50 = .ok (.getfield 41, 3) := by decide +kernel
theorem dX10_setFraction_53 : decode cX10_setFraction 53 = .ok (.if_icmp .ge 108, 3) := by decide +kernel
theorem dX10_setFraction_56 : decode cX10_setFraction 56 = .ok (.aload_n 1, 1) := by decide +kernel
theorem dX10_setFraction_57 : decode cX10_setFraction 57 = .ok (.getfield 46, 3) := by decide +kernel
theorem dX10_setFraction_60 : decode cX10_setFraction 60 = .ok (.iload 10, 2) := by decide +kernel
theorem dX10_setFraction_62 : decode cX10_setFraction 62 = .ok (.iaload, 1) := by decide +kernel
theorem dX10_setFraction_63 : decode cX10_setFraction 63 = .ok (.istore 11, 2) := by decide +kernel
theorem dX10_setFraction_65 : decode cX10_setFraction 65 = .ok (.iconst 0, 1) := by decide +kernel
theorem dX10_setFraction_66 : decode cX10_setFraction 66 = .ok (.istore 12, 2) := by decide +kernel
theorem dX10_setFraction_68 : decode cX10_setFraction 68 = .ok (.iload 12, 2) := by decide +kernel
theorem dX10_setFraction_70 : decode cX10_setFraction 70 = .ok (.bipush 6, 2) := by decide +kernel
theorem dX10_setFraction_72 : decode cX10_setFraction 72 = .ok (.if_icmp .ge 38, 3) := by decide +kernel
theorem dX10_setFraction_75 : decode cX10_setFraction 75 = .ok (.iload 11, 2) := by decide +kernel
theorem dX10_setFraction_77 : decode cX10_setFraction 77 = .ok (.lload 6, 2) := by decide +kernel
theorem dX10_setFraction_79 : decode cX10_setFraction 79 = .ok (.invokestatic 66, 3) := by decide +kernel
theorem dX10_setFraction_82 : decode cX10_setFraction 82 = .ok (.ifCond .eq 28, 3) := by decide +kernel
theorem dX10_setFraction_85 : decode cX10_setFraction 85 = .ok (.lload 6, 2) := by decide +kernel
theorem dX10_setFraction_87 : decode cX10_setFraction 87 = .ok (.iload 11, 2) := by decide +kernel
theorem dX10_setFraction_89 : decode cX10_setFraction 89 = .ok (.i2l, 1) := by decide +kernel
theorem dX10_setFraction_90 : decode cX10_setFraction 90 = .ok (.ldiv, 1) := by decide +kernel
theorem dX10_setFraction_91 : decode cX10_setFraction 91 = .ok (.lstore 6, 2) := by decide +kernel
theorem dX10_setFraction_93 : decode cX10_setFraction 93 = .ok (.aload_n 0, 1) := by decide +kernel
theorem dX10_setFraction_94 : decode cX10_setFraction 94 = .ok (.getfield 9, 3) := by decide +kernel
theorem dX10_setFraction_97 : decode cX10_setFraction 97 = .ok (.iload 10, 2) := by decide +kernel
theorem dX10_setFraction_99 : decode cX10_setFraction 99 = .ok (.dup2, 1) := by decide +kernel
theorem dX10_setFraction_100 : decode cX10_setFraction 100 = .ok (.iaload, 1) := by decide +kernel
theorem dX10_setFraction_101 : decode cX10_setFraction 101 = .ok (.iconst 1, 1) := by decide +kernel
theorem dX10_setFraction_102 : decode cX10_setFraction 102 = .ok (.iadd, 1) := by decide +kernel
theorem dX10_setFraction_103 : decode cX10_setFraction 103 = .ok (.iastore, 1) := by decide +kernel
theorem dX10_setFraction_104 : decode cX10_setFraction 104 = .ok (.iinc 12 1, 3) := by decide +kernel
theorem dX10_setFraction_107 : decode cX10_setFraction 107 = .ok (.goto (-39), 3) := by decide +kernel
theorem dX10_setFraction_110 : decode cX10_setFraction 110 = .ok (.iconst 0, 1) := by decide +kernel
theorem dX10_setFraction_111 : decode cX10_setFraction 111 = .ok (.istore 12, 2) := by decide +kernel
theorem dX10_setFraction_113 : decode cX10_setFraction 113 = .ok (.iload 12, 2) := by decide +kernel
theorem dX10_setFraction_115 : decode cX10_setFraction 115 = .ok (.bipush 6, 2) := by decide +kernel
theorem dX10_setFraction_117 : decode cX10_setFraction 117 = .ok (.if_icmp .ge 38, 3) := by decide +kernel
theorem dX10_setFraction_120 : decode cX10_setFraction 120 = .ok (.iload 11, 2) := by decide +kernel
theorem dX10_setFraction_122 : decode cX10_setFraction 122 = .ok (.lload 8, 2) := by decide +kernel
theorem dX10_setFraction_124 : decode cX10_setFraction 124 = .ok (.invokestatic 66, 3) := by decide +kernel
theorem dX10_setFraction_127 : decode cX10_setFraction 127 = .ok (.ifCond .eq 28, 3) := by decide +kernel
theorem dX10_setFraction_130 : decode cX10_setFraction 130 = .ok (.lload 8, 2) := by decide +kernel
theorem dX10_setFraction_132 : decode cX10_setFraction 132 = .ok (.iload 11, 2) := by decide +kernel
theorem dX10_setFraction_134 : decode cX10_setFraction 134 = .ok (.i2l, 1) := by decide +kernel
theorem dX10_setFraction_135 : decode cX10_setFraction 135 = .ok (.ldiv, 1) := by decide +kernel
theorem dX10_setFraction_136 : decode cX10_setFraction 136 = .ok (.lstore 8, 2) := by decide +kernel
theorem dX10_setFraction_138 : decode cX10_setFraction 138 = .ok (.aload_n 0, 1) := by decide +kernel
theorem dX10_setFraction_139 : decode cX10_setFraction 139 = .ok (.getfield 9, 3) := by decide +kernel
theorem dX10_setFraction_142 : decode cX10_setFraction 142 = .ok (.iload 10, 2) := by decide +kernel
theorem dX10_setFraction_144 : decode cX10_setFraction 144 = .ok (.dup2, 1) := by decide +kernel
theorem dX10_setFraction_145 : decode cX10_setFraction 145 = .ok (.iaload, 1) := by decide +kernel
theorem dX10_setFraction_146 : decode cX10_setFraction 146 = .ok (.iconst 1, 1) := by decide +kernel
theorem dX10_setFraction_147 : decode cX10_setFraction 147 = .ok (.isub, 1) := by decide +kernel
theorem dX10_setFraction_148 : decode cX10_setFraction 148 = .ok (.iastore, 1) := by decide +kernel
theorem dX10_setFraction_149 : decode cX10_setFraction 149 = .ok (.iinc 12 1, 3) := by decide +kernel
theorem dX10_setFraction_152 : decode cX10_setFraction 152 = .ok (.goto (-39), 3) := by decide +kernel
theorem dX10_setFraction_155 : decode cX10_setFraction 155 = .ok (.iinc 10 1, 3) := by decide +kernel
theorem dX10_setFraction_158 : decode cX10_setFraction 158 = .ok (.goto (-111), 3) := by decide +kernel
theorem dX10_setFraction_161 : decode cX10_setFraction 161 = .ok (.lload 6, 2) := by decide +kernel
theorem dX10_setFraction_163 : decode cX10_setFraction 163 = .ok (.lconst 1, 1) := by decide +kernel
theorem dX10_setFraction_164 : decode cX10_setFraction 164 = .ok (.lcmp, 1) := by decide +kernel
theorem dX10_setFraction_165 : decode cX10_setFraction 165 = .ok (.ifCond .ne 14, 3) := by decide +kernel
theorem dX10_setFraction_168 : decode cX10_setFraction 168 = .ok (.lload 8, 2) := by decide +kernel
theorem dX10_setFraction_170 : decode cX10_setFraction 170 = .ok (.lconst 1, 1) := by decide +kernel
theorem dX10_setFraction_171 : decode cX10_setFraction 171 = .ok (.lcmp, 1) := by decide +kernel
theorem dX10_setFraction_172 : decode cX10_setFraction 172 = .ok (.ifCond .ne 7, 3) := by decide +kernel
theorem dX10_setFraction_175 : decode cX10_setFraction 175 = .ok (.iconst 1, 1) := by decide +kernel
theorem dX10_setFraction_176 : decode cX10_setFraction 176 = .ok (.goto 4, 3) := by decide +kernel
theorem dX10_setFraction_179 : decode cX10_setFraction 179 = .ok (.iconst 0, 1) := by decide +kernel
theorem dX10_setFraction_180 : decode cX10_setFraction 180 = .ok (.ireturn, 1) := by decide +kernel
theorem dX10_spell_0 : decode cX10_spell 0 = .ok (.aload_n 2, 1) := by decide +kernel
theorem dX10_spell_1 : decode cX10_spell 1 = .ok (.invokevirtual 70, 3) := by decide +kernel
theorem dX10_spell_4 : decode cX10_spell 4 = .ok (.aload_n 0, 1) := by decide +kernel
theorem dX10_spell_5 : decode cX10_spell 5 = .ok (.getfield 15, 3) := by decide +kernel
theorem dX10_spell_8 : decode cX10_spell 8 = .ok (.ifCond .ge 10, 3) := by decide +kernel
theorem dX10_spell_11 : decode cX10_spell 11 = .ok (.aload_n 2, 1) := by decide +kernel
theorem dX10_spell_12 : decode cX10_spell 12 = .ok (.bipush 45, 2) := by decide +kernel
theorem dX10_spell_14 : decode cX10_spell 14 = .ok (.invokevirtual 75, 3) := by decide +kernel
theorem dX10_spell_17 : decode cX10_spell 17 = .ok (.pop, 1) := by decide +kernel
theorem dX10_spell_18 : decode cX10_spell 18 = .ok (.iconst 1, 1) := by decide +kernel
theorem dX10_spell_19 : decode cX10_spell 19 = .ok (.istore_n 3, 1) := by decide +kernel
theorem dX10_spell_20 : decode cX10_spell 20 = .ok (.iconst 0, 1) := by decide +kernel
theorem dX10_spell_21 : decode cX10_spell 21 = .ok (.istore 4, 2) := by decide +kernel
theorem dX10_spell_23 : decode cX10_spell 23 = .ok (.iload 4, 2) := by decide +kernel
theorem dX10_spell_25 : decode cX10_spell 25 = .ok (.aload_n 1, 1) := by decide +kernel
theorem dX10_spell_26 : decode cX10_spell 26 = .ok (.getfield 41, 3) := by decide +kernel
theorem dX10_spell_29 : decode cX10_spell 29 = .ok (.if_icmp .ge 53, 3) := by decide +kernel
theorem dX10_spell_32 : decode cX10_spell 32 = .ok (.aload_n 0, 1) := by decide +kernel
theorem dX10_spell_33 : decode cX10_spell 33 = .ok (.getfield 9, 3) := by decide +kernel
theorem dX10_spell_36 : decode cX10_spell 36 = .ok (.iload 4, 2) := by decide +kernel
theorem dX10_spell_38 : decode cX10_spell 38 = .ok (.iaload, 1) := by decide +kernel
theorem dX10_spell_39 : decode cX10_spell 39 = .ok (.ifCond .ne 6, 3) := by decide +kernel
theorem dX10_spell_42 : decode cX10_spell 42 = .ok (.goto 34, 3) := by decide +kernel
theorem dX10_spell_45 : decode cX10_spell 45 = .ok (.iload_n 3, 1) := by decide +kernel
theorem dX10_spell_46 : decode cX10_spell 46 = .ok (.ifCond .ne 10, 3) := by decide +kernel
theorem dX10_spell_49 : decode cX10_spell 49 = .ok (.aload_n 2, 1) := by decide +kernel
theorem dX10_spell_50 : decode cX10_spell 50 = .ok (.bipush 42, 2) := by decide +kernel
theorem dX10_spell_52 : decode cX10_spell 52 = .ok (.invokevirtual 75, 3) := by decide +kernel
theorem dX10_spell_55 : decode cX10_spell 55 = .ok (.pop, 1) := by decide +kernel
theorem dX10_spell_56 : decode cX10_spell 56 = .ok (.iconst 0, 1) := by decide +kernel
theorem dX10_spell_57 : decode cX10_spell 57 = .ok (.istore_n 3, 1) := by decide +kernel
theorem dX10_spell_58 : decode cX10_spell 58 = .ok (.aload_n 1, 1) := by decide +kernel
theorem dX10_spell_59 : decode cX10_spell 59 = .ok (.getfield 46, 3) := by decide +kernel
theorem dX10_spell_62 : decode cX10_spell 62 = .ok (.iload 4, 2) := by decide +kernel
theorem dX10_spell_64 : decode cX10_spell 64 = .ok (.iaload, 1) := by decide +kernel
theorem dX10_spell_65 : decode cX10_spell 65 = .ok (.aload_n 0, 1) := by decide +kernel
theorem dX10_spell_66 : decode cX10_spell 66 = .ok (.getfield 9, 3) := by decide +kernel
theorem dX10_spell_69 : decode cX10_spell 69 = .ok (.iload 4, 2) := by decide +kernel
theorem dX10_spell_71 : decode cX10_spell 71 = .ok (.iaload, 1) := by decide +kernel
theorem dX10_spell_72 : decode cX10_spell 72 = .ok (.aload_n 2, 1) := by decide +kernel
theorem dX10_spell_73 : decode cX10_spell 73 = .ok (.invokestatic 79, 3) := by decide +kernel
theorem dX10_spell_76 : decode cX10_spell 76 = .ok (.iinc 4 1, 3) := by decide +kernel
theorem dX10_spell_79 : decode cX10_spell 79 = .ok (.goto (-56), 3) := by decide +kernel
theorem dX10_spell_82 : decode cX10_spell 82 = .ok (.iload_n 3, 1) := by decide +kernel
theorem dX10_spell_83 : decode cX10_spell 83 = .ok (.ifCond .eq 10, 3) := by decide +kernel
theorem dX10_spell_86 : decode cX10_spell 86 = .ok (.aload_n 2, 1) := by decide +kernel
theorem dX10_spell_87 : decode cX10_spell 87 = .ok (.bipush 49, 2) := by decide +kernel
theorem dX10_spell_89 : decode cX10_spell 89 = .ok (.invokevirtual 75, 3) := by decide +kernel
theorem dX10_spell_92 : decode cX10_spell 92 = .ok (.pop, 1) := by decide +kernel
theorem dX10_spell_93 : decode cX10_spell 93 = .ok (.return_, 1) := by decide +kernel
theorem dX10_spellFactor_0 : decode cX10_spellFactor 0 = .ok (.iload_n 0, 1) := by decide +kernel
theorem dX10_spellFactor_1 : decode cX10_spellFactor 1 = .ok (.bipush 10, 2) := by decide +kernel
theorem dX10_spellFactor_3 : decode cX10_spellFactor 3 = .ok (.if_icmp .lt 15, 3) := by decide +kernel
theorem dX10_spellFactor_6 : decode cX10_spellFactor 6 = .ok (.aload_n 2, 1) := by decide +kernel
theorem dX10_spellFactor_7 : decode cX10_spellFactor 7 = .ok (.bipush 48, 2) := by decide +kernel
theorem dX10_spellFactor_9 : decode cX10_spellFactor 9 = .ok (.iload_n 0, 1) := by decide +kernel
theorem dX10_spellFactor_10 : decode cX10_spellFactor 10 = .ok (.bipush 10, 2) := by decide +kernel
theorem dX10_spellFactor_12 : decode cX10_spellFactor 12 = .ok (.idiv, 1) := by decide +kernel
theorem dX10_spellFactor_13 : decode cX10_spellFactor 13 = .ok (.iadd, 1) := by decide +kernel
theorem dX10_spellFactor_14 : decode cX10_spellFactor 14 = .ok (.invokevirtual 75, 3) := by decide +kernel
theorem dX10_spellFactor_17 : decode cX10_spellFactor 17 = .ok (.pop, 1) := by decide +kernel
theorem dX10_spellFactor_18 : decode cX10_spellFactor 18 = .ok (.aload_n 2, 1) := by decide +kernel
theorem dX10_spellFactor_19 : decode cX10_spellFactor 19 = .ok (.bipush 48, 2) := by decide +kernel
theorem dX10_spellFactor_21 : decode cX10_spellFactor 21 = .ok (.iload_n 0, 1) := by decide +kernel
theorem dX10_spellFactor_22 : decode cX10_spellFactor 22 = .ok (.bipush 10, 2) := by decide +kernel
theorem dX10_spellFactor_24 : decode cX10_spellFactor 24 = .ok (.irem, 1) := by decide +kernel
theorem dX10_spellFactor_25 : decode cX10_spellFactor 25 = .ok (.iadd, 1) := by decide +kernel
theorem dX10_spellFactor_26 : decode cX10_spellFactor 26 = .ok (.invokevirtual 75, 3) := by decide +kernel
theorem dX10_spellFactor_29 : decode cX10_spellFactor 29 = .ok (.pop, 1) := by decide +kernel
theorem dX10_spellFactor_30 : decode cX10_spellFactor 30 = .ok (.iload_n 1, 1) := by decide +kernel
theorem dX10_spellFactor_31 : decode cX10_spellFactor 31 = .ok (.iconst 1, 1) := by decide +kernel
theorem dX10_spellFactor_32 : decode cX10_spellFactor 32 = .ok (.if_icmp .ne 4, 3) := by decide +kernel
theorem dX10_spellFactor_35 : decode cX10_spellFactor 35 = .ok (.return_, 1) := by decide +kernel
theorem dX10_spellFactor_36 : decode cX10_spellFactor 36 = .ok (.aload_n 2, 1) := by decide +kernel
theorem dX10_spellFactor_37 : decode cX10_spellFactor 37 = .ok (.bipush 94, 2) := by decide +kernel
theorem dX10_spellFactor_39 : decode cX10_spellFactor 39 = .ok (.invokevirtual 75, 3) := by decide +kernel
theorem dX10_spellFactor_42 : decode cX10_spellFactor 42 = .ok (.pop, 1) := by decide +kernel
theorem dX10_spellFactor_43 : decode cX10_spellFactor 43 = .ok (.iload_n 1, 1) := by decide +kernel
theorem dX10_spellFactor_44 : decode cX10_spellFactor 44 = .ok (.ifCond .ge 10, 3) := by decide +kernel
theorem dX10_spellFactor_47 : decode cX10_spellFactor 47 = .ok (.aload_n 2, 1) := by decide +kernel
theorem dX10_spellFactor_48 : decode cX10_spellFactor 48 = .ok (.bipush 45, 2) := by decide +kernel
theorem dX10_spellFactor_50 : decode cX10_spellFactor 50 = .ok (.invokevirtual 75, 3) := by decide +kernel
theorem dX10_spellFactor_53 : decode cX10_spellFactor 53 = .ok (.pop, 1) := by decide +kernel
theorem dX10_spellFactor_54 : decode cX10_spellFactor 54 = .ok (.aload_n 2, 1) := by decide +kernel
theorem dX10_spellFactor_55 : decode cX10_spellFactor 55 = .ok (.bipush 48, 2) := by decide +kernel
theorem dX10_spellFactor_57 : decode cX10_spellFactor 57 = .ok (.iload_n 1, 1) := by decide +kernel
theorem dX10_spellFactor_58 : decode cX10_spellFactor 58 = .ok (.invokestatic 49, 3) := by decide +kernel
theorem dX10_spellFactor_61 : decode cX10_spellFactor 61 = .ok (.iadd, 1) := by decide +kernel
theorem dX10_spellFactor_62 : decode cX10_spellFactor 62 = .ok (.invokevirtual 75, 3) := by decide +kernel
theorem dX10_spellFactor_65 : decode cX10_spellFactor 65 = .ok (.pop, 1) := by decide +kernel
theorem dX10_spellFactor_66 : decode cX10_spellFactor 66 = .ok (.return_, 1) := by decide +kernel
theorem dX11_init_0 : decode cX11_init 0 = .ok (.aload_n 0, 1) := by decide +kernel
theorem dX11_init_1 : decode cX11_init 1 = .ok (.invokespecial 3, 3) := by decide +kernel
theorem dX11_init_4 : decode cX11_init 4 = .ok (.aload_n 0, 1) := by decide +kernel
theorem dX11_init_5 : decode cX11_init 5 = .ok (.new 9, 3) := by decide +kernel
theorem dX11_init_8 : decode cX11_init 8 = .ok (.dup, 1) := by decide +kernel
theorem dX11_init_9 : decode cX11_init 9 = .ok (.invokespecial 11, 3) := by decide +kernel
theorem dX11_init_12 : decode cX11_init 12 = .ok (.putfield 12, 3) := by decide +kernel
theorem dX11_init_15 : decode cX11_init 15 = .ok (.aload_n 0, 1) := by decide +kernel
theorem dX11_init_16 : decode cX11_init 16 = .ok (.new 9, 3) := by decide +kernel
theorem dX11_init_19 : decode cX11_init 19 = .ok (.dup, 1) := by decide +kernel
theorem dX11_init_20 : decode cX11_init 20 = .ok (.invokespecial 11, 3) := by decide +kernel
theorem dX11_init_23 : decode cX11_init 23 = .ok (.putfield 18, 3) := by decide +kernel
theorem dX11_init_26 : decode cX11_init 26 = .ok (.aload_n 0, 1) := by decide +kernel
theorem dX11_init_27 : decode cX11_init 27 = .ok (.new 21, 3) := by decide +kernel
theorem dX11_init_30 : decode cX11_init 30 = .ok (.dup, 1) := by decide +kernel
theorem dX11_init_31 : decode cX11_init 31 = .ok (.invokespecial 23, 3) := by decide +kernel
theorem dX11_init_34 : decode cX11_init 34 = .ok (.putfield 24, 3) := by decide +kernel
theorem dX11_init_37 : decode cX11_init 37 = .ok (.aload_n 0, 1) := by decide +kernel
theorem dX11_init_38 : decode cX11_init 38 = .ok (.new 28, 3) := by decide +kernel
theorem dX11_init_41 : decode cX11_init 41 = .ok (.dup, 1) := by decide +kernel
theorem dX11_init_42 : decode cX11_init 42 = .ok (.invokespecial 30, 3) := by decide +kernel
theorem dX11_init_45 : decode cX11_init 45 = .ok (.putfield 31, 3) := by decide +kernel
theorem dX11_init_48 : decode cX11_init 48 = .ok (.aload_n 0, 1) := by decide +kernel
theorem dX11_init_49 : decode cX11_init 49 = .ok (.new 35, 3) := by decide +kernel
theorem dX11_init_52 : decode cX11_init 52 = .ok (.dup, 1) := by decide +kernel
theorem dX11_init_53 : decode cX11_init 53 = .ok (.invokespecial 37, 3) := by decide +kernel
theorem dX11_init_56 : decode cX11_init 56 = .ok (.putfield 38, 3) := by decide +kernel
theorem dX11_init_59 : decode cX11_init 59 = .ok (.aload_n 0, 1) := by decide +kernel
theorem dX11_init_60 : decode cX11_init 60 = .ok (.new 42, 3) := by decide +kernel
theorem dX11_init_63 : decode cX11_init 63 = .ok (.dup, 1) := by decide +kernel
theorem dX11_init_64 : decode cX11_init 64 = .ok (.invokespecial 44, 3) := by decide +kernel
theorem dX11_init_67 : decode cX11_init 67 = .ok (.putfield 45, 3) := by decide +kernel
theorem dX11_init_70 : decode cX11_init 70 = .ok (.aload_n 0, 1) := by decide +kernel
theorem dX11_init_71 : decode cX11_init 71 = .ok (.new 49, 3) := by decide +kernel
theorem dX11_init_74 : decode cX11_init 74 = .ok (.dup, 1) := by decide +kernel
theorem dX11_init_75 : decode cX11_init 75 = .ok (.invokespecial 51, 3) := by decide +kernel
theorem dX11_init_78 : decode cX11_init 78 = .ok (.putfield 52, 3) := by decide +kernel
theorem dX11_init_81 : decode cX11_init 81 = .ok (.aload_n 0, 1) := by decide +kernel
theorem dX11_init_82 : decode cX11_init 82 = .ok (.new 56, 3) := by decide +kernel
theorem dX11_init_85 : decode cX11_init 85 = .ok (.dup, 1) := by decide +kernel
theorem dX11_init_86 : decode cX11_init 86 = .ok (.bipush 60, 2) := by decide +kernel
theorem dX11_init_88 : decode cX11_init 88 = .ok (.invokespecial 58, 3) := by decide +kernel
theorem dX11_init_91 : decode cX11_init 91 = .ok (.putfield 61, 3) := by decide +kernel
theorem dX11_init_94 : decode cX11_init 94 = .ok (.aload_n 0, 1) := by decide +kernel
theorem dX11_init_95 : decode cX11_init 95 = .ok (.new 56, 3) := by decide +kernel
theorem dX11_init_98 : decode cX11_init 98 = .ok (.dup, 1) := by decide +kernel
theorem dX11_init_99 : decode cX11_init 99 = .ok (.bipush 32, 2) := by decide +kernel
theorem dX11_init_101 : decode cX11_init 101 = .ok (.invokespecial 58, 3) := by decide +kernel
theorem dX11_init_104 : decode cX11_init 104 = .ok (.putfield 65, 3) := by decide +kernel
theorem dX11_init_107 : decode cX11_init 107 = .ok (.aload_n 0, 1) := by decide +kernel
theorem dX11_init_108 : decode cX11_init 108 = .ok (.new 68, 3) := by decide +kernel
theorem dX11_init_111 : decode cX11_init 111 = .ok (.dup, 1) := by decide +kernel
theorem dX11_init_112 : decode cX11_init 112 = .ok (.invokespecial 70, 3) := by decide +kernel
theorem dX11_init_115 : decode cX11_init 115 = .ok (.putfield 71, 3) := by decide +kernel
theorem dX11_init_118 : decode cX11_init 118 = .ok (.aload_n 0, 1) := by decide +kernel
theorem dX11_init_119 : decode cX11_init 119 = .ok (.new 75, 3) := by decide +kernel
theorem dX11_init_122 : decode cX11_init 122 = .ok (.dup, 1) := by decide +kernel
theorem dX11_init_123 : decode cX11_init 123 = .ok (.invokespecial 77, 3) := by decide +kernel
theorem dX11_init_126 : decode cX11_init 126 = .ok (.putfield 78, 3) := by decide +kernel
theorem dX11_init_129 : decode cX11_init 129 = .ok (.return_, 1) := by decide +kernel
theorem dX11_prime_0 : decode cX11_prime 0 = .ok (.iload_n 1, 1) := by decide +kernel
theorem dX11_prime_1 : decode cX11_prime 1 = .ok (.iconst 2, 1) := by decide +kernel
theorem dX11_prime_2 : decode cX11_prime 2 = .ok (.bipush 31, 2) := by decide +kernel
theorem dX11_prime_4 : decode cX11_prime 4 = .ok (.invokestatic 82, 3) := by decide +kernel
theorem dX11_prime_7 : decode cX11_prime 7 = .ok (.ifCond .ne 6, 3) := by decide +kernel
theorem dX11_prime_10 : decode cX11_prime 10 = .ok (.bipush (-2), 2) := by decide +kernel
theorem dX11_prime_12 : decode cX11_prime 12 = .ok (.ireturn, 1) := by decide +kernel
theorem dX11_prime_13 : decode cX11_prime 13 = .ok (.aload_n 0, 1) := by decide +kernel
theorem dX11_prime_14 : decode cX11_prime 14 = .ok (.getfield 12, 3) := by decide +kernel
theorem dX11_prime_17 : decode cX11_prime 17 = .ok (.getfield 86, 3) := by decide +kernel
theorem dX11_prime_20 : decode cX11_prime 20 = .ok (.astore_n 2, 1) := by decide +kernel
theorem dX11_prime_21 : decode cX11_prime 21 = .ok (.aload_n 2, 1) := by decide +kernel
theorem dX11_prime_22 : decode cX11_prime 22 = .ok (.iload_n 1, 1) := by decide +kernel
theorem dX11_prime_23 : decode cX11_prime 23 = .ok (.invokevirtual 90, 3) := by decide +kernel
theorem dX11_prime_26 : decode cX11_prime 26 = .ok (.ifCond .lt 6, 3) := by decide +kernel
theorem dX11_prime_29 : decode cX11_prime 29 = .ok (.bipush (-3), 2) := by decide +kernel
theorem dX11_prime_31 : decode cX11_prime 31 = .ok (.ireturn, 1) := by decide +kernel
theorem dX11_prime_32 : decode cX11_prime 32 = .ok (.aload_n 2, 1) := by decide +kernel
theorem dX11_prime_33 : decode cX11_prime 33 = .ok (.getfield 96, 3) := by decide +kernel
theorem dX11_prime_36 : decode cX11_prime 36 = .ok (.iconst 4, 1) := by decide +kernel
theorem dX11_prime_37 : decode cX11_prime 37 = .ok (.if_icmp .ge 15, 3) := by decide +kernel
theorem dX11_prime_40 : decode cX11_prime 40 = .ok (.aload_n 2, 1) := by decide +kernel
theorem dX11_prime_41 : decode cX11_prime 41 = .ok (.invokevirtual 100, 3) := by decide +kernel
theorem dX11_prime_44 : decode cX11_prime 44 = .ok (.iload_n 1, 1) := by decide +kernel
theorem dX11_prime_45 : decode cX11_prime 45 = .ok (.imul, 1) := by decide +kernel
theorem dX11_prime_46 : decode cX11_prime 46 = .ok (.sipush 1000, 3) := by decide +kernel
theorem dX11_prime_49 : decode cX11_prime 49 = .ok (.if_icmp .le 6, 3) := by decide +kernel
theorem dX11_prime_52 : decode cX11_prime 52 = .ok (.bipush (-4), 2) := by decide +kernel
theorem dX11_prime_54 : decode cX11_prime 54 = .ok (.ireturn, 1) := by decide +kernel
theorem dX11_prime_55 : decode cX11_prime 55 = .ok (.aload_n 0, 1) := by decide +kernel
theorem dX11_prime_56 : decode cX11_prime 56 = .ok (.getfield 12, 3) := by decide +kernel
theorem dX11_prime_59 : decode cX11_prime 59 = .ok (.iload_n 1, 1) := by decide +kernel
theorem dX11_prime_60 : decode cX11_prime 60 = .ok (.invokevirtual 104, 3) := by decide +kernel
theorem dX11_prime_63 : decode cX11_prime 63 = .ok (.aload_n 0, 1) := by decide +kernel
theorem dX11_prime_64 : decode cX11_prime 64 = .ok (.invokevirtual 107, 3) := by decide +kernel
theorem dX11_prime_67 : decode cX11_prime 67 = .ok (.aload_n 2, 1) := by decide +kernel
theorem dX11_prime_68 : decode cX11_prime 68 = .ok (.getfield 96, 3) := by decide +kernel
theorem dX11_prime_71 : decode cX11_prime 71 = .ok (.ireturn, 1) := by decide +kernel
theorem dX11_drop_0 : decode cX11_drop 0 = .ok (.aload_n 0, 1) := by decide +kernel
theorem dX11_drop_1 : decode cX11_drop 1 = .ok (.getfield 12, 3) := by decide +kernel
theorem dX11_drop_4 : decode cX11_drop 4 = .ok (.getfield 86, 3) := by decide +kernel
theorem dX11_drop_7 : decode cX11_drop 7 = .ok (.iload_n 1, 1) := by decide +kernel
theorem dX11_drop_8 : decode cX11_drop 8 = .ok (.invokevirtual 110, 3) := by decide +kernel
theorem dX11_drop_11 : decode cX11_drop 11 = .ok (.ifCond .ne 5, 3) := by decide +kernel
theorem dX11_drop_14 : decode cX11_drop 14 = .ok (.iconst (-1), 1) := by decide +kernel
theorem dX11_drop_15 : decode cX11_drop 15 = .ok (.ireturn, 1) := by decide +kernel
theorem dX11_drop_16 : decode cX11_drop 16 = .ok (.aload_n 0, 1) := by decide +kernel
theorem dX11_drop_17 : decode cX11_drop 17 = .ok (.getfield 12, 3) := by decide +kernel
theorem dX11_drop_20 : decode cX11_drop 20 = .ok (.iload_n 1, 1) := by decide +kernel
theorem dX11_drop_21 : decode cX11_drop 21 = .ok (.invokevirtual 114, 3) := by decide +kernel
theorem dX11_drop_24 : decode cX11_drop 24 = .ok (.aload_n 0, 1) := by decide +kernel
theorem dX11_drop_25 : decode cX11_drop 25 = .ok (.invokevirtual 107, 3) := by decide +kernel
theorem dX11_drop_28 : decode cX11_drop 28 = .ok (.aload_n 0, 1) := by decide +kernel
theorem dX11_drop_29 : decode cX11_drop 29 = .ok (.getfield 12, 3) := by decide +kernel
theorem dX11_drop_32 : decode cX11_drop 32 = .ok (.getfield 86, 3) := by decide +kernel
theorem dX11_drop_35 : decode cX11_drop 35 = .ok (.getfield 96, 3) := by decide +kernel
theorem dX11_drop_38 : decode cX11_drop 38 = .ok (.ireturn, 1) := by decide +kernel
theorem dX11_primeOf_0 : decode cX11_primeOf 0 = .ok (.aload_n 0, 1) := by decide +kernel
theorem dX11_primeOf_1 : decode cX11_primeOf 1 = .ok (.getfield 12, 3) := by decide +kernel
theorem dX11_primeOf_4 : decode cX11_primeOf 4 = .ok (.getfield 86, 3) := by decide +kernel
theorem dX11_primeOf_7 : decode cX11_primeOf 7 = .ok (.iload_n 1, 1) := by decide +kernel
theorem dX11_primeOf_8 : decode cX11_primeOf 8 = .ok (.invokevirtual 110, 3) := by decide +kernel
theorem dX11_primeOf_11 : decode cX11_primeOf 11 = .ok (.ifCond .eq 18, 3) := by decide +kernel
theorem dX11_primeOf_14 : decode cX11_primeOf 14 = .ok (.aload_n 0, 1) := by decide +kernel
theorem dX11_primeOf_15 : decode cX11_primeOf 15 = .ok (.getfield 12, 3) := by decide +kernel
theorem dX11_primeOf_18 : decode cX11_primeOf 18 = .ok (.getfield 86, 3) := by decide +kernel
theorem dX11_primeOf_21 : decode cX11_primeOf 21 = .ok (.getfield 117, 3) := by decide +kernel
theorem dX11_primeOf_24 : decode cX11_primeOf 24 = .ok (.iload_n 1, 1) := by decide +kernel
theorem dX11_primeOf_25 : decode cX11_primeOf 25 = .ok (.iaload, 1) := by decide +kernel
theorem dX11_primeOf_26 : decode cX11_primeOf 26 = .ok (.goto 4, 3) := by decide +kernel
theorem dX11_primeOf_29 : decode cX11_primeOf 29 = .ok (.iconst (-1), 1) := by decide +kernel
theorem dX11_primeOf_30 : decode cX11_primeOf 30 = .ok (.ireturn, 1) := by decide +kernel
theorem dX11_box_0 : decode cX11_box 0 = .ok (.aload_n 0, 1) := by decide +kernel
theorem dX11_box_1 : decode cX11_box 1 = .ok (.getfield 12, 3) := by decide +kernel
theorem dX11_box_4 : decode cX11_box 4 = .ok (.getfield 86, 3) := by decide +kernel
theorem dX11_box_7 : decode cX11_box 7 = .ok (.iload_n 1, 1) := by decide +kernel
theorem dX11_box_8 : decode cX11_box 8 = .ok (.invokevirtual 110, 3) := by decide +kernel
theorem dX11_box_11 : decode cX11_box 11 = .ok (.ifCond .ne 5, 3) := by decide +kernel
theorem dX11_box_14 : decode cX11_box 14 = .ok (.iconst (-1), 1) := by decide +kernel
theorem dX11_box_15 : decode cX11_box 15 = .ok (.ireturn, 1) := by decide +kernel
theorem dX11_box_16 : decode cX11_box 16 = .ok (.iload_n 2, 1) := by decide +kernel
theorem dX11_box_17 : decode cX11_box 17 = .ok (.ifCond .lt 8, 3) := by decide +kernel
theorem dX11_box_20 : decode cX11_box 20 = .ok (.iload_n 2, 1) := by decide +kernel
theorem dX11_box_21 : decode cX11_box 21 = .ok (.iconst 4, 1) := by decide +kernel
theorem dX11_box_22 : decode cX11_box 22 = .ok (.if_icmp .le 6, 3) := by decide +kernel
theorem dX11_box_25 : decode cX11_box 25 = .ok (.bipush (-2), 2) := by decide +kernel
theorem dX11_box_27 : decode cX11_box 27 = .ok (.ireturn, 1) := by decide +kernel
theorem dX11_box_28 : decode cX11_box 28 = .ok (.aload_n 0, 1) := by decide +kernel
theorem dX11_box_29 : decode cX11_box 29 = .ok (.getfield 12, 3) := by decide +kernel
theorem dX11_box_32 : decode cX11_box 32 = .ok (.getfield 86, 3) := by decide +kernel
theorem dX11_box_35 : decode cX11_box 35 = .ok (.getfield 121, 3) := by decide +kernel
theorem dX11_box_38 : decode cX11_box 38 = .ok (.iload_n 1, 1) := by decide +kernel
theorem dX11_box_39 : decode cX11_box 39 = .ok (.iaload, 1) := by decide +kernel
theorem dX11_box_40 : decode cX11_box 40 = .ok (.istore_n 3, 1) := by decide +kernel
theorem dX11_box_41 : decode cX11_box 41 = .ok (.aload_n 0, 1) := by decide +kernel
theorem dX11_box_42 : decode cX11_box 42 = .ok (.getfield 12, 3) := by decide +kernel
theorem dX11_box_45 : decode cX11_box 45 = .ok (.getfield 86, 3) := by decide +kernel
theorem dX11_box_48 : decode cX11_box 48 = .ok (.getfield 121, 3) := by decide +kernel
theorem dX11_box_51 : decode cX11_box 51 = .ok (.iload_n 1, 1) := by decide +kernel
theorem dX11_box_52 : decode cX11_box 52 = .ok (.iload_n 2, 1) := by decide +kernel
theorem dX11_box_53 : decode cX11_box 53 = .ok (.iastore, 1) := by decide +kernel
theorem dX11_box_54 : decode cX11_box 54 = .ok (.aload_n 0, 1) := by decide +kernel
theorem dX11_box_55 : decode cX11_box 55 = .ok (.invokevirtual 107, 3) := by decide +kernel
theorem dX11_box_58 : decode cX11_box 58 = .ok (.iload_n 3, 1) := by decide +kernel
theorem dX11_box_59 : decode cX11_box 59 = .ok (.ireturn, 1) := by decide +kernel
theorem dX11_boxOf_0 : decode cX11_boxOf 0 = .ok (.aload_n 0, 1) := by decide +kernel
theorem dX11_boxOf_1 : decode cX11_boxOf 1 = .ok (.getfield 12, 3) := by decide +kernel
theorem dX11_boxOf_4 : decode cX11_boxOf 4 = .ok (.getfield 86, 3) := by decide +kernel
theorem dX11_boxOf_7 : decode cX11_boxOf 7 = .ok (.iload_n 1, 1) := by decide +kernel
theorem dX11_boxOf_8 : decode cX11_boxOf 8 = .ok (.invokevirtual 110, 3) := by decide +kernel
theorem dX11_boxOf_11 : decode cX11_boxOf 11 = .ok (.ifCond .eq 18, 3) := by decide +kernel
theorem dX11_boxOf_14 : decode cX11_boxOf 14 = .ok (.aload_n 0, 1) := by decide +kernel
theorem dX11_boxOf_15 : decode cX11_boxOf 15 = .ok (.getfield 12, 3) := by decide +kernel
theorem dX11_boxOf_18 : decode cX11_boxOf 18 = .ok (.getfield 86, 3) := by decide +kernel
theorem dX11_boxOf_21 : decode cX11_boxOf 21 = .ok (.getfield 121, 3) := by decide +kernel
theorem dX11_boxOf_24 : decode cX11_boxOf 24 = .ok (.iload_n 1, 1) := by decide +kernel
theorem dX11_boxOf_25 : decode cX11_boxOf 25 = .ok (.iaload, 1) := by decide +kernel
theorem dX11_boxOf_26 : decode cX11_boxOf 26 = .ok (.goto 4, 3) := by decide +kernel
theorem dX11_boxOf_29 : decode cX11_boxOf 29 = .ok (.iconst (-1), 1) := by decide +kernel
theorem dX11_boxOf_30 : decode cX11_boxOf 30 = .ok (.ireturn, 1) := by decide +kernel
theorem dX11_put_0 : decode cX11_put 0 = .ok (.iload_n 1, 1) := by decide +kernel
theorem dX11_put_1 : decode cX11_put 1 = .ok (.invokestatic 124, 3) := by decide +kernel
theorem dX11_put_4 : decode cX11_put 4 = .ok (.ifCond .eq 17, 3) := by decide +kernel
theorem dX11_put_7 : decode cX11_put 7 = .ok (.aload_n 0, 1) := by decide +kernel
theorem dX11_put_8 : decode cX11_put 8 = .ok (.getfield 12, 3) := by decide +kernel
theorem dX11_put_11 : decode cX11_put 11 = .ok (.getfield 86, 3) := by decide +kernel
theorem dX11_put_14 : decode cX11_put 14 = .ok (.iload_n 2, 1) := by decide +kernel
theorem dX11_put_15 : decode cX11_put 15 = .ok (.invokevirtual 110, 3) := by decide +kernel
theorem dX11_put_18 : decode cX11_put 18 = .ok (.ifCond .ne 5, 3) := by decide +kernel
theorem dX11_put_21 : decode cX11_put 21 = .ok (.iconst (-1), 1) := by decide +kernel
theorem dX11_put_22 : decode cX11_put 22 = .ok (.ireturn, 1) := by decide +kernel
theorem dX11_put_23 : decode cX11_put 23 = .ok (.iload_n 3, 1) := by decide +kernel
theorem dX11_put_24 : decode cX11_put 24 = .ok (.bipush (-6), 2) := by decide +kernel
theorem dX11_put_26 : decode cX11_put 26 = .ok (.if_icmp .lt 9, 3) := by decide +kernel
theorem dX11_put_29 : decode cX11_put 29 = .ok (.iload_n 3, 1) := by decide +kernel
theorem dX11_put_30 : decode cX11_put 30 = .ok (.bipush 6, 2) := by decide +kernel
theorem dX11_put_32 : decode cX11_put 32 = .ok (.if_icmp .le 6, 3) := by decide +kernel
theorem dX11_put_35 : decode cX11_put 35 = .ok (.bipush (-2), 2) := by decide +kernel
theorem dX11_put_37 : decode cX11_put 37 = .ok (.ireturn, 1) := by decide +kernel
theorem dX11_put_38 : decode cX11_put 38 = .ok (.aload_n 0, 1) := by decide +kernel
theorem dX11_put_39 : decode cX11_put 39 = .ok (.getfield 12, 3) := by decide +kernel
theorem dX11_put_42 : decode cX11_put 42 = .ok (.getfield 127, 3) := by decide +kernel
theorem dX11_put_45 : decode cX11_put 45 = .ok (.iload_n 1, 1) := by decide +kernel
theorem dX11_put_46 : decode cX11_put 46 = .ok (.aaload, 1) := by decide +kernel
theorem dX11_put_47 : decode cX11_put 47 = .ok (.getfield 131, 3) := by decide +kernel
theorem dX11_put_50 : decode cX11_put 50 = .ok (.astore 4, 2) := by decide +kernel
theorem dX11_put_52 : decode cX11_put 52 = .ok (.aload 4, 2) := by decide +kernel
theorem dX11_put_54 : decode cX11_put 54 = .ok (.iload_n 2, 1) := by decide +kernel
theorem dX11_put_55 : decode cX11_put 55 = .ok (.iaload, 1) := by decide +kernel
theorem dX11_put_56 : decode cX11_put 56 = .ok (.istore 5, 2) := by decide +kernel
theorem dX11_put_58 : decode cX11_put 58 = .ok (.aload 4, 2) := by decide +kernel
theorem dX11_put_60 : decode cX11_put 60 = .ok (.iload_n 2, 1) := by decide +kernel
theorem dX11_put_61 : decode cX11_put 61 = .ok (.iload_n 3, 1) := by decide +kernel
theorem dX11_put_62 : decode cX11_put 62 = .ok (.iastore, 1) := by decide +kernel
theorem dX11_put_63 : decode cX11_put 63 = .ok (.iload 5, 2) := by decide +kernel
theorem dX11_put_65 : decode cX11_put 65 = .ok (.bipush 10, 2) := by decide +kernel
theorem dX11_put_67 : decode cX11_put 67 = .ok (.iadd, 1) := by decide +kernel
theorem dX11_put_68 : decode cX11_put 68 = .ok (.ireturn, 1) := by decide +kernel
theorem dX11_sign_0 : decode cX11_sign 0 = .ok (.iload_n 1, 1) := by decide +kernel
theorem dX11_sign_1 : decode cX11_sign 1 = .ok (.invokestatic 124, 3) := by decide +kernel
theorem dX11_sign_4 : decode cX11_sign 4 = .ok (.ifCond .ne 5, 3) := by decide +kernel
theorem dX11_sign_7 : decode cX11_sign 7 = .ok (.iconst (-1), 1) := by decide +kernel
theorem dX11_sign_8 : decode cX11_sign 8 = .ok (.ireturn, 1) := by decide +kernel
theorem dX11_sign_9 : decode cX11_sign 9 = .ok (.iload_n 2, 1) := by decide +kernel
theorem dX11_sign_10 : decode cX11_sign 10 = .ok (.iconst 1, 1) := by decide +kernel
theorem dX11_sign_11 : decode cX11_sign 11 = .ok (.if_icmp .eq 11, 3) := by decide +kernel
theorem dX11_sign_14 : decode cX11_sign 14 = .ok (.iload_n 2, 1) := by decide +kernel
theorem dX11_sign_15 : decode cX11_sign 15 = .ok (.iconst (-1), 1) := by decide +kernel
theorem dX11_sign_16 : decode cX11_sign 16 = .ok (.if_icmp .eq 6, 3) := by decide +kernel
theorem dX11_sign_19 : decode cX11_sign 19 = .ok (.bipush (-2), 2) := by decide +kernel
theorem dX11_sign_21 : decode cX11_sign 21 = .ok (.ireturn, 1) := by decide +kernel
theorem dX11_sign_22 : decode cX11_sign 22 = .ok (.aload_n 0, 1) := by decide +kernel
theorem dX11_sign_23 : decode cX11_sign 23 = .ok (.getfield 12, 3) := by decide +kernel
theorem dX11_sign_26 : decode cX11_sign 26 = .ok (.getfield 127, 3) := by decide +kernel
theorem dX11_sign_29 : decode cX11_sign 29 = .ok (.iload_n 1, 1) := by decide +kernel
theorem dX11_sign_30 : decode cX11_sign 30 = .ok (.aaload, 1) := by decide +kernel
theorem dX11_sign_31 : decode cX11_sign 31 = .ok (.iload_n 2, 1) := by decide +kernel
theorem dX11_sign_32 : decode cX11_sign 32 = .ok (.putfield 134, 3) := by decide +kernel
theorem dX11_sign_35 : decode cX11_sign 35 = .ok (.iconst 1, 1) := by decide +kernel
theorem dX11_sign_36 : decode cX11_sign 36 = .ok (.ireturn, 1) := by decide +kernel
theorem dX11_powerOf_0 : decode cX11_powerOf 0 = .ok (.iload_n 1, 1) := by decide +kernel
theorem dX11_powerOf_1 : decode cX11_powerOf 1 = .ok (.invokestatic 124, 3) := by decide +kernel
theorem dX11_powerOf_4 : decode cX11_powerOf 4 = .ok (.ifCond .eq 17, 3) := by decide +kernel
theorem dX11_powerOf_7 : decode cX11_powerOf 7 = .ok (.aload_n 0, 1) := by decide +kernel
theorem dX11_powerOf_8 : decode cX11_powerOf 8 = .ok (.getfield 12, 3) := by decide +kernel
theorem dX11_powerOf_11 : decode cX11_powerOf 11 = .ok (.getfield 86, 3) := by decide +kernel
theorem dX11_powerOf_14 : decode cX11_powerOf 14 = .ok (.iload_n 2, 1) := by decide +kernel
theorem dX11_powerOf_15 : decode cX11_powerOf 15 = .ok (.invokevirtual 110, 3) := by decide +kernel
theorem dX11_powerOf_18 : decode cX11_powerOf 18 = .ok (.ifCond .ne 5, 3) := by decide +kernel
theorem dX11_powerOf_21 : decode cX11_powerOf 21 = .ok (.iconst (-1), 1) := by decide +kernel
theorem dX11_powerOf_22 : decode cX11_powerOf 22 = .ok (.ireturn, 1) := by decide +kernel
theorem dX11_powerOf_23 : decode cX11_powerOf 23 = .ok (.aload_n 0, 1) := by decide +kernel
theorem dX11_powerOf_24 : decode cX11_powerOf 24 = .ok (.getfield 12, 3) := by decide +kernel
theorem dX11_powerOf_27 : decode cX11_powerOf 27 = .ok (.getfield 127, 3) := by decide +kernel
theorem dX11_powerOf_30 : decode cX11_powerOf 30 = .ok (.iload_n 1, 1) := by decide +kernel
theorem dX11_powerOf_31 : decode cX11_powerOf 31 = .ok (.aaload, 1) := by decide +kernel
theorem dX11_powerOf_32 : decode cX11_powerOf 32 = .ok (.getfield 131, 3) := by decide +kernel
theorem dX11_powerOf_35 : decode cX11_powerOf 35 = .ok (.iload_n 2, 1) := by decide +kernel
theorem dX11_powerOf_36 : decode cX11_powerOf 36 = .ok (.iaload, 1) := by decide +kernel
theorem dX11_powerOf_37 : decode cX11_powerOf 37 = .ok (.bipush 10, 2) := by decide +kernel
theorem dX11_powerOf_39 : decode cX11_powerOf 39 = .ok (.iadd, 1) := by decide +kernel
theorem dX11_powerOf_40 : decode cX11_powerOf 40 = .ok (.ireturn, 1) := by decide +kernel
theorem dX11_value_0 : decode cX11_value 0 = .ok (.iload_n 1, 1) := by decide +kernel
theorem dX11_value_1 : decode cX11_value 1 = .ok (.invokestatic 124, 3) := by decide +kernel
theorem dX11_value_4 : decode cX11_value 4 = .ok (.ifCond .eq 10, 3) := by decide +kernel
theorem dX11_value_7 : decode cX11_value 7 = .ok (.iload_n 2, 1) := by decide +kernel
theorem dX11_value_8 : decode cX11_value 8 = .ok (.invokestatic 137, 3) := by decide +kernel
theorem dX11_value_11 : decode cX11_value 11 = .ok (.ifCond .ne 7, 3) := by decide +kernel
theorem dX11_value_14 : decode cX11_value 14 = .ok (.ldc2_w 140, 3) := by decide +kernel
theorem dX11_value_17 : decode cX11_value 17 = .ok (.lreturn, 1) := by decide +kernel
theorem dX11_value_18 : decode cX11_value 18 = .ok (.aload_n 0, 1) := by decide +kernel
theorem dX11_value_19 : decode cX11_value 19 = .ok (.getfield 12, 3) := by decide +kernel
theorem dX11_value_22 : decode cX11_value 22 = .ok (.getfield 127, 3) := by decide +kernel
theorem dX11_value_25 : decode cX11_value 25 = .ok (.iload_n 1, 1) := by decide +kernel
theorem dX11_value_26 : decode cX11_value 26 = .ok (.aaload, 1) := by decide +kernel
theorem dX11_value_27 : decode cX11_value 27 = .ok (.astore_n 3, 1) := by decide +kernel
theorem dX11_value_28 : decode cX11_value 28 = .ok (.iload_n 2, 1) := by decide +kernel
theorem dX11_value_29 : decode cX11_value 29 = .ok (.ifCond .ne 17, 3) := by decide +kernel
theorem dX11_value_32 : decode cX11_value 32 = .ok (.aload_n 3, 1) := by decide +kernel
theorem dX11_value_33 : decode cX11_value 33 = .ok (.aload_n 0, 1) := by decide +kernel
theorem dX11_value_34 : decode cX11_value 34 = .ok (.getfield 12, 3) := by decide +kernel
theorem dX11_value_37 : decode cX11_value 37 = .ok (.getfield 86, 3) := by decide +kernel
theorem dX11_value_40 : decode cX11_value 40 = .ok (.invokevirtual 142, 3) := by decide +kernel
theorem dX11_value_43 : decode cX11_value 43 = .ok (.goto 14, 3) := by decide +kernel
theorem dX11_value_46 : decode cX11_value 46 = .ok (.aload_n 3, 1) := by decide +kernel
theorem dX11_value_47 : decode cX11_value 47 = .ok (.aload_n 0, 1) := by decide +kernel
theorem dX11_value_48 : decode cX11_value 48 = .ok (.getfield 12, 3) := by decide +kernel
theorem dX11_value_51 : decode cX11_value 51 = .ok (.getfield 86, 3) := by decide +kernel
theorem dX11_value_54 : decode cX11_value 54 = .ok (.invokevirtual 146, 3) := by decide +kernel
theorem dX11_value_57 : decode cX11_value 57 = .ok (.lreturn, 1) := by decide +kernel
theorem dX11_height_0 : decode cX11_height 0 = .ok (.iload_n 1, 1) := by decide +kernel
theorem dX11_height_1 : decode cX11_height 1 = .ok (.invokestatic 124, 3) := by decide +kernel
theorem dX11_height_4 : decode cX11_height 4 = .ok (.ifCond .eq 18, 3) := by decide +kernel
theorem dX11_height_7 : decode cX11_height 7 = .ok (.aload_n 0, 1) := by decide +kernel
theorem dX11_height_8 : decode cX11_height 8 = .ok (.getfield 12, 3) := by decide +kernel
theorem dX11_height_11 : decode cX11_height 11 = .ok (.getfield 127, 3) := by decide +kernel
theorem dX11_height_14 : decode cX11_height 14 = .ok (.iload_n 1, 1) := by decide +kernel
theorem dX11_height_15 : decode cX11_height 15 = .ok (.aaload, 1) := by decide +kernel
theorem dX11_height_16 : decode cX11_height 16 = .ok (.invokevirtual 149, 3) := by decide +kernel
theorem dX11_height_19 : decode cX11_height 19 = .ok (.goto 4, 3) := by decide +kernel
theorem dX11_height_22 : decode cX11_height 22 = .ok (.iconst (-1), 1) := by decide +kernel
theorem dX11_height_23 : decode cX11_height 23 = .ok (.ireturn, 1) := by decide +kernel
theorem dX11_isIn_0 : decode cX11_isIn 0 = .ok (.iload_n 1, 1) := by decide +kernel
theorem dX11_isIn_1 : decode cX11_isIn 1 = .ok (.invokestatic 124, 3) := by decide +kernel
theorem dX11_isIn_4 : decode cX11_isIn 4 = .ok (.ifCond .ne 5, 3) := by decide +kernel
theorem dX11_isIn_7 : decode cX11_isIn 7 = .ok (.iconst (-1), 1) := by decide +kernel
theorem dX11_isIn_8 : decode cX11_isIn 8 = .ok (.ireturn, 1) := by decide +kernel
theorem dX11_isIn_9 : decode cX11_isIn 9 = .ok (.aload_n 0, 1) := by decide +kernel
theorem dX11_isIn_10 : decode cX11_isIn 10 = .ok (.getfield 12, 3) := by decide +kernel
theorem dX11_isIn_13 : decode cX11_isIn 13 = .ok (.getfield 127, 3) := by decide +kernel
theorem dX11_isIn_16 : decode cX11_isIn 16 = .ok (.iload_n 1, 1) := by decide +kernel
theorem dX11_isIn_17 : decode cX11_isIn 17 = .ok (.aaload, 1) := by decide +kernel
theorem dX11_isIn_18 : decode cX11_isIn 18 = .ok (.aload_n 0, 1) := by decide +kernel
theorem dX11_isIn_19 : decode cX11_isIn 19 = .ok (.getfield 12, 3) := by decide +kernel
theorem dX11_isIn_22 : decode cX11_isIn 22 = .ok (.getfield 86, 3) := by decide +kernel
theorem dX11_isIn_25 : decode cX11_isIn 25 = .ok (.invokevirtual 152, 3) := by decide +kernel
theorem dX11_isIn_28 : decode cX11_isIn 28 = .ok (.ifCond .eq 7, 3) := by decide +kernel
theorem dX11_isIn_31 : decode cX11_isIn 31 = .ok (.iconst 1, 1) := by decide +kernel
theorem dX11_isIn_32 : decode cX11_isIn 32 = .ok (.goto 4, 3) := by decide +kernel
theorem dX11_isIn_35 : decode cX11_isIn 35 = .ok (.iconst 0, 1) := by decide +kernel
theorem dX11_isIn_36 : decode cX11_isIn 36 = .ok (.ireturn, 1) := by decide +kernel
theorem dX11_times_0 : decode cX11_times 0 = .ok (.aload_n 0, 1) := by decide +kernel
theorem dX11_times_1 : decode cX11_times 1 = .ok (.iload_n 1, 1) := by decide +kernel
theorem dX11_times_2 : decode cX11_times 2 = .ok (.iload_n 2, 1) := by decide +kernel
theorem dX11_times_3 : decode cX11_times 3 = .ok (.iload_n 3, 1) := by decide +kernel
theorem dX11_times_4 : decode cX11_times 4 = .ok (.iconst 1, 1) := by decide +kernel
theorem dX11_times_5 : decode cX11_times 5 = .ok (.invokevirtual 156, 3) := by decide +kernel
theorem dX11_times_8 : decode cX11_times 8 = .ok (.ireturn, 1) := by decide +kernel
theorem dX11_over_0 : decode cX11_over 0 = .ok (.aload_n 0, 1) := by decide +kernel
theorem dX11_over_1 : decode cX11_over 1 = .ok (.iload_n 1, 1) := by decide +kernel
theorem dX11_over_2 : decode cX11_over 2 = .ok (.iload_n 2, 1) := by decide +kernel
theorem dX11_over_3 : decode cX11_over 3 = .ok (.iload_n 3, 1) := by decide +kernel
theorem dX11_over_4 : decode cX11_over 4 = .ok (.iconst (-1), 1) := by decide +kernel
theorem dX11_over_5 : decode cX11_over 5 = .ok (.invokevirtual 156, 3) := by decide +kernel
theorem dX11_over_8 : decode cX11_over 8 = .ok (.ireturn, 1) := by decide +kernel
theorem dX11_partner_0 : decode cX11_partner 0 = .ok (.iload_n 1, 1) := by decide +kernel
theorem dX11_partner_1 : decode cX11_partner 1 = .ok (.invokestatic 124, 3) := by decide +kernel
theorem dX11_partner_4 : decode cX11_partner 4 = .ok (.ifCond .eq 10, 3) := by decide +kernel
theorem dX11_partner_7 : decode cX11_partner 7 = .ok (.iload_n 2, 1) := by decide +kernel
theorem dX11_partner_8 : decode cX11_partner 8 = .ok (.invokestatic 124, 3) := by decide +kernel
theorem dX11_partner_11 : decode cX11_partner 11 = .ok (.ifCond .ne 5, 3) := by decide +kernel
theorem dX11_partner_14 : decode cX11_partner 14 = .ok (.iconst (-1), 1) := by decide +kernel
theorem dX11_partner_15 : decode cX11_partner 15 = .ok (.ireturn, 1) := by decide +kernel
theorem dX11_partner_16 : decode cX11_partner 16 = .ok (.aload_n 0, 1) := by decide +kernel
theorem dX11_partner_17 : decode cX11_partner 17 = .ok (.aload_n 0, 1) := by decide +kernel
theorem dX11_partner_18 : decode cX11_partner 18 = .ok (.getfield 12, 3) := by decide +kernel
theorem dX11_partner_21 : decode cX11_partner 21 = .ok (.getfield 127, 3) := by decide +kernel
theorem dX11_partner_24 : decode cX11_partner 24 = .ok (.iload_n 1, 1) := by decide +kernel
theorem dX11_partner_25 : decode cX11_partner 25 = .ok (.aaload, 1) := by decide +kernel
theorem dX11_partner_26 : decode cX11_partner 26 = .ok (.invokevirtual 160, 3) := by decide +kernel
theorem dX11_partner_29 : decode cX11_partner 29 = .ok (.ifCond .ne 6, 3) := by decide +kernel
theorem dX11_partner_32 : decode cX11_partner 32 = .ok (.bipush (-5), 2) := by decide +kernel
theorem dX11_partner_34 : decode cX11_partner 34 = .ok (.ireturn, 1) := by decide +kernel
theorem dX11_partner_35 : decode cX11_partner 35 = .ok (.aload_n 0, 1) := by decide +kernel
theorem dX11_partner_36 : decode cX11_partner 36 = .ok (.getfield 12, 3) := by decide +kernel
theorem dX11_partner_39 : decode cX11_partner 39 = .ok (.getfield 127, 3) := by decide +kernel
theorem dX11_partner_42 : decode cX11_partner 42 = .ok (.iload_n 2, 1) := by decide +kernel
theorem dX11_partner_43 : decode cX11_partner 43 = .ok (.aaload, 1) := by decide +kernel
theorem dX11_partner_44 : decode cX11_partner 44 = .ok (.aload_n 0, 1) := by decide +kernel
theorem dX11_partner_45 : decode cX11_partner 45 = .ok (.getfield 45, 3) := by decide +kernel
theorem dX11_partner_48 : decode cX11_partner 48 = .ok (.invokevirtual 164, 3) := by decide +kernel
theorem dX11_partner_51 : decode cX11_partner 51 = .ok (.iconst 1, 1) := by decide +kernel
theorem dX11_partner_52 : decode cX11_partner 52 = .ok (.ireturn, 1) := by decide +kernel
theorem dX11_form_0 : decode cX11_form 0 = .ok (.iload_n 1, 1) := by decide +kernel
theorem dX11_form_1 : decode cX11_form 1 = .ok (.invokestatic 124, 3) := by decide +kernel
theorem dX11_form_4 : decode cX11_form 4 = .ok (.ifCond .eq 20, 3) := by decide +kernel
theorem dX11_form_7 : decode cX11_form 7 = .ok (.iload_n 3, 1) := by decide +kernel
theorem dX11_form_8 : decode cX11_form 8 = .ok (.invokestatic 124, 3) := by decide +kernel
theorem dX11_form_11 : decode cX11_form 11 = .ok (.ifCond .eq 13, 3) := by decide +kernel
theorem dX11_form_14 : decode cX11_form 14 = .ok (.iload_n 2, 1) := by decide +kernel
theorem dX11_form_15 : decode cX11_form 15 = .ok (.ifCond .lt 9, 3) := by decide +kernel
theorem dX11_form_18 : decode cX11_form 18 = .ok (.iload_n 2, 1) := by decide +kernel
theorem dX11_form_19 : decode cX11_form 19 = .ok (.bipush 6, 2) := by decide +kernel
theorem dX11_form_21 : decode cX11_form 21 = .ok (.if_icmp .lt 5, 3) := by decide +kernel
theorem dX11_form_24 : decode cX11_form 24 = .ok (.iconst (-1), 1) := by decide +kernel
theorem dX11_form_25 : decode cX11_form 25 = .ok (.ireturn, 1) := by decide +kernel
theorem dX11_form_26 : decode cX11_form 26 = .ok (.aload_n 0, 1) := by decide +kernel
theorem dX11_form_27 : decode cX11_form 27 = .ok (.aload_n 0, 1) := by decide +kernel
theorem dX11_form_28 : decode cX11_form 28 = .ok (.getfield 12, 3) := by decide +kernel
theorem dX11_form_31 : decode cX11_form 31 = .ok (.getfield 127, 3) := by decide +kernel
theorem dX11_form_34 : decode cX11_form 34 = .ok (.iload_n 1, 1) := by decide +kernel
theorem dX11_form_35 : decode cX11_form 35 = .ok (.aaload, 1) := by decide +kernel
theorem dX11_form_36 : decode cX11_form 36 = .ok (.invokevirtual 160, 3) := by decide +kernel
theorem dX11_form_39 : decode cX11_form 39 = .ok (.ifCond .ne 6, 3) := by decide +kernel
theorem dX11_form_42 : decode cX11_form 42 = .ok (.bipush (-5), 2) := by decide +kernel
theorem dX11_form_44 : decode cX11_form 44 = .ok (.ireturn, 1) := by decide +kernel
theorem dX11_form_45 : decode cX11_form 45 = .ok (.aload_n 0, 1) := by decide +kernel
theorem dX11_form_46 : decode cX11_form 46 = .ok (.getfield 45, 3) := by decide +kernel
theorem dX11_form_49 : decode cX11_form 49 = .ok (.aload_n 0, 1) := by decide +kernel
theorem dX11_form_50 : decode cX11_form 50 = .ok (.getfield 12, 3) := by decide +kernel
theorem dX11_form_53 : decode cX11_form 53 = .ok (.getfield 86, 3) := by decide +kernel
theorem dX11_form_56 : decode cX11_form 56 = .ok (.aload_n 0, 1) := by decide +kernel
theorem dX11_form_57 : decode cX11_form 57 = .ok (.getfield 52, 3) := by decide +kernel
theorem dX11_form_60 : decode cX11_form 60 = .ok (.iload_n 2, 1) := by decide +kernel
theorem dX11_form_61 : decode cX11_form 61 = .ok (.invokevirtual 168, 3) := by decide +kernel
theorem dX11_form_64 : decode cX11_form 64 = .ok (.aload_n 0, 1) := by decide +kernel
theorem dX11_form_65 : decode cX11_form 65 = .ok (.getfield 52, 3) := by decide +kernel
theorem dX11_form_68 : decode cX11_form 68 = .ok (.iload_n 2, 1) := by decide +kernel
theorem dX11_form_69 : decode cX11_form 69 = .ok (.invokevirtual 172, 3) := by decide +kernel
theorem dX11_form_72 : decode cX11_form 72 = .ok (.invokevirtual 175, 3) := by decide +kernel
theorem dX11_form_75 : decode cX11_form 75 = .ok (.ifCond .ne 6, 3) := by decide +kernel
theorem dX11_form_78 : decode cX11_form 78 = .ok (.bipush (-5), 2) := by decide +kernel
theorem dX11_form_80 : decode cX11_form 80 = .ok (.ireturn, 1) := by decide +kernel
theorem dX11_form_81 : decode cX11_form 81 = .ok (.aload_n 0, 1) := by decide +kernel
theorem dX11_form_82 : decode cX11_form 82 = .ok (.getfield 12, 3) := by decide +kernel
theorem dX11_form_85 : decode cX11_form 85 = .ok (.getfield 127, 3) := by decide +kernel
theorem dX11_form_88 : decode cX11_form 88 = .ok (.iload_n 3, 1) := by decide +kernel
theorem dX11_form_89 : decode cX11_form 89 = .ok (.aaload, 1) := by decide +kernel
theorem dX11_form_90 : decode cX11_form 90 = .ok (.aload_n 0, 1) := by decide +kernel
theorem dX11_form_91 : decode cX11_form 91 = .ok (.getfield 45, 3) := by decide +kernel
theorem dX11_form_94 : decode cX11_form 94 = .ok (.invokevirtual 164, 3) := by decide +kernel
theorem dX11_form_97 : decode cX11_form 97 = .ok (.iconst 1, 1) := by decide +kernel
theorem dX11_form_98 : decode cX11_form 98 = .ok (.ireturn, 1) := by decide +kernel
theorem dX11_forms_0 : decode cX11_forms 0 = .ok (.iload_n 1, 1) := by decide +kernel
theorem dX11_forms_1 : decode cX11_forms 1 = .ok (.invokestatic 124, 3) := by decide +kernel
theorem dX11_forms_4 : decode cX11_forms 4 = .ok (.ifCond .ne 5, 3) := by decide +kernel
theorem dX11_forms_7 : decode cX11_forms 7 = .ok (.iconst (-1), 1) := by decide +kernel
theorem dX11_forms_8 : decode cX11_forms 8 = .ok (.ireturn, 1) := by decide +kernel
theorem dX11_forms_9 : decode cX11_forms 9 = .ok (.aload_n 0, 1) := by decide +kernel
theorem dX11_forms_10 : decode cX11_forms 10 = .ok (.aload_n 0, 1) := by decide +kernel
theorem dX11_forms_11 : decode cX11_forms 11 = .ok (.getfield 12, 3) := by decide +kernel
theorem dX11_forms_14 : decode cX11_forms 14 = .ok (.getfield 127, 3) := by decide +kernel
theorem dX11_forms_17 : decode cX11_forms 17 = .ok (.iload_n 1, 1) := by decide +kernel
theorem dX11_forms_18 : decode cX11_forms 18 = .ok (.aaload, 1) := by decide +kernel
theorem dX11_forms_19 : decode cX11_forms 19 = .ok (.invokevirtual 160, 3) := by decide +kernel
theorem dX11_forms_22 : decode cX11_forms 22 = .ok (.ifCond .eq 13, 3) := by decide +kernel
theorem dX11_forms_25 : decode cX11_forms 25 = .ok (.aload_n 0, 1) := by decide +kernel
theorem dX11_forms_26 : decode cX11_forms 26 = .ok (.getfield 52, 3) := by decide +kernel
theorem dX11_forms_29 : decode cX11_forms 29 = .ok (.invokevirtual 179, 3) := by decide +kernel
theorem dX11_forms_32 : decode cX11_forms 32 = .ok (.goto 5, 3) := by decide +kernel
theorem dX11_forms_35 : decode cX11_forms 35 = .ok (.bipush (-5), 2) := by decide +kernel
theorem dX11_forms_37 : decode cX11_forms 37 = .ok (.ireturn, 1) := by decide +kernel
theorem dX11_answers_0 : decode cX11_answers 0 = .ok (.aload_n 0, 1) := by decide +kernel
theorem dX11_answers_1 : decode cX11_answers 1 = .ok (.invokevirtual 182, 3) := by decide +kernel
theorem dX11_answers_4 : decode cX11_answers 4 = .ok (.getfield 186, 3) := by decide +kernel
theorem dX11_answers_7 : decode cX11_answers 7 = .ok (.ireturn, 1) := by decide +kernel
theorem dX11_answer_0 : decode cX11_answer 0 = .ok (.iload_n 2, 1) := by decide +kernel
theorem dX11_answer_1 : decode cX11_answer 1 = .ok (.invokestatic 137, 3) := by decide +kernel
theorem dX11_answer_4 : decode cX11_answer 4 = .ok (.ifCond .eq 15, 3) := by decide +kernel
theorem dX11_answer_7 : decode cX11_answer 7 = .ok (.aload_n 0, 1) := by decide +kernel
theorem dX11_answer_8 : decode cX11_answer 8 = .ok (.invokevirtual 182, 3) := by decide +kernel
theorem dX11_answer_11 : decode cX11_answer 11 = .ok (.iload_n 1, 1) := by decide +kernel
theorem dX11_answer_12 : decode cX11_answer 12 = .ok (.iload_n 2, 1) := by decide +kernel
theorem dX11_answer_13 : decode cX11_answer 13 = .ok (.invokevirtual 187, 3) := by decide +kernel
theorem dX11_answer_16 : decode cX11_answer 16 = .ok (.goto 6, 3) := by decide +kernel
theorem dX11_answer_19 : decode cX11_answer 19 = .ok (.ldc2_w 140, 3) := by decide +kernel
theorem dX11_answer_22 : decode cX11_answer 22 = .ok (.lreturn, 1) := by decide +kernel
theorem dX11_take_0 : decode cX11_take 0 = .ok (.aload_n 0, 1) := by decide +kernel
theorem dX11_take_1 : decode cX11_take 1 = .ok (.invokevirtual 182, 3) := by decide +kernel
theorem dX11_take_4 : decode cX11_take 4 = .ok (.astore_n 3, 1) := by decide +kernel
theorem dX11_take_5 : decode cX11_take 5 = .ok (.aload_n 3, 1) := by decide +kernel
theorem dX11_take_6 : decode cX11_take 6 = .ok (.iload_n 1, 1) := by decide +kernel
theorem dX11_take_7 : decode cX11_take 7 = .ok (.invokevirtual 191, 3) := by decide +kernel
theorem dX11_take_10 : decode cX11_take 10 = .ok (.ifCond .eq 10, 3) := by decide +kernel
theorem dX11_take_13 : decode cX11_take 13 = .ok (.iload_n 2, 1) := by decide +kernel
theorem dX11_take_14 : decode cX11_take 14 = .ok (.invokestatic 124, 3) := by decide +kernel
theorem dX11_take_17 : decode cX11_take 17 = .ok (.ifCond .ne 5, 3) := by decide +kernel
theorem dX11_take_20 : decode cX11_take 20 = .ok (.iconst (-1), 1) := by decide +kernel
theorem dX11_take_21 : decode cX11_take 21 = .ok (.ireturn, 1) := by decide +kernel
theorem dX11_take_22 : decode cX11_take 22 = .ok (.aload_n 0, 1) := by decide +kernel
theorem dX11_take_23 : decode cX11_take 23 = .ok (.getfield 45, 3) := by decide +kernel
theorem dX11_take_26 : decode cX11_take 26 = .ok (.aload_n 0, 1) := by decide +kernel
theorem dX11_take_27 : decode cX11_take 27 = .ok (.getfield 12, 3) := by decide +kernel
theorem dX11_take_30 : decode cX11_take 30 = .ok (.getfield 86, 3) := by decide +kernel
theorem dX11_take_33 : decode cX11_take 33 = .ok (.aload_n 3, 1) := by decide +kernel
theorem dX11_take_34 : decode cX11_take 34 = .ok (.getfield 192, 3) := by decide +kernel
theorem dX11_take_37 : decode cX11_take 37 = .ok (.iload_n 1, 1) := by decide +kernel
theorem dX11_take_38 : decode cX11_take 38 = .ok (.laload, 1) := by decide +kernel
theorem dX11_take_39 : decode cX11_take 39 = .ok (.aload_n 3, 1) := by decide +kernel
theorem dX11_take_40 : decode cX11_take 40 = .ok (.getfield 195, 3) := by decide +kernel
theorem dX11_take_43 : decode cX11_take 43 = .ok (.iload_n 1, 1) := by decide +kernel
theorem dX11_take_44 : decode cX11_take 44 = .ok (.laload, 1) := by decide +kernel
theorem dX11_take_45 : decode cX11_take 45 = .ok (.invokevirtual 175, 3) := by decide +kernel
theorem dX11_take_48 : decode cX11_take 48 = .ok (.ifCond .ne 5, 3) := by decide +kernel
theorem dX11_take_51 : decode cX11_take 51 = .ok (.iconst (-1), 1) := by decide +kernel
theorem dX11_take_52 : decode cX11_take 52 = .ok (.ireturn, 1) := by decide +kernel
theorem dX11_take_53 : decode cX11_take 53 = .ok (.aload_n 0, 1) := by decide +kernel
theorem dX11_take_54 : decode cX11_take 54 = .ok (.getfield 12, 3) := by decide +kernel
theorem dX11_take_57 : decode cX11_take 57 = .ok (.getfield 127, 3) := by decide +kernel
theorem dX11_take_60 : decode cX11_take 60 = .ok (.iload_n 2, 1) := by decide +kernel
theorem dX11_take_61 : decode cX11_take 61 = .ok (.aaload, 1) := by decide +kernel
theorem dX11_take_62 : decode cX11_take 62 = .ok (.aload_n 0, 1) := by decide +kernel
theorem dX11_take_63 : decode cX11_take 63 = .ok (.getfield 45, 3) := by decide +kernel
theorem dX11_take_66 : decode cX11_take 66 = .ok (.invokevirtual 164, 3) := by decide +kernel
theorem dX11_take_69 : decode cX11_take 69 = .ok (.iconst 1, 1) := by decide +kernel
theorem dX11_take_70 : decode cX11_take 70 = .ok (.ireturn, 1) := by decide +kernel
