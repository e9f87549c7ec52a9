theorem dX12_draw_0 : decode cX12_draw 0 = .ok (.aload_n 0, 1) := by decide +kernel
theorem dX12_draw_1 : decode cX12_draw 1 = .ok (.aload_n 0, 1) := by decide +kernel
theorem dX12_draw_2 : decode cX12_draw 2 = .ok (.getfield 198, 3) := by decide +kernel
theorem dX12_draw_5 : decode cX12_draw 5 = .ok (.ldc 201, 2) := by decide +kernel
theorem dX12_draw_7 : decode cX12_draw 7 = .ok (.imul, 1) := by decide +kernel
theorem dX12_draw_8 : decode cX12_draw 8 = .ok (.sipush 12345, 3) := by decide +kernel
theorem dX12_draw_11 : decode cX12_draw 11 = .ok (.iadd, 1) := by decide +kernel
theorem dX12_draw_12 : decode cX12_draw 12 = .ok (.putfield 198, 3) := by decide +kernel
theorem dX12_draw_15 : decode cX12_draw 15 = .ok (.aload_n 0, 1) := by decide +kernel
theorem dX12_draw_16 : decode cX12_draw 16 = .ok (.getfield 198, 3) := by decide +kernel
theorem dX12_draw_19 : decode cX12_draw 19 = .ok (.ldc 202, 2) := by decide +kernel
theorem dX12_draw_21 : decode cX12_draw 21 = .ok (.iand, 1) := by decide +kernel
theorem dX12_draw_22 : decode cX12_draw 22 = .ok (.ldc 203, 2) := by decide +kernel
theorem dX12_draw_24 : decode cX12_draw 24 = .ok (.idiv, 1) := by decide +kernel
theorem dX12_draw_25 : decode cX12_draw 25 = .ok (.iload_n 1, 1) := by decide +kernel
theorem dX12_draw_26 : decode cX12_draw 26 = .ok (.irem, 1) := by decide +kernel
theorem dX12_draw_27 : decode cX12_draw 27 = .ok (.ireturn, 1) := by decide +kernel
theorem dX12_lots_0 : decode cX12_lots 0 = .ok (.iload_n 1, 1) := by decide +kernel
theorem dX12_lots_1 : decode cX12_lots 1 = .ok (.iconst 1, 1) := by decide +kernel
theorem dX12_lots_2 : decode cX12_lots 2 = .ok (.bipush 50, 2) := by decide +kernel
theorem dX12_lots_4 : decode cX12_lots 4 = .ok (.invokestatic 87, 3) := by decide +kernel
theorem dX12_lots_7 : decode cX12_lots 7 = .ok (.ifCond .ne 6, 3) := by decide +kernel
theorem dX12_lots_10 : decode cX12_lots 10 = .ok (.bipush (-2), 2) := by decide +kernel
theorem dX12_lots_12 : decode cX12_lots 12 = .ok (.ireturn, 1) := by decide +kernel
theorem dX12_lots_13 : decode cX12_lots 13 = .ok (.aload_n 0, 1) := by decide +kernel
theorem dX12_lots_14 : decode cX12_lots 14 = .ok (.iload_n 2, 1) := by decide +kernel
theorem dX12_lots_15 : decode cX12_lots 15 = .ok (.putfield 198, 3) := by decide +kernel
theorem dX12_lots_18 : decode cX12_lots 18 = .ok (.iconst 0, 1) := by decide +kernel
theorem dX12_lots_19 : decode cX12_lots 19 = .ok (.istore_n 3, 1) := by decide +kernel
theorem dX12_lots_20 : decode cX12_lots 20 = .ok (.iconst 0, 1) := by decide +kernel
theorem dX12_lots_21 : decode cX12_lots 21 = .ok (.istore 4, 2) := by decide +kernel
theorem dX12_lots_23 : decode cX12_lots 23 = .ok (.iload 4, 2) := by decide +kernel
theorem dX12_lots_25 : decode cX12_lots 25 = .ok (.iload_n 1, 1) := by decide +kernel
theorem dX12_lots_26 : decode cX12_lots 26 = .ok (.if_icmp .ge 90, 3) := by decide +kernel
theorem dX12_lots_29 : decode cX12_lots 29 = .ok (.iconst 0, 1) := by decide +kernel
theorem dX12_lots_30 : decode cX12_lots 30 = .ok (.istore 5, 2) := by decide +kernel
theorem dX12_lots_32 : decode cX12_lots 32 = .ok (.iload 5, 2) := by decide +kernel
theorem dX12_lots_34 : decode cX12_lots 34 = .ok (.aload_n 0, 1) := by decide +kernel
theorem dX12_lots_35 : decode cX12_lots 35 = .ok (.getfield 83, 3) := by decide +kernel
theorem dX12_lots_38 : decode cX12_lots 38 = .ok (.if_icmp .ge 39, 3) := by decide +kernel
theorem dX12_lots_41 : decode cX12_lots 41 = .ok (.aload_n 0, 1) := by decide +kernel
theorem dX12_lots_42 : decode cX12_lots 42 = .ok (.getfield 37, 3) := by decide +kernel
theorem dX12_lots_45 : decode cX12_lots 45 = .ok (.iload 5, 2) := by decide +kernel
theorem dX12_lots_47 : decode cX12_lots 47 = .ok (.aload_n 0, 1) := by decide +kernel
theorem dX12_lots_48 : decode cX12_lots 48 = .ok (.iconst 2, 1) := by decide +kernel
theorem dX12_lots_49 : decode cX12_lots 49 = .ok (.aload_n 0, 1) := by decide +kernel
theorem dX12_lots_50 : decode cX12_lots 50 = .ok (.getfield 15, 3) := by decide +kernel
theorem dX12_lots_53 : decode cX12_lots 53 = .ok (.iload 5, 2) := by decide +kernel
theorem dX12_lots_55 : decode cX12_lots 55 = .ok (.iaload, 1) := by decide +kernel
theorem dX12_lots_56 : decode cX12_lots 56 = .ok (.imul, 1) := by decide +kernel
theorem dX12_lots_57 : decode cX12_lots 57 = .ok (.iconst 1, 1) := by decide +kernel
theorem dX12_lots_58 : decode cX12_lots 58 = .ok (.iadd, 1) := by decide +kernel
theorem dX12_lots_59 : decode cX12_lots 59 = .ok (.invokevirtual 204, 3) := by decide +kernel
theorem dX12_lots_62 : decode cX12_lots 62 = .ok (.aload_n 0, 1) := by decide +kernel
theorem dX12_lots_63 : decode cX12_lots 63 = .ok (.getfield 15, 3) := by decide +kernel
theorem dX12_lots_66 : decode cX12_lots 66 = .ok (.iload 5, 2) := by decide +kernel
theorem dX12_lots_68 : decode cX12_lots 68 = .ok (.iaload, 1) := by decide +kernel
theorem dX12_lots_69 : decode cX12_lots 69 = .ok (.isub, 1) := by decide +kernel
theorem dX12_lots_70 : decode cX12_lots 70 = .ok (.iastore, 1) := by decide +kernel
theorem dX12_lots_71 : decode cX12_lots 71 = .ok (.iinc 5 1, 3) := by decide +kernel
theorem dX12_lots_74 : decode cX12_lots 74 = .ok (.goto (-42), 3) := by decide +kernel
theorem dX12_lots_77 : decode cX12_lots 77 = .ok (.aload_n 0, 1) := by decide +kernel
theorem dX12_lots_78 : decode cX12_lots 78 = .ok (.aload_n 0, 1) := by decide +kernel
theorem dX12_lots_79 : decode cX12_lots 79 = .ok (.iconst 2, 1) := by decide +kernel
theorem dX12_lots_80 : decode cX12_lots 80 = .ok (.invokevirtual 204, 3) := by decide +kernel
theorem dX12_lots_83 : decode cX12_lots 83 = .ok (.iconst 1, 1) := by decide +kernel
theorem dX12_lots_84 : decode cX12_lots 84 = .ok (.if_icmp .ne 7, 3) := by decide +kernel
theorem dX12_lots_87 : decode cX12_lots 87 = .ok (.iconst (-1), 1) := by decide +kernel
theorem dX12_lots_88 : decode cX12_lots 88 = .ok (.goto 4, 3) := by decide +kernel
theorem dX12_lots_91 : decode cX12_lots 91 = .ok (.iconst 1, 1) := by decide +kernel
theorem dX12_lots_92 : decode cX12_lots 92 = .ok (.putfield 109, 3) := by decide +kernel
theorem dX12_lots_95 : decode cX12_lots 95 = .ok (.iload_n 3, 1) := by decide +kernel
theorem dX12_lots_96 : decode cX12_lots 96 = .ok (.aload_n 0, 1) := by decide +kernel
theorem dX12_lots_97 : decode cX12_lots 97 = .ok (.invokevirtual 173, 3) := by decide +kernel
theorem dX12_lots_100 : decode cX12_lots 100 = .ok (.ifCond .eq 7, 3) := by decide +kernel
theorem dX12_lots_103 : decode cX12_lots 103 = .ok (.iconst 1, 1) := by decide +kernel
theorem dX12_lots_104 : decode cX12_lots 104 = .ok (.goto 4, 3) := by decide +kernel
theorem dX12_lots_107 : decode cX12_lots 107 = .ok (.iconst 0, 1) := by decide +kernel
theorem dX12_lots_108 : decode cX12_lots 108 = .ok (.iadd, 1) := by decide +kernel
theorem dX12_lots_109 : decode cX12_lots 109 = .ok (.istore_n 3, 1) := by decide +kernel
theorem dX12_lots_110 : decode cX12_lots 110 = .ok (.iinc 4 1, 3) := by decide +kernel
theorem dX12_lots_113 : decode cX12_lots 113 = .ok (.goto (-90), 3) := by decide +kernel
theorem dX12_lots_116 : decode cX12_lots 116 = .ok (.iload_n 3, 1) := by decide +kernel
theorem dX12_lots_117 : decode cX12_lots 117 = .ok (.ireturn, 1) := by decide +kernel
theorem dX12_isSieve_0 : decode cX12_isSieve 0 = .ok (.iload_n 0, 1) := by decide +kernel
theorem dX12_isSieve_1 : decode cX12_isSieve 1 = .ok (.iconst 3, 1) := by decide +kernel
theorem dX12_isSieve_2 : decode cX12_isSieve 2 = .ok (.bipush 97, 2) := by decide +kernel
theorem dX12_isSieve_4 : decode cX12_isSieve 4 = .ok (.invokestatic 87, 3) := by decide +kernel
theorem dX12_isSieve_7 : decode cX12_isSieve 7 = .ok (.ifCond .eq 14, 3) := by decide +kernel
theorem dX12_isSieve_10 : decode cX12_isSieve 10 = .ok (.iload_n 0, 1) := by decide +kernel
theorem dX12_isSieve_11 : decode cX12_isSieve 11 = .ok (.invokestatic 91, 3) := by decide +kernel
theorem dX12_isSieve_14 : decode cX12_isSieve 14 = .ok (.ifCond .eq 7, 3) := by decide +kernel
theorem dX12_isSieve_17 : decode cX12_isSieve 17 = .ok (.iconst 1, 1) := by decide +kernel
theorem dX12_isSieve_18 : decode cX12_isSieve 18 = .ok (.goto 4, 3) := by decide +kernel
theorem dX12_isSieve_21 : decode cX12_isSieve 21 = .ok (.iconst 0, 1) := by decide +kernel
theorem dX12_isSieve_22 : decode cX12_isSieve 22 = .ok (.ireturn, 1) := by decide +kernel
theorem dX12_forgets_0 : decode cX12_forgets 0 = .ok (.iconst 0, 1) := by decide +kernel
theorem dX12_forgets_1 : decode cX12_forgets 1 = .ok (.istore_n 2, 1) := by decide +kernel
theorem dX12_forgets_2 : decode cX12_forgets 2 = .ok (.iconst 0, 1) := by decide +kernel
theorem dX12_forgets_3 : decode cX12_forgets 3 = .ok (.istore_n 3, 1) := by decide +kernel
theorem dX12_forgets_4 : decode cX12_forgets 4 = .ok (.iload_n 3, 1) := by decide +kernel
theorem dX12_forgets_5 : decode cX12_forgets 5 = .ok (.aload_n 0, 1) := by decide +kernel
theorem dX12_forgets_6 : decode cX12_forgets 6 = .ok (.getfield 207, 3) := by decide +kernel
theorem dX12_forgets_9 : decode cX12_forgets 9 = .ok (.if_icmp .ge 34, 3) := by decide +kernel
theorem dX12_forgets_12 : decode cX12_forgets 12 = .ok (.aload_n 0, 1) := by decide +kernel
theorem dX12_forgets_13 : decode cX12_forgets 13 = .ok (.getfield 24, 3) := by decide +kernel
theorem dX12_forgets_16 : decode cX12_forgets 16 = .ok (.iload_n 3, 1) := by decide +kernel
theorem dX12_forgets_17 : decode cX12_forgets 17 = .ok (.iaload, 1) := by decide +kernel
theorem dX12_forgets_18 : decode cX12_forgets 18 = .ok (.iload_n 1, 1) := by decide +kernel
theorem dX12_forgets_19 : decode cX12_forgets 19 = .ok (.if_icmp .eq 18, 3) := by decide +kernel
theorem dX12_forgets_22 : decode cX12_forgets 22 = .ok (.aload_n 0, 1) := by decide +kernel
theorem dX12_forgets_23 : decode cX12_forgets 23 = .ok (.getfield 24, 3) := by decide +kernel
theorem dX12_forgets_26 : decode cX12_forgets 26 = .ok (.iload_n 2, 1) := by decide +kernel
theorem dX12_forgets_27 : decode cX12_forgets 27 = .ok (.aload_n 0, 1) := by decide +kernel
theorem dX12_forgets_28 : decode cX12_forgets 28 = .ok (.getfield 24, 3) := by decide +kernel
theorem dX12_forgets_31 : decode cX12_forgets 31 = .ok (.iload_n 3, 1) := by decide +kernel
theorem dX12_forgets_32 : decode cX12_forgets 32 = .ok (.iaload, 1) := by decide +kernel
theorem dX12_forgets_33 : decode cX12_forgets 33 = .ok (.iastore, 1) := by decide +kernel
theorem dX12_forgets_34 : decode cX12_forgets 34 = .ok (.iinc 2 1, 3) := by decide +kernel
theorem dX12_forgets_37 : decode cX12_forgets 37 = .ok (.iinc 3 1, 3) := by decide +kernel
theorem dX12_forgets_40 : decode cX12_forgets 40 = .ok (.goto (-36), 3) := by decide +kernel
theorem dX12_forgets_43 : decode cX12_forgets 43 = .ok (.aload_n 0, 1) := by decide +kernel
theorem dX12_forgets_44 : decode cX12_forgets 44 = .ok (.getfield 207, 3) := by decide +kernel
theorem dX12_forgets_47 : decode cX12_forgets 47 = .ok (.iload_n 2, 1) := by decide +kernel
theorem dX12_forgets_48 : decode cX12_forgets 48 = .ok (.isub, 1) := by decide +kernel
theorem dX12_forgets_49 : decode cX12_forgets 49 = .ok (.istore_n 3, 1) := by decide +kernel
theorem dX12_forgets_50 : decode cX12_forgets 50 = .ok (.aload_n 0, 1) := by decide +kernel
theorem dX12_forgets_51 : decode cX12_forgets 51 = .ok (.iload_n 2, 1) := by decide +kernel
theorem dX12_forgets_52 : decode cX12_forgets 52 = .ok (.putfield 207, 3) := by decide +kernel
theorem dX12_forgets_55 : decode cX12_forgets 55 = .ok (.iload_n 3, 1) := by decide +kernel
theorem dX12_forgets_56 : decode cX12_forgets 56 = .ok (.ireturn, 1) := by decide +kernel
theorem dX12_sieve_0 : decode cX12_sieve 0 = .ok (.iload_n 1, 1) := by decide +kernel
theorem dX12_sieve_1 : decode cX12_sieve 1 = .ok (.invokestatic 210, 3) := by decide +kernel
theorem dX12_sieve_4 : decode cX12_sieve 4 = .ok (.ifCond .ne 6, 3) := by decide +kernel
theorem dX12_sieve_7 : decode cX12_sieve 7 = .ok (.bipush (-2), 2) := by decide +kernel
theorem dX12_sieve_9 : decode cX12_sieve 9 = .ok (.ireturn, 1) := by decide +kernel
theorem dX12_sieve_10 : decode cX12_sieve 10 = .ok (.aload_n 0, 1) := by decide +kernel
theorem dX12_sieve_11 : decode cX12_sieve 11 = .ok (.iload_n 1, 1) := by decide +kernel
theorem dX12_sieve_12 : decode cX12_sieve 12 = .ok (.invokevirtual 95, 3) := by decide +kernel
theorem dX12_sieve_15 : decode cX12_sieve 15 = .ok (.ifCond .lt 6, 3) := by decide +kernel
theorem dX12_sieve_18 : decode cX12_sieve 18 = .ok (.bipush (-3), 2) := by decide +kernel
theorem dX12_sieve_20 : decode cX12_sieve 20 = .ok (.ireturn, 1) := by decide +kernel
theorem dX12_sieve_21 : decode cX12_sieve 21 = .ok (.aload_n 0, 1) := by decide +kernel
theorem dX12_sieve_22 : decode cX12_sieve 22 = .ok (.iload_n 1, 1) := by decide +kernel
theorem dX12_sieve_23 : decode cX12_sieve 23 = .ok (.invokevirtual 103, 3) := by decide +kernel
theorem dX12_sieve_26 : decode cX12_sieve 26 = .ok (.istore_n 2, 1) := by decide +kernel
theorem dX12_sieve_27 : decode cX12_sieve 27 = .ok (.aload_n 0, 1) := by decide +kernel
theorem dX12_sieve_28 : decode cX12_sieve 28 = .ok (.getfield 24, 3) := by decide +kernel
theorem dX12_sieve_31 : decode cX12_sieve 31 = .ok (.aload_n 0, 1) := by decide +kernel
theorem dX12_sieve_32 : decode cX12_sieve 32 = .ok (.getfield 207, 3) := by decide +kernel
theorem dX12_sieve_35 : decode cX12_sieve 35 = .ok (.iload_n 1, 1) := by decide +kernel
theorem dX12_sieve_36 : decode cX12_sieve 36 = .ok (.iastore, 1) := by decide +kernel
theorem dX12_sieve_37 : decode cX12_sieve 37 = .ok (.aload_n 0, 1) := by decide +kernel
theorem dX12_sieve_38 : decode cX12_sieve 38 = .ok (.dup, 1) := by decide +kernel
theorem dX12_sieve_39 : decode cX12_sieve 39 = .ok (.getfield 207, 3) := by decide +kernel
theorem dX12_sieve_42 : decode cX12_sieve 42 = .ok (.iconst 1, 1) := by decide +kernel
theorem dX12_sieve_43 : decode cX12_sieve 43 = .ok (.iadd, 1) := by decide +kernel
theorem dX12_sieve_44 : decode cX12_sieve 44 = .ok (.putfield 207, 3) := by decide +kernel
theorem dX12_sieve_47 : decode cX12_sieve 47 = .ok (.aload_n 0, 1) := by decide +kernel
theorem dX12_sieve_48 : decode cX12_sieve 48 = .ok (.getfield 207, 3) := by decide +kernel
theorem dX12_sieve_51 : decode cX12_sieve 51 = .ok (.iconst 4, 1) := by decide +kernel
theorem dX12_sieve_52 : decode cX12_sieve 52 = .ok (.if_icmp .le 14, 3) := by decide +kernel
theorem dX12_sieve_55 : decode cX12_sieve 55 = .ok (.aload_n 0, 1) := by decide +kernel
theorem dX12_sieve_56 : decode cX12_sieve 56 = .ok (.aload_n 0, 1) := by decide +kernel
theorem dX12_sieve_57 : decode cX12_sieve 57 = .ok (.getfield 24, 3) := by decide +kernel
theorem dX12_sieve_60 : decode cX12_sieve 60 = .ok (.iconst 0, 1) := by decide +kernel
theorem dX12_sieve_61 : decode cX12_sieve 61 = .ok (.iaload, 1) := by decide +kernel
theorem dX12_sieve_62 : decode cX12_sieve 62 = .ok (.invokevirtual 103, 3) := by decide +kernel
theorem dX12_sieve_65 : decode cX12_sieve 65 = .ok (.istore_n 3, 1) := by decide +kernel
theorem dX12_sieve_66 : decode cX12_sieve 66 = .ok (.aload_n 0, 1) := by decide +kernel
theorem dX12_sieve_67 : decode cX12_sieve 67 = .ok (.getfield 207, 3) := by decide +kernel
theorem dX12_sieve_70 : decode cX12_sieve 70 = .ok (.ireturn, 1) := by decide +kernel
theorem dX12_sieveOf_0 : decode cX12_sieveOf 0 = .ok (.iload_n 1, 1) := by decide +kernel
theorem dX12_sieveOf_1 : decode cX12_sieveOf 1 = .ok (.iconst 0, 1) := by decide +kernel
theorem dX12_sieveOf_2 : decode cX12_sieveOf 2 = .ok (.aload_n 0, 1) := by decide +kernel
theorem dX12_sieveOf_3 : decode cX12_sieveOf 3 = .ok (.getfield 207, 3) := by decide +kernel
theorem dX12_sieveOf_6 : decode cX12_sieveOf 6 = .ok (.iconst 1, 1) := by decide +kernel
theorem dX12_sieveOf_7 : decode cX12_sieveOf 7 = .ok (.isub, 1) := by decide +kernel
theorem dX12_sieveOf_8 : decode cX12_sieveOf 8 = .ok (.invokestatic 87, 3) := by decide +kernel
theorem dX12_sieveOf_11 : decode cX12_sieveOf 11 = .ok (.ifCond .eq 12, 3) := by decide +kernel
theorem dX12_sieveOf_14 : decode cX12_sieveOf 14 = .ok (.aload_n 0, 1) := by decide +kernel
theorem dX12_sieveOf_15 : decode cX12_sieveOf 15 = .ok (.getfield 24, 3) := by decide +kernel
theorem dX12_sieveOf_18 : decode cX12_sieveOf 18 = .ok (.iload_n 1, 1) := by decide +kernel
theorem dX12_sieveOf_19 : decode cX12_sieveOf 19 = .ok (.iaload, 1) := by decide +kernel
theorem dX12_sieveOf_20 : decode cX12_sieveOf 20 = .ok (.goto 4, 3) := by decide +kernel
theorem dX12_sieveOf_23 : decode cX12_sieveOf 23 = .ok (.iconst (-1), 1) := by decide +kernel
theorem dX12_sieveOf_24 : decode cX12_sieveOf 24 = .ok (.ireturn, 1) := by decide +kernel
theorem dX12_forget_0 : decode cX12_forget 0 = .ok (.aload_n 0, 1) := by decide +kernel
theorem dX12_forget_1 : decode cX12_forget 1 = .ok (.iload_n 1, 1) := by decide +kernel
theorem dX12_forget_2 : decode cX12_forget 2 = .ok (.invokevirtual 103, 3) := by decide +kernel
theorem dX12_forget_5 : decode cX12_forget 5 = .ok (.ifCond .le 10, 3) := by decide +kernel
theorem dX12_forget_8 : decode cX12_forget 8 = .ok (.aload_n 0, 1) := by decide +kernel
theorem dX12_forget_9 : decode cX12_forget 9 = .ok (.getfield 207, 3) := by decide +kernel
theorem dX12_forget_12 : decode cX12_forget 12 = .ok (.goto 4, 3) := by decide +kernel
theorem dX12_forget_15 : decode cX12_forget 15 = .ok (.iconst (-1), 1) := by decide +kernel
theorem dX12_forget_16 : decode cX12_forget 16 = .ok (.ireturn, 1) := by decide +kernel
theorem dX12_order_0 : decode cX12_order 0 = .ok (.aload_n 0, 1) := by decide +kernel
theorem dX12_order_1 : decode cX12_order 1 = .ok (.iload_n 1, 1) := by decide +kernel
theorem dX12_order_2 : decode cX12_order 2 = .ok (.invokevirtual 106, 3) := by decide +kernel
theorem dX12_order_5 : decode cX12_order 5 = .ok (.ifCond .ne 5, 3) := by decide +kernel
theorem dX12_order_8 : decode cX12_order 8 = .ok (.iconst (-1), 1) := by decide +kernel
theorem dX12_order_9 : decode cX12_order 9 = .ok (.ireturn, 1) := by decide +kernel
theorem dX12_order_10 : decode cX12_order 10 = .ok (.iload_n 2, 1) := by decide +kernel
theorem dX12_order_11 : decode cX12_order 11 = .ok (.invokestatic 210, 3) := by decide +kernel
theorem dX12_order_14 : decode cX12_order 14 = .ok (.ifCond .ne 6, 3) := by decide +kernel
theorem dX12_order_17 : decode cX12_order 17 = .ok (.bipush (-2), 2) := by decide +kernel
theorem dX12_order_19 : decode cX12_order 19 = .ok (.ireturn, 1) := by decide +kernel
theorem dX12_order_20 : decode cX12_order 20 = .ok (.aload_n 0, 1) := by decide +kernel
theorem dX12_order_21 : decode cX12_order 21 = .ok (.iload_n 2, 1) := by decide +kernel
theorem dX12_order_22 : decode cX12_order 22 = .ok (.invokevirtual 95, 3) := by decide +kernel
theorem dX12_order_25 : decode cX12_order 25 = .ok (.ifCond .lt 6, 3) := by decide +kernel
theorem dX12_order_28 : decode cX12_order 28 = .ok (.bipush (-3), 2) := by decide +kernel
theorem dX12_order_30 : decode cX12_order 30 = .ok (.ireturn, 1) := by decide +kernel
theorem dX12_order_31 : decode cX12_order 31 = .ok (.iconst 1, 1) := by decide +kernel
theorem dX12_order_32 : decode cX12_order 32 = .ok (.istore_n 3, 1) := by decide +kernel
theorem dX12_order_33 : decode cX12_order 33 = .ok (.aload_n 0, 1) := by decide +kernel
theorem dX12_order_34 : decode cX12_order 34 = .ok (.getfield 9, 3) := by decide +kernel
theorem dX12_order_37 : decode cX12_order 37 = .ok (.iload_n 1, 1) := by decide +kernel
theorem dX12_order_38 : decode cX12_order 38 = .ok (.iaload, 1) := by decide +kernel
theorem dX12_order_39 : decode cX12_order 39 = .ok (.iload_n 2, 1) := by decide +kernel
theorem dX12_order_40 : decode cX12_order 40 = .ok (.irem, 1) := by decide +kernel
theorem dX12_order_41 : decode cX12_order 41 = .ok (.istore 4, 2) := by decide +kernel
theorem dX12_order_43 : decode cX12_order 43 = .ok (.iload 4, 2) := by decide +kernel
theorem dX12_order_45 : decode cX12_order 45 = .ok (.iconst 1, 1) := by decide +kernel
theorem dX12_order_46 : decode cX12_order 46 = .ok (.if_icmp .eq 22, 3) := by decide +kernel
theorem dX12_order_49 : decode cX12_order 49 = .ok (.iload 4, 2) := by decide +kernel
theorem dX12_order_51 : decode cX12_order 51 = .ok (.aload_n 0, 1) := by decide +kernel
theorem dX12_order_52 : decode cX12_order 52 = .ok (.getfield 9, 3) := by decide +kernel
theorem dX12_order_55 : decode cX12_order 55 = .ok (.iload_n 1, 1) := by decide +kernel
theorem dX12_order_56 : decode cX12_order 56 = .ok (.iaload, 1) := by decide +kernel
theorem dX12_order_57 : decode cX12_order 57 = .ok (.imul, 1) := by decide +kernel
theorem dX12_order_58 : decode cX12_order 58 = .ok (.iload_n 2, 1) := by decide +kernel
theorem dX12_order_59 : decode cX12_order 59 = .ok (.irem, 1) := by decide +kernel
theorem dX12_order_60 : decode cX12_order 60 = .ok (.istore 4, 2) := by decide +kernel
theorem dX12_order_62 : decode cX12_order 62 = .ok (.iinc 3 1, 3) := by decide +kernel
theorem dX12_order_65 : decode cX12_order 65 = .ok (.goto (-22), 3) := by decide +kernel
theorem dX12_order_68 : decode cX12_order 68 = .ok (.iload_n 3, 1) := by decide +kernel
theorem dX12_order_69 : decode cX12_order 69 = .ok (.ireturn, 1) := by decide +kernel
theorem dX12_reaches_0 : decode cX12_reaches 0 = .ok (.iconst 0, 1) := by decide +kernel
theorem dX12_reaches_1 : decode cX12_reaches 1 = .ok (.istore_n 2, 1) := by decide +kernel
theorem dX12_reaches_2 : decode cX12_reaches 2 = .ok (.iload_n 2, 1) := by decide +kernel
theorem dX12_reaches_3 : decode cX12_reaches 3 = .ok (.iload_n 1, 1) := by decide +kernel
theorem dX12_reaches_4 : decode cX12_reaches 4 = .ok (.if_icmp .ge 32, 3) := by decide +kernel
theorem dX12_reaches_7 : decode cX12_reaches 7 = .ok (.aload_n 0, 1) := by decide +kernel
theorem dX12_reaches_8 : decode cX12_reaches 8 = .ok (.getfield 67, 3) := by decide +kernel
theorem dX12_reaches_11 : decode cX12_reaches 11 = .ok (.iload_n 2, 1) := by decide +kernel
theorem dX12_reaches_12 : decode cX12_reaches 12 = .ok (.iload_n 2, 1) := by decide +kernel
theorem dX12_reaches_13 : decode cX12_reaches 13 = .ok (.iconst 1, 1) := by decide +kernel
theorem dX12_reaches_14 : decode cX12_reaches 14 = .ok (.if_icmp .eq 10, 3) := by decide +kernel
theorem dX12_reaches_17 : decode cX12_reaches 17 = .ok (.iload_n 2, 1) := by decide +kernel
theorem dX12_reaches_18 : decode cX12_reaches 18 = .ok (.iload_n 1, 1) := by decide +kernel
theorem dX12_reaches_19 : decode cX12_reaches 19 = .ok (.iconst 1, 1) := by decide +kernel
theorem dX12_reaches_20 : decode cX12_reaches 20 = .ok (.isub, 1) := by decide +kernel
theorem dX12_reaches_21 : decode cX12_reaches 21 = .ok (.if_icmp .ne 7, 3) := by decide +kernel
theorem dX12_reaches_24 : decode cX12_reaches 24 = .ok (.iconst 1, 1) := by decide +kernel
theorem dX12_reaches_25 : decode cX12_reaches 25 = .ok (.goto 4, 3) := by decide +kernel
theorem dX12_reaches_28 : decode cX12_reaches 28 = .ok (.iconst 0, 1) := by decide +kernel
theorem dX12_reaches_29 : decode cX12_reaches 29 = .ok (.bastore, 1) := by decide +kernel
theorem dX12_reaches_30 : decode cX12_reaches 30 = .ok (.iinc 2 1, 3) := by decide +kernel
theorem dX12_reaches_33 : decode cX12_reaches 33 = .ok (.goto (-31), 3) := by decide +kernel
theorem dX12_reaches_36 : decode cX12_reaches 36 = .ok (.iconst 2, 1) := by decide +kernel
theorem dX12_reaches_37 : decode cX12_reaches 37 = .ok (.istore_n 2, 1) := by decide +kernel
theorem dX12_reaches_38 : decode cX12_reaches 38 = .ok (.iconst 0, 1) := by decide +kernel
theorem dX12_reaches_39 : decode cX12_reaches 39 = .ok (.istore_n 3, 1) := by decide +kernel
theorem dX12_reaches_40 : decode cX12_reaches 40 = .ok (.iload_n 2, 1) := by decide +kernel
theorem dX12_reaches_41 : decode cX12_reaches 41 = .ok (.iload_n 3, 1) := by decide +kernel
theorem dX12_reaches_42 : decode cX12_reaches 42 = .ok (.if_icmp .eq 86, 3) := by decide +kernel
theorem dX12_reaches_45 : decode cX12_reaches 45 = .ok (.iload_n 2, 1) := by decide +kernel
theorem dX12_reaches_46 : decode cX12_reaches 46 = .ok (.istore_n 3, 1) := by decide +kernel
theorem dX12_reaches_47 : decode cX12_reaches 47 = .ok (.iconst 1, 1) := by decide +kernel
theorem dX12_reaches_48 : decode cX12_reaches 48 = .ok (.istore 4, 2) := by decide +kernel
theorem dX12_reaches_50 : decode cX12_reaches 50 = .ok (.iload 4, 2) := by decide +kernel
theorem dX12_reaches_52 : decode cX12_reaches 52 = .ok (.iload_n 1, 1) := by decide +kernel
theorem dX12_reaches_53 : decode cX12_reaches 53 = .ok (.if_icmp .ge 72, 3) := by decide +kernel
theorem dX12_reaches_56 : decode cX12_reaches 56 = .ok (.iconst 0, 1) := by decide +kernel
theorem dX12_reaches_57 : decode cX12_reaches 57 = .ok (.istore 5, 2) := by decide +kernel
theorem dX12_reaches_59 : decode cX12_reaches 59 = .ok (.iload 5, 2) := by decide +kernel
theorem dX12_reaches_61 : decode cX12_reaches 61 = .ok (.aload_n 0, 1) := by decide +kernel
theorem dX12_reaches_62 : decode cX12_reaches 62 = .ok (.getfield 83, 3) := by decide +kernel
theorem dX12_reaches_65 : decode cX12_reaches 65 = .ok (.if_icmp .ge 54, 3) := by decide +kernel
theorem dX12_reaches_68 : decode cX12_reaches 68 = .ok (.iload 4, 2) := by decide +kernel
theorem dX12_reaches_70 : decode cX12_reaches 70 = .ok (.aload_n 0, 1) := by decide +kernel
theorem dX12_reaches_71 : decode cX12_reaches 71 = .ok (.getfield 9, 3) := by decide +kernel
theorem dX12_reaches_74 : decode cX12_reaches 74 = .ok (.iload 5, 2) := by decide +kernel
theorem dX12_reaches_76 : decode cX12_reaches 76 = .ok (.iaload, 1) := by decide +kernel
theorem dX12_reaches_77 : decode cX12_reaches 77 = .ok (.imul, 1) := by decide +kernel
theorem dX12_reaches_78 : decode cX12_reaches 78 = .ok (.iload_n 1, 1) := by decide +kernel
theorem dX12_reaches_79 : decode cX12_reaches 79 = .ok (.irem, 1) := by decide +kernel
theorem dX12_reaches_80 : decode cX12_reaches 80 = .ok (.istore 6, 2) := by decide +kernel
theorem dX12_reaches_82 : decode cX12_reaches 82 = .ok (.aload_n 0, 1) := by decide +kernel
theorem dX12_reaches_83 : decode cX12_reaches 83 = .ok (.getfield 67, 3) := by decide +kernel
theorem dX12_reaches_86 : decode cX12_reaches 86 = .ok (.iload 4, 2) := by decide +kernel
theorem dX12_reaches_88 : decode cX12_reaches 88 = .ok (.baload, 1) := by decide +kernel
theorem dX12_reaches_89 : decode cX12_reaches 89 = .ok (.ifCond .eq 24, 3) := by decide +kernel
theorem dX12_reaches_92 : decode cX12_reaches 92 = .ok (.aload_n 0, 1) := by decide +kernel
theorem dX12_reaches_93 : decode cX12_reaches 93 = .ok (.getfield 67, 3) := by decide +kernel
theorem dX12_reaches_96 : decode cX12_reaches 96 = .ok (.iload 6, 2) := by decide +kernel
theorem dX12_reaches_98 : decode cX12_reaches 98 = .ok (.baload, 1) := by decide +kernel
theorem dX12_reaches_99 : decode cX12_reaches 99 = .ok (.ifCond .ne 14, 3) := by decide +kernel
theorem dX12_reaches_102 : decode cX12_reaches 102 = .ok (.aload_n 0, 1) := by decide +kernel
theorem dX12_reaches_103 : decode cX12_reaches 103 = .ok (.getfield 67, 3) := by decide +kernel
theorem dX12_reaches_106 : decode cX12_reaches 106 = .ok (.iload 6, 2) := by decide +kernel
theorem dX12_reaches_108 : decode cX12_reaches 108 = .ok (.iconst 1, 1) := by decide +kernel
theorem dX12_reaches_109 : decode cX12_reaches 109 = .ok (.bastore, 1) := by decide +kernel
theorem dX12_reaches_110 : decode cX12_reaches 110 = .ok (.iinc 2 1, 3) := by decide +kernel
theorem dX12_reaches_113 : decode cX12_reaches 113 = .ok (.iinc 5 1, 3) := by decide +kernel
theorem dX12_reaches_116 : decode cX12_reaches 116 = .ok (.goto (-57), 3) := by decide +kernel
theorem dX12_reaches_119 : decode cX12_reaches 119 = .ok (.iinc 4 1, 3) := by decide +kernel
theorem dX12_reaches_122 : decode cX12_reaches 122 = .ok (.goto (-72), 3) := by decide +kernel
theorem dX12_reaches_125 : decode cX12_reaches 125 = .ok (.goto (-85), 3) := by decide +kernel
theorem dX12_reaches_128 : decode cX12_reaches 128 = .ok (.iload_n 2, 1) := by decide +kernel
theorem dX12_reaches_129 : decode cX12_reaches 129 = .ok (.ireturn, 1) := by decide +kernel
theorem dX12_reach_0 : decode cX12_reach 0 = .ok (.iload_n 1, 1) := by decide +kernel
theorem dX12_reach_1 : decode cX12_reach 1 = .ok (.invokestatic 210, 3) := by decide +kernel
theorem dX12_reach_4 : decode cX12_reach 4 = .ok (.ifCond .ne 6, 3) := by decide +kernel
theorem dX12_reach_7 : decode cX12_reach 7 = .ok (.bipush (-2), 2) := by decide +kernel
theorem dX12_reach_9 : decode cX12_reach 9 = .ok (.ireturn, 1) := by decide +kernel
theorem dX12_reach_10 : decode cX12_reach 10 = .ok (.aload_n 0, 1) := by decide +kernel
theorem dX12_reach_11 : decode cX12_reach 11 = .ok (.iload_n 1, 1) := by decide +kernel
theorem dX12_reach_12 : decode cX12_reach 12 = .ok (.invokevirtual 95, 3) := by decide +kernel
theorem dX12_reach_15 : decode cX12_reach 15 = .ok (.ifCond .lt 8, 3) := by decide +kernel
theorem dX12_reach_18 : decode cX12_reach 18 = .ok (.bipush (-3), 2) := by decide +kernel
theorem dX12_reach_20 : decode cX12_reach 20 = .ok (.goto 8, 3) := by decide +kernel
theorem dX12_reach_23 : decode cX12_reach 23 = .ok (.aload_n 0, 1) := by decide +kernel
theorem dX12_reach_24 : decode cX12_reach 24 = .ok (.iload_n 1, 1) := by decide +kernel
theorem dX12_reach_25 : decode cX12_reach 25 = .ok (.invokevirtual 213, 3) := by decide +kernel
theorem dX12_reach_28 : decode cX12_reach 28 = .ok (.ireturn, 1) := by decide +kernel
theorem dX12_inverse_0 : decode cX12_inverse 0 = .ok (.iconst 1, 1) := by decide +kernel
theorem dX12_inverse_1 : decode cX12_inverse 1 = .ok (.istore_n 2, 1) := by decide +kernel
theorem dX12_inverse_2 : decode cX12_inverse 2 = .ok (.iload_n 2, 1) := by decide +kernel
theorem dX12_inverse_3 : decode cX12_inverse 3 = .ok (.iload_n 0, 1) := by decide +kernel
theorem dX12_inverse_4 : decode cX12_inverse 4 = .ok (.imul, 1) := by decide +kernel
theorem dX12_inverse_5 : decode cX12_inverse 5 = .ok (.iload_n 1, 1) := by decide +kernel
theorem dX12_inverse_6 : decode cX12_inverse 6 = .ok (.irem, 1) := by decide +kernel
theorem dX12_inverse_7 : decode cX12_inverse 7 = .ok (.iconst 1, 1) := by decide +kernel
theorem dX12_inverse_8 : decode cX12_inverse 8 = .ok (.if_icmp .eq 9, 3) := by decide +kernel
theorem dX12_inverse_11 : decode cX12_inverse 11 = .ok (.iinc 2 1, 3) := by decide +kernel
theorem dX12_inverse_14 : decode cX12_inverse 14 = .ok (.goto (-12), 3) := by decide +kernel
theorem dX12_inverse_17 : decode cX12_inverse 17 = .ok (.iload_n 2, 1) := by decide +kernel
theorem dX12_inverse_18 : decode cX12_inverse 18 = .ok (.ireturn, 1) := by decide +kernel
theorem dX12_layInverses_0 : decode cX12_layInverses 0 = .ok (.iconst 0, 1) := by decide +kernel
theorem dX12_layInverses_1 : decode cX12_layInverses 1 = .ok (.istore_n 2, 1) := by decide +kernel
theorem dX12_layInverses_2 : decode cX12_layInverses 2 = .ok (.iload_n 2, 1) := by decide +kernel
theorem dX12_layInverses_3 : decode cX12_layInverses 3 = .ok (.aload_n 0, 1) := by decide +kernel
theorem dX12_layInverses_4 : decode cX12_layInverses 4 = .ok (.getfield 83, 3) := by decide +kernel
theorem dX12_layInverses_7 : decode cX12_layInverses 7 = .ok (.if_icmp .ge 27, 3) := by decide +kernel
theorem dX12_layInverses_10 : decode cX12_layInverses 10 = .ok (.aload_n 0, 1) := by decide +kernel
theorem dX12_layInverses_11 : decode cX12_layInverses 11 = .ok (.getfield 71, 3) := by decide +kernel
theorem dX12_layInverses_14 : decode cX12_layInverses 14 = .ok (.iload_n 2, 1) := by decide +kernel
theorem dX12_layInverses_15 : decode cX12_layInverses 15 = .ok (.aload_n 0, 1) := by decide +kernel
theorem dX12_layInverses_16 : decode cX12_layInverses 16 = .ok (.getfield 9, 3) := by decide +kernel
theorem dX12_layInverses_19 : decode cX12_layInverses 19 = .ok (.iload_n 2, 1) := by decide +kernel
theorem dX12_layInverses_20 : decode cX12_layInverses 20 = .ok (.iaload, 1) := by decide +kernel
theorem dX12_layInverses_21 : decode cX12_layInverses 21 = .ok (.iload_n 1, 1) := by decide +kernel
theorem dX12_layInverses_22 : decode cX12_layInverses 22 = .ok (.irem, 1) := by decide +kernel
theorem dX12_layInverses_23 : decode cX12_layInverses 23 = .ok (.iload_n 1, 1) := by decide +kernel
theorem dX12_layInverses_24 : decode cX12_layInverses 24 = .ok (.invokestatic 216, 3) := by decide +kernel
theorem dX12_layInverses_27 : decode cX12_layInverses 27 = .ok (.iastore, 1) := by decide +kernel
theorem dX12_layInverses_28 : decode cX12_layInverses 28 = .ok (.iinc 2 1, 3) := by decide +kernel
theorem dX12_layInverses_31 : decode cX12_layInverses 31 = .ok (.goto (-29), 3) := by decide +kernel
theorem dX12_layInverses_34 : decode cX12_layInverses 34 = .ok (.return_, 1) := by decide +kernel
theorem dX12_isPassing_0 : decode cX12_isPassing 0 = .ok (.aload_n 0, 1) := by decide +kernel
theorem dX12_isPassing_1 : decode cX12_isPassing 1 = .ok (.getfield 109, 3) := by decide +kernel
theorem dX12_isPassing_4 : decode cX12_isPassing 4 = .ok (.iconst 1, 1) := by decide +kernel
theorem dX12_isPassing_5 : decode cX12_isPassing 5 = .ok (.if_icmp .ne 7, 3) := by decide +kernel
theorem dX12_isPassing_8 : decode cX12_isPassing 8 = .ok (.iconst 1, 1) := by decide +kernel
theorem dX12_isPassing_9 : decode cX12_isPassing 9 = .ok (.goto 6, 3) := by decide +kernel
theorem dX12_isPassing_12 : decode cX12_isPassing 12 = .ok (.iload_n 1, 1) := by decide +kernel
theorem dX12_isPassing_13 : decode cX12_isPassing 13 = .ok (.iconst 1, 1) := by decide +kernel
theorem dX12_isPassing_14 : decode cX12_isPassing 14 = .ok (.isub, 1) := by decide +kernel
theorem dX12_isPassing_15 : decode cX12_isPassing 15 = .ok (.istore_n 2, 1) := by decide +kernel
theorem dX12_isPassing_16 : decode cX12_isPassing 16 = .ok (.iconst 0, 1) := by decide +kernel
theorem dX12_isPassing_17 : decode cX12_isPassing 17 = .ok (.istore_n 3, 1) := by decide +kernel
theorem dX12_isPassing_18 : decode cX12_isPassing 18 = .ok (.iload_n 3, 1) := by decide +kernel
theorem dX12_isPassing_19 : decode cX12_isPassing 19 = .ok (.aload_n 0, 1) := by decide +kernel
theorem dX12_isPassing_20 : decode cX12_isPassing 20 = .ok (.getfield 83, 3) := by decide +kernel
theorem dX12_isPassing_23 : decode cX12_isPassing 23 = .ok (.if_icmp .ge 73, 3) := by decide +kernel
theorem dX12_isPassing_26 : decode cX12_isPassing 26 = .ok (.aload_n 0, 1) := by decide +kernel
theorem dX12_isPassing_27 : decode cX12_isPassing 27 = .ok (.getfield 37, 3) := by decide +kernel
theorem dX12_isPassing_30 : decode cX12_isPassing 30 = .ok (.iload_n 3, 1) := by decide +kernel
theorem dX12_isPassing_31 : decode cX12_isPassing 31 = .ok (.iaload, 1) := by decide +kernel
theorem dX12_isPassing_32 : decode cX12_isPassing 32 = .ok (.ifCond .ge 12, 3) := by decide +kernel
theorem dX12_isPassing_35 : decode cX12_isPassing 35 = .ok (.aload_n 0, 1) := by decide +kernel
theorem dX12_isPassing_36 : decode cX12_isPassing 36 = .ok (.getfield 71, 3) := by decide +kernel
theorem dX12_isPassing_39 : decode cX12_isPassing 39 = .ok (.iload_n 3, 1) := by decide +kernel
theorem dX12_isPassing_40 : decode cX12_isPassing 40 = .ok (.iaload, 1) := by decide +kernel
theorem dX12_isPassing_41 : decode cX12_isPassing 41 = .ok (.goto 11, 3) := by decide +kernel
theorem dX12_isPassing_44 : decode cX12_isPassing 44 = .ok (.aload_n 0, 1) := by decide +kernel
theorem dX12_isPassing_45 : decode cX12_isPassing 45 = .ok (.getfield 9, 3) := by decide +kernel
theorem dX12_isPassing_48 : decode cX12_isPassing 48 = .ok (.iload_n 3, 1) := by decide +kernel
theorem dX12_isPassing_49 : decode cX12_isPassing 49 = .ok (.iaload, 1) := by decide +kernel
theorem dX12_isPassing_50 : decode cX12_isPassing 50 = .ok (.iload_n 1, 1) := by decide +kernel
theorem dX12_isPassing_51 : decode cX12_isPassing 51 = .ok (.irem, 1) := by decide +kernel
theorem dX12_isPassing_52 : decode cX12_isPassing 52 = .ok (.istore 4, 2) := by decide +kernel
theorem dX12_isPassing_54 : decode cX12_isPassing 54 = .ok (.aload_n 0, 1) := by decide +kernel
theorem dX12_isPassing_55 : decode cX12_isPassing 55 = .ok (.getfield 37, 3) := by decide +kernel
theorem dX12_isPassing_58 : decode cX12_isPassing 58 = .ok (.iload_n 3, 1) := by decide +kernel
theorem dX12_isPassing_59 : decode cX12_isPassing 59 = .ok (.iaload, 1) := by decide +kernel
theorem dX12_isPassing_60 : decode cX12_isPassing 60 = .ok (.aload_n 0, 1) := by decide +kernel
theorem dX12_isPassing_61 : decode cX12_isPassing 61 = .ok (.getfield 37, 3) := by decide +kernel
theorem dX12_isPassing_64 : decode cX12_isPassing 64 = .ok (.iload_n 3, 1) := by decide +kernel
theorem dX12_isPassing_65 : decode cX12_isPassing 65 = .ok (.iaload, 1) := by decide +kernel
theorem dX12_isPassing_66 : decode cX12_isPassing 66 = .ok (.ineg, 1) := by decide +kernel
theorem dX12_isPassing_67 : decode cX12_isPassing 67 = .ok (.invokestatic 141, 3) := by decide +kernel
theorem dX12_isPassing_70 : decode cX12_isPassing 70 = .ok (.istore 5, 2) := by decide +kernel
theorem dX12_isPassing_72 : decode cX12_isPassing 72 = .ok (.iload 5, 2) := by decide +kernel
theorem dX12_isPassing_74 : decode cX12_isPassing 74 = .ok (.ifCond .le 16, 3) := by decide +kernel
theorem dX12_isPassing_77 : decode cX12_isPassing 77 = .ok (.iload_n 2, 1) := by decide +kernel
theorem dX12_isPassing_78 : decode cX12_isPassing 78 = .ok (.iload 4, 2) := by decide +kernel
theorem dX12_isPassing_80 : decode cX12_isPassing 80 = .ok (.imul, 1) := by decide +kernel
theorem dX12_isPassing_81 : decode cX12_isPassing 81 = .ok (.iload_n 1, 1) := by decide +kernel
theorem dX12_isPassing_82 : decode cX12_isPassing 82 = .ok (.irem, 1) := by decide +kernel
theorem dX12_isPassing_83 : decode cX12_isPassing 83 = .ok (.istore_n 2, 1) := by decide +kernel
theorem dX12_isPassing_84 : decode cX12_isPassing 84 = .ok (.iinc 5 (-1), 3) := by decide +kernel
theorem dX12_isPassing_87 : decode cX12_isPassing 87 = .ok (.goto (-15), 3) := by decide +kernel
theorem dX12_isPassing_90 : decode cX12_isPassing 90 = .ok (.iinc 3 1, 3) := by decide +kernel
theorem dX12_isPassing_93 : decode cX12_isPassing 93 = .ok (.goto (-75), 3) := by decide +kernel
theorem dX12_isPassing_96 : decode cX12_isPassing 96 = .ok (.aload_n 0, 1) := by decide +kernel
theorem dX12_isPassing_97 : decode cX12_isPassing 97 = .ok (.getfield 67, 3) := by decide +kernel
theorem dX12_isPassing_100 : decode cX12_isPassing 100 = .ok (.iconst 1, 1) := by decide +kernel
theorem dX12_isPassing_101 : decode cX12_isPassing 101 = .ok (.iload_n 2, 1) := by decide +kernel
theorem dX12_isPassing_102 : decode cX12_isPassing 102 = .ok (.isub, 1) := by decide +kernel
theorem dX12_isPassing_103 : decode cX12_isPassing 103 = .ok (.iload_n 1, 1) := by decide +kernel
theorem dX12_isPassing_104 : decode cX12_isPassing 104 = .ok (.iadd, 1) := by decide +kernel
theorem dX12_isPassing_105 : decode cX12_isPassing 105 = .ok (.iload_n 1, 1) := by decide +kernel
theorem dX12_isPassing_106 : decode cX12_isPassing 106 = .ok (.irem, 1) := by decide +kernel
theorem dX12_isPassing_107 : decode cX12_isPassing 107 = .ok (.baload, 1) := by decide +kernel
theorem dX12_isPassing_108 : decode cX12_isPassing 108 = .ok (.ireturn, 1) := by decide +kernel
theorem dX12_passes_0 : decode cX12_passes 0 = .ok (.iload_n 1, 1) := by decide +kernel
theorem dX12_passes_1 : decode cX12_passes 1 = .ok (.invokestatic 132, 3) := by decide +kernel
theorem dX12_passes_4 : decode cX12_passes 4 = .ok (.ifCond .ne 5, 3) := by decide +kernel
theorem dX12_passes_7 : decode cX12_passes 7 = .ok (.iconst (-1), 1) := by decide +kernel
theorem dX12_passes_8 : decode cX12_passes 8 = .ok (.ireturn, 1) := by decide +kernel
theorem dX12_passes_9 : decode cX12_passes 9 = .ok (.iload_n 2, 1) := by decide +kernel
theorem dX12_passes_10 : decode cX12_passes 10 = .ok (.invokestatic 210, 3) := by decide +kernel
theorem dX12_passes_13 : decode cX12_passes 13 = .ok (.ifCond .ne 6, 3) := by decide +kernel
theorem dX12_passes_16 : decode cX12_passes 16 = .ok (.bipush (-2), 2) := by decide +kernel
theorem dX12_passes_18 : decode cX12_passes 18 = .ok (.ireturn, 1) := by decide +kernel
theorem dX12_passes_19 : decode cX12_passes 19 = .ok (.aload_n 0, 1) := by decide +kernel
theorem dX12_passes_20 : decode cX12_passes 20 = .ok (.iload_n 2, 1) := by decide +kernel
theorem dX12_passes_21 : decode cX12_passes 21 = .ok (.invokevirtual 95, 3) := by decide +kernel
theorem dX12_passes_24 : decode cX12_passes 24 = .ok (.ifCond .lt 6, 3) := by decide +kernel
theorem dX12_passes_27 : decode cX12_passes 27 = .ok (.bipush (-3), 2) := by decide +kernel
theorem dX12_passes_29 : decode cX12_passes 29 = .ok (.ireturn, 1) := by decide +kernel
theorem dX12_passes_30 : decode cX12_passes 30 = .ok (.aload_n 0, 1) := by decide +kernel
theorem dX12_passes_31 : decode cX12_passes 31 = .ok (.iload_n 2, 1) := by decide +kernel
theorem dX12_passes_32 : decode cX12_passes 32 = .ok (.invokevirtual 213, 3) := by decide +kernel
theorem dX12_passes_35 : decode cX12_passes 35 = .ok (.istore_n 3, 1) := by decide +kernel
theorem dX12_passes_36 : decode cX12_passes 36 = .ok (.aload_n 0, 1) := by decide +kernel
theorem dX12_passes_37 : decode cX12_passes 37 = .ok (.iload_n 2, 1) := by decide +kernel
theorem dX12_passes_38 : decode cX12_passes 38 = .ok (.invokevirtual 219, 3) := by decide +kernel
theorem dX12_passes_41 : decode cX12_passes 41 = .ok (.aload_n 0, 1) := by decide +kernel
theorem dX12_passes_42 : decode cX12_passes 42 = .ok (.iload_n 1, 1) := by decide +kernel
theorem dX12_passes_43 : decode cX12_passes 43 = .ok (.invokevirtual 137, 3) := by decide +kernel
theorem dX12_passes_46 : decode cX12_passes 46 = .ok (.aload_n 0, 1) := by decide +kernel
theorem dX12_passes_47 : decode cX12_passes 47 = .ok (.iload_n 2, 1) := by decide +kernel
theorem dX12_passes_48 : decode cX12_passes 48 = .ok (.invokevirtual 222, 3) := by decide +kernel
theorem dX12_passes_51 : decode cX12_passes 51 = .ok (.ifCond .eq 7, 3) := by decide +kernel
theorem dX12_passes_54 : decode cX12_passes 54 = .ok (.iconst 1, 1) := by decide +kernel
theorem dX12_passes_55 : decode cX12_passes 55 = .ok (.goto 4, 3) := by decide +kernel
theorem dX12_passes_58 : decode cX12_passes 58 = .ok (.iconst 0, 1) := by decide +kernel
theorem dX12_passes_59 : decode cX12_passes 59 = .ok (.ireturn, 1) := by decide +kernel
theorem dX12_left_0 : decode cX12_left 0 = .ok (.iconst 2, 1) := by decide +kernel
theorem dX12_left_1 : decode cX12_left 1 = .ok (.istore_n 1, 1) := by decide +kernel
theorem dX12_left_2 : decode cX12_left 2 = .ok (.iconst 0, 1) := by decide +kernel
theorem dX12_left_3 : decode cX12_left 3 = .ok (.istore_n 2, 1) := by decide +kernel
theorem dX12_left_4 : decode cX12_left 4 = .ok (.iload_n 2, 1) := by decide +kernel
theorem dX12_left_5 : decode cX12_left 5 = .ok (.aload_n 0, 1) := by decide +kernel
theorem dX12_left_6 : decode cX12_left 6 = .ok (.getfield 83, 3) := by decide +kernel
theorem dX12_left_9 : decode cX12_left 9 = .ok (.if_icmp .ge 22, 3) := by decide +kernel
theorem dX12_left_12 : decode cX12_left 12 = .ok (.iload_n 1, 1) := by decide +kernel
theorem dX12_left_13 : decode cX12_left 13 = .ok (.iconst 2, 1) := by decide +kernel
theorem dX12_left_14 : decode cX12_left 14 = .ok (.aload_n 0, 1) := by decide +kernel
theorem dX12_left_15 : decode cX12_left 15 = .ok (.getfield 15, 3) := by decide +kernel
theorem dX12_left_18 : decode cX12_left 18 = .ok (.iload_n 2, 1) := by decide +kernel
theorem dX12_left_19 : decode cX12_left 19 = .ok (.iaload, 1) := by decide +kernel
theorem dX12_left_20 : decode cX12_left 20 = .ok (.imul, 1) := by decide +kernel
theorem dX12_left_21 : decode cX12_left 21 = .ok (.iconst 1, 1) := by decide +kernel
theorem dX12_left_22 : decode cX12_left 22 = .ok (.iadd, 1) := by decide +kernel
theorem dX12_left_23 : decode cX12_left 23 = .ok (.imul, 1) := by decide +kernel
theorem dX12_left_24 : decode cX12_left 24 = .ok (.istore_n 1, 1) := by decide +kernel
theorem dX12_left_25 : decode cX12_left 25 = .ok (.iinc 2 1, 3) := by decide +kernel
theorem dX12_left_28 : decode cX12_left 28 = .ok (.goto (-24), 3) := by decide +kernel
theorem dX12_left_31 : decode cX12_left 31 = .ok (.iconst 0, 1) := by decide +kernel
theorem dX12_left_32 : decode cX12_left 32 = .ok (.istore_n 2, 1) := by decide +kernel
theorem dX12_left_33 : decode cX12_left 33 = .ok (.iload_n 2, 1) := by decide +kernel
theorem dX12_left_34 : decode cX12_left 34 = .ok (.iload_n 1, 1) := by decide +kernel
theorem dX12_left_35 : decode cX12_left 35 = .ok (.if_icmp .ge 16, 3) := by decide +kernel
theorem dX12_left_38 : decode cX12_left 38 = .ok (.aload_n 0, 1) := by decide +kernel
theorem dX12_left_39 : decode cX12_left 39 = .ok (.getfield 74, 3) := by decide +kernel
theorem dX12_left_42 : decode cX12_left 42 = .ok (.iload_n 2, 1) := by decide +kernel
theorem dX12_left_43 : decode cX12_left 43 = .ok (.iconst 1, 1) := by decide +kernel
theorem dX12_left_44 : decode cX12_left 44 = .ok (.bastore, 1) := by decide +kernel
theorem dX12_left_45 : decode cX12_left 45 = .ok (.iinc 2 1, 3) := by decide +kernel
theorem dX12_left_48 : decode cX12_left 48 = .ok (.goto (-15), 3) := by decide +kernel
theorem dX12_left_51 : decode cX12_left 51 = .ok (.iconst 0, 1) := by decide +kernel
theorem dX12_left_52 : decode cX12_left 52 = .ok (.istore_n 2, 1) := by decide +kernel
theorem dX12_left_53 : decode cX12_left 53 = .ok (.iload_n 2, 1) := by decide +kernel
theorem dX12_left_54 : decode cX12_left 54 = .ok (.aload_n 0, 1) := by decide +kernel
theorem dX12_left_55 : decode cX12_left 55 = .ok (.getfield 207, 3) := by decide +kernel
theorem dX12_left_58 : decode cX12_left 58 = .ok (.if_icmp .ge 90, 3) := by decide +kernel
theorem dX12_left_61 : decode cX12_left 61 = .ok (.aload_n 0, 1) := by decide +kernel
theorem dX12_left_62 : decode cX12_left 62 = .ok (.aload_n 0, 1) := by decide +kernel
theorem dX12_left_63 : decode cX12_left 63 = .ok (.getfield 24, 3) := by decide +kernel
theorem dX12_left_66 : decode cX12_left 66 = .ok (.iload_n 2, 1) := by decide +kernel
theorem dX12_left_67 : decode cX12_left 67 = .ok (.iaload, 1) := by decide +kernel
theorem dX12_left_68 : decode cX12_left 68 = .ok (.invokevirtual 213, 3) := by decide +kernel
theorem dX12_left_71 : decode cX12_left 71 = .ok (.istore_n 3, 1) := by decide +kernel
theorem dX12_left_72 : decode cX12_left 72 = .ok (.aload_n 0, 1) := by decide +kernel
theorem dX12_left_73 : decode cX12_left 73 = .ok (.aload_n 0, 1) := by decide +kernel
theorem dX12_left_74 : decode cX12_left 74 = .ok (.getfield 24, 3) := by decide +kernel
theorem dX12_left_77 : decode cX12_left 77 = .ok (.iload_n 2, 1) := by decide +kernel
theorem dX12_left_78 : decode cX12_left 78 = .ok (.iaload, 1) := by decide +kernel
theorem dX12_left_79 : decode cX12_left 79 = .ok (.invokevirtual 219, 3) := by decide +kernel
theorem dX12_left_82 : decode cX12_left 82 = .ok (.aload_n 0, 1) := by decide +kernel
theorem dX12_left_83 : decode cX12_left 83 = .ok (.invokevirtual 170, 3) := by decide +kernel
theorem dX12_left_86 : decode cX12_left 86 = .ok (.iconst 0, 1) := by decide +kernel
theorem dX12_left_87 : decode cX12_left 87 = .ok (.istore 4, 2) := by decide +kernel
theorem dX12_left_89 : decode cX12_left 89 = .ok (.iload 4, 2) := by decide +kernel
theorem dX12_left_91 : decode cX12_left 91 = .ok (.iload_n 1, 1) := by decide +kernel
theorem dX12_left_92 : decode cX12_left 92 = .ok (.if_icmp .ge 50, 3) := by decide +kernel
theorem dX12_left_95 : decode cX12_left 95 = .ok (.aload_n 0, 1) := by decide +kernel
theorem dX12_left_96 : decode cX12_left 96 = .ok (.getfield 74, 3) := by decide +kernel
theorem dX12_left_99 : decode cX12_left 99 = .ok (.iload 4, 2) := by decide +kernel
theorem dX12_left_101 : decode cX12_left 101 = .ok (.aload_n 0, 1) := by decide +kernel
theorem dX12_left_102 : decode cX12_left 102 = .ok (.getfield 74, 3) := by decide +kernel
theorem dX12_left_105 : decode cX12_left 105 = .ok (.iload 4, 2) := by decide +kernel
theorem dX12_left_107 : decode cX12_left 107 = .ok (.baload, 1) := by decide +kernel
theorem dX12_left_108 : decode cX12_left 108 = .ok (.ifCond .eq 20, 3) := by decide +kernel
theorem dX12_left_111 : decode cX12_left 111 = .ok (.aload_n 0, 1) := by decide +kernel
theorem dX12_left_112 : decode cX12_left 112 = .ok (.aload_n 0, 1) := by decide +kernel
theorem dX12_left_113 : decode cX12_left 113 = .ok (.getfield 24, 3) := by decide +kernel
theorem dX12_left_116 : decode cX12_left 116 = .ok (.iload_n 2, 1) := by decide +kernel
theorem dX12_left_117 : decode cX12_left 117 = .ok (.iaload, 1) := by decide +kernel
theorem dX12_left_118 : decode cX12_left 118 = .ok (.invokevirtual 222, 3) := by decide +kernel
theorem dX12_left_121 : decode cX12_left 121 = .ok (.ifCond .eq 7, 3) := by decide +kernel
theorem dX12_left_124 : decode cX12_left 124 = .ok (.iconst 1, 1) := by decide +kernel
theorem dX12_left_125 : decode cX12_left 125 = .ok (.goto 4, 3) := by decide +kernel
theorem dX12_left_128 : decode cX12_left 128 = .ok (.iconst 0, 1) := by decide +kernel
theorem dX12_left_129 : decode cX12_left 129 = .ok (.bastore, 1) := by decide +kernel
theorem dX12_left_130 : decode cX12_left 130 = .ok (.aload_n 0, 1) := by decide +kernel
theorem dX12_left_131 : decode cX12_left 131 = .ok (.invokevirtual 179, 3) := by decide +kernel
theorem dX12_left_134 : decode cX12_left 134 = .ok (.istore 5, 2) := by decide +kernel
theorem dX12_left_136 : decode cX12_left 136 = .ok (.iinc 4 1, 3) := by decide +kernel
theorem dX12_left_139 : decode cX12_left 139 = .ok (.goto (-50), 3) := by decide +kernel
theorem dX12_left_142 : decode cX12_left 142 = .ok (.iinc 2 1, 3) := by decide +kernel
theorem dX12_left_145 : decode cX12_left 145 = .ok (.goto (-92), 3) := by decide +kernel
theorem dX12_left_148 : decode cX12_left 148 = .ok (.iconst 0, 1) := by decide +kernel
theorem dX12_left_149 : decode cX12_left 149 = .ok (.istore_n 2, 1) := by decide +kernel
theorem dX12_left_150 : decode cX12_left 150 = .ok (.iconst 0, 1) := by decide +kernel
theorem dX12_left_151 : decode cX12_left 151 = .ok (.istore_n 3, 1) := by decide +kernel
theorem dX12_left_152 : decode cX12_left 152 = .ok (.iload_n 3, 1) := by decide +kernel
theorem dX12_left_153 : decode cX12_left 153 = .ok (.iload_n 1, 1) := by decide +kernel
theorem dX12_left_154 : decode cX12_left 154 = .ok (.if_icmp .ge 26, 3) := by decide +kernel
theorem dX12_left_157 : decode cX12_left 157 = .ok (.iload_n 2, 1) := by decide +kernel
theorem dX12_left_158 : decode cX12_left 158 = .ok (.aload_n 0, 1) := by decide +kernel
theorem dX12_left_159 : decode cX12_left 159 = .ok (.getfield 74, 3) := by decide +kernel
theorem dX12_left_162 : decode cX12_left 162 = .ok (.iload_n 3, 1) := by decide +kernel
theorem dX12_left_163 : decode cX12_left 163 = .ok (.baload, 1) := by decide +kernel
theorem dX12_left_164 : decode cX12_left 164 = .ok (.ifCond .eq 7, 3) := by decide +kernel
theorem dX12_left_167 : decode cX12_left 167 = .ok (.iconst 1, 1) := by decide +kernel
theorem dX12_left_168 : decode cX12_left 168 = .ok (.goto 4, 3) := by decide +kernel
theorem dX12_left_171 : decode cX12_left 171 = .ok (.iconst 0, 1) := by decide +kernel
theorem dX12_left_172 : decode cX12_left 172 = .ok (.iadd, 1) := by decide +kernel
theorem dX12_left_173 : decode cX12_left 173 = .ok (.istore_n 2, 1) := by decide +kernel
theorem dX12_left_174 : decode cX12_left 174 = .ok (.iinc 3 1, 3) := by decide +kernel
theorem dX12_left_177 : decode cX12_left 177 = .ok (.goto (-25), 3) := by decide +kernel
theorem dX12_left_180 : decode cX12_left 180 = .ok (.iload_n 2, 1) := by decide +kernel
theorem dX12_left_181 : decode cX12_left 181 = .ok (.ireturn, 1) := by decide +kernel
theorem dX12_feed_0 : decode cX12_feed 0 = .ok (.iload_n 1, 1) := by decide +kernel
theorem dX12_feed_1 : decode cX12_feed 1 = .ok (.bipush 32, 2) := by decide +kernel
theorem dX12_feed_3 : decode cX12_feed 3 = .ok (.bipush 126, 2) := by decide +kernel
theorem dX12_feed_5 : decode cX12_feed 5 = .ok (.invokestatic 87, 3) := by decide +kernel
theorem dX12_feed_8 : decode cX12_feed 8 = .ok (.ifCond .ne 6, 3) := by decide +kernel
theorem dX12_feed_11 : decode cX12_feed 11 = .ok (.bipush (-2), 2) := by decide +kernel
theorem dX12_feed_13 : decode cX12_feed 13 = .ok (.ireturn, 1) := by decide +kernel
theorem dX12_feed_14 : decode cX12_feed 14 = .ok (.aload_n 0, 1) := by decide +kernel
theorem dX12_feed_15 : decode cX12_feed 15 = .ok (.getfield 225, 3) := by decide +kernel
theorem dX12_feed_18 : decode cX12_feed 18 = .ok (.bipush 60, 2) := by decide +kernel
theorem dX12_feed_20 : decode cX12_feed 20 = .ok (.if_icmp .ne 6, 3) := by decide +kernel
theorem dX12_feed_23 : decode cX12_feed 23 = .ok (.bipush (-4), 2) := by decide +kernel
theorem dX12_feed_25 : decode cX12_feed 25 = .ok (.ireturn, 1) := by decide +kernel
theorem dX12_feed_26 : decode cX12_feed 26 = .ok (.aload_n 0, 1) := by decide +kernel
theorem dX12_feed_27 : decode cX12_feed 27 = .ok (.getfield 27, 3) := by decide +kernel
theorem dX12_feed_30 : decode cX12_feed 30 = .ok (.aload_n 0, 1) := by decide +kernel
theorem dX12_feed_31 : decode cX12_feed 31 = .ok (.getfield 225, 3) := by decide +kernel
theorem dX12_feed_34 : decode cX12_feed 34 = .ok (.iload_n 1, 1) := by decide +kernel
theorem dX12_feed_35 : decode cX12_feed 35 = .ok (.iastore, 1) := by decide +kernel
theorem dX12_feed_36 : decode cX12_feed 36 = .ok (.aload_n 0, 1) := by decide +kernel
theorem dX12_feed_37 : decode cX12_feed 37 = .ok (.dup, 1) := by decide +kernel
theorem dX12_feed_38 : decode cX12_feed 38 = .ok (.getfield 225, 3) := by decide +kernel
theorem dX12_feed_41 : decode cX12_feed 41 = .ok (.iconst 1, 1) := by decide +kernel
theorem dX12_feed_42 : decode cX12_feed 42 = .ok (.iadd, 1) := by decide +kernel
theorem dX12_feed_43 : decode cX12_feed 43 = .ok (.putfield 225, 3) := by decide +kernel
theorem dX12_feed_46 : decode cX12_feed 46 = .ok (.aload_n 0, 1) := by decide +kernel
theorem dX12_feed_47 : decode cX12_feed 47 = .ok (.getfield 225, 3) := by decide +kernel
theorem dX12_feed_50 : decode cX12_feed 50 = .ok (.ireturn, 1) := by decide +kernel
theorem dX12_wipe_0 : decode cX12_wipe 0 = .ok (.aload_n 0, 1) := by decide +kernel
theorem dX12_wipe_1 : decode cX12_wipe 1 = .ok (.getfield 225, 3) := by decide +kernel
theorem dX12_wipe_4 : decode cX12_wipe 4 = .ok (.istore_n 1, 1) := by decide +kernel
theorem dX12_wipe_5 : decode cX12_wipe 5 = .ok (.aload_n 0, 1) := by decide +kernel
theorem dX12_wipe_6 : decode cX12_wipe 6 = .ok (.iconst 0, 1) := by decide +kernel
theorem dX12_wipe_7 : decode cX12_wipe 7 = .ok (.putfield 225, 3) := by decide +kernel
theorem dX12_wipe_10 : decode cX12_wipe 10 = .ok (.iload_n 1, 1) := by decide +kernel
theorem dX12_wipe_11 : decode cX12_wipe 11 = .ok (.ireturn, 1) := by decide +kernel
theorem dX12_takes_0 : decode cX12_takes 0 = .ok (.aload_n 0, 1) := by decide +kernel
theorem dX12_takes_1 : decode cX12_takes 1 = .ok (.getfield 228, 3) := by decide +kernel
theorem dX12_takes_4 : decode cX12_takes 4 = .ok (.aload_n 0, 1) := by decide +kernel
theorem dX12_takes_5 : decode cX12_takes 5 = .ok (.getfield 225, 3) := by decide +kernel
theorem dX12_takes_8 : decode cX12_takes 8 = .ok (.if_icmp .eq 16, 3) := by decide +kernel
theorem dX12_takes_11 : decode cX12_takes 11 = .ok (.aload_n 0, 1) := by decide +kernel
theorem dX12_takes_12 : decode cX12_takes 12 = .ok (.getfield 27, 3) := by decide +kernel
theorem dX12_takes_15 : decode cX12_takes 15 = .ok (.aload_n 0, 1) := by decide +kernel
theorem dX12_takes_16 : decode cX12_takes 16 = .ok (.getfield 228, 3) := by decide +kernel
theorem dX12_takes_19 : decode cX12_takes 19 = .ok (.iaload, 1) := by decide +kernel
theorem dX12_takes_20 : decode cX12_takes 20 = .ok (.iload_n 1, 1) := by decide +kernel
theorem dX12_takes_21 : decode cX12_takes 21 = .ok (.if_icmp .eq 5, 3) := by decide +kernel
theorem dX12_takes_24 : decode cX12_takes 24 = .ok (.iconst 0, 1) := by decide +kernel
theorem dX12_takes_25 : decode cX12_takes 25 = .ok (.ireturn, 1) := by decide +kernel
theorem dX12_takes_26 : decode cX12_takes 26 = .ok (.aload_n 0, 1) := by decide +kernel
theorem dX12_takes_27 : decode cX12_takes 27 = .ok (.dup, 1) := by decide +kernel
theorem dX12_takes_28 : decode cX12_takes 28 = .ok (.getfield 228, 3) := by decide +kernel
theorem dX12_takes_31 : decode cX12_takes 31 = .ok (.iconst 1, 1) := by decide +kernel
theorem dX12_takes_32 : decode cX12_takes 32 = .ok (.iadd, 1) := by decide +kernel
theorem dX12_takes_33 : decode cX12_takes 33 = .ok (.putfield 228, 3) := by decide +kernel
theorem dX12_takes_36 : decode cX12_takes 36 = .ok (.iconst 1, 1) := by decide +kernel
theorem dX12_takes_37 : decode cX12_takes 37 = .ok (.ireturn, 1) := by decide +kernel
theorem dX12_isHere_0 : decode cX12_isHere 0 = .ok (.aload_n 0, 1) := by decide +kernel
theorem dX12_isHere_1 : decode cX12_isHere 1 = .ok (.getfield 228, 3) := by decide +kernel
theorem dX12_isHere_4 : decode cX12_isHere 4 = .ok (.aload_n 0, 1) := by decide +kernel
theorem dX12_isHere_5 : decode cX12_isHere 5 = .ok (.getfield 225, 3) := by decide +kernel
theorem dX12_isHere_8 : decode cX12_isHere 8 = .ok (.if_icmp .ge 24, 3) := by decide +kernel
theorem dX12_isHere_11 : decode cX12_isHere 11 = .ok (.aload_n 0, 1) := by decide +kernel
theorem dX12_isHere_12 : decode cX12_isHere 12 = .ok (.getfield 27, 3) := by decide +kernel
theorem dX12_isHere_15 : decode cX12_isHere 15 = .ok (.aload_n 0, 1) := by decide +kernel
theorem dX12_isHere_16 : decode cX12_isHere 16 = .ok (.getfield 228, 3) := by decide +kernel
theorem dX12_isHere_19 : decode cX12_isHere 19 = .ok (.iaload, 1) := by decide +kernel
theorem dX12_isHere_20 : decode cX12_isHere 20 = .ok (.iload_n 1, 1) := by decide +kernel
theorem dX12_isHere_21 : decode cX12_isHere 21 = .ok (.iload_n 2, 1) := by decide +kernel
theorem dX12_isHere_22 : decode cX12_isHere 22 = .ok (.invokestatic 87, 3) := by decide +kernel
theorem dX12_isHere_25 : decode cX12_isHere 25 = .ok (.ifCond .eq 7, 3) := by decide +kernel
theorem dX12_isHere_28 : decode cX12_isHere 28 = .ok (.iconst 1, 1) := by decide +kernel
theorem dX12_isHere_29 : decode cX12_isHere 29 = .ok (.goto 4, 3) := by decide +kernel
theorem dX12_isHere_32 : decode cX12_isHere 32 = .ok (.iconst 0, 1) := by decide +kernel
theorem dX12_isHere_33 : decode cX12_isHere 33 = .ok (.ireturn, 1) := by decide +kernel
theorem dX12_readFactor_0 : decode cX12_readFactor 0 = .ok (.aload_n 0, 1) := by decide +kernel
theorem dX12_readFactor_1 : decode cX12_readFactor 1 = .ok (.bipush 49, 2) := by decide +kernel
theorem dX12_readFactor_3 : decode cX12_readFactor 3 = .ok (.bipush 57, 2) := by decide +kernel
theorem dX12_readFactor_5 : decode cX12_readFactor 5 = .ok (.invokevirtual 231, 3) := by decide +kernel
theorem dX12_readFactor_8 : decode cX12_readFactor 8 = .ok (.ifCond .ne 5, 3) := by decide +kernel
theorem dX12_readFactor_11 : decode cX12_readFactor 11 = .ok (.iconst 0, 1) := by decide +kernel
theorem dX12_readFactor_12 : decode cX12_readFactor 12 = .ok (.ireturn, 1) := by decide +kernel
theorem dX12_readFactor_13 : decode cX12_readFactor 13 = .ok (.aload_n 0, 1) := by decide +kernel
theorem dX12_readFactor_14 : decode cX12_readFactor 14 = .ok (.getfield 27, 3) := by decide +kernel
theorem dX12_readFactor_17 : decode cX12_readFactor 17 = .ok (.aload_n 0, 1) := by decide +kernel
theorem dX12_readFactor_18 : decode cX12_readFactor 18 = .ok (.getfield 228, 3) := by decide +kernel
theorem dX12_readFactor_21 : decode cX12_readFactor 21 = .ok (.iaload, 1) := by decide +kernel
theorem dX12_readFactor_22 : decode cX12_readFactor 22 = .ok (.bipush 48, 2) := by decide +kernel
theorem dX12_readFactor_24 : decode cX12_readFactor 24 = .ok (.isub, 1) := by decide +kernel
theorem dX12_readFactor_25 : decode cX12_readFactor 25 = .ok (.istore_n 1, 1) := by decide +kernel
theorem dX12_readFactor_26 : decode cX12_readFactor 26 = .ok (.aload_n 0, 1) := by decide +kernel
theorem dX12_readFactor_27 : decode cX12_readFactor 27 = .ok (.dup, 1) := by decide +kernel
theorem dX12_readFactor_28 : decode cX12_readFactor 28 = .ok (.getfield 228, 3) := by decide +kernel
theorem dX12_readFactor_31 : decode cX12_readFactor 31 = .ok (.iconst 1, 1) := by decide +kernel
theorem dX12_readFactor_32 : decode cX12_readFactor 32 = .ok (.iadd, 1) := by decide +kernel
theorem dX12_readFactor_33 : decode cX12_readFactor 33 = .ok (.putfield 228, 3) := by decide +kernel
theorem dX12_readFactor_36 : decode cX12_readFactor 36 = .ok (.aload_n 0, 1) := by decide +kernel
theorem dX12_readFactor_37 : decode cX12_readFactor 37 = .ok (.bipush 48, 2) := by decide +kernel
theorem dX12_readFactor_39 : decode cX12_readFactor 39 = .ok (.bipush 57, 2) := by decide +kernel
theorem dX12_readFactor_41 : decode cX12_readFactor 41 = .ok (.invokevirtual 231, 3) := by decide +kernel
theorem dX12_readFactor_44 : decode cX12_readFactor 44 = .ok (.ifCond .eq 31, 3) := by decide +kernel
theorem dX12_readFactor_47 : decode cX12_readFactor 47 = .ok (.bipush 10, 2) := by decide +kernel
theorem dX12_readFactor_49 : decode cX12_readFactor 49 = .ok (.iload_n 1, 1) := by decide +kernel
theorem dX12_readFactor_50 : decode cX12_readFactor 50 = .ok (.imul, 1) := by decide +kernel
theorem dX12_readFactor_51 : decode cX12_readFactor 51 = .ok (.aload_n 0, 1) := by decide +kernel
theorem dX12_readFactor_52 : decode cX12_readFactor 52 = .ok (.getfield 27, 3) := by decide +kernel
theorem dX12_readFactor_55 : decode cX12_readFactor 55 = .ok (.aload_n 0, 1) := by decide +kernel
theorem dX12_readFactor_56 : decode cX12_readFactor 56 = .ok (.getfield 228, 3) := by decide +kernel
theorem dX12_readFactor_59 : decode cX12_readFactor 59 = .ok (.iaload, 1) := by decide +kernel
theorem dX12_readFactor_60 : decode cX12_readFactor 60 = .ok (.iadd, 1) := by decide +kernel
theorem dX12_readFactor_61 : decode cX12_readFactor 61 = .ok (.bipush 48, 2) := by decide +kernel
theorem dX12_readFactor_63 : decode cX12_readFactor 63 = .ok (.isub, 1) := by decide +kernel
theorem dX12_readFactor_64 : decode cX12_readFactor 64 = .ok (.istore_n 1, 1) := by decide +kernel
theorem dX12_readFactor_65 : decode cX12_readFactor 65 = .ok (.aload_n 0, 1) := by decide +kernel
theorem dX12_readFactor_66 : decode cX12_readFactor 66 = .ok (.dup, 1) := by decide +kernel
theorem dX12_readFactor_67 : decode cX12_readFactor 67 = .ok (.getfield 228, 3) := by decide +kernel
theorem dX12_readFactor_70 : decode cX12_readFactor 70 = .ok (.iconst 1, 1) := by decide +kernel
theorem dX12_readFactor_71 : decode cX12_readFactor 71 = .ok (.iadd, 1) := by decide +kernel
theorem dX12_readFactor_72 : decode cX12_readFactor 72 = .ok (.putfield 228, 3) := by decide +kernel
theorem dX12_readFactor_75 : decode cX12_readFactor 75 = .ok (.aload_n 0, 1) := by decide +kernel
theorem dX12_readFactor_76 : decode cX12_readFactor 76 = .ok (.iload_n 1, 1) := by decide +kernel
theorem dX12_readFactor_77 : decode cX12_readFactor 77 = .ok (.invokevirtual 95, 3) := by decide +kernel
theorem dX12_readFactor_80 : decode cX12_readFactor 80 = .ok (.istore_n 2, 1) := by decide +kernel
theorem dX12_readFactor_81 : decode cX12_readFactor 81 = .ok (.iload_n 2, 1) := by decide +kernel
theorem dX12_readFactor_82 : decode cX12_readFactor 82 = .ok (.ifCond .ge 5, 3) := by decide +kernel
theorem dX12_readFactor_85 : decode cX12_readFactor 85 = .ok (.iconst 0, 1) := by decide +kernel
theorem dX12_readFactor_86 : decode cX12_readFactor 86 = .ok (.ireturn, 1) := by decide +kernel
theorem dX12_readFactor_87 : decode cX12_readFactor 87 = .ok (.iconst 1, 1) := by decide +kernel
theorem dX12_readFactor_88 : decode cX12_readFactor 88 = .ok (.istore_n 3, 1) := by decide +kernel
theorem dX12_readFactor_89 : decode cX12_readFactor 89 = .ok (.aload_n 0, 1) := by decide +kernel
theorem dX12_readFactor_90 : decode cX12_readFactor 90 = .ok (.bipush 94, 2) := by decide +kernel
theorem dX12_readFactor_92 : decode cX12_readFactor 92 = .ok (.invokevirtual 235, 3) := by decide +kernel
theorem dX12_readFactor_95 : decode cX12_readFactor 95 = .ok (.ifCond .eq 56, 3) := by decide +kernel
theorem dX12_readFactor_98 : decode cX12_readFactor 98 = .ok (.aload_n 0, 1) := by decide +kernel
theorem dX12_readFactor_99 : decode cX12_readFactor 99 = .ok (.bipush 45, 2) := by decide +kernel
theorem dX12_readFactor_101 : decode cX12_readFactor 101 = .ok (.invokevirtual 235, 3) := by decide +kernel
theorem dX12_readFactor_104 : decode cX12_readFactor 104 = .ok (.ifCond .eq 7, 3) := by decide +kernel
theorem dX12_readFactor_107 : decode cX12_readFactor 107 = .ok (.iconst (-1), 1) := by decide +kernel
theorem dX12_readFactor_108 : decode cX12_readFactor 108 = .ok (.goto 4, 3) := by decide +kernel
theorem dX12_readFactor_111 : decode cX12_readFactor 111 = .ok (.iconst 1, 1) := by decide +kernel
theorem dX12_readFactor_112 : decode cX12_readFactor 112 = .ok (.istore_n 3, 1) := by decide +kernel
theorem dX12_readFactor_113 : decode cX12_readFactor 113 = .ok (.aload_n 0, 1) := by decide +kernel
theorem dX12_readFactor_114 : decode cX12_readFactor 114 = .ok (.bipush 48, 2) := by decide +kernel
theorem dX12_readFactor_116 : decode cX12_readFactor 116 = .ok (.bipush 54, 2) := by decide +kernel
theorem dX12_readFactor_118 : decode cX12_readFactor 118 = .ok (.invokevirtual 231, 3) := by decide +kernel
theorem dX12_readFactor_121 : decode cX12_readFactor 121 = .ok (.ifCond .ne 5, 3) := by decide +kernel
theorem dX12_readFactor_124 : decode cX12_readFactor 124 = .ok (.iconst 0, 1) := by decide +kernel
theorem dX12_readFactor_125 : decode cX12_readFactor 125 = .ok (.ireturn, 1) := by decide +kernel
theorem dX12_readFactor_126 : decode cX12_readFactor 126 = .ok (.iload_n 3, 1) := by decide +kernel
theorem dX12_readFactor_127 : decode cX12_readFactor 127 = .ok (.aload_n 0, 1) := by decide +kernel
theorem dX12_readFactor_128 : decode cX12_readFactor 128 = .ok (.getfield 27, 3) := by decide +kernel
theorem dX12_readFactor_131 : decode cX12_readFactor 131 = .ok (.aload_n 0, 1) := by decide +kernel
theorem dX12_readFactor_132 : decode cX12_readFactor 132 = .ok (.getfield 228, 3) := by decide +kernel
theorem dX12_readFactor_135 : decode cX12_readFactor 135 = .ok (.iaload, 1) := by decide +kernel
theorem dX12_readFactor_136 : decode cX12_readFactor 136 = .ok (.bipush 48, 2) := by decide +kernel
theorem dX12_readFactor_138 : decode cX12_readFactor 138 = .ok (.isub, 1) := by decide +kernel
theorem dX12_readFactor_139 : decode cX12_readFactor 139 = .ok (.imul, 1) := by decide +kernel
theorem dX12_readFactor_140 : decode cX12_readFactor 140 = .ok (.istore_n 3, 1) := by decide +kernel
theorem dX12_readFactor_141 : decode cX12_readFactor 141 = .ok (.aload_n 0, 1) := by decide +kernel
theorem dX12_readFactor_142 : decode cX12_readFactor 142 = .ok (.dup, 1) := by decide +kernel
theorem dX12_readFactor_143 : decode cX12_readFactor 143 = .ok (.getfield 228, 3) := by decide +kernel
theorem dX12_readFactor_146 : decode cX12_readFactor 146 = .ok (.iconst 1, 1) := by decide +kernel
theorem dX12_readFactor_147 : decode cX12_readFactor 147 = .ok (.iadd, 1) := by decide +kernel
theorem dX12_readFactor_148 : decode cX12_readFactor 148 = .ok (.putfield 228, 3) := by decide +kernel
theorem dX12_readFactor_151 : decode cX12_readFactor 151 = .ok (.aload_n 0, 1) := by decide +kernel
theorem dX12_readFactor_152 : decode cX12_readFactor 152 = .ok (.getfield 37, 3) := by decide +kernel
theorem dX12_readFactor_155 : decode cX12_readFactor 155 = .ok (.iload_n 2, 1) := by decide +kernel
theorem dX12_readFactor_156 : decode cX12_readFactor 156 = .ok (.dup2, 1) := by decide +kernel
theorem dX12_readFactor_157 : decode cX12_readFactor 157 = .ok (.iaload, 1) := by decide +kernel
theorem dX12_readFactor_158 : decode cX12_readFactor 158 = .ok (.iload_n 3, 1) := by decide +kernel
theorem dX12_readFactor_159 : decode cX12_readFactor 159 = .ok (.iadd, 1) := by decide +kernel
theorem dX12_readFactor_160 : decode cX12_readFactor 160 = .ok (.iastore, 1) := by decide +kernel
theorem dX12_readFactor_161 : decode cX12_readFactor 161 = .ok (.iconst 1, 1) := by decide +kernel
theorem dX12_readFactor_162 : decode cX12_readFactor 162 = .ok (.ireturn, 1) := by decide +kernel
theorem dX12_readUnit_0 : decode cX12_readUnit 0 = .ok (.aload_n 0, 1) := by decide +kernel
theorem dX12_readUnit_1 : decode cX12_readUnit 1 = .ok (.iconst 0, 1) := by decide +kernel
theorem dX12_readUnit_2 : decode cX12_readUnit 2 = .ok (.putfield 228, 3) := by decide +kernel
theorem dX12_readUnit_5 : decode cX12_readUnit 5 = .ok (.iconst 0, 1) := by decide +kernel
theorem dX12_readUnit_6 : decode cX12_readUnit 6 = .ok (.istore_n 1, 1) := by decide +kernel
theorem dX12_readUnit_7 : decode cX12_readUnit 7 = .ok (.iload_n 1, 1) := by decide +kernel
theorem dX12_readUnit_8 : decode cX12_readUnit 8 = .ok (.aload_n 0, 1) := by decide +kernel
theorem dX12_readUnit_9 : decode cX12_readUnit 9 = .ok (.getfield 83, 3) := by decide +kernel
theorem dX12_readUnit_12 : decode cX12_readUnit 12 = .ok (.if_icmp .ge 16, 3) := by decide +kernel
theorem dX12_readUnit_15 : decode cX12_readUnit 15 = .ok (.aload_n 0, 1) := by decide +kernel
theorem dX12_readUnit_16 : decode cX12_readUnit 16 = .ok (.getfield 37, 3) := by decide +kernel
theorem dX12_readUnit_19 : decode cX12_readUnit 19 = .ok (.iload_n 1, 1) := by decide +kernel
theorem dX12_readUnit_20 : decode cX12_readUnit 20 = .ok (.iconst 0, 1) := by decide +kernel
theorem dX12_readUnit_21 : decode cX12_readUnit 21 = .ok (.iastore, 1) := by decide +kernel
theorem dX12_readUnit_22 : decode cX12_readUnit 22 = .ok (.iinc 1 1, 3) := by decide +kernel
theorem dX12_readUnit_25 : decode cX12_readUnit 25 = .ok (.goto (-18), 3) := by decide +kernel
theorem dX12_readUnit_28 : decode cX12_readUnit 28 = .ok (.aload_n 0, 1) := by decide +kernel
theorem dX12_readUnit_29 : decode cX12_readUnit 29 = .ok (.aload_n 0, 1) := by decide +kernel
theorem dX12_readUnit_30 : decode cX12_readUnit 30 = .ok (.bipush 45, 2) := by decide +kernel
theorem dX12_readUnit_32 : decode cX12_readUnit 32 = .ok (.invokevirtual 235, 3) := by decide +kernel
theorem dX12_readUnit_35 : decode cX12_readUnit 35 = .ok (.ifCond .eq 7, 3) := by decide +kernel
theorem dX12_readUnit_38 : decode cX12_readUnit 38 = .ok (.iconst (-1), 1) := by decide +kernel
theorem dX12_readUnit_39 : decode cX12_readUnit 39 = .ok (.goto 4, 3) := by decide +kernel
theorem dX12_readUnit_42 : decode cX12_readUnit 42 = .ok (.iconst 1, 1) := by decide +kernel
theorem dX12_readUnit_43 : decode cX12_readUnit 43 = .ok (.putfield 109, 3) := by decide +kernel
theorem dX12_readUnit_46 : decode cX12_readUnit 46 = .ok (.aload_n 0, 1) := by decide +kernel
theorem dX12_readUnit_47 : decode cX12_readUnit 47 = .ok (.getfield 228, 3) := by decide +kernel
theorem dX12_readUnit_50 : decode cX12_readUnit 50 = .ok (.aload_n 0, 1) := by decide +kernel
theorem dX12_readUnit_51 : decode cX12_readUnit 51 = .ok (.getfield 225, 3) := by decide +kernel
theorem dX12_readUnit_54 : decode cX12_readUnit 54 = .ok (.iconst 1, 1) := by decide +kernel
theorem dX12_readUnit_55 : decode cX12_readUnit 55 = .ok (.isub, 1) := by decide +kernel
theorem dX12_readUnit_56 : decode cX12_readUnit 56 = .ok (.if_icmp .ne 29, 3) := by decide +kernel
theorem dX12_readUnit_59 : decode cX12_readUnit 59 = .ok (.aload_n 0, 1) := by decide +kernel
theorem dX12_readUnit_60 : decode cX12_readUnit 60 = .ok (.getfield 27, 3) := by decide +kernel
theorem dX12_readUnit_63 : decode cX12_readUnit 63 = .ok (.aload_n 0, 1) := by decide +kernel
theorem dX12_readUnit_64 : decode cX12_readUnit 64 = .ok (.getfield 228, 3) := by decide +kernel
theorem dX12_readUnit_67 : decode cX12_readUnit 67 = .ok (.iaload, 1) := by decide +kernel
theorem dX12_readUnit_68 : decode cX12_readUnit 68 = .ok (.bipush 49, 2) := by decide +kernel
theorem dX12_readUnit_70 : decode cX12_readUnit 70 = .ok (.if_icmp .ne 15, 3) := by decide +kernel
theorem dX12_readUnit_73 : decode cX12_readUnit 73 = .ok (.aload_n 0, 1) := by decide +kernel
theorem dX12_readUnit_74 : decode cX12_readUnit 74 = .ok (.dup, 1) := by decide +kernel
theorem dX12_readUnit_75 : decode cX12_readUnit 75 = .ok (.getfield 228, 3) := by decide +kernel
theorem dX12_readUnit_78 : decode cX12_readUnit 78 = .ok (.iconst 1, 1) := by decide +kernel
theorem dX12_readUnit_79 : decode cX12_readUnit 79 = .ok (.iadd, 1) := by decide +kernel
theorem dX12_readUnit_80 : decode cX12_readUnit 80 = .ok (.putfield 228, 3) := by decide +kernel
theorem dX12_readUnit_83 : decode cX12_readUnit 83 = .ok (.iconst 1, 1) := by decide +kernel
theorem dX12_readUnit_84 : decode cX12_readUnit 84 = .ok (.ireturn, 1) := by decide +kernel
theorem dX12_readUnit_85 : decode cX12_readUnit 85 = .ok (.aload_n 0, 1) := by decide +kernel
theorem dX12_readUnit_86 : decode cX12_readUnit 86 = .ok (.invokevirtual 238, 3) := by decide +kernel
theorem dX12_readUnit_89 : decode cX12_readUnit 89 = .ok (.ifCond .ne 5, 3) := by decide +kernel
theorem dX12_readUnit_92 : decode cX12_readUnit 92 = .ok (.iconst 0, 1) := by decide +kernel
theorem dX12_readUnit_93 : decode cX12_readUnit 93 = .ok (.ireturn, 1) := by decide +kernel
theorem dX12_readUnit_94 : decode cX12_readUnit 94 = .ok (.aload_n 0, 1) := by decide +kernel
theorem dX12_readUnit_95 : decode cX12_readUnit 95 = .ok (.bipush 42, 2) := by decide +kernel
theorem dX12_readUnit_97 : decode cX12_readUnit 97 = .ok (.invokevirtual 235, 3) := by decide +kernel
theorem dX12_readUnit_100 : decode cX12_readUnit 100 = .ok (.ifCond .ne (-15), 3) := by decide +kernel
theorem dX12_readUnit_103 : decode cX12_readUnit 103 = .ok (.aload_n 0, 1) := by decide +kernel
theorem dX12_readUnit_104 : decode cX12_readUnit 104 = .ok (.getfield 228, 3) := by decide +kernel
theorem dX12_readUnit_107 : decode cX12_readUnit 107 = .ok (.aload_n 0, 1) := by decide +kernel
theorem dX12_readUnit_108 : decode cX12_readUnit 108 = .ok (.getfield 225, 3) := by decide +kernel
theorem dX12_readUnit_111 : decode cX12_readUnit 111 = .ok (.if_icmp .ne 7, 3) := by decide +kernel
theorem dX12_readUnit_114 : decode cX12_readUnit 114 = .ok (.iconst 1, 1) := by decide +kernel
theorem dX12_readUnit_115 : decode cX12_readUnit 115 = .ok (.goto 4, 3) := by decide +kernel
theorem dX12_readUnit_118 : decode cX12_readUnit 118 = .ok (.iconst 0, 1) := by decide +kernel
theorem dX12_readUnit_119 : decode cX12_readUnit 119 = .ok (.ireturn, 1) := by decide +kernel
theorem dX12_read_0 : decode cX12_read 0 = .ok (.iload_n 1, 1) := by decide +kernel
theorem dX12_read_1 : decode cX12_read 1 = .ok (.invokestatic 132, 3) := by decide +kernel
theorem dX12_read_4 : decode cX12_read 4 = .ok (.ifCond .ne 5, 3) := by decide +kernel
theorem dX12_read_7 : decode cX12_read 7 = .ok (.iconst (-1), 1) := by decide +kernel
theorem dX12_read_8 : decode cX12_read 8 = .ok (.ireturn, 1) := by decide +kernel
theorem dX12_read_9 : decode cX12_read 9 = .ok (.aload_n 0, 1) := by decide +kernel
theorem dX12_read_10 : decode cX12_read 10 = .ok (.invokevirtual 241, 3) := by decide +kernel
theorem dX12_read_13 : decode cX12_read 13 = .ok (.istore_n 2, 1) := by decide +kernel
theorem dX12_read_14 : decode cX12_read 14 = .ok (.aload_n 0, 1) := by decide +kernel
theorem dX12_read_15 : decode cX12_read 15 = .ok (.iconst 0, 1) := by decide +kernel
theorem dX12_read_16 : decode cX12_read 16 = .ok (.putfield 225, 3) := by decide +kernel
theorem dX12_read_19 : decode cX12_read 19 = .ok (.iload_n 2, 1) := by decide +kernel
theorem dX12_read_20 : decode cX12_read 20 = .ok (.ifCond .ne 11, 3) := by decide +kernel
theorem dX12_read_23 : decode cX12_read 23 = .ok (.bipush (-100), 2) := by decide +kernel
theorem dX12_read_25 : decode cX12_read 25 = .ok (.aload_n 0, 1) := by decide +kernel
theorem dX12_read_26 : decode cX12_read 26 = .ok (.getfield 228, 3) := by decide +kernel
theorem dX12_read_29 : decode cX12_read 29 = .ok (.isub, 1) := by decide +kernel
theorem dX12_read_30 : decode cX12_read 30 = .ok (.ireturn, 1) := by decide +kernel
theorem dX12_read_31 : decode cX12_read 31 = .ok (.aload_n 0, 1) := by decide +kernel
theorem dX12_read_32 : decode cX12_read 32 = .ok (.aload_n 0, 1) := by decide +kernel
theorem dX12_read_33 : decode cX12_read 33 = .ok (.getfield 37, 3) := by decide +kernel
theorem dX12_read_36 : decode cX12_read 36 = .ok (.invokevirtual 144, 3) := by decide +kernel
theorem dX12_read_39 : decode cX12_read 39 = .ok (.bipush 6, 2) := by decide +kernel
theorem dX12_read_41 : decode cX12_read 41 = .ok (.if_icmp .le 6, 3) := by decide +kernel
theorem dX12_read_44 : decode cX12_read 44 = .ok (.bipush (-9), 2) := by decide +kernel
theorem dX12_read_46 : decode cX12_read 46 = .ok (.ireturn, 1) := by decide +kernel
theorem dX12_read_47 : decode cX12_read 47 = .ok (.aload_n 0, 1) := by decide +kernel
theorem dX12_read_48 : decode cX12_read 48 = .ok (.iload_n 1, 1) := by decide +kernel
theorem dX12_read_49 : decode cX12_read 49 = .ok (.aload_n 0, 1) := by decide +kernel
theorem dX12_read_50 : decode cX12_read 50 = .ok (.getfield 37, 3) := by decide +kernel
theorem dX12_read_53 : decode cX12_read 53 = .ok (.aload_n 0, 1) := by decide +kernel
theorem dX12_read_54 : decode cX12_read 54 = .ok (.getfield 109, 3) := by decide +kernel
theorem dX12_read_57 : decode cX12_read 57 = .ok (.invokevirtual 152, 3) := by decide +kernel
theorem dX12_read_60 : decode cX12_read 60 = .ok (.iconst 1, 1) := by decide +kernel
theorem dX12_read_61 : decode cX12_read 61 = .ok (.ireturn, 1) := by decide +kernel
theorem dX12_writes_0 : decode cX12_writes 0 = .ok (.aload_n 0, 1) := by decide +kernel
theorem dX12_writes_1 : decode cX12_writes 1 = .ok (.getfield 77, 3) := by decide +kernel
theorem dX12_writes_4 : decode cX12_writes 4 = .ok (.aload_n 0, 1) := by decide +kernel
theorem dX12_writes_5 : decode cX12_writes 5 = .ok (.getfield 244, 3) := by decide +kernel
theorem dX12_writes_8 : decode cX12_writes 8 = .ok (.iload_n 1, 1) := by decide +kernel
theorem dX12_writes_9 : decode cX12_writes 9 = .ok (.iastore, 1) := by decide +kernel
theorem dX12_writes_10 : decode cX12_writes 10 = .ok (.aload_n 0, 1) := by decide +kernel
theorem dX12_writes_11 : decode cX12_writes 11 = .ok (.dup, 1) := by decide +kernel
theorem dX12_writes_12 : decode cX12_writes 12 = .ok (.getfield 244, 3) := by decide +kernel
theorem dX12_writes_15 : decode cX12_writes 15 = .ok (.iconst 1, 1) := by decide +kernel
theorem dX12_writes_16 : decode cX12_writes 16 = .ok (.iadd, 1) := by decide +kernel
theorem dX12_writes_17 : decode cX12_writes 17 = .ok (.putfield 244, 3) := by decide +kernel
theorem dX12_writes_20 : decode cX12_writes 20 = .ok (.return_, 1) := by decide +kernel
theorem dX12_writesPower_0 : decode cX12_writesPower 0 = .ok (.iload_n 2, 1) := by decide +kernel
theorem dX12_writesPower_1 : decode cX12_writesPower 1 = .ok (.ifCond .ne 9, 3) := by decide +kernel
theorem dX12_writesPower_4 : decode cX12_writesPower 4 = .ok (.aload_n 0, 1) := by decide +kernel
theorem dX12_writesPower_5 : decode cX12_writesPower 5 = .ok (.bipush 42, 2) := by decide +kernel
theorem dX12_writesPower_7 : decode cX12_writesPower 7 = .ok (.invokevirtual 247, 3) := by decide +kernel
theorem dX12_writesPower_10 : decode cX12_writesPower 10 = .ok (.aload_n 0, 1) := by decide +kernel
theorem dX12_writesPower_11 : decode cX12_writesPower 11 = .ok (.getfield 9, 3) := by decide +kernel
theorem dX12_writesPower_14 : decode cX12_writesPower 14 = .ok (.iload_n 1, 1) := by decide +kernel
theorem dX12_writesPower_15 : decode cX12_writesPower 15 = .ok (.iaload, 1) := by decide +kernel
theorem dX12_writesPower_16 : decode cX12_writesPower 16 = .ok (.bipush 9, 2) := by decide +kernel
theorem dX12_writesPower_18 : decode cX12_writesPower 18 = .ok (.if_icmp .le 19, 3) := by decide +kernel
theorem dX12_writesPower_21 : decode cX12_writesPower 21 = .ok (.aload_n 0, 1) := by decide +kernel
theorem dX12_writesPower_22 : decode cX12_writesPower 22 = .ok (.bipush 48, 2) := by decide +kernel
theorem dX12_writesPower_24 : decode cX12_writesPower 24 = .ok (.aload_n 0, 1) := by decide +kernel
theorem dX12_writesPower_25 : decode cX12_writesPower 25 = .ok (.getfield 9, 3) := by decide +kernel
theorem dX12_writesPower_28 : decode cX12_writesPower 28 = .ok (.iload_n 1, 1) := by decide +kernel
theorem dX12_writesPower_29 : decode cX12_writesPower 29 = .ok (.iaload, 1) := by decide +kernel
theorem dX12_writesPower_30 : decode cX12_writesPower 30 = .ok (.bipush 10, 2) := by decide +kernel
theorem dX12_writesPower_32 : decode cX12_writesPower 32 = .ok (.idiv, 1) := by decide +kernel
theorem dX12_writesPower_33 : decode cX12_writesPower 33 = .ok (.iadd, 1) := by decide +kernel
theorem dX12_writesPower_34 : decode cX12_writesPower 34 = .ok (.invokevirtual 247, 3) := by decide +kernel
theorem dX12_writesPower_37 : decode cX12_writesPower 37 = .ok (.aload_n 0, 1) := by decide +kernel
theorem dX12_writesPower_38 : decode cX12_writesPower 38 = .ok (.bipush 48, 2) := by decide +kernel
theorem dX12_writesPower_40 : decode cX12_writesPower 40 = .ok (.aload_n 0, 1) := by decide +kernel
theorem dX12_writesPower_41 : decode cX12_writesPower 41 = .ok (.getfield 9, 3) := by decide +kernel
theorem dX12_writesPower_44 : decode cX12_writesPower 44 = .ok (.iload_n 1, 1) := by decide +kernel
theorem dX12_writesPower_45 : decode cX12_writesPower 45 = .ok (.iaload, 1) := by decide +kernel
theorem dX12_writesPower_46 : decode cX12_writesPower 46 = .ok (.bipush 10, 2) := by decide +kernel
theorem dX12_writesPower_48 : decode cX12_writesPower 48 = .ok (.irem, 1) := by decide +kernel
theorem dX12_writesPower_49 : decode cX12_writesPower 49 = .ok (.iadd, 1) := by decide +kernel
theorem dX12_writesPower_50 : decode cX12_writesPower 50 = .ok (.invokevirtual 247, 3) := by decide +kernel
theorem dX12_writesPower_53 : decode cX12_writesPower 53 = .ok (.aload_n 0, 1) := by decide +kernel
theorem dX12_writesPower_54 : decode cX12_writesPower 54 = .ok (.getfield 37, 3) := by decide +kernel
theorem dX12_writesPower_57 : decode cX12_writesPower 57 = .ok (.iload_n 1, 1) := by decide +kernel
theorem dX12_writesPower_58 : decode cX12_writesPower 58 = .ok (.iaload, 1) := by decide +kernel
theorem dX12_writesPower_59 : decode cX12_writesPower 59 = .ok (.iconst 1, 1) := by decide +kernel
theorem dX12_writesPower_60 : decode cX12_writesPower 60 = .ok (.if_icmp .eq 47, 3) := by decide +kernel
theorem dX12_writesPower_63 : decode cX12_writesPower 63 = .ok (.aload_n 0, 1) := by decide +kernel
theorem dX12_writesPower_64 : decode cX12_writesPower 64 = .ok (.bipush 94, 2) := by decide +kernel
theorem dX12_writesPower_66 : decode cX12_writesPower 66 = .ok (.invokevirtual 247, 3) := by decide +kernel
theorem dX12_writesPower_69 : decode cX12_writesPower 69 = .ok (.aload_n 0, 1) := by decide +kernel
theorem dX12_writesPower_70 : decode cX12_writesPower 70 = .ok (.getfield 37, 3) := by decide +kernel
theorem dX12_writesPower_73 : decode cX12_writesPower 73 = .ok (.iload_n 1, 1) := by decide +kernel
theorem dX12_writesPower_74 : decode cX12_writesPower 74 = .ok (.iaload, 1) := by decide +kernel
theorem dX12_writesPower_75 : decode cX12_writesPower 75 = .ok (.ifCond .ge 9, 3) := by decide +kernel
theorem dX12_writesPower_78 : decode cX12_writesPower 78 = .ok (.aload_n 0, 1) := by decide +kernel
theorem dX12_writesPower_79 : decode cX12_writesPower 79 = .ok (.bipush 45, 2) := by decide +kernel
theorem dX12_writesPower_81 : decode cX12_writesPower 81 = .ok (.invokevirtual 247, 3) := by decide +kernel
theorem dX12_writesPower_84 : decode cX12_writesPower 84 = .ok (.aload_n 0, 1) := by decide +kernel
theorem dX12_writesPower_85 : decode cX12_writesPower 85 = .ok (.bipush 48, 2) := by decide +kernel
theorem dX12_writesPower_87 : decode cX12_writesPower 87 = .ok (.aload_n 0, 1) := by decide +kernel
theorem dX12_writesPower_88 : decode cX12_writesPower 88 = .ok (.getfield 37, 3) := by decide +kernel
theorem dX12_writesPower_91 : decode cX12_writesPower 91 = .ok (.iload_n 1, 1) := by decide +kernel
theorem dX12_writesPower_92 : decode cX12_writesPower 92 = .ok (.iaload, 1) := by decide +kernel
theorem dX12_writesPower_93 : decode cX12_writesPower 93 = .ok (.aload_n 0, 1) := by decide +kernel
theorem dX12_writesPower_94 : decode cX12_writesPower 94 = .ok (.getfield 37, 3) := by decide +kernel
theorem dX12_writesPower_97 : decode cX12_writesPower 97 = .ok (.iload_n 1, 1) := by decide +kernel
theorem dX12_writesPower_98 : decode cX12_writesPower 98 = .ok (.iaload, 1) := by decide +kernel
theorem dX12_writesPower_99 : decode cX12_writesPower 99 = .ok (.ineg, 1) := by decide +kernel
theorem dX12_writesPower_100 : decode cX12_writesPower 100 = .ok (.invokestatic 141, 3) := by decide +kernel
theorem dX12_writesPower_103 : decode cX12_writesPower 103 = .ok (.iadd, 1) := by decide +kernel
theorem dX12_writesPower_104 : decode cX12_writesPower 104 = .ok (.invokevirtual 247, 3) := by decide +kernel
theorem dX12_writesPower_107 : decode cX12_writesPower 107 = .ok (.return_, 1) := by decide +kernel
theorem dX12_spelled_0 : decode cX12_spelled 0 = .ok (.iload_n 1, 1) := by decide +kernel
theorem dX12_spelled_1 : decode cX12_spelled 1 = .ok (.invokestatic 132, 3) := by decide +kernel
theorem dX12_spelled_4 : decode cX12_spelled 4 = .ok (.ifCond .ne 5, 3) := by decide +kernel
theorem dX12_spelled_7 : decode cX12_spelled 7 = .ok (.iconst (-1), 1) := by decide +kernel
theorem dX12_spelled_8 : decode cX12_spelled 8 = .ok (.ireturn, 1) := by decide +kernel
theorem dX12_spelled_9 : decode cX12_spelled 9 = .ok (.aload_n 0, 1) := by decide +kernel
theorem dX12_spelled_10 : decode cX12_spelled 10 = .ok (.iload_n 1, 1) := by decide +kernel
theorem dX12_spelled_11 : decode cX12_spelled 11 = .ok (.invokevirtual 137, 3) := by decide +kernel
theorem dX12_spelled_14 : decode cX12_spelled 14 = .ok (.aload_n 0, 1) := by decide +kernel
theorem dX12_spelled_15 : decode cX12_spelled 15 = .ok (.iconst 0, 1) := by decide +kernel
theorem dX12_spelled_16 : decode cX12_spelled 16 = .ok (.putfield 244, 3) := by decide +kernel
theorem dX12_spelled_19 : decode cX12_spelled 19 = .ok (.aload_n 0, 1) := by decide +kernel
theorem dX12_spelled_20 : decode cX12_spelled 20 = .ok (.getfield 109, 3) := by decide +kernel
theorem dX12_spelled_23 : decode cX12_spelled 23 = .ok (.ifCond .ge 9, 3) := by decide +kernel
theorem dX12_spelled_26 : decode cX12_spelled 26 = .ok (.aload_n 0, 1) := by decide +kernel
theorem dX12_spelled_27 : decode cX12_spelled 27 = .ok (.bipush 45, 2) := by decide +kernel
theorem dX12_spelled_29 : decode cX12_spelled 29 = .ok (.invokevirtual 247, 3) := by decide +kernel
theorem dX12_spelled_32 : decode cX12_spelled 32 = .ok (.iconst 1, 1) := by decide +kernel
theorem dX12_spelled_33 : decode cX12_spelled 33 = .ok (.istore_n 3, 1) := by decide +kernel
theorem dX12_spelled_34 : decode cX12_spelled 34 = .ok (.iconst 0, 1) := by decide +kernel
theorem dX12_spelled_35 : decode cX12_spelled 35 = .ok (.istore 4, 2) := by decide +kernel
theorem dX12_spelled_37 : decode cX12_spelled 37 = .ok (.iload 4, 2) := by decide +kernel
theorem dX12_spelled_39 : decode cX12_spelled 39 = .ok (.aload_n 0, 1) := by decide +kernel
theorem dX12_spelled_40 : decode cX12_spelled 40 = .ok (.getfield 83, 3) := by decide +kernel
theorem dX12_spelled_43 : decode cX12_spelled 43 = .ok (.if_icmp .ge 28, 3) := by decide +kernel
theorem dX12_spelled_46 : decode cX12_spelled 46 = .ok (.aload_n 0, 1) := by decide +kernel
theorem dX12_spelled_47 : decode cX12_spelled 47 = .ok (.getfield 37, 3) := by decide +kernel
theorem dX12_spelled_50 : decode cX12_spelled 50 = .ok (.iload 4, 2) := by decide +kernel
theorem dX12_spelled_52 : decode cX12_spelled 52 = .ok (.iaload, 1) := by decide +kernel
theorem dX12_spelled_53 : decode cX12_spelled 53 = .ok (.ifCond .eq 12, 3) := by decide +kernel
theorem dX12_spelled_56 : decode cX12_spelled 56 = .ok (.aload_n 0, 1) := by decide +kernel
theorem dX12_spelled_57 : decode cX12_spelled 57 = .ok (.iload 4, 2) := by decide +kernel
theorem dX12_spelled_59 : decode cX12_spelled 59 = .ok (.iload_n 3, 1) := by decide +kernel
theorem dX12_spelled_60 : decode cX12_spelled 60 = .ok (.invokevirtual 250, 3) := by decide +kernel
theorem dX12_spelled_63 : decode cX12_spelled 63 = .ok (.iconst 0, 1) := by decide +kernel
theorem dX12_spelled_64 : decode cX12_spelled 64 = .ok (.istore_n 3, 1) := by decide +kernel
theorem dX12_spelled_65 : decode cX12_spelled 65 = .ok (.iinc 4 1, 3) := by decide +kernel
theorem dX12_spelled_68 : decode cX12_spelled 68 = .ok (.goto (-31), 3) := by decide +kernel
theorem dX12_spelled_71 : decode cX12_spelled 71 = .ok (.iload_n 3, 1) := by decide +kernel
theorem dX12_spelled_72 : decode cX12_spelled 72 = .ok (.ifCond .eq 9, 3) := by decide +kernel
theorem dX12_spelled_75 : decode cX12_spelled 75 = .ok (.aload_n 0, 1) := by decide +kernel
theorem dX12_spelled_76 : decode cX12_spelled 76 = .ok (.bipush 49, 2) := by decide +kernel
theorem dX12_spelled_78 : decode cX12_spelled 78 = .ok (.invokevirtual 247, 3) := by decide +kernel
theorem dX12_spelled_81 : decode cX12_spelled 81 = .ok (.iload_n 2, 1) := by decide +kernel
theorem dX12_spelled_82 : decode cX12_spelled 82 = .ok (.iconst (-1), 1) := by decide +kernel
theorem dX12_spelled_83 : decode cX12_spelled 83 = .ok (.if_icmp .ne 10, 3) := by decide +kernel
theorem dX12_spelled_86 : decode cX12_spelled 86 = .ok (.aload_n 0, 1) := by decide +kernel
theorem dX12_spelled_87 : decode cX12_spelled 87 = .ok (.getfield 244, 3) := by decide +kernel
theorem dX12_spelled_90 : decode cX12_spelled 90 = .ok (.goto 27, 3) := by decide +kernel
theorem dX12_spelled_93 : decode cX12_spelled 93 = .ok (.iload_n 2, 1) := by decide +kernel
theorem dX12_spelled_94 : decode cX12_spelled 94 = .ok (.iconst 0, 1) := by decide +kernel
theorem dX12_spelled_95 : decode cX12_spelled 95 = .ok (.aload_n 0, 1) := by decide +kernel
theorem dX12_spelled_96 : decode cX12_spelled 96 = .ok (.getfield 244, 3) := by decide +kernel
theorem dX12_spelled_99 : decode cX12_spelled 99 = .ok (.iconst 1, 1) := by decide +kernel
theorem dX12_spelled_100 : decode cX12_spelled 100 = .ok (.isub, 1) := by decide +kernel
theorem dX12_spelled_101 : decode cX12_spelled 101 = .ok (.invokestatic 87, 3) := by decide +kernel
theorem dX12_spelled_104 : decode cX12_spelled 104 = .ok (.ifCond .eq 12, 3) := by decide +kernel
theorem dX12_spelled_107 : decode cX12_spelled 107 = .ok (.aload_n 0, 1) := by decide +kernel
theorem dX12_spelled_108 : decode cX12_spelled 108 = .ok (.getfield 77, 3) := by decide +kernel
theorem dX12_spelled_111 : decode cX12_spelled 111 = .ok (.iload_n 2, 1) := by decide +kernel
theorem dX12_spelled_112 : decode cX12_spelled 112 = .ok (.iaload, 1) := by decide +kernel
theorem dX12_spelled_113 : decode cX12_spelled 113 = .ok (.goto 4, 3) := by decide +kernel
theorem dX12_spelled_116 : decode cX12_spelled 116 = .ok (.iconst (-1), 1) := by decide +kernel
theorem dX12_spelled_117 : decode cX12_spelled 117 = .ok (.ireturn, 1) := by decide +kernel
theorem dX12_isList_0 : decode cX12_isList 0 = .ok (.iload_n 0, 1) := by decide +kernel
theorem dX12_isList_1 : decode cX12_isList 1 = .ok (.iconst 0, 1) := by decide +kernel
theorem dX12_isList_2 : decode cX12_isList 2 = .ok (.iconst 2, 1) := by decide +kernel
theorem dX12_isList_3 : decode cX12_isList 3 = .ok (.invokestatic 87, 3) := by decide +kernel
theorem dX12_isList_6 : decode cX12_isList 6 = .ok (.ireturn, 1) := by decide +kernel
theorem dX12_list_0 : decode cX12_list 0 = .ok (.iload_n 1, 1) := by decide +kernel
theorem dX12_list_1 : decode cX12_list 1 = .ok (.invokestatic 254, 3) := by decide +kernel
theorem dX12_list_4 : decode cX12_list 4 = .ok (.ifCond .ne 5, 3) := by decide +kernel
theorem dX12_list_7 : decode cX12_list 7 = .ok (.iconst (-1), 1) := by decide +kernel
theorem dX12_list_8 : decode cX12_list 8 = .ok (.ireturn, 1) := by decide +kernel
theorem dX12_list_9 : decode cX12_list 9 = .ok (.iload_n 2, 1) := by decide +kernel
theorem dX12_list_10 : decode cX12_list 10 = .ok (.bipush 20, 2) := by decide +kernel
theorem dX12_list_12 : decode cX12_list 12 = .ok (.if_icmp .le 6, 3) := by decide +kernel
theorem dX12_list_15 : decode cX12_list 15 = .ok (.bipush (-2), 2) := by decide +kernel
theorem dX12_list_17 : decode cX12_list 17 = .ok (.ireturn, 1) := by decide +kernel
theorem dX12_list_18 : decode cX12_list 18 = .ok (.iload_n 2, 1) := by decide +kernel
theorem dX12_list_19 : decode cX12_list 19 = .ok (.iconst (-1), 1) := by decide +kernel
theorem dX12_list_20 : decode cX12_list 20 = .ok (.if_icmp .ge 6, 3) := by decide +kernel
theorem dX12_list_23 : decode cX12_list 23 = .ok (.bipush (-14), 2) := by decide +kernel
theorem dX12_list_25 : decode cX12_list 25 = .ok (.ireturn, 1) := by decide +kernel
theorem dX12_list_26 : decode cX12_list 26 = .ok (.aload_n 0, 1) := by decide +kernel
theorem dX12_list_27 : decode cX12_list 27 = .ok (.getfield 30, 3) := by decide +kernel
theorem dX12_list_30 : decode cX12_list 30 = .ok (.iload_n 1, 1) := by decide +kernel
theorem dX12_list_31 : decode cX12_list 31 = .ok (.iload_n 2, 1) := by decide +kernel
theorem dX12_list_32 : decode cX12_list 32 = .ok (.iastore, 1) := by decide +kernel
theorem dX12_list_33 : decode cX12_list 33 = .ok (.iconst 0, 1) := by decide +kernel
theorem dX12_list_34 : decode cX12_list 34 = .ok (.istore_n 3, 1) := by decide +kernel
theorem dX12_list_35 : decode cX12_list 35 = .ok (.iload_n 3, 1) := by decide +kernel
theorem dX12_list_36 : decode cX12_list 36 = .ok (.iload_n 2, 1) := by decide +kernel
theorem dX12_list_37 : decode cX12_list 37 = .ok (.if_icmp .ge 21, 3) := by decide +kernel
theorem dX12_list_40 : decode cX12_list 40 = .ok (.aload_n 0, 1) := by decide +kernel
theorem dX12_list_41 : decode cX12_list 41 = .ok (.getfield 33, 3) := by decide +kernel
theorem dX12_list_44 : decode cX12_list 44 = .ok (.bipush 20, 2) := by decide +kernel
theorem dX12_list_46 : decode cX12_list 46 = .ok (.iload_n 1, 1) := by decide +kernel
theorem dX12_list_47 : decode cX12_list 47 = .ok (.imul, 1) := by decide +kernel
theorem dX12_list_48 : decode cX12_list 48 = .ok (.iload_n 3, 1) := by decide +kernel
theorem dX12_list_49 : decode cX12_list 49 = .ok (.iadd, 1) := by decide +kernel
theorem dX12_list_50 : decode cX12_list 50 = .ok (.lconst 0, 1) := by decide +kernel
theorem dX12_list_51 : decode cX12_list 51 = .ok (.lastore, 1) := by decide +kernel
theorem dX12_list_52 : decode cX12_list 52 = .ok (.iinc 3 1, 3) := by decide +kernel
theorem dX12_list_55 : decode cX12_list 55 = .ok (.goto (-20), 3) := by decide +kernel
theorem dX12_list_58 : decode cX12_list 58 = .ok (.iconst 1, 1) := by decide +kernel
theorem dX12_list_59 : decode cX12_list 59 = .ok (.ireturn, 1) := by decide +kernel
theorem dX12_lay_0 : decode cX12_lay 0 = .ok (.iload_n 1, 1) := by decide +kernel
theorem dX12_lay_1 : decode cX12_lay 1 = .ok (.invokestatic 254, 3) := by decide +kernel
theorem dX12_lay_4 : decode cX12_lay 4 = .ok (.ifCond .ne 5, 3) := by decide +kernel
theorem dX12_lay_7 : decode cX12_lay 7 = .ok (.iconst (-1), 1) := by decide +kernel
theorem dX12_lay_8 : decode cX12_lay 8 = .ok (.ireturn, 1) := by decide +kernel
theorem dX12_lay_9 : decode cX12_lay 9 = .ok (.aload_n 0, 1) := by decide +kernel
theorem dX12_lay_10 : decode cX12_lay 10 = .ok (.getfield 30, 3) := by decide +kernel
theorem dX12_lay_13 : decode cX12_lay 13 = .ok (.iload_n 1, 1) := by decide +kernel
theorem dX12_lay_14 : decode cX12_lay 14 = .ok (.iaload, 1) := by decide +kernel
theorem dX12_lay_15 : decode cX12_lay 15 = .ok (.ifCond .ge 6, 3) := by decide +kernel
theorem dX12_lay_18 : decode cX12_lay 18 = .ok (.bipush (-11), 2) := by decide +kernel
theorem dX12_lay_20 : decode cX12_lay 20 = .ok (.ireturn, 1) := by decide +kernel
theorem dX12_lay_21 : decode cX12_lay 21 = .ok (.iload_n 2, 1) := by decide +kernel
theorem dX12_lay_22 : decode cX12_lay 22 = .ok (.iconst 0, 1) := by decide +kernel
theorem dX12_lay_23 : decode cX12_lay 23 = .ok (.aload_n 0, 1) := by decide +kernel
theorem dX12_lay_24 : decode cX12_lay 24 = .ok (.getfield 30, 3) := by decide +kernel
theorem dX12_lay_27 : decode cX12_lay 27 = .ok (.iload_n 1, 1) := by decide +kernel
theorem dX12_lay_28 : decode cX12_lay 28 = .ok (.iaload, 1) := by decide +kernel
theorem dX12_lay_29 : decode cX12_lay 29 = .ok (.iconst 1, 1) := by decide +kernel
theorem dX12_lay_30 : decode cX12_lay 30 = .ok (.isub, 1) := by decide +kernel
theorem dX12_lay_31 : decode cX12_lay 31 = .ok (.invokestatic 87, 3) := by decide +kernel
theorem dX12_lay_34 : decode cX12_lay 34 = .ok (.ifCond .ne 6, 3) := by decide +kernel
theorem dX12_lay_37 : decode cX12_lay 37 = .ok (.bipush (-13), 2) := by decide +kernel
theorem dX12_lay_39 : decode cX12_lay 39 = .ok (.ireturn, 1) := by decide +kernel
theorem dX12_lay_40 : decode cX12_lay 40 = .ok (.aload_n 0, 1) := by decide +kernel
theorem dX12_lay_41 : decode cX12_lay 41 = .ok (.getfield 33, 3) := by decide +kernel
theorem dX12_lay_44 : decode cX12_lay 44 = .ok (.bipush 20, 2) := by decide +kernel
theorem dX12_lay_46 : decode cX12_lay 46 = .ok (.iload_n 1, 1) := by decide +kernel
theorem dX12_lay_47 : decode cX12_lay 47 = .ok (.imul, 1) := by decide +kernel
theorem dX12_lay_48 : decode cX12_lay 48 = .ok (.iload_n 2, 1) := by decide +kernel
theorem dX12_lay_49 : decode cX12_lay 49 = .ok (.iadd, 1) := by decide +kernel
theorem dX12_lay_50 : decode cX12_lay 50 = .ok (.lload_n 3, 1) := by decide +kernel
theorem dX12_lay_51 : decode cX12_lay 51 = .ok (.lastore, 1) := by decide +kernel
theorem dX12_lay_52 : decode cX12_lay 52 = .ok (.iconst 1, 1) := by decide +kernel
theorem dX12_lay_53 : decode cX12_lay 53 = .ok (.ireturn, 1) := by decide +kernel
theorem dX12_get_0 : decode cX12_get 0 = .ok (.iload_n 1, 1) := by decide +kernel
theorem dX12_get_1 : decode cX12_get 1 = .ok (.invokestatic 254, 3) := by decide +kernel
theorem dX12_get_4 : decode cX12_get 4 = .ok (.ifCond .eq 33, 3) := by decide +kernel
theorem dX12_get_7 : decode cX12_get 7 = .ok (.iload_n 2, 1) := by decide +kernel
theorem dX12_get_8 : decode cX12_get 8 = .ok (.iconst 0, 1) := by decide +kernel
theorem dX12_get_9 : decode cX12_get 9 = .ok (.aload_n 0, 1) := by decide +kernel
theorem dX12_get_10 : decode cX12_get 10 = .ok (.getfield 30, 3) := by decide +kernel
theorem dX12_get_13 : decode cX12_get 13 = .ok (.iload_n 1, 1) := by decide +kernel
theorem dX12_get_14 : decode cX12_get 14 = .ok (.iaload, 1) := by decide +kernel
theorem dX12_get_15 : decode cX12_get 15 = .ok (.iconst 1, 1) := by decide +kernel
theorem dX12_get_16 : decode cX12_get 16 = .ok (.isub, 1) := by decide +kernel
theorem dX12_get_17 : decode cX12_get 17 = .ok (.invokestatic 87, 3) := by decide +kernel
theorem dX12_get_20 : decode cX12_get 20 = .ok (.ifCond .eq 17, 3) := by decide +kernel
theorem dX12_get_23 : decode cX12_get 23 = .ok (.aload_n 0, 1) := by decide +kernel
theorem dX12_get_24 : decode cX12_get 24 = .ok (.getfield 33, 3) := by decide +kernel
theorem dX12_get_27 : decode cX12_get 27 = .ok (.bipush 20, 2) := by decide +kernel
theorem dX12_get_29 : decode cX12_get 29 = .ok (.iload_n 1, 1) := by decide +kernel
theorem dX12_get_30 : decode cX12_get 30 = .ok (.imul, 1) := by decide +kernel
theorem dX12_get_31 : decode cX12_get 31 = .ok (.iload_n 2, 1) := by decide +kernel
theorem dX12_get_32 : decode cX12_get 32 = .ok (.iadd, 1) := by decide +kernel
theorem dX12_get_33 : decode cX12_get 33 = .ok (.laload, 1) := by decide +kernel
theorem dX12_get_34 : decode cX12_get 34 = .ok (.goto 6, 3) := by decide +kernel
theorem dX12_get_37 : decode cX12_get 37 = .ok (.ldc2_w 135, 3) := by decide +kernel
theorem dX12_get_40 : decode cX12_get 40 = .ok (.lreturn, 1) := by decide +kernel
theorem dX12_film_0 : decode cX12_film 0 = .ok (.aload_n 0, 1) := by decide +kernel
theorem dX12_film_1 : decode cX12_film 1 = .ok (.invokevirtual 182, 3) := by decide +kernel
theorem dX12_film_4 : decode cX12_film 4 = .ok (.iload_n 1, 1) := by decide +kernel
theorem dX12_film_5 : decode cX12_film 5 = .ok (.invokestatic 254, 3) := by decide +kernel
theorem dX12_film_8 : decode cX12_film 8 = .ok (.ifCond .eq 17, 3) := by decide +kernel
theorem dX12_film_11 : decode cX12_film 11 = .ok (.iload_n 2, 1) := by decide +kernel
theorem dX12_film_12 : decode cX12_film 12 = .ok (.iconst 0, 1) := by decide +kernel
theorem dX12_film_13 : decode cX12_film 13 = .ok (.aload_n 0, 1) := by decide +kernel
theorem dX12_film_14 : decode cX12_film 14 = .ok (.getfield 167, 3) := by decide +kernel
theorem dX12_film_17 : decode cX12_film 17 = .ok (.iconst 1, 1) := by decide +kernel
theorem dX12_film_18 : decode cX12_film 18 = .ok (.isub, 1) := by decide +kernel
theorem dX12_film_19 : decode cX12_film 19 = .ok (.invokestatic 87, 3) := by decide +kernel
theorem dX12_film_22 : decode cX12_film 22 = .ok (.ifCond .ne 5, 3) := by decide +kernel
theorem dX12_film_25 : decode cX12_film 25 = .ok (.iconst (-1), 1) := by decide +kernel
theorem dX12_film_26 : decode cX12_film 26 = .ok (.ireturn, 1) := by decide +kernel
theorem dX12_film_27 : decode cX12_film 27 = .ok (.bipush 10, 2) := by decide +kernel
theorem dX12_film_29 : decode cX12_film 29 = .ok (.aload_n 0, 1) := by decide +kernel
theorem dX12_film_30 : decode cX12_film 30 = .ok (.getfield 167, 3) := by decide +kernel
theorem dX12_film_33 : decode cX12_film 33 = .ok (.iload_n 2, 1) := by decide +kernel
theorem dX12_film_34 : decode cX12_film 34 = .ok (.isub, 1) := by decide +kernel
theorem dX12_film_35 : decode cX12_film 35 = .ok (.invokestatic 123, 3) := by decide +kernel
theorem dX12_film_38 : decode cX12_film 38 = .ok (.istore_n 3, 1) := by decide +kernel
theorem dX12_film_39 : decode cX12_film 39 = .ok (.aload_n 0, 1) := by decide +kernel
theorem dX12_film_40 : decode cX12_film 40 = .ok (.getfield 30, 3) := by decide +kernel
theorem dX12_film_43 : decode cX12_film 43 = .ok (.iload_n 1, 1) := by decide +kernel
theorem dX12_film_44 : decode cX12_film 44 = .ok (.iconst 2, 1) := by decide +kernel
theorem dX12_film_45 : decode cX12_film 45 = .ok (.iload_n 3, 1) := by decide +kernel
theorem dX12_film_46 : decode cX12_film 46 = .ok (.imul, 1) := by decide +kernel
theorem dX12_film_47 : decode cX12_film 47 = .ok (.iastore, 1) := by decide +kernel
theorem dX12_film_48 : decode cX12_film 48 = .ok (.iconst 0, 1) := by decide +kernel
theorem dX12_film_49 : decode cX12_film 49 = .ok (.istore 4, 2) := by decide +kernel
theorem dX12_film_51 : decode cX12_film 51 = .ok (.iload 4, 2) := by decide +kernel
theorem dX12_film_53 : decode cX12_film 53 = .ok (.iload_n 3, 1) := by decide +kernel
theorem dX12_film_54 : decode cX12_film 54 = .ok (.if_icmp .ge 57, 3) := by decide +kernel
theorem dX12_film_57 : decode cX12_film 57 = .ok (.aload_n 0, 1) := by decide +kernel
theorem dX12_film_58 : decode cX12_film 58 = .ok (.getfield 33, 3) := by decide +kernel
theorem dX12_film_61 : decode cX12_film 61 = .ok (.bipush 20, 2) := by decide +kernel
theorem dX12_film_63 : decode cX12_film 63 = .ok (.iload_n 1, 1) := by decide +kernel
theorem dX12_film_64 : decode cX12_film 64 = .ok (.imul, 1) := by decide +kernel
theorem dX12_film_65 : decode cX12_film 65 = .ok (.iconst 2, 1) := by decide +kernel
theorem dX12_film_66 : decode cX12_film 66 = .ok (.iload 4, 2) := by decide +kernel
theorem dX12_film_68 : decode cX12_film 68 = .ok (.imul, 1) := by decide +kernel
theorem dX12_film_69 : decode cX12_film 69 = .ok (.iadd, 1) := by decide +kernel
theorem dX12_film_70 : decode cX12_film 70 = .ok (.aload_n 0, 1) := by decide +kernel
theorem dX12_film_71 : decode cX12_film 71 = .ok (.getfield 52, 3) := by decide +kernel
theorem dX12_film_74 : decode cX12_film 74 = .ok (.iload_n 2, 1) := by decide +kernel
theorem dX12_film_75 : decode cX12_film 75 = .ok (.iload 4, 2) := by decide +kernel
theorem dX12_film_77 : decode cX12_film 77 = .ok (.iadd, 1) := by decide +kernel
theorem dX12_film_78 : decode cX12_film 78 = .ok (.laload, 1) := by decide +kernel
theorem dX12_film_79 : decode cX12_film 79 = .ok (.lastore, 1) := by decide +kernel
theorem dX12_film_80 : decode cX12_film 80 = .ok (.aload_n 0, 1) := by decide +kernel
theorem dX12_film_81 : decode cX12_film 81 = .ok (.getfield 33, 3) := by decide +kernel
theorem dX12_film_84 : decode cX12_film 84 = .ok (.bipush 20, 2) := by decide +kernel
theorem dX12_film_86 : decode cX12_film 86 = .ok (.iload_n 1, 1) := by decide +kernel
theorem dX12_film_87 : decode cX12_film 87 = .ok (.imul, 1) := by decide +kernel
theorem dX12_film_88 : decode cX12_film 88 = .ok (.iconst 2, 1) := by decide +kernel
theorem dX12_film_89 : decode cX12_film 89 = .ok (.iload 4, 2) := by decide +kernel
theorem dX12_film_91 : decode cX12_film 91 = .ok (.imul, 1) := by decide +kernel
theorem dX12_film_92 : decode cX12_film 92 = .ok (.iadd, 1) := by decide +kernel
theorem dX12_film_93 : decode cX12_film 93 = .ok (.iconst 1, 1) := by decide +kernel
theorem dX12_film_94 : decode cX12_film 94 = .ok (.iadd, 1) := by decide +kernel
theorem dX12_film_95 : decode cX12_film 95 = .ok (.aload_n 0, 1) := by decide +kernel
theorem dX12_film_96 : decode cX12_film 96 = .ok (.getfield 55, 3) := by decide +kernel
theorem dX12_film_99 : decode cX12_film 99 = .ok (.iload_n 2, 1) := by decide +kernel
theorem dX12_film_100 : decode cX12_film 100 = .ok (.iload 4, 2) := by decide +kernel
theorem dX12_film_102 : decode cX12_film 102 = .ok (.iadd, 1) := by decide +kernel
theorem dX12_film_103 : decode cX12_film 103 = .ok (.laload, 1) := by decide +kernel
theorem dX12_film_104 : decode cX12_film 104 = .ok (.lastore, 1) := by decide +kernel
theorem dX12_film_105 : decode cX12_film 105 = .ok (.iinc 4 1, 3) := by decide +kernel
theorem dX12_film_108 : decode cX12_film 108 = .ok (.goto (-57), 3) := by decide +kernel
theorem dX12_film_111 : decode cX12_film 111 = .ok (.iload_n 3, 1) := by decide +kernel
theorem dX12_film_112 : decode cX12_film 112 = .ok (.ireturn, 1) := by decide +kernel
theorem dX12_judge_0 : decode cX12_judge 0 = .ok (.iload_n 1, 1) := by decide +kernel
theorem dX12_judge_1 : decode cX12_judge 1 = .ok (.invokestatic 254, 3) := by decide +kernel
theorem dX12_judge_4 : decode cX12_judge 4 = .ok (.ifCond .eq 7, 3) := by decide +kernel
theorem dX12_judge_7 : decode cX12_judge 7 = .ok (.iload_n 2, 1) := by decide +kernel
theorem dX12_judge_8 : decode cX12_judge 8 = .ok (.ifCond .ge 5, 3) := by decide +kernel
theorem dX12_judge_11 : decode cX12_judge 11 = .ok (.iconst (-1), 1) := by decide +kernel
theorem dX12_judge_12 : decode cX12_judge 12 = .ok (.ireturn, 1) := by decide +kernel
theorem dX12_judge_13 : decode cX12_judge 13 = .ok (.aload_n 0, 1) := by decide +kernel
theorem dX12_judge_14 : decode cX12_judge 14 = .ok (.getfield 30, 3) := by decide +kernel
theorem dX12_judge_17 : decode cX12_judge 17 = .ok (.iload_n 1, 1) := by decide +kernel
theorem dX12_judge_18 : decode cX12_judge 18 = .ok (.iaload, 1) := by decide +kernel
theorem dX12_judge_19 : decode cX12_judge 19 = .ok (.ifCond .ge 6, 3) := by decide +kernel
theorem dX12_judge_22 : decode cX12_judge 22 = .ok (.bipush (-11), 2) := by decide +kernel
theorem dX12_judge_24 : decode cX12_judge 24 = .ok (.ireturn, 1) := by decide +kernel
theorem dX12_judge_25 : decode cX12_judge 25 = .ok (.aload_n 0, 1) := by decide +kernel
theorem dX12_judge_26 : decode cX12_judge 26 = .ok (.invokevirtual 182, 3) := by decide +kernel
theorem dX12_judge_29 : decode cX12_judge 29 = .ok (.iconst 0, 1) := by decide +kernel
theorem dX12_judge_30 : decode cX12_judge 30 = .ok (.istore_n 3, 1) := by decide +kernel
theorem dX12_judge_31 : decode cX12_judge 31 = .ok (.iload_n 3, 1) := by decide +kernel
theorem dX12_judge_32 : decode cX12_judge 32 = .ok (.aload_n 0, 1) := by decide +kernel
theorem dX12_judge_33 : decode cX12_judge 33 = .ok (.getfield 30, 3) := by decide +kernel
theorem dX12_judge_36 : decode cX12_judge 36 = .ok (.iload_n 1, 1) := by decide +kernel
theorem dX12_judge_37 : decode cX12_judge 37 = .ok (.iaload, 1) := by decide +kernel
theorem dX12_judge_38 : decode cX12_judge 38 = .ok (.if_icmp .ge 67, 3) := by decide +kernel
theorem dX12_judge_41 : decode cX12_judge 41 = .ok (.iload_n 2, 1) := by decide +kernel
theorem dX12_judge_42 : decode cX12_judge 42 = .ok (.aload_n 0, 1) := by decide +kernel
theorem dX12_judge_43 : decode cX12_judge 43 = .ok (.getfield 167, 3) := by decide +kernel
theorem dX12_judge_46 : decode cX12_judge 46 = .ok (.iload_n 3, 1) := by decide +kernel
theorem dX12_judge_47 : decode cX12_judge 47 = .ok (.iconst 2, 1) := by decide +kernel
theorem dX12_judge_48 : decode cX12_judge 48 = .ok (.idiv, 1) := by decide +kernel
theorem dX12_judge_49 : decode cX12_judge 49 = .ok (.isub, 1) := by decide +kernel
theorem dX12_judge_50 : decode cX12_judge 50 = .ok (.if_icmp .ge 47, 3) := by decide +kernel
theorem dX12_judge_53 : decode cX12_judge 53 = .ok (.aload_n 0, 1) := by decide +kernel
theorem dX12_judge_54 : decode cX12_judge 54 = .ok (.getfield 33, 3) := by decide +kernel
theorem dX12_judge_57 : decode cX12_judge 57 = .ok (.bipush 20, 2) := by decide +kernel
theorem dX12_judge_59 : decode cX12_judge 59 = .ok (.iload_n 1, 1) := by decide +kernel
theorem dX12_judge_60 : decode cX12_judge 60 = .ok (.imul, 1) := by decide +kernel
theorem dX12_judge_61 : decode cX12_judge 61 = .ok (.iload_n 3, 1) := by decide +kernel
theorem dX12_judge_62 : decode cX12_judge 62 = .ok (.iadd, 1) := by decide +kernel
theorem dX12_judge_63 : decode cX12_judge 63 = .ok (.laload, 1) := by decide +kernel
theorem dX12_judge_64 : decode cX12_judge 64 = .ok (.iload_n 3, 1) := by decide +kernel
theorem dX12_judge_65 : decode cX12_judge 65 = .ok (.iconst 2, 1) := by decide +kernel
theorem dX12_judge_66 : decode cX12_judge 66 = .ok (.irem, 1) := by decide +kernel
theorem dX12_judge_67 : decode cX12_judge 67 = .ok (.ifCond .ne 16, 3) := by decide +kernel
theorem dX12_judge_70 : decode cX12_judge 70 = .ok (.aload_n 0, 1) := by decide +kernel
theorem dX12_judge_71 : decode cX12_judge 71 = .ok (.getfield 52, 3) := by decide +kernel
theorem dX12_judge_74 : decode cX12_judge 74 = .ok (.iload_n 2, 1) := by decide +kernel
theorem dX12_judge_75 : decode cX12_judge 75 = .ok (.iload_n 3, 1) := by decide +kernel
theorem dX12_judge_76 : decode cX12_judge 76 = .ok (.iconst 2, 1) := by decide +kernel
theorem dX12_judge_77 : decode cX12_judge 77 = .ok (.idiv, 1) := by decide +kernel
theorem dX12_judge_78 : decode cX12_judge 78 = .ok (.iadd, 1) := by decide +kernel
theorem dX12_judge_79 : decode cX12_judge 79 = .ok (.laload, 1) := by decide +kernel
theorem dX12_judge_80 : decode cX12_judge 80 = .ok (.goto 13, 3) := by decide +kernel
theorem dX12_judge_83 : decode cX12_judge 83 = .ok (.aload_n 0, 1) := by decide +kernel
theorem dX12_judge_84 : decode cX12_judge 84 = .ok (.getfield 55, 3) := by decide +kernel
theorem dX12_judge_87 : decode cX12_judge 87 = .ok (.iload_n 2, 1) := by decide +kernel
theorem dX12_judge_88 : decode cX12_judge 88 = .ok (.iload_n 3, 1) := by decide +kernel
theorem dX12_judge_89 : decode cX12_judge 89 = .ok (.iconst 2, 1) := by decide +kernel
theorem dX12_judge_90 : decode cX12_judge 90 = .ok (.idiv, 1) := by decide +kernel
theorem dX12_judge_91 : decode cX12_judge 91 = .ok (.iadd, 1) := by decide +kernel
theorem dX12_judge_92 : decode cX12_judge 92 = .ok (.laload, 1) := by decide +kernel
theorem dX12_judge_93 : decode cX12_judge 93 = .ok (.lcmp, 1) := by decide +kernel
theorem dX12_judge_94 : decode cX12_judge 94 = .ok (.ifCond .eq 5, 3) := by decide +kernel
theorem dX12_judge_97 : decode cX12_judge 97 = .ok (.iload_n 3, 1) := by decide +kernel
theorem dX12_judge_98 : decode cX12_judge 98 = .ok (.ireturn, 1) := by decide +kernel
theorem dX12_judge_99 : decode cX12_judge 99 = .ok (.iinc 3 1, 3) := by decide +kernel
theorem dX12_judge_102 : decode cX12_judge 102 = .ok (.goto (-71), 3) := by decide +kernel
theorem dX12_judge_105 : decode cX12_judge 105 = .ok (.bipush 100, 2) := by decide +kernel
theorem dX12_judge_107 : decode cX12_judge 107 = .ok (.aload_n 0, 1) := by decide +kernel
theorem dX12_judge_108 : decode cX12_judge 108 = .ok (.getfield 30, 3) := by decide +kernel
theorem dX12_judge_111 : decode cX12_judge 111 = .ok (.iload_n 1, 1) := by decide +kernel
theorem dX12_judge_112 : decode cX12_judge 112 = .ok (.iaload, 1) := by decide +kernel
theorem dX12_judge_113 : decode cX12_judge 113 = .ok (.iadd, 1) := by decide +kernel
theorem dX12_judge_114 : decode cX12_judge 114 = .ok (.ireturn, 1) := by decide +kernel
theorem dX12_image_0 : decode cX12_image 0 = .ok (.aload_n 0, 1) := by decide +kernel
theorem dX12_image_1 : decode cX12_image 1 = .ok (.iconst 1, 1) := by decide +kernel
theorem dX12_image_2 : decode cX12_image 2 = .ok (.putfield 257, 3) := by decide +kernel
theorem dX12_image_5 : decode cX12_image 5 = .ok (.iconst 0, 1) := by decide +kernel
theorem dX12_image_6 : decode cX12_image 6 = .ok (.istore_n 1, 1) := by decide +kernel
theorem dX12_image_7 : decode cX12_image 7 = .ok (.iload_n 1, 1) := by decide +kernel
theorem dX12_image_8 : decode cX12_image 8 = .ok (.iconst 4, 1) := by decide +kernel
theorem dX12_image_9 : decode cX12_image 9 = .ok (.if_icmp .ge 65, 3) := by decide +kernel
theorem dX12_image_12 : decode cX12_image 12 = .ok (.aload_n 0, 1) := by decide +kernel
theorem dX12_image_13 : decode cX12_image 13 = .ok (.getfield 80, 3) := by decide +kernel
theorem dX12_image_16 : decode cX12_image 16 = .ok (.iload_n 1, 1) := by decide +kernel
theorem dX12_image_17 : decode cX12_image 17 = .ok (.aload_n 0, 1) := by decide +kernel
theorem dX12_image_18 : decode cX12_image 18 = .ok (.getfield 9, 3) := by decide +kernel
theorem dX12_image_21 : decode cX12_image 21 = .ok (.iload_n 1, 1) := by decide +kernel
theorem dX12_image_22 : decode cX12_image 22 = .ok (.iaload, 1) := by decide +kernel
theorem dX12_image_23 : decode cX12_image 23 = .ok (.iastore, 1) := by decide +kernel
theorem dX12_image_24 : decode cX12_image 24 = .ok (.aload_n 0, 1) := by decide +kernel
theorem dX12_image_25 : decode cX12_image 25 = .ok (.getfield 80, 3) := by decide +kernel
theorem dX12_image_28 : decode cX12_image 28 = .ok (.iconst 4, 1) := by decide +kernel
theorem dX12_image_29 : decode cX12_image 29 = .ok (.iload_n 1, 1) := by decide +kernel
theorem dX12_image_30 : decode cX12_image 30 = .ok (.iadd, 1) := by decide +kernel
theorem dX12_image_31 : decode cX12_image 31 = .ok (.aload_n 0, 1) := by decide +kernel
theorem dX12_image_32 : decode cX12_image 32 = .ok (.getfield 15, 3) := by decide +kernel
theorem dX12_image_35 : decode cX12_image 35 = .ok (.iload_n 1, 1) := by decide +kernel
theorem dX12_image_36 : decode cX12_image 36 = .ok (.iaload, 1) := by decide +kernel
theorem dX12_image_37 : decode cX12_image 37 = .ok (.iastore, 1) := by decide +kernel
theorem dX12_image_38 : decode cX12_image 38 = .ok (.aload_n 0, 1) := by decide +kernel
theorem dX12_image_39 : decode cX12_image 39 = .ok (.getfield 80, 3) := by decide +kernel
theorem dX12_image_42 : decode cX12_image 42 = .ok (.bipush 8, 2) := by decide +kernel
theorem dX12_image_44 : decode cX12_image 44 = .ok (.iload_n 1, 1) := by decide +kernel
theorem dX12_image_45 : decode cX12_image 45 = .ok (.iadd, 1) := by decide +kernel
theorem dX12_image_46 : decode cX12_image 46 = .ok (.aload_n 0, 1) := by decide +kernel
theorem dX12_image_47 : decode cX12_image 47 = .ok (.getfield 21, 3) := by decide +kernel
theorem dX12_image_50 : decode cX12_image 50 = .ok (.iload_n 1, 1) := by decide +kernel
theorem dX12_image_51 : decode cX12_image 51 = .ok (.iaload, 1) := by decide +kernel
theorem dX12_image_52 : decode cX12_image 52 = .ok (.iastore, 1) := by decide +kernel
theorem dX12_image_53 : decode cX12_image 53 = .ok (.aload_n 0, 1) := by decide +kernel
theorem dX12_image_54 : decode cX12_image 54 = .ok (.getfield 80, 3) := by decide +kernel
theorem dX12_image_57 : decode cX12_image 57 = .ok (.bipush 12, 2) := by decide +kernel
theorem dX12_image_59 : decode cX12_image 59 = .ok (.iload_n 1, 1) := by decide +kernel
theorem dX12_image_60 : decode cX12_image 60 = .ok (.iadd, 1) := by decide +kernel
theorem dX12_image_61 : decode cX12_image 61 = .ok (.aload_n 0, 1) := by decide +kernel
theorem dX12_image_62 : decode cX12_image 62 = .ok (.getfield 24, 3) := by decide +kernel
theorem dX12_image_65 : decode cX12_image 65 = .ok (.iload_n 1, 1) := by decide +kernel
theorem dX12_image_66 : decode cX12_image 66 = .ok (.iaload, 1) := by decide +kernel
theorem dX12_image_67 : decode cX12_image 67 = .ok (.iastore, 1) := by decide +kernel
theorem dX12_image_68 : decode cX12_image 68 = .ok (.iinc 1 1, 3) := by decide +kernel
theorem dX12_image_71 : decode cX12_image 71 = .ok (.goto (-64), 3) := by decide +kernel
theorem dX12_image_74 : decode cX12_image 74 = .ok (.iconst 0, 1) := by decide +kernel
theorem dX12_image_75 : decode cX12_image 75 = .ok (.istore_n 1, 1) := by decide +kernel
theorem dX12_image_76 : decode cX12_image 76 = .ok (.iload_n 1, 1) := by decide +kernel
theorem dX12_image_77 : decode cX12_image 77 = .ok (.bipush 16, 2) := by decide +kernel
theorem dX12_image_79 : decode cX12_image 79 = .ok (.if_icmp .ge 24, 3) := by decide +kernel
theorem dX12_image_82 : decode cX12_image 82 = .ok (.aload_n 0, 1) := by decide +kernel
theorem dX12_image_83 : decode cX12_image 83 = .ok (.getfield 80, 3) := by decide +kernel
theorem dX12_image_86 : decode cX12_image 86 = .ok (.bipush 16, 2) := by decide +kernel
theorem dX12_image_88 : decode cX12_image 88 = .ok (.iload_n 1, 1) := by decide +kernel
theorem dX12_image_89 : decode cX12_image 89 = .ok (.iadd, 1) := by decide +kernel
theorem dX12_image_90 : decode cX12_image 90 = .ok (.aload_n 0, 1) := by decide +kernel
theorem dX12_image_91 : decode cX12_image 91 = .ok (.getfield 18, 3) := by decide +kernel
theorem dX12_image_94 : decode cX12_image 94 = .ok (.iload_n 1, 1) := by decide +kernel
theorem dX12_image_95 : decode cX12_image 95 = .ok (.iaload, 1) := by decide +kernel
theorem dX12_image_96 : decode cX12_image 96 = .ok (.iastore, 1) := by decide +kernel
theorem dX12_image_97 : decode cX12_image 97 = .ok (.iinc 1 1, 3) := by decide +kernel
theorem dX12_image_100 : decode cX12_image 100 = .ok (.goto (-24), 3) := by decide +kernel
theorem dX12_image_103 : decode cX12_image 103 = .ok (.aload_n 0, 1) := by decide +kernel
theorem dX12_image_104 : decode cX12_image 104 = .ok (.getfield 80, 3) := by decide +kernel
theorem dX12_image_107 : decode cX12_image 107 = .ok (.bipush 32, 2) := by decide +kernel
theorem dX12_image_109 : decode cX12_image 109 = .ok (.aload_n 0, 1) := by decide +kernel
theorem dX12_image_110 : decode cX12_image 110 = .ok (.getfield 83, 3) := by decide +kernel
theorem dX12_image_113 : decode cX12_image 113 = .ok (.iastore, 1) := by decide +kernel
theorem dX12_image_114 : decode cX12_image 114 = .ok (.aload_n 0, 1) := by decide +kernel
theorem dX12_image_115 : decode cX12_image 115 = .ok (.getfield 80, 3) := by decide +kernel
theorem dX12_image_118 : decode cX12_image 118 = .ok (.bipush 33, 2) := by decide +kernel
theorem dX12_image_120 : decode cX12_image 120 = .ok (.aload_n 0, 1) := by decide +kernel
theorem dX12_image_121 : decode cX12_image 121 = .ok (.getfield 207, 3) := by decide +kernel
theorem dX12_image_124 : decode cX12_image 124 = .ok (.iastore, 1) := by decide +kernel
theorem dX12_image_125 : decode cX12_image 125 = .ok (.aload_n 0, 1) := by decide +kernel
theorem dX12_image_126 : decode cX12_image 126 = .ok (.getfield 83, 3) := by decide +kernel
theorem dX12_image_129 : decode cX12_image 129 = .ok (.ireturn, 1) := by decide +kernel
