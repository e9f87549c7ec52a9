theorem dX11_which_0 : decode cX11_which 0 = .ok (.iload_n 1, 1) := by decide +kernel
theorem dX11_which_1 : decode cX11_which 1 = .ok (.invokestatic 124, 3) := by decide +kernel
theorem dX11_which_4 : decode cX11_which 4 = .ok (.ifCond .ne 5, 3) := by decide +kernel
theorem dX11_which_7 : decode cX11_which 7 = .ok (.iconst (-1), 1) := by decide +kernel
theorem dX11_which_8 : decode cX11_which 8 = .ok (.ireturn, 1) := by decide +kernel
theorem dX11_which_9 : decode cX11_which 9 = .ok (.aload_n 0, 1) := by decide +kernel
theorem dX11_which_10 : decode cX11_which 10 = .ok (.invokevirtual 182, 3) := by decide +kernel
theorem dX11_which_13 : decode cX11_which 13 = .ok (.aload_n 0, 1) := by decide +kernel
theorem dX11_which_14 : decode cX11_which 14 = .ok (.getfield 12, 3) := by decide +kernel
theorem dX11_which_17 : decode cX11_which 17 = .ok (.getfield 127, 3) := by decide +kernel
theorem dX11_which_20 : decode cX11_which 20 = .ok (.iload_n 1, 1) := by decide +kernel
theorem dX11_which_21 : decode cX11_which 21 = .ok (.aaload, 1) := by decide +kernel
theorem dX11_which_22 : decode cX11_which 22 = .ok (.aload_n 0, 1) := by decide +kernel
theorem dX11_which_23 : decode cX11_which 23 = .ok (.getfield 12, 3) := by decide +kernel
theorem dX11_which_26 : decode cX11_which 26 = .ok (.getfield 86, 3) := by decide +kernel
theorem dX11_which_29 : decode cX11_which 29 = .ok (.invokevirtual 197, 3) := by decide +kernel
theorem dX11_which_32 : decode cX11_which 32 = .ok (.istore_n 2, 1) := by decide +kernel
theorem dX11_which_33 : decode cX11_which 33 = .ok (.iload_n 2, 1) := by decide +kernel
theorem dX11_which_34 : decode cX11_which 34 = .ok (.ifCond .ge 8, 3) := by decide +kernel
theorem dX11_which_37 : decode cX11_which 37 = .ok (.bipush (-5), 2) := by decide +kernel
theorem dX11_which_39 : decode cX11_which 39 = .ok (.goto 4, 3) := by decide +kernel
theorem dX11_which_42 : decode cX11_which 42 = .ok (.iload_n 2, 1) := by decide +kernel
theorem dX11_which_43 : decode cX11_which 43 = .ok (.ireturn, 1) := by decide +kernel
theorem dX11_groups_0 : decode cX11_groups 0 = .ok (.aload_n 0, 1) := by decide +kernel
theorem dX11_groups_1 : decode cX11_groups 1 = .ok (.invokevirtual 182, 3) := by decide +kernel
theorem dX11_groups_4 : decode cX11_groups 4 = .ok (.getfield 201, 3) := by decide +kernel
theorem dX11_groups_7 : decode cX11_groups 7 = .ok (.ireturn, 1) := by decide +kernel
theorem dX11_groupOf_0 : decode cX11_groupOf 0 = .ok (.aload_n 0, 1) := by decide +kernel
theorem dX11_groupOf_1 : decode cX11_groupOf 1 = .ok (.invokevirtual 182, 3) := by decide +kernel
theorem dX11_groupOf_4 : decode cX11_groupOf 4 = .ok (.astore_n 2, 1) := by decide +kernel
theorem dX11_groupOf_5 : decode cX11_groupOf 5 = .ok (.aload_n 2, 1) := by decide +kernel
theorem dX11_groupOf_6 : decode cX11_groupOf 6 = .ok (.iload_n 1, 1) := by decide +kernel
theorem dX11_groupOf_7 : decode cX11_groupOf 7 = .ok (.invokevirtual 191, 3) := by decide +kernel
theorem dX11_groupOf_10 : decode cX11_groupOf 10 = .ok (.ifCond .eq 12, 3) := by decide +kernel
theorem dX11_groupOf_13 : decode cX11_groupOf 13 = .ok (.aload_n 2, 1) := by decide +kernel
theorem dX11_groupOf_14 : decode cX11_groupOf 14 = .ok (.getfield 204, 3) := by decide +kernel
theorem dX11_groupOf_17 : decode cX11_groupOf 17 = .ok (.iload_n 1, 1) := by decide +kernel
theorem dX11_groupOf_18 : decode cX11_groupOf 18 = .ok (.iaload, 1) := by decide +kernel
theorem dX11_groupOf_19 : decode cX11_groupOf 19 = .ok (.goto 4, 3) := by decide +kernel
theorem dX11_groupOf_22 : decode cX11_groupOf 22 = .ok (.iconst (-1), 1) := by decide +kernel
theorem dX11_groupOf_23 : decode cX11_groupOf 23 = .ok (.ireturn, 1) := by decide +kernel
theorem dX11_group_0 : decode cX11_group 0 = .ok (.aload_n 0, 1) := by decide +kernel
theorem dX11_group_1 : decode cX11_group 1 = .ok (.invokevirtual 182, 3) := by decide +kernel
theorem dX11_group_4 : decode cX11_group 4 = .ok (.astore_n 3, 1) := by decide +kernel
theorem dX11_group_5 : decode cX11_group 5 = .ok (.iload_n 1, 1) := by decide +kernel
theorem dX11_group_6 : decode cX11_group 6 = .ok (.ifCond .lt 11, 3) := by decide +kernel
theorem dX11_group_9 : decode cX11_group 9 = .ok (.iload_n 1, 1) := by decide +kernel
theorem dX11_group_10 : decode cX11_group 10 = .ok (.aload_n 3, 1) := by decide +kernel
theorem dX11_group_11 : decode cX11_group 11 = .ok (.getfield 201, 3) := by decide +kernel
theorem dX11_group_14 : decode cX11_group 14 = .ok (.if_icmp .lt 5, 3) := by decide +kernel
theorem dX11_group_17 : decode cX11_group 17 = .ok (.iconst (-1), 1) := by decide +kernel
theorem dX11_group_18 : decode cX11_group 18 = .ok (.ireturn, 1) := by decide +kernel
theorem dX11_group_19 : decode cX11_group 19 = .ok (.iload_n 2, 1) := by decide +kernel
theorem dX11_group_20 : decode cX11_group 20 = .ok (.tableswitch 47 0 2 #[28, 34, 40], 28) := by decide +kernel
theorem dX11_group_48 : decode cX11_group 48 = .ok (.aload_n 3, 1) := by decide +kernel
theorem dX11_group_49 : decode cX11_group 49 = .ok (.iload_n 1, 1) := by decide +kernel
theorem dX11_group_50 : decode cX11_group 50 = .ok (.invokevirtual 207, 3) := by decide +kernel
theorem dX11_group_53 : decode cX11_group 53 = .ok (.ireturn, 1) := by decide +kernel
theorem dX11_group_54 : decode cX11_group 54 = .ok (.aload_n 3, 1) := by decide +kernel
theorem dX11_group_55 : decode cX11_group 55 = .ok (.iload_n 1, 1) := by decide +kernel
theorem dX11_group_56 : decode cX11_group 56 = .ok (.invokevirtual 210, 3) := by decide +kernel
theorem dX11_group_59 : decode cX11_group 59 = .ok (.ireturn, 1) := by decide +kernel
theorem dX11_group_60 : decode cX11_group 60 = .ok (.aload_n 0, 1) := by decide +kernel
theorem dX11_group_61 : decode cX11_group 61 = .ok (.aload_n 3, 1) := by decide +kernel
theorem dX11_group_62 : decode cX11_group 62 = .ok (.iload_n 1, 1) := by decide +kernel
theorem dX11_group_63 : decode cX11_group 63 = .ok (.invokevirtual 213, 3) := by decide +kernel
theorem dX11_group_66 : decode cX11_group 66 = .ok (.ireturn, 1) := by decide +kernel
theorem dX11_group_67 : decode cX11_group 67 = .ok (.iconst (-1), 1) := by decide +kernel
theorem dX11_group_68 : decode cX11_group 68 = .ok (.ireturn, 1) := by decide +kernel
theorem dX11_lots_0 : decode cX11_lots 0 = .ok (.iload_n 1, 1) := by decide +kernel
theorem dX11_lots_1 : decode cX11_lots 1 = .ok (.iconst 1, 1) := by decide +kernel
theorem dX11_lots_2 : decode cX11_lots 2 = .ok (.if_icmp .lt 9, 3) := by decide +kernel
theorem dX11_lots_5 : decode cX11_lots 5 = .ok (.iload_n 1, 1) := by decide +kernel
theorem dX11_lots_6 : decode cX11_lots 6 = .ok (.bipush 50, 2) := by decide +kernel
theorem dX11_lots_8 : decode cX11_lots 8 = .ok (.if_icmp .le 6, 3) := by decide +kernel
theorem dX11_lots_11 : decode cX11_lots 11 = .ok (.bipush (-2), 2) := by decide +kernel
theorem dX11_lots_13 : decode cX11_lots 13 = .ok (.ireturn, 1) := by decide +kernel
theorem dX11_lots_14 : decode cX11_lots 14 = .ok (.aload_n 0, 1) := by decide +kernel
theorem dX11_lots_15 : decode cX11_lots 15 = .ok (.invokevirtual 182, 3) := by decide +kernel
theorem dX11_lots_18 : decode cX11_lots 18 = .ok (.astore_n 3, 1) := by decide +kernel
theorem dX11_lots_19 : decode cX11_lots 19 = .ok (.iconst 0, 1) := by decide +kernel
theorem dX11_lots_20 : decode cX11_lots 20 = .ok (.istore 4, 2) := by decide +kernel
theorem dX11_lots_22 : decode cX11_lots 22 = .ok (.iload_n 2, 1) := by decide +kernel
theorem dX11_lots_23 : decode cX11_lots 23 = .ok (.istore 5, 2) := by decide +kernel
theorem dX11_lots_25 : decode cX11_lots 25 = .ok (.iconst 0, 1) := by decide +kernel
theorem dX11_lots_26 : decode cX11_lots 26 = .ok (.istore 6, 2) := by decide +kernel
theorem dX11_lots_28 : decode cX11_lots 28 = .ok (.iload 6, 2) := by decide +kernel
theorem dX11_lots_30 : decode cX11_lots 30 = .ok (.iload_n 1, 1) := by decide +kernel
theorem dX11_lots_31 : decode cX11_lots 31 = .ok (.if_icmp .ge 136, 3) := by decide +kernel
theorem dX11_lots_34 : decode cX11_lots 34 = .ok (.aload_n 0, 1) := by decide +kernel
theorem dX11_lots_35 : decode cX11_lots 35 = .ok (.getfield 45, 3) := by decide +kernel
theorem dX11_lots_38 : decode cX11_lots 38 = .ok (.invokevirtual 217, 3) := by decide +kernel
theorem dX11_lots_41 : decode cX11_lots 41 = .ok (.iconst 0, 1) := by decide +kernel
theorem dX11_lots_42 : decode cX11_lots 42 = .ok (.istore 7, 2) := by decide +kernel
theorem dX11_lots_44 : decode cX11_lots 44 = .ok (.iload 7, 2) := by decide +kernel
theorem dX11_lots_46 : decode cX11_lots 46 = .ok (.aload_n 0, 1) := by decide +kernel
theorem dX11_lots_47 : decode cX11_lots 47 = .ok (.getfield 12, 3) := by decide +kernel
theorem dX11_lots_50 : decode cX11_lots 50 = .ok (.getfield 86, 3) := by decide +kernel
theorem dX11_lots_53 : decode cX11_lots 53 = .ok (.getfield 96, 3) := by decide +kernel
theorem dX11_lots_56 : decode cX11_lots 56 = .ok (.if_icmp .ge 55, 3) := by decide +kernel
theorem dX11_lots_59 : decode cX11_lots 59 = .ok (.aload_n 0, 1) := by decide +kernel
theorem dX11_lots_60 : decode cX11_lots 60 = .ok (.getfield 12, 3) := by decide +kernel
theorem dX11_lots_63 : decode cX11_lots 63 = .ok (.getfield 86, 3) := by decide +kernel
theorem dX11_lots_66 : decode cX11_lots 66 = .ok (.getfield 121, 3) := by decide +kernel
theorem dX11_lots_69 : decode cX11_lots 69 = .ok (.iload 7, 2) := by decide +kernel
theorem dX11_lots_71 : decode cX11_lots 71 = .ok (.iaload, 1) := by decide +kernel
theorem dX11_lots_72 : decode cX11_lots 72 = .ok (.istore 8, 2) := by decide +kernel
theorem dX11_lots_74 : decode cX11_lots 74 = .ok (.iload 5, 2) := by decide +kernel
theorem dX11_lots_76 : decode cX11_lots 76 = .ok (.invokestatic 220, 3) := by decide +kernel
theorem dX11_lots_79 : decode cX11_lots 79 = .ok (.istore 5, 2) := by decide +kernel
theorem dX11_lots_81 : decode cX11_lots 81 = .ok (.aload_n 0, 1) := by decide +kernel
theorem dX11_lots_82 : decode cX11_lots 82 = .ok (.getfield 45, 3) := by decide +kernel
theorem dX11_lots_85 : decode cX11_lots 85 = .ok (.getfield 131, 3) := by decide +kernel
theorem dX11_lots_88 : decode cX11_lots 88 = .ok (.iload 7, 2) := by decide +kernel
theorem dX11_lots_90 : decode cX11_lots 90 = .ok (.iload 5, 2) := by decide +kernel
theorem dX11_lots_92 : decode cX11_lots 92 = .ok (.iconst 2, 1) := by decide +kernel
theorem dX11_lots_93 : decode cX11_lots 93 = .ok (.iload 8, 2) := by decide +kernel
theorem dX11_lots_95 : decode cX11_lots 95 = .ok (.imul, 1) := by decide +kernel
theorem dX11_lots_96 : decode cX11_lots 96 = .ok (.iconst 1, 1) := by decide +kernel
theorem dX11_lots_97 : decode cX11_lots 97 = .ok (.iadd, 1) := by decide +kernel
theorem dX11_lots_98 : decode cX11_lots 98 = .ok (.invokestatic 223, 3) := by decide +kernel
theorem dX11_lots_101 : decode cX11_lots 101 = .ok (.iload 8, 2) := by decide +kernel
theorem dX11_lots_103 : decode cX11_lots 103 = .ok (.isub, 1) := by decide +kernel
theorem dX11_lots_104 : decode cX11_lots 104 = .ok (.iastore, 1) := by decide +kernel
theorem dX11_lots_105 : decode cX11_lots 105 = .ok (.iinc 7 1, 3) := by decide +kernel
theorem dX11_lots_108 : decode cX11_lots 108 = .ok (.goto (-64), 3) := by decide +kernel
theorem dX11_lots_111 : decode cX11_lots 111 = .ok (.iload 5, 2) := by decide +kernel
theorem dX11_lots_113 : decode cX11_lots 113 = .ok (.invokestatic 220, 3) := by decide +kernel
theorem dX11_lots_116 : decode cX11_lots 116 = .ok (.istore 5, 2) := by decide +kernel
theorem dX11_lots_118 : decode cX11_lots 118 = .ok (.aload_n 0, 1) := by decide +kernel
theorem dX11_lots_119 : decode cX11_lots 119 = .ok (.getfield 45, 3) := by decide +kernel
theorem dX11_lots_122 : decode cX11_lots 122 = .ok (.iload 5, 2) := by decide +kernel
theorem dX11_lots_124 : decode cX11_lots 124 = .ok (.iconst 2, 1) := by decide +kernel
theorem dX11_lots_125 : decode cX11_lots 125 = .ok (.invokestatic 223, 3) := by decide +kernel
theorem dX11_lots_128 : decode cX11_lots 128 = .ok (.iconst 1, 1) := by decide +kernel
theorem dX11_lots_129 : decode cX11_lots 129 = .ok (.if_icmp .ne 7, 3) := by decide +kernel
theorem dX11_lots_132 : decode cX11_lots 132 = .ok (.iconst (-1), 1) := by decide +kernel
theorem dX11_lots_133 : decode cX11_lots 133 = .ok (.goto 4, 3) := by decide +kernel
theorem dX11_lots_136 : decode cX11_lots 136 = .ok (.iconst 1, 1) := by decide +kernel
theorem dX11_lots_137 : decode cX11_lots 137 = .ok (.putfield 134, 3) := by decide +kernel
theorem dX11_lots_140 : decode cX11_lots 140 = .ok (.aload_n 3, 1) := by decide +kernel
theorem dX11_lots_141 : decode cX11_lots 141 = .ok (.aload_n 0, 1) := by decide +kernel
theorem dX11_lots_142 : decode cX11_lots 142 = .ok (.getfield 45, 3) := by decide +kernel
theorem dX11_lots_145 : decode cX11_lots 145 = .ok (.aload_n 0, 1) := by decide +kernel
theorem dX11_lots_146 : decode cX11_lots 146 = .ok (.getfield 12, 3) := by decide +kernel
theorem dX11_lots_149 : decode cX11_lots 149 = .ok (.getfield 86, 3) := by decide +kernel
theorem dX11_lots_152 : decode cX11_lots 152 = .ok (.invokevirtual 197, 3) := by decide +kernel
theorem dX11_lots_155 : decode cX11_lots 155 = .ok (.ifCond .lt 6, 3) := by decide +kernel
theorem dX11_lots_158 : decode cX11_lots 158 = .ok (.iinc 4 1, 3) := by decide +kernel
theorem dX11_lots_161 : decode cX11_lots 161 = .ok (.iinc 6 1, 3) := by decide +kernel
theorem dX11_lots_164 : decode cX11_lots 164 = .ok (.goto (-136), 3) := by decide +kernel
theorem dX11_lots_167 : decode cX11_lots 167 = .ok (.iload 4, 2) := by decide +kernel
theorem dX11_lots_169 : decode cX11_lots 169 = .ok (.ireturn, 1) := by decide +kernel
theorem dX11_sieve_0 : decode cX11_sieve 0 = .ok (.aload_n 0, 1) := by decide +kernel
theorem dX11_sieve_1 : decode cX11_sieve 1 = .ok (.iload_n 1, 1) := by decide +kernel
theorem dX11_sieve_2 : decode cX11_sieve 2 = .ok (.invokevirtual 227, 3) := by decide +kernel
theorem dX11_sieve_5 : decode cX11_sieve 5 = .ok (.istore_n 2, 1) := by decide +kernel
theorem dX11_sieve_6 : decode cX11_sieve 6 = .ok (.iload_n 2, 1) := by decide +kernel
theorem dX11_sieve_7 : decode cX11_sieve 7 = .ok (.iconst 1, 1) := by decide +kernel
theorem dX11_sieve_8 : decode cX11_sieve 8 = .ok (.if_icmp .eq 5, 3) := by decide +kernel
theorem dX11_sieve_11 : decode cX11_sieve 11 = .ok (.iload_n 2, 1) := by decide +kernel
theorem dX11_sieve_12 : decode cX11_sieve 12 = .ok (.ireturn, 1) := by decide +kernel
theorem dX11_sieve_13 : decode cX11_sieve 13 = .ok (.aload_n 0, 1) := by decide +kernel
theorem dX11_sieve_14 : decode cX11_sieve 14 = .ok (.getfield 12, 3) := by decide +kernel
theorem dX11_sieve_17 : decode cX11_sieve 17 = .ok (.getfield 230, 3) := by decide +kernel
theorem dX11_sieve_20 : decode cX11_sieve 20 = .ok (.iload_n 1, 1) := by decide +kernel
theorem dX11_sieve_21 : decode cX11_sieve 21 = .ok (.invokevirtual 234, 3) := by decide +kernel
theorem dX11_sieve_24 : decode cX11_sieve 24 = .ok (.aload_n 0, 1) := by decide +kernel
theorem dX11_sieve_25 : decode cX11_sieve 25 = .ok (.iconst 0, 1) := by decide +kernel
theorem dX11_sieve_26 : decode cX11_sieve 26 = .ok (.putfield 239, 3) := by decide +kernel
theorem dX11_sieve_29 : decode cX11_sieve 29 = .ok (.aload_n 0, 1) := by decide +kernel
theorem dX11_sieve_30 : decode cX11_sieve 30 = .ok (.getfield 12, 3) := by decide +kernel
theorem dX11_sieve_33 : decode cX11_sieve 33 = .ok (.getfield 230, 3) := by decide +kernel
theorem dX11_sieve_36 : decode cX11_sieve 36 = .ok (.getfield 243, 3) := by decide +kernel
theorem dX11_sieve_39 : decode cX11_sieve 39 = .ok (.ireturn, 1) := by decide +kernel
theorem dX11_sieveOf_0 : decode cX11_sieveOf 0 = .ok (.iload_n 1, 1) := by decide +kernel
theorem dX11_sieveOf_1 : decode cX11_sieveOf 1 = .ok (.ifCond .lt 32, 3) := by decide +kernel
theorem dX11_sieveOf_4 : decode cX11_sieveOf 4 = .ok (.iload_n 1, 1) := by decide +kernel
theorem dX11_sieveOf_5 : decode cX11_sieveOf 5 = .ok (.aload_n 0, 1) := by decide +kernel
theorem dX11_sieveOf_6 : decode cX11_sieveOf 6 = .ok (.getfield 12, 3) := by decide +kernel
theorem dX11_sieveOf_9 : decode cX11_sieveOf 9 = .ok (.getfield 230, 3) := by decide +kernel
theorem dX11_sieveOf_12 : decode cX11_sieveOf 12 = .ok (.getfield 243, 3) := by decide +kernel
theorem dX11_sieveOf_15 : decode cX11_sieveOf 15 = .ok (.if_icmp .ge 18, 3) := by decide +kernel
theorem dX11_sieveOf_18 : decode cX11_sieveOf 18 = .ok (.aload_n 0, 1) := by decide +kernel
theorem dX11_sieveOf_19 : decode cX11_sieveOf 19 = .ok (.getfield 12, 3) := by decide +kernel
theorem dX11_sieveOf_22 : decode cX11_sieveOf 22 = .ok (.getfield 230, 3) := by decide +kernel
theorem dX11_sieveOf_25 : decode cX11_sieveOf 25 = .ok (.getfield 244, 3) := by decide +kernel
theorem dX11_sieveOf_28 : decode cX11_sieveOf 28 = .ok (.iload_n 1, 1) := by decide +kernel
theorem dX11_sieveOf_29 : decode cX11_sieveOf 29 = .ok (.iaload, 1) := by decide +kernel
theorem dX11_sieveOf_30 : decode cX11_sieveOf 30 = .ok (.goto 4, 3) := by decide +kernel
theorem dX11_sieveOf_33 : decode cX11_sieveOf 33 = .ok (.iconst (-1), 1) := by decide +kernel
theorem dX11_sieveOf_34 : decode cX11_sieveOf 34 = .ok (.ireturn, 1) := by decide +kernel
theorem dX11_forget_0 : decode cX11_forget 0 = .ok (.aload_n 0, 1) := by decide +kernel
theorem dX11_forget_1 : decode cX11_forget 1 = .ok (.getfield 12, 3) := by decide +kernel
theorem dX11_forget_4 : decode cX11_forget 4 = .ok (.getfield 230, 3) := by decide +kernel
theorem dX11_forget_7 : decode cX11_forget 7 = .ok (.iload_n 1, 1) := by decide +kernel
theorem dX11_forget_8 : decode cX11_forget 8 = .ok (.invokevirtual 247, 3) := by decide +kernel
theorem dX11_forget_11 : decode cX11_forget 11 = .ok (.ifCond .ne 5, 3) := by decide +kernel
theorem dX11_forget_14 : decode cX11_forget 14 = .ok (.iconst (-1), 1) := by decide +kernel
theorem dX11_forget_15 : decode cX11_forget 15 = .ok (.ireturn, 1) := by decide +kernel
theorem dX11_forget_16 : decode cX11_forget 16 = .ok (.aload_n 0, 1) := by decide +kernel
theorem dX11_forget_17 : decode cX11_forget 17 = .ok (.iconst 0, 1) := by decide +kernel
theorem dX11_forget_18 : decode cX11_forget 18 = .ok (.putfield 239, 3) := by decide +kernel
theorem dX11_forget_21 : decode cX11_forget 21 = .ok (.aload_n 0, 1) := by decide +kernel
theorem dX11_forget_22 : decode cX11_forget 22 = .ok (.getfield 12, 3) := by decide +kernel
theorem dX11_forget_25 : decode cX11_forget 25 = .ok (.getfield 230, 3) := by decide +kernel
theorem dX11_forget_28 : decode cX11_forget 28 = .ok (.getfield 243, 3) := by decide +kernel
theorem dX11_forget_31 : decode cX11_forget 31 = .ok (.ireturn, 1) := by decide +kernel
theorem dX11_order_0 : decode cX11_order 0 = .ok (.aload_n 0, 1) := by decide +kernel
theorem dX11_order_1 : decode cX11_order 1 = .ok (.getfield 12, 3) := by decide +kernel
theorem dX11_order_4 : decode cX11_order 4 = .ok (.getfield 86, 3) := by decide +kernel
theorem dX11_order_7 : decode cX11_order 7 = .ok (.iload_n 1, 1) := by decide +kernel
theorem dX11_order_8 : decode cX11_order 8 = .ok (.invokevirtual 110, 3) := by decide +kernel
theorem dX11_order_11 : decode cX11_order 11 = .ok (.ifCond .ne 5, 3) := by decide +kernel
theorem dX11_order_14 : decode cX11_order 14 = .ok (.iconst (-1), 1) := by decide +kernel
theorem dX11_order_15 : decode cX11_order 15 = .ok (.ireturn, 1) := by decide +kernel
theorem dX11_order_16 : decode cX11_order 16 = .ok (.aload_n 0, 1) := by decide +kernel
theorem dX11_order_17 : decode cX11_order 17 = .ok (.iload_n 2, 1) := by decide +kernel
theorem dX11_order_18 : decode cX11_order 18 = .ok (.invokevirtual 227, 3) := by decide +kernel
theorem dX11_order_21 : decode cX11_order 21 = .ok (.istore_n 3, 1) := by decide +kernel
theorem dX11_order_22 : decode cX11_order 22 = .ok (.iload_n 3, 1) := by decide +kernel
theorem dX11_order_23 : decode cX11_order 23 = .ok (.iconst 1, 1) := by decide +kernel
theorem dX11_order_24 : decode cX11_order 24 = .ok (.if_icmp .ne 22, 3) := by decide +kernel
theorem dX11_order_27 : decode cX11_order 27 = .ok (.aload_n 0, 1) := by decide +kernel
theorem dX11_order_28 : decode cX11_order 28 = .ok (.getfield 12, 3) := by decide +kernel
theorem dX11_order_31 : decode cX11_order 31 = .ok (.getfield 86, 3) := by decide +kernel
theorem dX11_order_34 : decode cX11_order 34 = .ok (.getfield 117, 3) := by decide +kernel
theorem dX11_order_37 : decode cX11_order 37 = .ok (.iload_n 1, 1) := by decide +kernel
theorem dX11_order_38 : decode cX11_order 38 = .ok (.iaload, 1) := by decide +kernel
theorem dX11_order_39 : decode cX11_order 39 = .ok (.iload_n 2, 1) := by decide +kernel
theorem dX11_order_40 : decode cX11_order 40 = .ok (.invokestatic 250, 3) := by decide +kernel
theorem dX11_order_43 : decode cX11_order 43 = .ok (.goto 4, 3) := by decide +kernel
theorem dX11_order_46 : decode cX11_order 46 = .ok (.iload_n 3, 1) := by decide +kernel
theorem dX11_order_47 : decode cX11_order 47 = .ok (.ireturn, 1) := by decide +kernel
theorem dX11_reach_0 : decode cX11_reach 0 = .ok (.aload_n 0, 1) := by decide +kernel
theorem dX11_reach_1 : decode cX11_reach 1 = .ok (.iload_n 1, 1) := by decide +kernel
theorem dX11_reach_2 : decode cX11_reach 2 = .ok (.invokevirtual 227, 3) := by decide +kernel
theorem dX11_reach_5 : decode cX11_reach 5 = .ok (.istore_n 2, 1) := by decide +kernel
theorem dX11_reach_6 : decode cX11_reach 6 = .ok (.iload_n 2, 1) := by decide +kernel
theorem dX11_reach_7 : decode cX11_reach 7 = .ok (.iconst 1, 1) := by decide +kernel
theorem dX11_reach_8 : decode cX11_reach 8 = .ok (.if_icmp .eq 5, 3) := by decide +kernel
theorem dX11_reach_11 : decode cX11_reach 11 = .ok (.iload_n 2, 1) := by decide +kernel
theorem dX11_reach_12 : decode cX11_reach 12 = .ok (.ireturn, 1) := by decide +kernel
theorem dX11_reach_13 : decode cX11_reach 13 = .ok (.aload_n 0, 1) := by decide +kernel
theorem dX11_reach_14 : decode cX11_reach 14 = .ok (.getfield 38, 3) := by decide +kernel
theorem dX11_reach_17 : decode cX11_reach 17 = .ok (.aload_n 0, 1) := by decide +kernel
theorem dX11_reach_18 : decode cX11_reach 18 = .ok (.getfield 12, 3) := by decide +kernel
theorem dX11_reach_21 : decode cX11_reach 21 = .ok (.getfield 86, 3) := by decide +kernel
theorem dX11_reach_24 : decode cX11_reach 24 = .ok (.iload_n 1, 1) := by decide +kernel
theorem dX11_reach_25 : decode cX11_reach 25 = .ok (.invokevirtual 253, 3) := by decide +kernel
theorem dX11_reach_28 : decode cX11_reach 28 = .ok (.aload_n 0, 1) := by decide +kernel
theorem dX11_reach_29 : decode cX11_reach 29 = .ok (.getfield 38, 3) := by decide +kernel
theorem dX11_reach_32 : decode cX11_reach 32 = .ok (.getfield 257, 3) := by decide +kernel
theorem dX11_reach_35 : decode cX11_reach 35 = .ok (.ireturn, 1) := by decide +kernel
theorem dX11_passes_0 : decode cX11_passes 0 = .ok (.iload_n 1, 1) := by decide +kernel
theorem dX11_passes_1 : decode cX11_passes 1 = .ok (.invokestatic 124, 3) := by decide +kernel
theorem dX11_passes_4 : decode cX11_passes 4 = .ok (.ifCond .ne 5, 3) := by decide +kernel
theorem dX11_passes_7 : decode cX11_passes 7 = .ok (.iconst (-1), 1) := by decide +kernel
theorem dX11_passes_8 : decode cX11_passes 8 = .ok (.ireturn, 1) := by decide +kernel
theorem dX11_passes_9 : decode cX11_passes 9 = .ok (.aload_n 0, 1) := by decide +kernel
theorem dX11_passes_10 : decode cX11_passes 10 = .ok (.iload_n 2, 1) := by decide +kernel
theorem dX11_passes_11 : decode cX11_passes 11 = .ok (.invokevirtual 227, 3) := by decide +kernel
theorem dX11_passes_14 : decode cX11_passes 14 = .ok (.istore_n 3, 1) := by decide +kernel
theorem dX11_passes_15 : decode cX11_passes 15 = .ok (.iload_n 3, 1) := by decide +kernel
theorem dX11_passes_16 : decode cX11_passes 16 = .ok (.iconst 1, 1) := by decide +kernel
theorem dX11_passes_17 : decode cX11_passes 17 = .ok (.if_icmp .eq 5, 3) := by decide +kernel
theorem dX11_passes_20 : decode cX11_passes 20 = .ok (.iload_n 3, 1) := by decide +kernel
theorem dX11_passes_21 : decode cX11_passes 21 = .ok (.ireturn, 1) := by decide +kernel
theorem dX11_passes_22 : decode cX11_passes 22 = .ok (.aload_n 0, 1) := by decide +kernel
theorem dX11_passes_23 : decode cX11_passes 23 = .ok (.getfield 38, 3) := by decide +kernel
theorem dX11_passes_26 : decode cX11_passes 26 = .ok (.aload_n 0, 1) := by decide +kernel
theorem dX11_passes_27 : decode cX11_passes 27 = .ok (.getfield 12, 3) := by decide +kernel
theorem dX11_passes_30 : decode cX11_passes 30 = .ok (.getfield 86, 3) := by decide +kernel
theorem dX11_passes_33 : decode cX11_passes 33 = .ok (.iload_n 2, 1) := by decide +kernel
theorem dX11_passes_34 : decode cX11_passes 34 = .ok (.invokevirtual 253, 3) := by decide +kernel
theorem dX11_passes_37 : decode cX11_passes 37 = .ok (.aload_n 0, 1) := by decide +kernel
theorem dX11_passes_38 : decode cX11_passes 38 = .ok (.getfield 38, 3) := by decide +kernel
theorem dX11_passes_41 : decode cX11_passes 41 = .ok (.aload_n 0, 1) := by decide +kernel
theorem dX11_passes_42 : decode cX11_passes 42 = .ok (.getfield 38, 3) := by decide +kernel
theorem dX11_passes_45 : decode cX11_passes 45 = .ok (.aload_n 0, 1) := by decide +kernel
theorem dX11_passes_46 : decode cX11_passes 46 = .ok (.getfield 12, 3) := by decide +kernel
theorem dX11_passes_49 : decode cX11_passes 49 = .ok (.getfield 127, 3) := by decide +kernel
theorem dX11_passes_52 : decode cX11_passes 52 = .ok (.iload_n 1, 1) := by decide +kernel
theorem dX11_passes_53 : decode cX11_passes 53 = .ok (.aaload, 1) := by decide +kernel
theorem dX11_passes_54 : decode cX11_passes 54 = .ok (.aload_n 0, 1) := by decide +kernel
theorem dX11_passes_55 : decode cX11_passes 55 = .ok (.getfield 12, 3) := by decide +kernel
theorem dX11_passes_58 : decode cX11_passes 58 = .ok (.getfield 86, 3) := by decide +kernel
theorem dX11_passes_61 : decode cX11_passes 61 = .ok (.invokevirtual 258, 3) := by decide +kernel
theorem dX11_passes_64 : decode cX11_passes 64 = .ok (.invokevirtual 261, 3) := by decide +kernel
theorem dX11_passes_67 : decode cX11_passes 67 = .ok (.ifCond .eq 7, 3) := by decide +kernel
theorem dX11_passes_70 : decode cX11_passes 70 = .ok (.iconst 1, 1) := by decide +kernel
theorem dX11_passes_71 : decode cX11_passes 71 = .ok (.goto 4, 3) := by decide +kernel
theorem dX11_passes_74 : decode cX11_passes 74 = .ok (.iconst 0, 1) := by decide +kernel
theorem dX11_passes_75 : decode cX11_passes 75 = .ok (.ireturn, 1) := by decide +kernel
theorem dX11_left_0 : decode cX11_left 0 = .ok (.aload_n 0, 1) := by decide +kernel
theorem dX11_left_1 : decode cX11_left 1 = .ok (.getfield 239, 3) := by decide +kernel
theorem dX11_left_4 : decode cX11_left 4 = .ok (.ifCond .ne 33, 3) := by decide +kernel
theorem dX11_left_7 : decode cX11_left 7 = .ok (.aload_n 0, 1) := by decide +kernel
theorem dX11_left_8 : decode cX11_left 8 = .ok (.aload_n 0, 1) := by decide +kernel
theorem dX11_left_9 : decode cX11_left 9 = .ok (.getfield 31, 3) := by decide +kernel
theorem dX11_left_12 : decode cX11_left 12 = .ok (.aload_n 0, 1) := by decide +kernel
theorem dX11_left_13 : decode cX11_left 13 = .ok (.getfield 12, 3) := by decide +kernel
theorem dX11_left_16 : decode cX11_left 16 = .ok (.getfield 86, 3) := by decide +kernel
theorem dX11_left_19 : decode cX11_left 19 = .ok (.aload_n 0, 1) := by decide +kernel
theorem dX11_left_20 : decode cX11_left 20 = .ok (.getfield 12, 3) := by decide +kernel
theorem dX11_left_23 : decode cX11_left 23 = .ok (.getfield 230, 3) := by decide +kernel
theorem dX11_left_26 : decode cX11_left 26 = .ok (.invokevirtual 264, 3) := by decide +kernel
theorem dX11_left_29 : decode cX11_left 29 = .ok (.putfield 268, 3) := by decide +kernel
theorem dX11_left_32 : decode cX11_left 32 = .ok (.aload_n 0, 1) := by decide +kernel
theorem dX11_left_33 : decode cX11_left 33 = .ok (.iconst 1, 1) := by decide +kernel
theorem dX11_left_34 : decode cX11_left 34 = .ok (.putfield 239, 3) := by decide +kernel
theorem dX11_left_37 : decode cX11_left 37 = .ok (.aload_n 0, 1) := by decide +kernel
theorem dX11_left_38 : decode cX11_left 38 = .ok (.getfield 268, 3) := by decide +kernel
theorem dX11_left_41 : decode cX11_left 41 = .ok (.ireturn, 1) := by decide +kernel
theorem dX11_feed_0 : decode cX11_feed 0 = .ok (.iload_n 1, 1) := by decide +kernel
theorem dX11_feed_1 : decode cX11_feed 1 = .ok (.bipush 32, 2) := by decide +kernel
theorem dX11_feed_3 : decode cX11_feed 3 = .ok (.if_icmp .lt 9, 3) := by decide +kernel
theorem dX11_feed_6 : decode cX11_feed 6 = .ok (.iload_n 1, 1) := by decide +kernel
theorem dX11_feed_7 : decode cX11_feed 7 = .ok (.bipush 126, 2) := by decide +kernel
theorem dX11_feed_9 : decode cX11_feed 9 = .ok (.if_icmp .le 6, 3) := by decide +kernel
theorem dX11_feed_12 : decode cX11_feed 12 = .ok (.bipush (-2), 2) := by decide +kernel
theorem dX11_feed_14 : decode cX11_feed 14 = .ok (.ireturn, 1) := by decide +kernel
theorem dX11_feed_15 : decode cX11_feed 15 = .ok (.aload_n 0, 1) := by decide +kernel
theorem dX11_feed_16 : decode cX11_feed 16 = .ok (.getfield 61, 3) := by decide +kernel
theorem dX11_feed_19 : decode cX11_feed 19 = .ok (.iload_n 1, 1) := by decide +kernel
theorem dX11_feed_20 : decode cX11_feed 20 = .ok (.invokevirtual 271, 3) := by decide +kernel
theorem dX11_feed_23 : decode cX11_feed 23 = .ok (.ifCond .eq 13, 3) := by decide +kernel
theorem dX11_feed_26 : decode cX11_feed 26 = .ok (.aload_n 0, 1) := by decide +kernel
theorem dX11_feed_27 : decode cX11_feed 27 = .ok (.getfield 61, 3) := by decide +kernel
theorem dX11_feed_30 : decode cX11_feed 30 = .ok (.getfield 274, 3) := by decide +kernel
theorem dX11_feed_33 : decode cX11_feed 33 = .ok (.goto 5, 3) := by decide +kernel
theorem dX11_feed_36 : decode cX11_feed 36 = .ok (.bipush (-4), 2) := by decide +kernel
theorem dX11_feed_38 : decode cX11_feed 38 = .ok (.ireturn, 1) := by decide +kernel
theorem dX11_wipe_0 : decode cX11_wipe 0 = .ok (.aload_n 0, 1) := by decide +kernel
theorem dX11_wipe_1 : decode cX11_wipe 1 = .ok (.getfield 61, 3) := by decide +kernel
theorem dX11_wipe_4 : decode cX11_wipe 4 = .ok (.getfield 274, 3) := by decide +kernel
theorem dX11_wipe_7 : decode cX11_wipe 7 = .ok (.istore_n 1, 1) := by decide +kernel
theorem dX11_wipe_8 : decode cX11_wipe 8 = .ok (.aload_n 0, 1) := by decide +kernel
theorem dX11_wipe_9 : decode cX11_wipe 9 = .ok (.getfield 61, 3) := by decide +kernel
theorem dX11_wipe_12 : decode cX11_wipe 12 = .ok (.invokevirtual 275, 3) := by decide +kernel
theorem dX11_wipe_15 : decode cX11_wipe 15 = .ok (.iload_n 1, 1) := by decide +kernel
theorem dX11_wipe_16 : decode cX11_wipe 16 = .ok (.ireturn, 1) := by decide +kernel
theorem dX11_read_0 : decode cX11_read 0 = .ok (.iload_n 1, 1) := by decide +kernel
theorem dX11_read_1 : decode cX11_read 1 = .ok (.invokestatic 124, 3) := by decide +kernel
theorem dX11_read_4 : decode cX11_read 4 = .ok (.ifCond .ne 5, 3) := by decide +kernel
theorem dX11_read_7 : decode cX11_read 7 = .ok (.iconst (-1), 1) := by decide +kernel
theorem dX11_read_8 : decode cX11_read 8 = .ok (.ireturn, 1) := by decide +kernel
theorem dX11_read_9 : decode cX11_read 9 = .ok (.aload_n 0, 1) := by decide +kernel
theorem dX11_read_10 : decode cX11_read 10 = .ok (.getfield 71, 3) := by decide +kernel
theorem dX11_read_13 : decode cX11_read 13 = .ok (.aload_n 0, 1) := by decide +kernel
theorem dX11_read_14 : decode cX11_read 14 = .ok (.getfield 61, 3) := by decide +kernel
theorem dX11_read_17 : decode cX11_read 17 = .ok (.aload_n 0, 1) := by decide +kernel
theorem dX11_read_18 : decode cX11_read 18 = .ok (.getfield 12, 3) := by decide +kernel
theorem dX11_read_21 : decode cX11_read 21 = .ok (.getfield 86, 3) := by decide +kernel
theorem dX11_read_24 : decode cX11_read 24 = .ok (.invokevirtual 278, 3) := by decide +kernel
theorem dX11_read_27 : decode cX11_read 27 = .ok (.istore_n 2, 1) := by decide +kernel
theorem dX11_read_28 : decode cX11_read 28 = .ok (.aload_n 0, 1) := by decide +kernel
theorem dX11_read_29 : decode cX11_read 29 = .ok (.getfield 61, 3) := by decide +kernel
theorem dX11_read_32 : decode cX11_read 32 = .ok (.invokevirtual 275, 3) := by decide +kernel
theorem dX11_read_35 : decode cX11_read 35 = .ok (.iload_n 2, 1) := by decide +kernel
theorem dX11_read_36 : decode cX11_read 36 = .ok (.ifCond .ne 14, 3) := by decide +kernel
theorem dX11_read_39 : decode cX11_read 39 = .ok (.bipush (-100), 2) := by decide +kernel
theorem dX11_read_41 : decode cX11_read 41 = .ok (.aload_n 0, 1) := by decide +kernel
theorem dX11_read_42 : decode cX11_read 42 = .ok (.getfield 71, 3) := by decide +kernel
theorem dX11_read_45 : decode cX11_read 45 = .ok (.getfield 282, 3) := by decide +kernel
theorem dX11_read_48 : decode cX11_read 48 = .ok (.isub, 1) := by decide +kernel
theorem dX11_read_49 : decode cX11_read 49 = .ok (.ireturn, 1) := by decide +kernel
theorem dX11_read_50 : decode cX11_read 50 = .ok (.aload_n 0, 1) := by decide +kernel
theorem dX11_read_51 : decode cX11_read 51 = .ok (.getfield 71, 3) := by decide +kernel
theorem dX11_read_54 : decode cX11_read 54 = .ok (.getfield 285, 3) := by decide +kernel
theorem dX11_read_57 : decode cX11_read 57 = .ok (.invokevirtual 288, 3) := by decide +kernel
theorem dX11_read_60 : decode cX11_read 60 = .ok (.ifCond .ne 6, 3) := by decide +kernel
theorem dX11_read_63 : decode cX11_read 63 = .ok (.bipush (-9), 2) := by decide +kernel
theorem dX11_read_65 : decode cX11_read 65 = .ok (.ireturn, 1) := by decide +kernel
theorem dX11_read_66 : decode cX11_read 66 = .ok (.aload_n 0, 1) := by decide +kernel
theorem dX11_read_67 : decode cX11_read 67 = .ok (.getfield 12, 3) := by decide +kernel
theorem dX11_read_70 : decode cX11_read 70 = .ok (.getfield 127, 3) := by decide +kernel
theorem dX11_read_73 : decode cX11_read 73 = .ok (.iload_n 1, 1) := by decide +kernel
theorem dX11_read_74 : decode cX11_read 74 = .ok (.aaload, 1) := by decide +kernel
theorem dX11_read_75 : decode cX11_read 75 = .ok (.aload_n 0, 1) := by decide +kernel
theorem dX11_read_76 : decode cX11_read 76 = .ok (.getfield 71, 3) := by decide +kernel
theorem dX11_read_79 : decode cX11_read 79 = .ok (.getfield 285, 3) := by decide +kernel
theorem dX11_read_82 : decode cX11_read 82 = .ok (.invokevirtual 164, 3) := by decide +kernel
theorem dX11_read_85 : decode cX11_read 85 = .ok (.iconst 1, 1) := by decide +kernel
theorem dX11_read_86 : decode cX11_read 86 = .ok (.ireturn, 1) := by decide +kernel
theorem dX11_spelled_0 : decode cX11_spelled 0 = .ok (.iload_n 1, 1) := by decide +kernel
theorem dX11_spelled_1 : decode cX11_spelled 1 = .ok (.invokestatic 124, 3) := by decide +kernel
theorem dX11_spelled_4 : decode cX11_spelled 4 = .ok (.ifCond .eq 8, 3) := by decide +kernel
theorem dX11_spelled_7 : decode cX11_spelled 7 = .ok (.iload_n 2, 1) := by decide +kernel
theorem dX11_spelled_8 : decode cX11_spelled 8 = .ok (.iconst (-1), 1) := by decide +kernel
theorem dX11_spelled_9 : decode cX11_spelled 9 = .ok (.if_icmp .ge 5, 3) := by decide +kernel
theorem dX11_spelled_12 : decode cX11_spelled 12 = .ok (.iconst (-1), 1) := by decide +kernel
theorem dX11_spelled_13 : decode cX11_spelled 13 = .ok (.ireturn, 1) := by decide +kernel
theorem dX11_spelled_14 : decode cX11_spelled 14 = .ok (.aload_n 0, 1) := by decide +kernel
theorem dX11_spelled_15 : decode cX11_spelled 15 = .ok (.getfield 12, 3) := by decide +kernel
theorem dX11_spelled_18 : decode cX11_spelled 18 = .ok (.getfield 127, 3) := by decide +kernel
theorem dX11_spelled_21 : decode cX11_spelled 21 = .ok (.iload_n 1, 1) := by decide +kernel
theorem dX11_spelled_22 : decode cX11_spelled 22 = .ok (.aaload, 1) := by decide +kernel
theorem dX11_spelled_23 : decode cX11_spelled 23 = .ok (.aload_n 0, 1) := by decide +kernel
theorem dX11_spelled_24 : decode cX11_spelled 24 = .ok (.getfield 12, 3) := by decide +kernel
theorem dX11_spelled_27 : decode cX11_spelled 27 = .ok (.getfield 86, 3) := by decide +kernel
theorem dX11_spelled_30 : decode cX11_spelled 30 = .ok (.aload_n 0, 1) := by decide +kernel
theorem dX11_spelled_31 : decode cX11_spelled 31 = .ok (.getfield 65, 3) := by decide +kernel
theorem dX11_spelled_34 : decode cX11_spelled 34 = .ok (.invokevirtual 292, 3) := by decide +kernel
theorem dX11_spelled_37 : decode cX11_spelled 37 = .ok (.iload_n 2, 1) := by decide +kernel
theorem dX11_spelled_38 : decode cX11_spelled 38 = .ok (.iconst (-1), 1) := by decide +kernel
theorem dX11_spelled_39 : decode cX11_spelled 39 = .ok (.if_icmp .ne 11, 3) := by decide +kernel
theorem dX11_spelled_42 : decode cX11_spelled 42 = .ok (.aload_n 0, 1) := by decide +kernel
theorem dX11_spelled_43 : decode cX11_spelled 43 = .ok (.getfield 65, 3) := by decide +kernel
theorem dX11_spelled_46 : decode cX11_spelled 46 = .ok (.getfield 274, 3) := by decide +kernel
theorem dX11_spelled_49 : decode cX11_spelled 49 = .ok (.ireturn, 1) := by decide +kernel
theorem dX11_spelled_50 : decode cX11_spelled 50 = .ok (.iload_n 2, 1) := by decide +kernel
theorem dX11_spelled_51 : decode cX11_spelled 51 = .ok (.aload_n 0, 1) := by decide +kernel
theorem dX11_spelled_52 : decode cX11_spelled 52 = .ok (.getfield 65, 3) := by decide +kernel
theorem dX11_spelled_55 : decode cX11_spelled 55 = .ok (.getfield 274, 3) := by decide +kernel
theorem dX11_spelled_58 : decode cX11_spelled 58 = .ok (.if_icmp .ge 14, 3) := by decide +kernel
theorem dX11_spelled_61 : decode cX11_spelled 61 = .ok (.aload_n 0, 1) := by decide +kernel
theorem dX11_spelled_62 : decode cX11_spelled 62 = .ok (.getfield 65, 3) := by decide +kernel
theorem dX11_spelled_65 : decode cX11_spelled 65 = .ok (.iload_n 2, 1) := by decide +kernel
theorem dX11_spelled_66 : decode cX11_spelled 66 = .ok (.invokevirtual 296, 3) := by decide +kernel
theorem dX11_spelled_69 : decode cX11_spelled 69 = .ok (.goto 4, 3) := by decide +kernel
theorem dX11_spelled_72 : decode cX11_spelled 72 = .ok (.iconst (-1), 1) := by decide +kernel
theorem dX11_spelled_73 : decode cX11_spelled 73 = .ok (.ireturn, 1) := by decide +kernel
theorem dX11_list_0 : decode cX11_list 0 = .ok (.iload_n 1, 1) := by decide +kernel
theorem dX11_list_1 : decode cX11_list 1 = .ok (.invokestatic 299, 3) := by decide +kernel
theorem dX11_list_4 : decode cX11_list 4 = .ok (.ifCond .ne 5, 3) := by decide +kernel
theorem dX11_list_7 : decode cX11_list 7 = .ok (.iconst (-1), 1) := by decide +kernel
theorem dX11_list_8 : decode cX11_list 8 = .ok (.ireturn, 1) := by decide +kernel
theorem dX11_list_9 : decode cX11_list 9 = .ok (.iload_n 2, 1) := by decide +kernel
theorem dX11_list_10 : decode cX11_list 10 = .ok (.bipush 20, 2) := by decide +kernel
theorem dX11_list_12 : decode cX11_list 12 = .ok (.if_icmp .le 6, 3) := by decide +kernel
theorem dX11_list_15 : decode cX11_list 15 = .ok (.bipush (-2), 2) := by decide +kernel
theorem dX11_list_17 : decode cX11_list 17 = .ok (.ireturn, 1) := by decide +kernel
theorem dX11_list_18 : decode cX11_list 18 = .ok (.iload_n 2, 1) := by decide +kernel
theorem dX11_list_19 : decode cX11_list 19 = .ok (.iconst (-1), 1) := by decide +kernel
theorem dX11_list_20 : decode cX11_list 20 = .ok (.if_icmp .ge 6, 3) := by decide +kernel
theorem dX11_list_23 : decode cX11_list 23 = .ok (.bipush (-14), 2) := by decide +kernel
theorem dX11_list_25 : decode cX11_list 25 = .ok (.ireturn, 1) := by decide +kernel
theorem dX11_list_26 : decode cX11_list 26 = .ok (.aload_n 0, 1) := by decide +kernel
theorem dX11_list_27 : decode cX11_list 27 = .ok (.getfield 78, 3) := by decide +kernel
theorem dX11_list_30 : decode cX11_list 30 = .ok (.iload_n 1, 1) := by decide +kernel
theorem dX11_list_31 : decode cX11_list 31 = .ok (.iload_n 2, 1) := by decide +kernel
theorem dX11_list_32 : decode cX11_list 32 = .ok (.invokevirtual 302, 3) := by decide +kernel
theorem dX11_list_35 : decode cX11_list 35 = .ok (.iconst 1, 1) := by decide +kernel
theorem dX11_list_36 : decode cX11_list 36 = .ok (.ireturn, 1) := by decide +kernel
theorem dX11_lay_0 : decode cX11_lay 0 = .ok (.iload_n 1, 1) := by decide +kernel
theorem dX11_lay_1 : decode cX11_lay 1 = .ok (.invokestatic 299, 3) := by decide +kernel
theorem dX11_lay_4 : decode cX11_lay 4 = .ok (.ifCond .ne 5, 3) := by decide +kernel
theorem dX11_lay_7 : decode cX11_lay 7 = .ok (.iconst (-1), 1) := by decide +kernel
theorem dX11_lay_8 : decode cX11_lay 8 = .ok (.ireturn, 1) := by decide +kernel
theorem dX11_lay_9 : decode cX11_lay 9 = .ok (.aload_n 0, 1) := by decide +kernel
theorem dX11_lay_10 : decode cX11_lay 10 = .ok (.getfield 78, 3) := by decide +kernel
theorem dX11_lay_13 : decode cX11_lay 13 = .ok (.iload_n 1, 1) := by decide +kernel
theorem dX11_lay_14 : decode cX11_lay 14 = .ok (.invokevirtual 306, 3) := by decide +kernel
theorem dX11_lay_17 : decode cX11_lay 17 = .ok (.ifCond .eq 6, 3) := by decide +kernel
theorem dX11_lay_20 : decode cX11_lay 20 = .ok (.bipush (-11), 2) := by decide +kernel
theorem dX11_lay_22 : decode cX11_lay 22 = .ok (.ireturn, 1) := by decide +kernel
theorem dX11_lay_23 : decode cX11_lay 23 = .ok (.aload_n 0, 1) := by decide +kernel
theorem dX11_lay_24 : decode cX11_lay 24 = .ok (.getfield 78, 3) := by decide +kernel
theorem dX11_lay_27 : decode cX11_lay 27 = .ok (.iload_n 1, 1) := by decide +kernel
theorem dX11_lay_28 : decode cX11_lay 28 = .ok (.iload_n 2, 1) := by decide +kernel
theorem dX11_lay_29 : decode cX11_lay 29 = .ok (.invokevirtual 309, 3) := by decide +kernel
theorem dX11_lay_32 : decode cX11_lay 32 = .ok (.ifCond .ne 6, 3) := by decide +kernel
theorem dX11_lay_35 : decode cX11_lay 35 = .ok (.bipush (-13), 2) := by decide +kernel
theorem dX11_lay_37 : decode cX11_lay 37 = .ok (.ireturn, 1) := by decide +kernel
theorem dX11_lay_38 : decode cX11_lay 38 = .ok (.aload_n 0, 1) := by decide +kernel
theorem dX11_lay_39 : decode cX11_lay 39 = .ok (.getfield 78, 3) := by decide +kernel
theorem dX11_lay_42 : decode cX11_lay 42 = .ok (.getfield 312, 3) := by decide +kernel
theorem dX11_lay_45 : decode cX11_lay 45 = .ok (.iload_n 1, 1) := by decide +kernel
theorem dX11_lay_46 : decode cX11_lay 46 = .ok (.aaload, 1) := by decide +kernel
theorem dX11_lay_47 : decode cX11_lay 47 = .ok (.iload_n 2, 1) := by decide +kernel
theorem dX11_lay_48 : decode cX11_lay 48 = .ok (.lload_n 3, 1) := by decide +kernel
theorem dX11_lay_49 : decode cX11_lay 49 = .ok (.lastore, 1) := by decide +kernel
theorem dX11_lay_50 : decode cX11_lay 50 = .ok (.iconst 1, 1) := by decide +kernel
theorem dX11_lay_51 : decode cX11_lay 51 = .ok (.ireturn, 1) := by decide +kernel
theorem dX11_get_0 : decode cX11_get 0 = .ok (.iload_n 1, 1) := by decide +kernel
theorem dX11_get_1 : decode cX11_get 1 = .ok (.invokestatic 299, 3) := by decide +kernel
theorem dX11_get_4 : decode cX11_get 4 = .ok (.ifCond .eq 29, 3) := by decide +kernel
theorem dX11_get_7 : decode cX11_get 7 = .ok (.aload_n 0, 1) := by decide +kernel
theorem dX11_get_8 : decode cX11_get 8 = .ok (.getfield 78, 3) := by decide +kernel
theorem dX11_get_11 : decode cX11_get 11 = .ok (.iload_n 1, 1) := by decide +kernel
theorem dX11_get_12 : decode cX11_get 12 = .ok (.iload_n 2, 1) := by decide +kernel
theorem dX11_get_13 : decode cX11_get 13 = .ok (.invokevirtual 309, 3) := by decide +kernel
theorem dX11_get_16 : decode cX11_get 16 = .ok (.ifCond .eq 17, 3) := by decide +kernel
theorem dX11_get_19 : decode cX11_get 19 = .ok (.aload_n 0, 1) := by decide +kernel
theorem dX11_get_20 : decode cX11_get 20 = .ok (.getfield 78, 3) := by decide +kernel
theorem dX11_get_23 : decode cX11_get 23 = .ok (.getfield 312, 3) := by decide +kernel
theorem dX11_get_26 : decode cX11_get 26 = .ok (.iload_n 1, 1) := by decide +kernel
theorem dX11_get_27 : decode cX11_get 27 = .ok (.aaload, 1) := by decide +kernel
theorem dX11_get_28 : decode cX11_get 28 = .ok (.iload_n 2, 1) := by decide +kernel
theorem dX11_get_29 : decode cX11_get 29 = .ok (.laload, 1) := by decide +kernel
theorem dX11_get_30 : decode cX11_get 30 = .ok (.goto 6, 3) := by decide +kernel
theorem dX11_get_33 : decode cX11_get 33 = .ok (.ldc2_w 140, 3) := by decide +kernel
theorem dX11_get_36 : decode cX11_get 36 = .ok (.lreturn, 1) := by decide +kernel
theorem dX11_film_0 : decode cX11_film 0 = .ok (.aload_n 0, 1) := by decide +kernel
theorem dX11_film_1 : decode cX11_film 1 = .ok (.invokevirtual 182, 3) := by decide +kernel
theorem dX11_film_4 : decode cX11_film 4 = .ok (.astore_n 3, 1) := by decide +kernel
theorem dX11_film_5 : decode cX11_film 5 = .ok (.iload_n 1, 1) := by decide +kernel
theorem dX11_film_6 : decode cX11_film 6 = .ok (.invokestatic 299, 3) := by decide +kernel
theorem dX11_film_9 : decode cX11_film 9 = .ok (.ifCond .eq 11, 3) := by decide +kernel
theorem dX11_film_12 : decode cX11_film 12 = .ok (.aload_n 3, 1) := by decide +kernel
theorem dX11_film_13 : decode cX11_film 13 = .ok (.iload_n 2, 1) := by decide +kernel
theorem dX11_film_14 : decode cX11_film 14 = .ok (.invokevirtual 191, 3) := by decide +kernel
theorem dX11_film_17 : decode cX11_film 17 = .ok (.ifCond .ne 5, 3) := by decide +kernel
theorem dX11_film_20 : decode cX11_film 20 = .ok (.iconst (-1), 1) := by decide +kernel
theorem dX11_film_21 : decode cX11_film 21 = .ok (.ireturn, 1) := by decide +kernel
theorem dX11_film_22 : decode cX11_film 22 = .ok (.bipush 10, 2) := by decide +kernel
theorem dX11_film_24 : decode cX11_film 24 = .ok (.aload_n 3, 1) := by decide +kernel
theorem dX11_film_25 : decode cX11_film 25 = .ok (.getfield 186, 3) := by decide +kernel
theorem dX11_film_28 : decode cX11_film 28 = .ok (.iload_n 2, 1) := by decide +kernel
theorem dX11_film_29 : decode cX11_film 29 = .ok (.isub, 1) := by decide +kernel
theorem dX11_film_30 : decode cX11_film 30 = .ok (.invokestatic 316, 3) := by decide +kernel
theorem dX11_film_33 : decode cX11_film 33 = .ok (.istore 4, 2) := by decide +kernel
theorem dX11_film_35 : decode cX11_film 35 = .ok (.aload_n 0, 1) := by decide +kernel
theorem dX11_film_36 : decode cX11_film 36 = .ok (.getfield 78, 3) := by decide +kernel
theorem dX11_film_39 : decode cX11_film 39 = .ok (.iload_n 1, 1) := by decide +kernel
theorem dX11_film_40 : decode cX11_film 40 = .ok (.iconst 2, 1) := by decide +kernel
theorem dX11_film_41 : decode cX11_film 41 = .ok (.iload 4, 2) := by decide +kernel
theorem dX11_film_43 : decode cX11_film 43 = .ok (.imul, 1) := by decide +kernel
theorem dX11_film_44 : decode cX11_film 44 = .ok (.invokevirtual 302, 3) := by decide +kernel
theorem dX11_film_47 : decode cX11_film 47 = .ok (.iconst 0, 1) := by decide +kernel
theorem dX11_film_48 : decode cX11_film 48 = .ok (.istore 5, 2) := by decide +kernel
theorem dX11_film_50 : decode cX11_film 50 = .ok (.iload 5, 2) := by decide +kernel
theorem dX11_film_52 : decode cX11_film 52 = .ok (.iload 4, 2) := by decide +kernel
theorem dX11_film_54 : decode cX11_film 54 = .ok (.if_icmp .ge 57, 3) := by decide +kernel
theorem dX11_film_57 : decode cX11_film 57 = .ok (.aload_n 0, 1) := by decide +kernel
theorem dX11_film_58 : decode cX11_film 58 = .ok (.getfield 78, 3) := by decide +kernel
theorem dX11_film_61 : decode cX11_film 61 = .ok (.getfield 312, 3) := by decide +kernel
theorem dX11_film_64 : decode cX11_film 64 = .ok (.iload_n 1, 1) := by decide +kernel
theorem dX11_film_65 : decode cX11_film 65 = .ok (.aaload, 1) := by decide +kernel
theorem dX11_film_66 : decode cX11_film 66 = .ok (.iconst 2, 1) := by decide +kernel
theorem dX11_film_67 : decode cX11_film 67 = .ok (.iload 5, 2) := by decide +kernel
theorem dX11_film_69 : decode cX11_film 69 = .ok (.imul, 1) := by decide +kernel
theorem dX11_film_70 : decode cX11_film 70 = .ok (.aload_n 3, 1) := by decide +kernel
theorem dX11_film_71 : decode cX11_film 71 = .ok (.getfield 192, 3) := by decide +kernel
theorem dX11_film_74 : decode cX11_film 74 = .ok (.iload_n 2, 1) := by decide +kernel
theorem dX11_film_75 : decode cX11_film 75 = .ok (.iload 5, 2) := by decide +kernel
theorem dX11_film_77 : decode cX11_film 77 = .ok (.iadd, 1) := by decide +kernel
theorem dX11_film_78 : decode cX11_film 78 = .ok (.laload, 1) := by decide +kernel
theorem dX11_film_79 : decode cX11_film 79 = .ok (.lastore, 1) := by decide +kernel
theorem dX11_film_80 : decode cX11_film 80 = .ok (.aload_n 0, 1) := by decide +kernel
theorem dX11_film_81 : decode cX11_film 81 = .ok (.getfield 78, 3) := by decide +kernel
theorem dX11_film_84 : decode cX11_film 84 = .ok (.getfield 312, 3) := by decide +kernel
theorem dX11_film_87 : decode cX11_film 87 = .ok (.iload_n 1, 1) := by decide +kernel
theorem dX11_film_88 : decode cX11_film 88 = .ok (.aaload, 1) := by decide +kernel
theorem dX11_film_89 : decode cX11_film 89 = .ok (.iconst 2, 1) := by decide +kernel
theorem dX11_film_90 : decode cX11_film 90 = .ok (.iload 5, 2) := by decide +kernel
theorem dX11_film_92 : decode cX11_film 92 = .ok (.imul, 1) := by decide +kernel
theorem dX11_film_93 : decode cX11_film 93 = .ok (.iconst 1, 1) := by decide +kernel
theorem dX11_film_94 : decode cX11_film 94 = .ok (.iadd, 1) := by decide +kernel
theorem dX11_film_95 : decode cX11_film 95 = .ok (.aload_n 3, 1) := by decide +kernel
theorem dX11_film_96 : decode cX11_film 96 = .ok (.getfield 195, 3) := by decide +kernel
theorem dX11_film_99 : decode cX11_film 99 = .ok (.iload_n 2, 1) := by decide +kernel
theorem dX11_film_100 : decode cX11_film 100 = .ok (.iload 5, 2) := by decide +kernel
theorem dX11_film_102 : decode cX11_film 102 = .ok (.iadd, 1) := by decide +kernel
theorem dX11_film_103 : decode cX11_film 103 = .ok (.laload, 1) := by decide +kernel
theorem dX11_film_104 : decode cX11_film 104 = .ok (.lastore, 1) := by decide +kernel
theorem dX11_film_105 : decode cX11_film 105 = .ok (.iinc 5 1, 3) := by decide +kernel
theorem dX11_film_108 : decode cX11_film 108 = .ok (.goto (-58), 3) := by decide +kernel
theorem dX11_film_111 : decode cX11_film 111 = .ok (.iload 4, 2) := by decide +kernel
theorem dX11_film_113 : decode cX11_film 113 = .ok (.ireturn, 1) := by decide +kernel
theorem dX11_judge_0 : decode cX11_judge 0 = .ok (.iload_n 1, 1) := by decide +kernel
theorem dX11_judge_1 : decode cX11_judge 1 = .ok (.invokestatic 299, 3) := by decide +kernel
theorem dX11_judge_4 : decode cX11_judge 4 = .ok (.ifCond .eq 7, 3) := by decide +kernel
theorem dX11_judge_7 : decode cX11_judge 7 = .ok (.iload_n 2, 1) := by decide +kernel
theorem dX11_judge_8 : decode cX11_judge 8 = .ok (.ifCond .ge 5, 3) := by decide +kernel
theorem dX11_judge_11 : decode cX11_judge 11 = .ok (.iconst (-1), 1) := by decide +kernel
theorem dX11_judge_12 : decode cX11_judge 12 = .ok (.ireturn, 1) := by decide +kernel
theorem dX11_judge_13 : decode cX11_judge 13 = .ok (.aload_n 0, 1) := by decide +kernel
theorem dX11_judge_14 : decode cX11_judge 14 = .ok (.getfield 78, 3) := by decide +kernel
theorem dX11_judge_17 : decode cX11_judge 17 = .ok (.iload_n 1, 1) := by decide +kernel
theorem dX11_judge_18 : decode cX11_judge 18 = .ok (.invokevirtual 306, 3) := by decide +kernel
theorem dX11_judge_21 : decode cX11_judge 21 = .ok (.ifCond .eq 6, 3) := by decide +kernel
theorem dX11_judge_24 : decode cX11_judge 24 = .ok (.bipush (-11), 2) := by decide +kernel
theorem dX11_judge_26 : decode cX11_judge 26 = .ok (.ireturn, 1) := by decide +kernel
theorem dX11_judge_27 : decode cX11_judge 27 = .ok (.aload_n 0, 1) := by decide +kernel
theorem dX11_judge_28 : decode cX11_judge 28 = .ok (.invokevirtual 182, 3) := by decide +kernel
theorem dX11_judge_31 : decode cX11_judge 31 = .ok (.astore_n 3, 1) := by decide +kernel
theorem dX11_judge_32 : decode cX11_judge 32 = .ok (.aload_n 0, 1) := by decide +kernel
theorem dX11_judge_33 : decode cX11_judge 33 = .ok (.getfield 78, 3) := by decide +kernel
theorem dX11_judge_36 : decode cX11_judge 36 = .ok (.getfield 321, 3) := by decide +kernel
theorem dX11_judge_39 : decode cX11_judge 39 = .ok (.iload_n 1, 1) := by decide +kernel
theorem dX11_judge_40 : decode cX11_judge 40 = .ok (.iaload, 1) := by decide +kernel
theorem dX11_judge_41 : decode cX11_judge 41 = .ok (.istore 4, 2) := by decide +kernel
theorem dX11_judge_43 : decode cX11_judge 43 = .ok (.iconst 0, 1) := by decide +kernel
theorem dX11_judge_44 : decode cX11_judge 44 = .ok (.istore 5, 2) := by decide +kernel
theorem dX11_judge_46 : decode cX11_judge 46 = .ok (.iload 5, 2) := by decide +kernel
theorem dX11_judge_48 : decode cX11_judge 48 = .ok (.iload 4, 2) := by decide +kernel
theorem dX11_judge_50 : decode cX11_judge 50 = .ok (.if_icmp .ge 60, 3) := by decide +kernel
theorem dX11_judge_53 : decode cX11_judge 53 = .ok (.iload_n 2, 1) := by decide +kernel
theorem dX11_judge_54 : decode cX11_judge 54 = .ok (.i2l, 1) := by decide +kernel
theorem dX11_judge_55 : decode cX11_judge 55 = .ok (.iload 5, 2) := by decide +kernel
theorem dX11_judge_57 : decode cX11_judge 57 = .ok (.iconst 2, 1) := by decide +kernel
theorem dX11_judge_58 : decode cX11_judge 58 = .ok (.idiv, 1) := by decide +kernel
theorem dX11_judge_59 : decode cX11_judge 59 = .ok (.i2l, 1) := by decide +kernel
theorem dX11_judge_60 : decode cX11_judge 60 = .ok (.ladd, 1) := by decide +kernel
theorem dX11_judge_61 : decode cX11_judge 61 = .ok (.lstore 6, 2) := by decide +kernel
theorem dX11_judge_63 : decode cX11_judge 63 = .ok (.lload 6, 2) := by decide +kernel
theorem dX11_judge_65 : decode cX11_judge 65 = .ok (.aload_n 3, 1) := by decide +kernel
theorem dX11_judge_66 : decode cX11_judge 66 = .ok (.getfield 186, 3) := by decide +kernel
theorem dX11_judge_69 : decode cX11_judge 69 = .ok (.i2l, 1) := by decide +kernel
theorem dX11_judge_70 : decode cX11_judge 70 = .ok (.lcmp, 1) := by decide +kernel
theorem dX11_judge_71 : decode cX11_judge 71 = .ok (.ifCond .ge 30, 3) := by decide +kernel
theorem dX11_judge_74 : decode cX11_judge 74 = .ok (.aload_n 0, 1) := by decide +kernel
theorem dX11_judge_75 : decode cX11_judge 75 = .ok (.getfield 78, 3) := by decide +kernel
theorem dX11_judge_78 : decode cX11_judge 78 = .ok (.getfield 312, 3) := by decide +kernel
theorem dX11_judge_81 : decode cX11_judge 81 = .ok (.iload_n 1, 1) := by decide +kernel
theorem dX11_judge_82 : decode cX11_judge 82 = .ok (.aaload, 1) := by decide +kernel
theorem dX11_judge_83 : decode cX11_judge 83 = .ok (.iload 5, 2) := by decide +kernel
theorem dX11_judge_85 : decode cX11_judge 85 = .ok (.laload, 1) := by decide +kernel
theorem dX11_judge_86 : decode cX11_judge 86 = .ok (.aload_n 3, 1) := by decide +kernel
theorem dX11_judge_87 : decode cX11_judge 87 = .ok (.lload 6, 2) := by decide +kernel
theorem dX11_judge_89 : decode cX11_judge 89 = .ok (.l2i, 1) := by decide +kernel
theorem dX11_judge_90 : decode cX11_judge 90 = .ok (.iload 5, 2) := by decide +kernel
theorem dX11_judge_92 : decode cX11_judge 92 = .ok (.iconst 2, 1) := by decide +kernel
theorem dX11_judge_93 : decode cX11_judge 93 = .ok (.irem, 1) := by decide +kernel
theorem dX11_judge_94 : decode cX11_judge 94 = .ok (.invokevirtual 187, 3) := by decide +kernel
theorem dX11_judge_97 : decode cX11_judge 97 = .ok (.lcmp, 1) := by decide +kernel
theorem dX11_judge_98 : decode cX11_judge 98 = .ok (.ifCond .eq 6, 3) := by decide +kernel
theorem dX11_judge_101 : decode cX11_judge 101 = .ok (.iload 5, 2) := by decide +kernel
theorem dX11_judge_103 : decode cX11_judge 103 = .ok (.ireturn, 1) := by decide +kernel
theorem dX11_judge_104 : decode cX11_judge 104 = .ok (.iinc 5 1, 3) := by decide +kernel
theorem dX11_judge_107 : decode cX11_judge 107 = .ok (.goto (-61), 3) := by decide +kernel
theorem dX11_judge_110 : decode cX11_judge 110 = .ok (.bipush 100, 2) := by decide +kernel
theorem dX11_judge_112 : decode cX11_judge 112 = .ok (.iload 4, 2) := by decide +kernel
theorem dX11_judge_114 : decode cX11_judge 114 = .ok (.iadd, 1) := by decide +kernel
theorem dX11_judge_115 : decode cX11_judge 115 = .ok (.ireturn, 1) := by decide +kernel
theorem dX11_image_0 : decode cX11_image 0 = .ok (.aload_n 0, 1) := by decide +kernel
theorem dX11_image_1 : decode cX11_image 1 = .ok (.getfield 18, 3) := by decide +kernel
theorem dX11_image_4 : decode cX11_image 4 = .ok (.aload_n 0, 1) := by decide +kernel
theorem dX11_image_5 : decode cX11_image 5 = .ok (.getfield 12, 3) := by decide +kernel
theorem dX11_image_8 : decode cX11_image 8 = .ok (.invokevirtual 324, 3) := by decide +kernel
theorem dX11_image_11 : decode cX11_image 11 = .ok (.aload_n 0, 1) := by decide +kernel
theorem dX11_image_12 : decode cX11_image 12 = .ok (.iconst 1, 1) := by decide +kernel
theorem dX11_image_13 : decode cX11_image 13 = .ok (.putfield 327, 3) := by decide +kernel
theorem dX11_image_16 : decode cX11_image 16 = .ok (.aload_n 0, 1) := by decide +kernel
theorem dX11_image_17 : decode cX11_image 17 = .ok (.getfield 12, 3) := by decide +kernel
theorem dX11_image_20 : decode cX11_image 20 = .ok (.getfield 86, 3) := by decide +kernel
theorem dX11_image_23 : decode cX11_image 23 = .ok (.getfield 96, 3) := by decide +kernel
theorem dX11_image_26 : decode cX11_image 26 = .ok (.ireturn, 1) := by decide +kernel
theorem dX11_undo_0 : decode cX11_undo 0 = .ok (.aload_n 0, 1) := by decide +kernel
theorem dX11_undo_1 : decode cX11_undo 1 = .ok (.getfield 327, 3) := by decide +kernel
theorem dX11_undo_4 : decode cX11_undo 4 = .ok (.ifCond .ne 6, 3) := by decide +kernel
theorem dX11_undo_7 : decode cX11_undo 7 = .ok (.bipush (-3), 2) := by decide +kernel
theorem dX11_undo_9 : decode cX11_undo 9 = .ok (.ireturn, 1) := by decide +kernel
theorem dX11_undo_10 : decode cX11_undo 10 = .ok (.aload_n 0, 1) := by decide +kernel
theorem dX11_undo_11 : decode cX11_undo 11 = .ok (.getfield 12, 3) := by decide +kernel
theorem dX11_undo_14 : decode cX11_undo 14 = .ok (.aload_n 0, 1) := by decide +kernel
theorem dX11_undo_15 : decode cX11_undo 15 = .ok (.getfield 18, 3) := by decide +kernel
theorem dX11_undo_18 : decode cX11_undo 18 = .ok (.invokevirtual 324, 3) := by decide +kernel
theorem dX11_undo_21 : decode cX11_undo 21 = .ok (.aload_n 0, 1) := by decide +kernel
theorem dX11_undo_22 : decode cX11_undo 22 = .ok (.invokevirtual 107, 3) := by decide +kernel
theorem dX11_undo_25 : decode cX11_undo 25 = .ok (.aload_n 0, 1) := by decide +kernel
theorem dX11_undo_26 : decode cX11_undo 26 = .ok (.getfield 12, 3) := by decide +kernel
theorem dX11_undo_29 : decode cX11_undo 29 = .ok (.getfield 86, 3) := by decide +kernel
theorem dX11_undo_32 : decode cX11_undo 32 = .ok (.getfield 96, 3) := by decide +kernel
theorem dX11_undo_35 : decode cX11_undo 35 = .ok (.ireturn, 1) := by decide +kernel
theorem dX11_count_0 : decode cX11_count 0 = .ok (.iload_n 1, 1) := by decide +kernel
theorem dX11_count_1 : decode cX11_count 1 = .ok (.tableswitch 78 0 4 #[35, 46, 57, 65, 73], 35) := by decide +kernel
theorem dX11_count_36 : decode cX11_count 36 = .ok (.aload_n 0, 1) := by decide +kernel
theorem dX11_count_37 : decode cX11_count 37 = .ok (.getfield 12, 3) := by decide +kernel
theorem dX11_count_40 : decode cX11_count 40 = .ok (.getfield 86, 3) := by decide +kernel
theorem dX11_count_43 : decode cX11_count 43 = .ok (.getfield 96, 3) := by decide +kernel
theorem dX11_count_46 : decode cX11_count 46 = .ok (.ireturn, 1) := by decide +kernel
theorem dX11_count_47 : decode cX11_count 47 = .ok (.aload_n 0, 1) := by decide +kernel
theorem dX11_count_48 : decode cX11_count 48 = .ok (.getfield 12, 3) := by decide +kernel
theorem dX11_count_51 : decode cX11_count 51 = .ok (.getfield 230, 3) := by decide +kernel
theorem dX11_count_54 : decode cX11_count 54 = .ok (.getfield 243, 3) := by decide +kernel
theorem dX11_count_57 : decode cX11_count 57 = .ok (.ireturn, 1) := by decide +kernel
theorem dX11_count_58 : decode cX11_count 58 = .ok (.aload_n 0, 1) := by decide +kernel
theorem dX11_count_59 : decode cX11_count 59 = .ok (.getfield 61, 3) := by decide +kernel
theorem dX11_count_62 : decode cX11_count 62 = .ok (.getfield 274, 3) := by decide +kernel
theorem dX11_count_65 : decode cX11_count 65 = .ok (.ireturn, 1) := by decide +kernel
theorem dX11_count_66 : decode cX11_count 66 = .ok (.aload_n 0, 1) := by decide +kernel
theorem dX11_count_67 : decode cX11_count 67 = .ok (.getfield 78, 3) := by decide +kernel
theorem dX11_count_70 : decode cX11_count 70 = .ok (.invokevirtual 330, 3) := by decide +kernel
theorem dX11_count_73 : decode cX11_count 73 = .ok (.ireturn, 1) := by decide +kernel
theorem dX11_count_74 : decode cX11_count 74 = .ok (.aload_n 0, 1) := by decide +kernel
theorem dX11_count_75 : decode cX11_count 75 = .ok (.invokevirtual 333, 3) := by decide +kernel
theorem dX11_count_78 : decode cX11_count 78 = .ok (.ireturn, 1) := by decide +kernel
theorem dX11_count_79 : decode cX11_count 79 = .ok (.iconst (-1), 1) := by decide +kernel
theorem dX11_count_80 : decode cX11_count 80 = .ok (.ireturn, 1) := by decide +kernel
theorem dX11_isShelf_0 : decode cX11_isShelf 0 = .ok (.iload_n 0, 1) := by decide +kernel
theorem dX11_isShelf_1 : decode cX11_isShelf 1 = .ok (.ifCond .lt 12, 3) := by decide +kernel
theorem dX11_isShelf_4 : decode cX11_isShelf 4 = .ok (.iload_n 0, 1) := by decide +kernel
theorem dX11_isShelf_5 : decode cX11_isShelf 5 = .ok (.iconst 4, 1) := by decide +kernel
theorem dX11_isShelf_6 : decode cX11_isShelf 6 = .ok (.if_icmp .ge 7, 3) := by decide +kernel
theorem dX11_isShelf_9 : decode cX11_isShelf 9 = .ok (.iconst 1, 1) := by decide +kernel
theorem dX11_isShelf_10 : decode cX11_isShelf 10 = .ok (.goto 4, 3) := by decide +kernel
theorem dX11_isShelf_13 : decode cX11_isShelf 13 = .ok (.iconst 0, 1) := by decide +kernel
theorem dX11_isShelf_14 : decode cX11_isShelf 14 = .ok (.ireturn, 1) := by decide +kernel
theorem dX11_isPart_0 : decode cX11_isPart 0 = .ok (.iload_n 0, 1) := by decide +kernel
theorem dX11_isPart_1 : decode cX11_isPart 1 = .ok (.ifCond .eq 8, 3) := by decide +kernel
theorem dX11_isPart_4 : decode cX11_isPart 4 = .ok (.iload_n 0, 1) := by decide +kernel
theorem dX11_isPart_5 : decode cX11_isPart 5 = .ok (.iconst 1, 1) := by decide +kernel
theorem dX11_isPart_6 : decode cX11_isPart 6 = .ok (.if_icmp .ne 7, 3) := by decide +kernel
theorem dX11_isPart_9 : decode cX11_isPart 9 = .ok (.iconst 1, 1) := by decide +kernel
theorem dX11_isPart_10 : decode cX11_isPart 10 = .ok (.goto 4, 3) := by decide +kernel
theorem dX11_isPart_13 : decode cX11_isPart 13 = .ok (.iconst 0, 1) := by decide +kernel
theorem dX11_isPart_14 : decode cX11_isPart 14 = .ok (.ireturn, 1) := by decide +kernel
theorem dX11_isList_0 : decode cX11_isList 0 = .ok (.iload_n 0, 1) := by decide +kernel
theorem dX11_isList_1 : decode cX11_isList 1 = .ok (.ifCond .lt 12, 3) := by decide +kernel
theorem dX11_isList_4 : decode cX11_isList 4 = .ok (.iload_n 0, 1) := by decide +kernel
theorem dX11_isList_5 : decode cX11_isList 5 = .ok (.iconst 3, 1) := by decide +kernel
theorem dX11_isList_6 : decode cX11_isList 6 = .ok (.if_icmp .ge 7, 3) := by decide +kernel
theorem dX11_isList_9 : decode cX11_isList 9 = .ok (.iconst 1, 1) := by decide +kernel
theorem dX11_isList_10 : decode cX11_isList 10 = .ok (.goto 4, 3) := by decide +kernel
theorem dX11_isList_13 : decode cX11_isList 13 = .ok (.iconst 0, 1) := by decide +kernel
theorem dX11_isList_14 : decode cX11_isList 14 = .ok (.ireturn, 1) := by decide +kernel
theorem dX11_isPrimeWithin_0 : decode cX11_isPrimeWithin 0 = .ok (.iload_n 0, 1) := by decide +kernel
theorem dX11_isPrimeWithin_1 : decode cX11_isPrimeWithin 1 = .ok (.iload_n 1, 1) := by decide +kernel
theorem dX11_isPrimeWithin_2 : decode cX11_isPrimeWithin 2 = .ok (.if_icmp .lt 8, 3) := by decide +kernel
theorem dX11_isPrimeWithin_5 : decode cX11_isPrimeWithin 5 = .ok (.iload_n 0, 1) := by decide +kernel
theorem dX11_isPrimeWithin_6 : decode cX11_isPrimeWithin 6 = .ok (.iload_n 2, 1) := by decide +kernel
theorem dX11_isPrimeWithin_7 : decode cX11_isPrimeWithin 7 = .ok (.if_icmp .le 5, 3) := by decide +kernel
theorem dX11_isPrimeWithin_10 : decode cX11_isPrimeWithin 10 = .ok (.iconst 0, 1) := by decide +kernel
theorem dX11_isPrimeWithin_11 : decode cX11_isPrimeWithin 11 = .ok (.ireturn, 1) := by decide +kernel
theorem dX11_isPrimeWithin_12 : decode cX11_isPrimeWithin 12 = .ok (.iconst 2, 1) := by decide +kernel
theorem dX11_isPrimeWithin_13 : decode cX11_isPrimeWithin 13 = .ok (.istore_n 3, 1) := by decide +kernel
theorem dX11_isPrimeWithin_14 : decode cX11_isPrimeWithin 14 = .ok (.iload_n 3, 1) := by decide +kernel
theorem dX11_isPrimeWithin_15 : decode cX11_isPrimeWithin 15 = .ok (.iload_n 0, 1) := by decide +kernel
theorem dX11_isPrimeWithin_16 : decode cX11_isPrimeWithin 16 = .ok (.if_icmp .ge 17, 3) := by decide +kernel
theorem dX11_isPrimeWithin_19 : decode cX11_isPrimeWithin 19 = .ok (.iload_n 0, 1) := by decide +kernel
theorem dX11_isPrimeWithin_20 : decode cX11_isPrimeWithin 20 = .ok (.iload_n 3, 1) := by decide +kernel
theorem dX11_isPrimeWithin_21 : decode cX11_isPrimeWithin 21 = .ok (.irem, 1) := by decide +kernel
theorem dX11_isPrimeWithin_22 : decode cX11_isPrimeWithin 22 = .ok (.ifCond .ne 5, 3) := by decide +kernel
theorem dX11_isPrimeWithin_25 : decode cX11_isPrimeWithin 25 = .ok (.iconst 0, 1) := by decide +kernel
theorem dX11_isPrimeWithin_26 : decode cX11_isPrimeWithin 26 = .ok (.ireturn, 1) := by decide +kernel
theorem dX11_isPrimeWithin_27 : decode cX11_isPrimeWithin 27 = .ok (.iinc 3 1, 3) := by decide +kernel
theorem dX11_isPrimeWithin_30 : decode cX11_isPrimeWithin 30 = .ok (.goto (-16), 3) := by decide +kernel
theorem dX11_isPrimeWithin_33 : decode cX11_isPrimeWithin 33 = .ok (.iconst 1, 1) := by decide +kernel
theorem dX11_isPrimeWithin_34 : decode cX11_isPrimeWithin 34 = .ok (.ireturn, 1) := by decide +kernel
theorem dX11_nextSeed_0 : decode cX11_nextSeed 0 = .ok (.iload_n 0, 1) := by decide +kernel
theorem dX11_nextSeed_1 : decode cX11_nextSeed 1 = .ok (.ldc_w 336, 3) := by decide +kernel
theorem dX11_nextSeed_4 : decode cX11_nextSeed 4 = .ok (.imul, 1) := by decide +kernel
theorem dX11_nextSeed_5 : decode cX11_nextSeed 5 = .ok (.sipush 12345, 3) := by decide +kernel
theorem dX11_nextSeed_8 : decode cX11_nextSeed 8 = .ok (.iadd, 1) := by decide +kernel
theorem dX11_nextSeed_9 : decode cX11_nextSeed 9 = .ok (.ireturn, 1) := by decide +kernel
theorem dX11_draw_0 : decode cX11_draw 0 = .ok (.iload_n 1, 1) := by decide +kernel
theorem dX11_draw_1 : decode cX11_draw 1 = .ok (.iconst 1, 1) := by decide +kernel
theorem dX11_draw_2 : decode cX11_draw 2 = .ok (.if_icmp .ge 7, 3) := by decide +kernel
theorem dX11_draw_5 : decode cX11_draw 5 = .ok (.iconst 0, 1) := by decide +kernel
theorem dX11_draw_6 : decode cX11_draw 6 = .ok (.goto 14, 3) := by decide +kernel
theorem dX11_draw_9 : decode cX11_draw 9 = .ok (.iload_n 0, 1) := by decide +kernel
theorem dX11_draw_10 : decode cX11_draw 10 = .ok (.ldc_w 337, 3) := by decide +kernel
theorem dX11_draw_13 : decode cX11_draw 13 = .ok (.iand, 1) := by decide +kernel
theorem dX11_draw_14 : decode cX11_draw 14 = .ok (.ldc_w 338, 3) := by decide +kernel
theorem dX11_draw_17 : decode cX11_draw 17 = .ok (.idiv, 1) := by decide +kernel
theorem dX11_draw_18 : decode cX11_draw 18 = .ok (.iload_n 1, 1) := by decide +kernel
theorem dX11_draw_19 : decode cX11_draw 19 = .ok (.irem, 1) := by decide +kernel
theorem dX11_draw_20 : decode cX11_draw 20 = .ok (.ireturn, 1) := by decide +kernel
theorem dX11_orderModulo_0 : decode cX11_orderModulo 0 = .ok (.iconst 1, 1) := by decide +kernel
theorem dX11_orderModulo_1 : decode cX11_orderModulo 1 = .ok (.istore_n 2, 1) := by decide +kernel
theorem dX11_orderModulo_2 : decode cX11_orderModulo 2 = .ok (.iconst 1, 1) := by decide +kernel
theorem dX11_orderModulo_3 : decode cX11_orderModulo 3 = .ok (.istore_n 3, 1) := by decide +kernel
theorem dX11_orderModulo_4 : decode cX11_orderModulo 4 = .ok (.iload_n 3, 1) := by decide +kernel
theorem dX11_orderModulo_5 : decode cX11_orderModulo 5 = .ok (.iload_n 1, 1) := by decide +kernel
theorem dX11_orderModulo_6 : decode cX11_orderModulo 6 = .ok (.if_icmp .ge 22, 3) := by decide +kernel
theorem dX11_orderModulo_9 : decode cX11_orderModulo 9 = .ok (.iload_n 2, 1) := by decide +kernel
theorem dX11_orderModulo_10 : decode cX11_orderModulo 10 = .ok (.iload_n 0, 1) := by decide +kernel
theorem dX11_orderModulo_11 : decode cX11_orderModulo 11 = .ok (.imul, 1) := by decide +kernel
theorem dX11_orderModulo_12 : decode cX11_orderModulo 12 = .ok (.iload_n 1, 1) := by decide +kernel
theorem dX11_orderModulo_13 : decode cX11_orderModulo 13 = .ok (.irem, 1) := by decide +kernel
theorem dX11_orderModulo_14 : decode cX11_orderModulo 14 = .ok (.istore_n 2, 1) := by decide +kernel
theorem dX11_orderModulo_15 : decode cX11_orderModulo 15 = .ok (.iload_n 2, 1) := by decide +kernel
theorem dX11_orderModulo_16 : decode cX11_orderModulo 16 = .ok (.iconst 1, 1) := by decide +kernel
theorem dX11_orderModulo_17 : decode cX11_orderModulo 17 = .ok (.if_icmp .ne 5, 3) := by decide +kernel
theorem dX11_orderModulo_20 : decode cX11_orderModulo 20 = .ok (.iload_n 3, 1) := by decide +kernel
theorem dX11_orderModulo_21 : decode cX11_orderModulo 21 = .ok (.ireturn, 1) := by decide +kernel
theorem dX11_orderModulo_22 : decode cX11_orderModulo 22 = .ok (.iinc 3 1, 3) := by decide +kernel
theorem dX11_orderModulo_25 : decode cX11_orderModulo 25 = .ok (.goto (-21), 3) := by decide +kernel
theorem dX11_orderModulo_28 : decode cX11_orderModulo 28 = .ok (.iconst (-1), 1) := by decide +kernel
theorem dX11_orderModulo_29 : decode cX11_orderModulo 29 = .ok (.ireturn, 1) := by decide +kernel
theorem dX11_divides_0 : decode cX11_divides 0 = .ok (.iload_n 0, 1) := by decide +kernel
theorem dX11_divides_1 : decode cX11_divides 1 = .ok (.iconst 1, 1) := by decide +kernel
theorem dX11_divides_2 : decode cX11_divides 2 = .ok (.if_icmp .le 16, 3) := by decide +kernel
theorem dX11_divides_5 : decode cX11_divides 5 = .ok (.lload_n 1, 1) := by decide +kernel
theorem dX11_divides_6 : decode cX11_divides 6 = .ok (.iload_n 0, 1) := by decide +kernel
theorem dX11_divides_7 : decode cX11_divides 7 = .ok (.i2l, 1) := by decide +kernel
theorem dX11_divides_8 : decode cX11_divides 8 = .ok (.lrem, 1) := by decide +kernel
theorem dX11_divides_9 : decode cX11_divides 9 = .ok (.lconst 0, 1) := by decide +kernel
theorem dX11_divides_10 : decode cX11_divides 10 = .ok (.lcmp, 1) := by decide +kernel
theorem dX11_divides_11 : decode cX11_divides 11 = .ok (.ifCond .ne 7, 3) := by decide +kernel
theorem dX11_divides_14 : decode cX11_divides 14 = .ok (.iconst 1, 1) := by decide +kernel
theorem dX11_divides_15 : decode cX11_divides 15 = .ok (.goto 4, 3) := by decide +kernel
theorem dX11_divides_18 : decode cX11_divides 18 = .ok (.iconst 0, 1) := by decide +kernel
theorem dX11_divides_19 : decode cX11_divides 19 = .ok (.ireturn, 1) := by decide +kernel
theorem dX11_primesChanged_0 : decode cX11_primesChanged 0 = .ok (.aload_n 0, 1) := by decide +kernel
theorem dX11_primesChanged_1 : decode cX11_primesChanged 1 = .ok (.iconst 0, 1) := by decide +kernel
theorem dX11_primesChanged_2 : decode cX11_primesChanged 2 = .ok (.putfield 339, 3) := by decide +kernel
theorem dX11_primesChanged_5 : decode cX11_primesChanged 5 = .ok (.aload_n 0, 1) := by decide +kernel
theorem dX11_primesChanged_6 : decode cX11_primesChanged 6 = .ok (.iconst 0, 1) := by decide +kernel
theorem dX11_primesChanged_7 : decode cX11_primesChanged 7 = .ok (.putfield 239, 3) := by decide +kernel
theorem dX11_primesChanged_10 : decode cX11_primesChanged 10 = .ok (.return_, 1) := by decide +kernel
theorem dX11_known_0 : decode cX11_known 0 = .ok (.aload_n 0, 1) := by decide +kernel
theorem dX11_known_1 : decode cX11_known 1 = .ok (.getfield 339, 3) := by decide +kernel
theorem dX11_known_4 : decode cX11_known 4 = .ok (.ifCond .ne 22, 3) := by decide +kernel
theorem dX11_known_7 : decode cX11_known 7 = .ok (.aload_n 0, 1) := by decide +kernel
theorem dX11_known_8 : decode cX11_known 8 = .ok (.getfield 24, 3) := by decide +kernel
theorem dX11_known_11 : decode cX11_known 11 = .ok (.aload_n 0, 1) := by decide +kernel
theorem dX11_known_12 : decode cX11_known 12 = .ok (.getfield 12, 3) := by decide +kernel
theorem dX11_known_15 : decode cX11_known 15 = .ok (.getfield 86, 3) := by decide +kernel
theorem dX11_known_18 : decode cX11_known 18 = .ok (.invokevirtual 342, 3) := by decide +kernel
theorem dX11_known_21 : decode cX11_known 21 = .ok (.aload_n 0, 1) := by decide +kernel
theorem dX11_known_22 : decode cX11_known 22 = .ok (.iconst 1, 1) := by decide +kernel
theorem dX11_known_23 : decode cX11_known 23 = .ok (.putfield 339, 3) := by decide +kernel
theorem dX11_known_26 : decode cX11_known 26 = .ok (.aload_n 0, 1) := by decide +kernel
theorem dX11_known_27 : decode cX11_known 27 = .ok (.getfield 24, 3) := by decide +kernel
theorem dX11_known_30 : decode cX11_known 30 = .ok (.areturn, 1) := by decide +kernel
theorem dX11_combine_0 : decode cX11_combine 0 = .ok (.iload_n 1, 1) := by decide +kernel
theorem dX11_combine_1 : decode cX11_combine 1 = .ok (.invokestatic 124, 3) := by decide +kernel
theorem dX11_combine_4 : decode cX11_combine 4 = .ok (.ifCond .eq 17, 3) := by decide +kernel
theorem dX11_combine_7 : decode cX11_combine 7 = .ok (.iload_n 2, 1) := by decide +kernel
theorem dX11_combine_8 : decode cX11_combine 8 = .ok (.invokestatic 124, 3) := by decide +kernel
theorem dX11_combine_11 : decode cX11_combine 11 = .ok (.ifCond .eq 10, 3) := by decide +kernel
theorem dX11_combine_14 : decode cX11_combine 14 = .ok (.iload_n 3, 1) := by decide +kernel
theorem dX11_combine_15 : decode cX11_combine 15 = .ok (.invokestatic 124, 3) := by decide +kernel
theorem dX11_combine_18 : decode cX11_combine 18 = .ok (.ifCond .ne 5, 3) := by decide +kernel
theorem dX11_combine_21 : decode cX11_combine 21 = .ok (.iconst (-1), 1) := by decide +kernel
theorem dX11_combine_22 : decode cX11_combine 22 = .ok (.ireturn, 1) := by decide +kernel
theorem dX11_combine_23 : decode cX11_combine 23 = .ok (.aload_n 0, 1) := by decide +kernel
theorem dX11_combine_24 : decode cX11_combine 24 = .ok (.getfield 45, 3) := by decide +kernel
theorem dX11_combine_27 : decode cX11_combine 27 = .ok (.aload_n 0, 1) := by decide +kernel
theorem dX11_combine_28 : decode cX11_combine 28 = .ok (.getfield 12, 3) := by decide +kernel
theorem dX11_combine_31 : decode cX11_combine 31 = .ok (.getfield 127, 3) := by decide +kernel
theorem dX11_combine_34 : decode cX11_combine 34 = .ok (.iload_n 1, 1) := by decide +kernel
theorem dX11_combine_35 : decode cX11_combine 35 = .ok (.aaload, 1) := by decide +kernel
theorem dX11_combine_36 : decode cX11_combine 36 = .ok (.aload_n 0, 1) := by decide +kernel
theorem dX11_combine_37 : decode cX11_combine 37 = .ok (.getfield 12, 3) := by decide +kernel
theorem dX11_combine_40 : decode cX11_combine 40 = .ok (.getfield 127, 3) := by decide +kernel
theorem dX11_combine_43 : decode cX11_combine 43 = .ok (.iload_n 2, 1) := by decide +kernel
theorem dX11_combine_44 : decode cX11_combine 44 = .ok (.aaload, 1) := by decide +kernel
theorem dX11_combine_45 : decode cX11_combine 45 = .ok (.iload 4, 2) := by decide +kernel
theorem dX11_combine_47 : decode cX11_combine 47 = .ok (.invokevirtual 345, 3) := by decide +kernel
theorem dX11_combine_50 : decode cX11_combine 50 = .ok (.aload_n 0, 1) := by decide +kernel
theorem dX11_combine_51 : decode cX11_combine 51 = .ok (.getfield 45, 3) := by decide +kernel
theorem dX11_combine_54 : decode cX11_combine 54 = .ok (.invokevirtual 288, 3) := by decide +kernel
theorem dX11_combine_57 : decode cX11_combine 57 = .ok (.ifCond .ne 6, 3) := by decide +kernel
theorem dX11_combine_60 : decode cX11_combine 60 = .ok (.bipush (-6), 2) := by decide +kernel
theorem dX11_combine_62 : decode cX11_combine 62 = .ok (.ireturn, 1) := by decide +kernel
theorem dX11_combine_63 : decode cX11_combine 63 = .ok (.aload_n 0, 1) := by decide +kernel
theorem dX11_combine_64 : decode cX11_combine 64 = .ok (.getfield 12, 3) := by decide +kernel
theorem dX11_combine_67 : decode cX11_combine 67 = .ok (.getfield 127, 3) := by decide +kernel
theorem dX11_combine_70 : decode cX11_combine 70 = .ok (.iload_n 3, 1) := by decide +kernel
theorem dX11_combine_71 : decode cX11_combine 71 = .ok (.aaload, 1) := by decide +kernel
theorem dX11_combine_72 : decode cX11_combine 72 = .ok (.aload_n 0, 1) := by decide +kernel
theorem dX11_combine_73 : decode cX11_combine 73 = .ok (.getfield 45, 3) := by decide +kernel
theorem dX11_combine_76 : decode cX11_combine 76 = .ok (.invokevirtual 164, 3) := by decide +kernel
theorem dX11_combine_79 : decode cX11_combine 79 = .ok (.iconst 1, 1) := by decide +kernel
theorem dX11_combine_80 : decode cX11_combine 80 = .ok (.ireturn, 1) := by decide +kernel
theorem dX11_hasPartner_0 : decode cX11_hasPartner 0 = .ok (.aload_n 0, 1) := by decide +kernel
theorem dX11_hasPartner_1 : decode cX11_hasPartner 1 = .ok (.getfield 52, 3) := by decide +kernel
theorem dX11_hasPartner_4 : decode cX11_hasPartner 4 = .ok (.aload_n 1, 1) := by decide +kernel
theorem dX11_hasPartner_5 : decode cX11_hasPartner 5 = .ok (.aload_n 0, 1) := by decide +kernel
theorem dX11_hasPartner_6 : decode cX11_hasPartner 6 = .ok (.getfield 12, 3) := by decide +kernel
theorem dX11_hasPartner_9 : decode cX11_hasPartner 9 = .ok (.getfield 86, 3) := by decide +kernel
theorem dX11_hasPartner_12 : decode cX11_hasPartner 12 = .ok (.invokevirtual 142, 3) := by decide +kernel
theorem dX11_hasPartner_15 : decode cX11_hasPartner 15 = .ok (.aload_n 1, 1) := by decide +kernel
theorem dX11_hasPartner_16 : decode cX11_hasPartner 16 = .ok (.aload_n 0, 1) := by decide +kernel
theorem dX11_hasPartner_17 : decode cX11_hasPartner 17 = .ok (.getfield 12, 3) := by decide +kernel
theorem dX11_hasPartner_20 : decode cX11_hasPartner 20 = .ok (.getfield 86, 3) := by decide +kernel
theorem dX11_hasPartner_23 : decode cX11_hasPartner 23 = .ok (.invokevirtual 146, 3) := by decide +kernel
theorem dX11_hasPartner_26 : decode cX11_hasPartner 26 = .ok (.invokevirtual 349, 3) := by decide +kernel
theorem dX11_hasPartner_29 : decode cX11_hasPartner 29 = .ok (.aload_n 0, 1) := by decide +kernel
theorem dX11_hasPartner_30 : decode cX11_hasPartner 30 = .ok (.getfield 45, 3) := by decide +kernel
theorem dX11_hasPartner_33 : decode cX11_hasPartner 33 = .ok (.aload_n 0, 1) := by decide +kernel
theorem dX11_hasPartner_34 : decode cX11_hasPartner 34 = .ok (.getfield 12, 3) := by decide +kernel
theorem dX11_hasPartner_37 : decode cX11_hasPartner 37 = .ok (.getfield 86, 3) := by decide +kernel
theorem dX11_hasPartner_40 : decode cX11_hasPartner 40 = .ok (.aload_n 0, 1) := by decide +kernel
theorem dX11_hasPartner_41 : decode cX11_hasPartner 41 = .ok (.getfield 52, 3) := by decide +kernel
theorem dX11_hasPartner_44 : decode cX11_hasPartner 44 = .ok (.getfield 353, 3) := by decide +kernel
theorem dX11_hasPartner_47 : decode cX11_hasPartner 47 = .ok (.aload_n 0, 1) := by decide +kernel
theorem dX11_hasPartner_48 : decode cX11_hasPartner 48 = .ok (.getfield 52, 3) := by decide +kernel
theorem dX11_hasPartner_51 : decode cX11_hasPartner 51 = .ok (.getfield 357, 3) := by decide +kernel
theorem dX11_hasPartner_54 : decode cX11_hasPartner 54 = .ok (.invokevirtual 175, 3) := by decide +kernel
theorem dX11_hasPartner_57 : decode cX11_hasPartner 57 = .ok (.ireturn, 1) := by decide +kernel
theorem dX11_howManyPairs_0 : decode cX11_howManyPairs 0 = .ok (.iconst 0, 1) := by decide +kernel
theorem dX11_howManyPairs_1 : decode cX11_howManyPairs 1 = .ok (.istore_n 1, 1) := by decide +kernel
theorem dX11_howManyPairs_2 : decode cX11_howManyPairs 2 = .ok (.iconst 0, 1) := by decide +kernel
theorem dX11_howManyPairs_3 : decode cX11_howManyPairs 3 = .ok (.istore_n 2, 1) := by decide +kernel
theorem dX11_howManyPairs_4 : decode cX11_howManyPairs 4 = .ok (.iload_n 2, 1) := by decide +kernel
theorem dX11_howManyPairs_5 : decode cX11_howManyPairs 5 = .ok (.iconst 4, 1) := by decide +kernel
theorem dX11_howManyPairs_6 : decode cX11_howManyPairs 6 = .ok (.if_icmp .ge 28, 3) := by decide +kernel
theorem dX11_howManyPairs_9 : decode cX11_howManyPairs 9 = .ok (.aload_n 0, 1) := by decide +kernel
theorem dX11_howManyPairs_10 : decode cX11_howManyPairs 10 = .ok (.aload_n 0, 1) := by decide +kernel
theorem dX11_howManyPairs_11 : decode cX11_howManyPairs 11 = .ok (.getfield 12, 3) := by decide +kernel
theorem dX11_howManyPairs_14 : decode cX11_howManyPairs 14 = .ok (.getfield 127, 3) := by decide +kernel
theorem dX11_howManyPairs_17 : decode cX11_howManyPairs 17 = .ok (.iload_n 2, 1) := by decide +kernel
theorem dX11_howManyPairs_18 : decode cX11_howManyPairs 18 = .ok (.aaload, 1) := by decide +kernel
theorem dX11_howManyPairs_19 : decode cX11_howManyPairs 19 = .ok (.invokevirtual 160, 3) := by decide +kernel
theorem dX11_howManyPairs_22 : decode cX11_howManyPairs 22 = .ok (.ifCond .eq 6, 3) := by decide +kernel
theorem dX11_howManyPairs_25 : decode cX11_howManyPairs 25 = .ok (.iinc 1 1, 3) := by decide +kernel
theorem dX11_howManyPairs_28 : decode cX11_howManyPairs 28 = .ok (.iinc 2 1, 3) := by decide +kernel
theorem dX11_howManyPairs_31 : decode cX11_howManyPairs 31 = .ok (.goto (-27), 3) := by decide +kernel
theorem dX11_howManyPairs_34 : decode cX11_howManyPairs 34 = .ok (.iload_n 1, 1) := by decide +kernel
theorem dX11_howManyPairs_35 : decode cX11_howManyPairs 35 = .ok (.ireturn, 1) := by decide +kernel
theorem dX11_greatestHeightIn_0 : decode cX11_greatestHeightIn 0 = .ok (.iconst 0, 1) := by decide +kernel
theorem dX11_greatestHeightIn_1 : decode cX11_greatestHeightIn 1 = .ok (.istore_n 3, 1) := by decide +kernel
theorem dX11_greatestHeightIn_2 : decode cX11_greatestHeightIn 2 = .ok (.iconst 0, 1) := by decide +kernel
theorem dX11_greatestHeightIn_3 : decode cX11_greatestHeightIn 3 = .ok (.istore 4, 2) := by decide +kernel
theorem dX11_greatestHeightIn_5 : decode cX11_greatestHeightIn 5 = .ok (.iload 4, 2) := by decide +kernel
theorem dX11_greatestHeightIn_7 : decode cX11_greatestHeightIn 7 = .ok (.aload_n 1, 1) := by decide +kernel
theorem dX11_greatestHeightIn_8 : decode cX11_greatestHeightIn 8 = .ok (.getfield 186, 3) := by decide +kernel
theorem dX11_greatestHeightIn_11 : decode cX11_greatestHeightIn 11 = .ok (.if_icmp .ge 63, 3) := by decide +kernel
theorem dX11_greatestHeightIn_14 : decode cX11_greatestHeightIn 14 = .ok (.aload_n 1, 1) := by decide +kernel
theorem dX11_greatestHeightIn_15 : decode cX11_greatestHeightIn 15 = .ok (.getfield 204, 3) := by decide +kernel
theorem dX11_greatestHeightIn_18 : decode cX11_greatestHeightIn 18 = .ok (.iload 4, 2) := by decide +kernel
theorem dX11_greatestHeightIn_20 : decode cX11_greatestHeightIn 20 = .ok (.iaload, 1) := by decide +kernel
theorem dX11_greatestHeightIn_21 : decode cX11_greatestHeightIn 21 = .ok (.iload_n 2, 1) := by decide +kernel
theorem dX11_greatestHeightIn_22 : decode cX11_greatestHeightIn 22 = .ok (.if_icmp .ne 46, 3) := by decide +kernel
theorem dX11_greatestHeightIn_25 : decode cX11_greatestHeightIn 25 = .ok (.aload_n 0, 1) := by decide +kernel
theorem dX11_greatestHeightIn_26 : decode cX11_greatestHeightIn 26 = .ok (.getfield 45, 3) := by decide +kernel
theorem dX11_greatestHeightIn_29 : decode cX11_greatestHeightIn 29 = .ok (.aload_n 0, 1) := by decide +kernel
theorem dX11_greatestHeightIn_30 : decode cX11_greatestHeightIn 30 = .ok (.getfield 12, 3) := by decide +kernel
theorem dX11_greatestHeightIn_33 : decode cX11_greatestHeightIn 33 = .ok (.getfield 86, 3) := by decide +kernel
theorem dX11_greatestHeightIn_36 : decode cX11_greatestHeightIn 36 = .ok (.aload_n 1, 1) := by decide +kernel
theorem dX11_greatestHeightIn_37 : decode cX11_greatestHeightIn 37 = .ok (.getfield 192, 3) := by decide +kernel
theorem dX11_greatestHeightIn_40 : decode cX11_greatestHeightIn 40 = .ok (.iload 4, 2) := by decide +kernel
theorem dX11_greatestHeightIn_42 : decode cX11_greatestHeightIn 42 = .ok (.laload, 1) := by decide +kernel
theorem dX11_greatestHeightIn_43 : decode cX11_greatestHeightIn 43 = .ok (.aload_n 1, 1) := by decide +kernel
theorem dX11_greatestHeightIn_44 : decode cX11_greatestHeightIn 44 = .ok (.getfield 195, 3) := by decide +kernel
theorem dX11_greatestHeightIn_47 : decode cX11_greatestHeightIn 47 = .ok (.iload 4, 2) := by decide +kernel
theorem dX11_greatestHeightIn_49 : decode cX11_greatestHeightIn 49 = .ok (.laload, 1) := by decide +kernel
theorem dX11_greatestHeightIn_50 : decode cX11_greatestHeightIn 50 = .ok (.invokevirtual 175, 3) := by decide +kernel
theorem dX11_greatestHeightIn_53 : decode cX11_greatestHeightIn 53 = .ok (.ifCond .eq 15, 3) := by decide +kernel
theorem dX11_greatestHeightIn_56 : decode cX11_greatestHeightIn 56 = .ok (.iload_n 3, 1) := by decide +kernel
theorem dX11_greatestHeightIn_57 : decode cX11_greatestHeightIn 57 = .ok (.aload_n 0, 1) := by decide +kernel
theorem dX11_greatestHeightIn_58 : decode cX11_greatestHeightIn 58 = .ok (.getfield 45, 3) := by decide +kernel
theorem dX11_greatestHeightIn_61 : decode cX11_greatestHeightIn 61 = .ok (.invokevirtual 149, 3) := by decide +kernel
theorem dX11_greatestHeightIn_64 : decode cX11_greatestHeightIn 64 = .ok (.invokestatic 360, 3) := by decide +kernel
theorem dX11_greatestHeightIn_67 : decode cX11_greatestHeightIn 67 = .ok (.istore_n 3, 1) := by decide +kernel
theorem dX11_greatestHeightIn_68 : decode cX11_greatestHeightIn 68 = .ok (.iinc 4 1, 3) := by decide +kernel
theorem dX11_greatestHeightIn_71 : decode cX11_greatestHeightIn 71 = .ok (.goto (-66), 3) := by decide +kernel
theorem dX11_greatestHeightIn_74 : decode cX11_greatestHeightIn 74 = .ok (.iload_n 3, 1) := by decide +kernel
theorem dX11_greatestHeightIn_75 : decode cX11_greatestHeightIn 75 = .ok (.ireturn, 1) := by decide +kernel
theorem dX11_faultOfModulus_0 : decode cX11_faultOfModulus 0 = .ok (.iload_n 1, 1) := by decide +kernel
theorem dX11_faultOfModulus_1 : decode cX11_faultOfModulus 1 = .ok (.iconst 3, 1) := by decide +kernel
theorem dX11_faultOfModulus_2 : decode cX11_faultOfModulus 2 = .ok (.bipush 97, 2) := by decide +kernel
theorem dX11_faultOfModulus_4 : decode cX11_faultOfModulus 4 = .ok (.invokestatic 82, 3) := by decide +kernel
theorem dX11_faultOfModulus_7 : decode cX11_faultOfModulus 7 = .ok (.ifCond .ne 6, 3) := by decide +kernel
theorem dX11_faultOfModulus_10 : decode cX11_faultOfModulus 10 = .ok (.bipush (-2), 2) := by decide +kernel
theorem dX11_faultOfModulus_12 : decode cX11_faultOfModulus 12 = .ok (.ireturn, 1) := by decide +kernel
theorem dX11_faultOfModulus_13 : decode cX11_faultOfModulus 13 = .ok (.aload_n 0, 1) := by decide +kernel
theorem dX11_faultOfModulus_14 : decode cX11_faultOfModulus 14 = .ok (.getfield 12, 3) := by decide +kernel
theorem dX11_faultOfModulus_17 : decode cX11_faultOfModulus 17 = .ok (.getfield 86, 3) := by decide +kernel
theorem dX11_faultOfModulus_20 : decode cX11_faultOfModulus 20 = .ok (.iload_n 1, 1) := by decide +kernel
theorem dX11_faultOfModulus_21 : decode cX11_faultOfModulus 21 = .ok (.invokevirtual 90, 3) := by decide +kernel
theorem dX11_faultOfModulus_24 : decode cX11_faultOfModulus 24 = .ok (.ifCond .lt 8, 3) := by decide +kernel
theorem dX11_faultOfModulus_27 : decode cX11_faultOfModulus 27 = .ok (.bipush (-3), 2) := by decide +kernel
theorem dX11_faultOfModulus_29 : decode cX11_faultOfModulus 29 = .ok (.goto 4, 3) := by decide +kernel
theorem dX11_faultOfModulus_32 : decode cX11_faultOfModulus 32 = .ok (.iconst 1, 1) := by decide +kernel
theorem dX11_faultOfModulus_33 : decode cX11_faultOfModulus 33 = .ok (.ireturn, 1) := by decide +kernel
theorem dX12_init_0 : decode cX12_init 0 = .ok (.aload_n 0, 1) := by decide +kernel
theorem dX12_init_1 : decode cX12_init 1 = .ok (.invokespecial 3, 3) := by decide +kernel
theorem dX12_init_4 : decode cX12_init 4 = .ok (.aload_n 0, 1) := by decide +kernel
theorem dX12_init_5 : decode cX12_init 5 = .ok (.iconst 5, 1) := by decide +kernel
theorem dX12_init_6 : decode cX12_init 6 = .ok (.newarray .int, 2) := by decide +kernel
theorem dX12_init_8 : decode cX12_init 8 = .ok (.putfield 9, 3) := by decide +kernel
theorem dX12_init_11 : decode cX12_init 11 = .ok (.aload_n 0, 1) := by decide +kernel
theorem dX12_init_12 : decode cX12_init 12 = .ok (.iconst 5, 1) := by decide +kernel
theorem dX12_init_13 : decode cX12_init 13 = .ok (.newarray .int, 2) := by decide +kernel
theorem dX12_init_15 : decode cX12_init 15 = .ok (.putfield 15, 3) := by decide +kernel
theorem dX12_init_18 : decode cX12_init 18 = .ok (.aload_n 0, 1) := by decide +kernel
theorem dX12_init_19 : decode cX12_init 19 = .ok (.bipush 20, 2) := by decide +kernel
theorem dX12_init_21 : decode cX12_init 21 = .ok (.newarray .int, 2) := by decide +kernel
theorem dX12_init_23 : decode cX12_init 23 = .ok (.putfield 18, 3) := by decide +kernel
theorem dX12_init_26 : decode cX12_init 26 = .ok (.aload_n 0, 1) := by decide +kernel
theorem dX12_init_27 : decode cX12_init 27 = .ok (.iconst 4, 1) := by decide +kernel
theorem dX12_init_28 : decode cX12_init 28 = .ok (.newarray .int, 2) := by decide +kernel
theorem dX12_init_30 : decode cX12_init 30 = .ok (.dup, 1) := by decide +kernel
theorem dX12_init_31 : decode cX12_init 31 = .ok (.iconst 0, 1) := by decide +kernel
theorem dX12_init_32 : decode cX12_init 32 = .ok (.iconst 1, 1) := by decide +kernel
theorem dX12_init_33 : decode cX12_init 33 = .ok (.iastore, 1) := by decide +kernel
theorem dX12_init_34 : decode cX12_init 34 = .ok (.dup, 1) := by decide +kernel
theorem dX12_init_35 : decode cX12_init 35 = .ok (.iconst 1, 1) := by decide +kernel
theorem dX12_init_36 : decode cX12_init 36 = .ok (.iconst 1, 1) := by decide +kernel
theorem dX12_init_37 : decode cX12_init 37 = .ok (.iastore, 1) := by decide +kernel
theorem dX12_init_38 : decode cX12_init 38 = .ok (.dup, 1) := by decide +kernel
theorem dX12_init_39 : decode cX12_init 39 = .ok (.iconst 2, 1) := by decide +kernel
theorem dX12_init_40 : decode cX12_init 40 = .ok (.iconst 1, 1) := by decide +kernel
theorem dX12_init_41 : decode cX12_init 41 = .ok (.iastore, 1) := by decide +kernel
theorem dX12_init_42 : decode cX12_init 42 = .ok (.dup, 1) := by decide +kernel
theorem dX12_init_43 : decode cX12_init 43 = .ok (.iconst 3, 1) := by decide +kernel
theorem dX12_init_44 : decode cX12_init 44 = .ok (.iconst 1, 1) := by decide +kernel
theorem dX12_init_45 : decode cX12_init 45 = .ok (.iastore, 1) := by decide +kernel
theorem dX12_init_46 : decode cX12_init 46 = .ok (.putfield 21, 3) := by decide +kernel
theorem dX12_init_49 : decode cX12_init 49 = .ok (.aload_n 0, 1) := by decide +kernel
theorem dX12_init_50 : decode cX12_init 50 = .ok (.iconst 5, 1) := by decide +kernel
theorem dX12_init_51 : decode cX12_init 51 = .ok (.newarray .int, 2) := by decide +kernel
theorem dX12_init_53 : decode cX12_init 53 = .ok (.putfield 24, 3) := by decide +kernel
theorem dX12_init_56 : decode cX12_init 56 = .ok (.aload_n 0, 1) := by decide +kernel
theorem dX12_init_57 : decode cX12_init 57 = .ok (.bipush 60, 2) := by decide +kernel
theorem dX12_init_59 : decode cX12_init 59 = .ok (.newarray .int, 2) := by decide +kernel
theorem dX12_init_61 : decode cX12_init 61 = .ok (.putfield 27, 3) := by decide +kernel
theorem dX12_init_64 : decode cX12_init 64 = .ok (.aload_n 0, 1) := by decide +kernel
theorem dX12_init_65 : decode cX12_init 65 = .ok (.iconst 3, 1) := by decide +kernel
theorem dX12_init_66 : decode cX12_init 66 = .ok (.newarray .int, 2) := by decide +kernel
theorem dX12_init_68 : decode cX12_init 68 = .ok (.dup, 1) := by decide +kernel
theorem dX12_init_69 : decode cX12_init 69 = .ok (.iconst 0, 1) := by decide +kernel
theorem dX12_init_70 : decode cX12_init 70 = .ok (.iconst (-1), 1) := by decide +kernel
theorem dX12_init_71 : decode cX12_init 71 = .ok (.iastore, 1) := by decide +kernel
theorem dX12_init_72 : decode cX12_init 72 = .ok (.dup, 1) := by decide +kernel
theorem dX12_init_73 : decode cX12_init 73 = .ok (.iconst 1, 1) := by decide +kernel
theorem dX12_init_74 : decode cX12_init 74 = .ok (.iconst (-1), 1) := by decide +kernel
theorem dX12_init_75 : decode cX12_init 75 = .ok (.iastore, 1) := by decide +kernel
theorem dX12_init_76 : decode cX12_init 76 = .ok (.dup, 1) := by decide +kernel
theorem dX12_init_77 : decode cX12_init 77 = .ok (.iconst 2, 1) := by decide +kernel
theorem dX12_init_78 : decode cX12_init 78 = .ok (.iconst (-1), 1) := by decide +kernel
theorem dX12_init_79 : decode cX12_init 79 = .ok (.iastore, 1) := by decide +kernel
theorem dX12_init_80 : decode cX12_init 80 = .ok (.putfield 30, 3) := by decide +kernel
theorem dX12_init_83 : decode cX12_init 83 = .ok (.aload_n 0, 1) := by decide +kernel
theorem dX12_init_84 : decode cX12_init 84 = .ok (.bipush 60, 2) := by decide +kernel
theorem dX12_init_86 : decode cX12_init 86 = .ok (.newarray .long, 2) := by decide +kernel
theorem dX12_init_88 : decode cX12_init 88 = .ok (.putfield 33, 3) := by decide +kernel
theorem dX12_init_91 : decode cX12_init 91 = .ok (.aload_n 0, 1) := by decide +kernel
theorem dX12_init_92 : decode cX12_init 92 = .ok (.iconst 4, 1) := by decide +kernel
theorem dX12_init_93 : decode cX12_init 93 = .ok (.newarray .int, 2) := by decide +kernel
theorem dX12_init_95 : decode cX12_init 95 = .ok (.putfield 37, 3) := by decide +kernel
theorem dX12_init_98 : decode cX12_init 98 = .ok (.aload_n 0, 1) := by decide +kernel
theorem dX12_init_99 : decode cX12_init 99 = .ok (.iconst 4, 1) := by decide +kernel
theorem dX12_init_100 : decode cX12_init 100 = .ok (.newarray .int, 2) := by decide +kernel
theorem dX12_init_102 : decode cX12_init 102 = .ok (.putfield 40, 3) := by decide +kernel
theorem dX12_init_105 : decode cX12_init 105 = .ok (.aload_n 0, 1) := by decide +kernel
theorem dX12_init_106 : decode cX12_init 106 = .ok (.iconst 4, 1) := by decide +kernel
theorem dX12_init_107 : decode cX12_init 107 = .ok (.newarray .int, 2) := by decide +kernel
theorem dX12_init_109 : decode cX12_init 109 = .ok (.putfield 43, 3) := by decide +kernel
theorem dX12_init_112 : decode cX12_init 112 = .ok (.aload_n 0, 1) := by decide +kernel
theorem dX12_init_113 : decode cX12_init 113 = .ok (.bipush 6, 2) := by decide +kernel
theorem dX12_init_115 : decode cX12_init 115 = .ok (.newarray .long, 2) := by decide +kernel
theorem dX12_init_117 : decode cX12_init 117 = .ok (.putfield 46, 3) := by decide +kernel
theorem dX12_init_120 : decode cX12_init 120 = .ok (.aload_n 0, 1) := by decide +kernel
theorem dX12_init_121 : decode cX12_init 121 = .ok (.bipush 6, 2) := by decide +kernel
theorem dX12_init_123 : decode cX12_init 123 = .ok (.newarray .long, 2) := by decide +kernel
theorem dX12_init_125 : decode cX12_init 125 = .ok (.putfield 49, 3) := by decide +kernel
theorem dX12_init_128 : decode cX12_init 128 = .ok (.aload_n 0, 1) := by decide +kernel
theorem dX12_init_129 : decode cX12_init 129 = .ok (.sipush 800, 3) := by decide +kernel
theorem dX12_init_132 : decode cX12_init 132 = .ok (.newarray .long, 2) := by decide +kernel
theorem dX12_init_134 : decode cX12_init 134 = .ok (.putfield 52, 3) := by decide +kernel
theorem dX12_init_137 : decode cX12_init 137 = .ok (.aload_n 0, 1) := by decide +kernel
theorem dX12_init_138 : decode cX12_init 138 = .ok (.sipush 800, 3) := by decide +kernel
theorem dX12_init_141 : decode cX12_init 141 = .ok (.newarray .long, 2) := by decide +kernel
theorem dX12_init_143 : decode cX12_init 143 = .ok (.putfield 55, 3) := by decide +kernel
theorem dX12_init_146 : decode cX12_init 146 = .ok (.aload_n 0, 1) := by decide +kernel
theorem dX12_init_147 : decode cX12_init 147 = .ok (.sipush 3200, 3) := by decide +kernel
theorem dX12_init_150 : decode cX12_init 150 = .ok (.newarray .int, 2) := by decide +kernel
theorem dX12_init_152 : decode cX12_init 152 = .ok (.putfield 58, 3) := by decide +kernel
theorem dX12_init_155 : decode cX12_init 155 = .ok (.aload_n 0, 1) := by decide +kernel
theorem dX12_init_156 : decode cX12_init 156 = .ok (.sipush 800, 3) := by decide +kernel
theorem dX12_init_159 : decode cX12_init 159 = .ok (.newarray .int, 2) := by decide +kernel
theorem dX12_init_161 : decode cX12_init 161 = .ok (.putfield 61, 3) := by decide +kernel
theorem dX12_init_164 : decode cX12_init 164 = .ok (.aload_n 0, 1) := by decide +kernel
theorem dX12_init_165 : decode cX12_init 165 = .ok (.sipush 800, 3) := by decide +kernel
theorem dX12_init_168 : decode cX12_init 168 = .ok (.newarray .int, 2) := by decide +kernel
theorem dX12_init_170 : decode cX12_init 170 = .ok (.putfield 64, 3) := by decide +kernel
theorem dX12_init_173 : decode cX12_init 173 = .ok (.aload_n 0, 1) := by decide +kernel
theorem dX12_init_174 : decode cX12_init 174 = .ok (.bipush 97, 2) := by decide +kernel
theorem dX12_init_176 : decode cX12_init 176 = .ok (.newarray .boolean, 2) := by decide +kernel
theorem dX12_init_178 : decode cX12_init 178 = .ok (.putfield 67, 3) := by decide +kernel
theorem dX12_init_181 : decode cX12_init 181 = .ok (.aload_n 0, 1) := by decide +kernel
theorem dX12_init_182 : decode cX12_init 182 = .ok (.iconst 4, 1) := by decide +kernel
theorem dX12_init_183 : decode cX12_init 183 = .ok (.newarray .int, 2) := by decide +kernel
theorem dX12_init_185 : decode cX12_init 185 = .ok (.putfield 71, 3) := by decide +kernel
theorem dX12_init_188 : decode cX12_init 188 = .ok (.aload_n 0, 1) := by decide +kernel
theorem dX12_init_189 : decode cX12_init 189 = .ok (.sipush 13122, 3) := by decide +kernel
theorem dX12_init_192 : decode cX12_init 192 = .ok (.newarray .boolean, 2) := by decide +kernel
theorem dX12_init_194 : decode cX12_init 194 = .ok (.putfield 74, 3) := by decide +kernel
theorem dX12_init_197 : decode cX12_init 197 = .ok (.aload_n 0, 1) := by decide +kernel
theorem dX12_init_198 : decode cX12_init 198 = .ok (.bipush 40, 2) := by decide +kernel
theorem dX12_init_200 : decode cX12_init 200 = .ok (.newarray .int, 2) := by decide +kernel
theorem dX12_init_202 : decode cX12_init 202 = .ok (.putfield 77, 3) := by decide +kernel
theorem dX12_init_205 : decode cX12_init 205 = .ok (.aload_n 0, 1) := by decide +kernel
theorem dX12_init_206 : decode cX12_init 206 = .ok (.bipush 34, 2) := by decide +kernel
theorem dX12_init_208 : decode cX12_init 208 = .ok (.newarray .int, 2) := by decide +kernel
theorem dX12_init_210 : decode cX12_init 210 = .ok (.putfield 80, 3) := by decide +kernel
theorem dX12_init_213 : decode cX12_init 213 = .ok (.return_, 1) := by decide +kernel
theorem dX12_in_0 : decode cX12_in 0 = .ok (.iload_n 0, 1) := by decide +kernel
theorem dX12_in_1 : decode cX12_in 1 = .ok (.iload_n 1, 1) := by decide +kernel
theorem dX12_in_2 : decode cX12_in 2 = .ok (.if_icmp .lt 12, 3) := by decide +kernel
theorem dX12_in_5 : decode cX12_in 5 = .ok (.iload_n 0, 1) := by decide +kernel
theorem dX12_in_6 : decode cX12_in 6 = .ok (.iload_n 2, 1) := by decide +kernel
theorem dX12_in_7 : decode cX12_in 7 = .ok (.if_icmp .gt 7, 3) := by decide +kernel
theorem dX12_in_10 : decode cX12_in 10 = .ok (.iconst 1, 1) := by decide +kernel
theorem dX12_in_11 : decode cX12_in 11 = .ok (.goto 4, 3) := by decide +kernel
theorem dX12_in_14 : decode cX12_in 14 = .ok (.iconst 0, 1) := by decide +kernel
theorem dX12_in_15 : decode cX12_in 15 = .ok (.ireturn, 1) := by decide +kernel
theorem dX12_isPrime_0 : decode cX12_isPrime 0 = .ok (.iload_n 1, 1) := by decide +kernel
theorem dX12_isPrime_1 : decode cX12_isPrime 1 = .ok (.iconst 0, 1) := by decide +kernel
theorem dX12_isPrime_2 : decode cX12_isPrime 2 = .ok (.aload_n 0, 1) := by decide +kernel
theorem dX12_isPrime_3 : decode cX12_isPrime 3 = .ok (.getfield 83, 3) := by decide +kernel
theorem dX12_isPrime_6 : decode cX12_isPrime 6 = .ok (.iconst 1, 1) := by decide +kernel
theorem dX12_isPrime_7 : decode cX12_isPrime 7 = .ok (.isub, 1) := by decide +kernel
theorem dX12_isPrime_8 : decode cX12_isPrime 8 = .ok (.invokestatic 87, 3) := by decide +kernel
theorem dX12_isPrime_11 : decode cX12_isPrime 11 = .ok (.ireturn, 1) := by decide +kernel
theorem dX12_isShelf_0 : decode cX12_isShelf 0 = .ok (.iload_n 0, 1) := by decide +kernel
theorem dX12_isShelf_1 : decode cX12_isShelf 1 = .ok (.iconst 0, 1) := by decide +kernel
theorem dX12_isShelf_2 : decode cX12_isShelf 2 = .ok (.iconst 3, 1) := by decide +kernel
theorem dX12_isShelf_3 : decode cX12_isShelf 3 = .ok (.invokestatic 87, 3) := by decide +kernel
theorem dX12_isShelf_6 : decode cX12_isShelf 6 = .ok (.ireturn, 1) := by decide +kernel
theorem dX12_isWhole_0 : decode cX12_isWhole 0 = .ok (.iconst 2, 1) := by decide +kernel
theorem dX12_isWhole_1 : decode cX12_isWhole 1 = .ok (.istore_n 1, 1) := by decide +kernel
theorem dX12_isWhole_2 : decode cX12_isWhole 2 = .ok (.iload_n 1, 1) := by decide +kernel
theorem dX12_isWhole_3 : decode cX12_isWhole 3 = .ok (.iload_n 1, 1) := by decide +kernel
theorem dX12_isWhole_4 : decode cX12_isWhole 4 = .ok (.imul, 1) := by decide +kernel
theorem dX12_isWhole_5 : decode cX12_isWhole 5 = .ok (.iload_n 0, 1) := by decide +kernel
theorem dX12_isWhole_6 : decode cX12_isWhole 6 = .ok (.if_icmp .gt 17, 3) := by decide +kernel
theorem dX12_isWhole_9 : decode cX12_isWhole 9 = .ok (.iload_n 0, 1) := by decide +kernel
theorem dX12_isWhole_10 : decode cX12_isWhole 10 = .ok (.iload_n 1, 1) := by decide +kernel
theorem dX12_isWhole_11 : decode cX12_isWhole 11 = .ok (.irem, 1) := by decide +kernel
theorem dX12_isWhole_12 : decode cX12_isWhole 12 = .ok (.ifCond .ne 5, 3) := by decide +kernel
theorem dX12_isWhole_15 : decode cX12_isWhole 15 = .ok (.iconst 0, 1) := by decide +kernel
theorem dX12_isWhole_16 : decode cX12_isWhole 16 = .ok (.ireturn, 1) := by decide +kernel
theorem dX12_isWhole_17 : decode cX12_isWhole 17 = .ok (.iinc 1 1, 3) := by decide +kernel
theorem dX12_isWhole_20 : decode cX12_isWhole 20 = .ok (.goto (-18), 3) := by decide +kernel
theorem dX12_isWhole_23 : decode cX12_isWhole 23 = .ok (.iload_n 0, 1) := by decide +kernel
theorem dX12_isWhole_24 : decode cX12_isWhole 24 = .ok (.iconst 1, 1) := by decide +kernel
theorem dX12_isWhole_25 : decode cX12_isWhole 25 = .ok (.if_icmp .le 7, 3) := by decide +kernel
theorem dX12_isWhole_28 : decode cX12_isWhole 28 = .ok (.iconst 1, 1) := by decide +kernel
theorem dX12_isWhole_29 : decode cX12_isWhole 29 = .ok (.goto 4, 3) := by decide +kernel
theorem dX12_isWhole_32 : decode cX12_isWhole 32 = .ok (.iconst 0, 1) := by decide +kernel
theorem dX12_isWhole_33 : decode cX12_isWhole 33 = .ok (.ireturn, 1) := by decide +kernel
theorem dX12_placeOf_0 : decode cX12_placeOf 0 = .ok (.iconst 0, 1) := by decide +kernel
theorem dX12_placeOf_1 : decode cX12_placeOf 1 = .ok (.istore_n 2, 1) := by decide +kernel
theorem dX12_placeOf_2 : decode cX12_placeOf 2 = .ok (.iload_n 2, 1) := by decide +kernel
theorem dX12_placeOf_3 : decode cX12_placeOf 3 = .ok (.aload_n 0, 1) := by decide +kernel
theorem dX12_placeOf_4 : decode cX12_placeOf 4 = .ok (.getfield 83, 3) := by decide +kernel
theorem dX12_placeOf_7 : decode cX12_placeOf 7 = .ok (.if_icmp .ge 21, 3) := by decide +kernel
theorem dX12_placeOf_10 : decode cX12_placeOf 10 = .ok (.aload_n 0, 1) := by decide +kernel
theorem dX12_placeOf_11 : decode cX12_placeOf 11 = .ok (.getfield 9, 3) := by decide +kernel
theorem dX12_placeOf_14 : decode cX12_placeOf 14 = .ok (.iload_n 2, 1) := by decide +kernel
theorem dX12_placeOf_15 : decode cX12_placeOf 15 = .ok (.iaload, 1) := by decide +kernel
theorem dX12_placeOf_16 : decode cX12_placeOf 16 = .ok (.iload_n 1, 1) := by decide +kernel
theorem dX12_placeOf_17 : decode cX12_placeOf 17 = .ok (.if_icmp .ne 5, 3) := by decide +kernel
theorem dX12_placeOf_20 : decode cX12_placeOf 20 = .ok (.iload_n 2, 1) := by decide +kernel
theorem dX12_placeOf_21 : decode cX12_placeOf 21 = .ok (.ireturn, 1) := by decide +kernel
theorem dX12_placeOf_22 : decode cX12_placeOf 22 = .ok (.iinc 2 1, 3) := by decide +kernel
theorem dX12_placeOf_25 : decode cX12_placeOf 25 = .ok (.goto (-23), 3) := by decide +kernel
theorem dX12_placeOf_28 : decode cX12_placeOf 28 = .ok (.iconst (-1), 1) := by decide +kernel
theorem dX12_placeOf_29 : decode cX12_placeOf 29 = .ok (.ireturn, 1) := by decide +kernel
theorem dX12_prime_0 : decode cX12_prime 0 = .ok (.iload_n 1, 1) := by decide +kernel
theorem dX12_prime_1 : decode cX12_prime 1 = .ok (.iconst 2, 1) := by decide +kernel
theorem dX12_prime_2 : decode cX12_prime 2 = .ok (.bipush 31, 2) := by decide +kernel
theorem dX12_prime_4 : decode cX12_prime 4 = .ok (.invokestatic 87, 3) := by decide +kernel
theorem dX12_prime_7 : decode cX12_prime 7 = .ok (.ifCond .eq 10, 3) := by decide +kernel
theorem dX12_prime_10 : decode cX12_prime 10 = .ok (.iload_n 1, 1) := by decide +kernel
theorem dX12_prime_11 : decode cX12_prime 11 = .ok (.invokestatic 91, 3) := by decide +kernel
theorem dX12_prime_14 : decode cX12_prime 14 = .ok (.ifCond .ne 6, 3) := by decide +kernel
theorem dX12_prime_17 : decode cX12_prime 17 = .ok (.bipush (-2), 2) := by decide +kernel
theorem dX12_prime_19 : decode cX12_prime 19 = .ok (.ireturn, 1) := by decide +kernel
theorem dX12_prime_20 : decode cX12_prime 20 = .ok (.aload_n 0, 1) := by decide +kernel
theorem dX12_prime_21 : decode cX12_prime 21 = .ok (.iload_n 1, 1) := by decide +kernel
theorem dX12_prime_22 : decode cX12_prime 22 = .ok (.invokevirtual 95, 3) := by decide +kernel
theorem dX12_prime_25 : decode cX12_prime 25 = .ok (.ifCond .lt 6, 3) := by decide +kernel
theorem dX12_prime_28 : decode cX12_prime 28 = .ok (.bipush (-3), 2) := by decide +kernel
theorem dX12_prime_30 : decode cX12_prime 30 = .ok (.ireturn, 1) := by decide +kernel
theorem dX12_prime_31 : decode cX12_prime 31 = .ok (.iload_n 1, 1) := by decide +kernel
theorem dX12_prime_32 : decode cX12_prime 32 = .ok (.istore_n 2, 1) := by decide +kernel
theorem dX12_prime_33 : decode cX12_prime 33 = .ok (.iconst 0, 1) := by decide +kernel
theorem dX12_prime_34 : decode cX12_prime 34 = .ok (.istore_n 3, 1) := by decide +kernel
theorem dX12_prime_35 : decode cX12_prime 35 = .ok (.iload_n 3, 1) := by decide +kernel
theorem dX12_prime_36 : decode cX12_prime 36 = .ok (.aload_n 0, 1) := by decide +kernel
theorem dX12_prime_37 : decode cX12_prime 37 = .ok (.getfield 83, 3) := by decide +kernel
theorem dX12_prime_40 : decode cX12_prime 40 = .ok (.if_icmp .ge 18, 3) := by decide +kernel
theorem dX12_prime_43 : decode cX12_prime 43 = .ok (.iload_n 2, 1) := by decide +kernel
theorem dX12_prime_44 : decode cX12_prime 44 = .ok (.aload_n 0, 1) := by decide +kernel
theorem dX12_prime_45 : decode cX12_prime 45 = .ok (.getfield 9, 3) := by decide +kernel
theorem dX12_prime_48 : decode cX12_prime 48 = .ok (.iload_n 3, 1) := by decide +kernel
theorem dX12_prime_49 : decode cX12_prime 49 = .ok (.iaload, 1) := by decide +kernel
theorem dX12_prime_50 : decode cX12_prime 50 = .ok (.imul, 1) := by decide +kernel
theorem dX12_prime_51 : decode cX12_prime 51 = .ok (.istore_n 2, 1) := by decide +kernel
theorem dX12_prime_52 : decode cX12_prime 52 = .ok (.iinc 3 1, 3) := by decide +kernel
theorem dX12_prime_55 : decode cX12_prime 55 = .ok (.goto (-20), 3) := by decide +kernel
theorem dX12_prime_58 : decode cX12_prime 58 = .ok (.aload_n 0, 1) := by decide +kernel
theorem dX12_prime_59 : decode cX12_prime 59 = .ok (.getfield 83, 3) := by decide +kernel
theorem dX12_prime_62 : decode cX12_prime 62 = .ok (.iconst 4, 1) := by decide +kernel
theorem dX12_prime_63 : decode cX12_prime 63 = .ok (.if_icmp .eq 10, 3) := by decide +kernel
theorem dX12_prime_66 : decode cX12_prime 66 = .ok (.iload_n 2, 1) := by decide +kernel
theorem dX12_prime_67 : decode cX12_prime 67 = .ok (.sipush 1000, 3) := by decide +kernel
theorem dX12_prime_70 : decode cX12_prime 70 = .ok (.if_icmp .le 6, 3) := by decide +kernel
theorem dX12_prime_73 : decode cX12_prime 73 = .ok (.bipush (-4), 2) := by decide +kernel
theorem dX12_prime_75 : decode cX12_prime 75 = .ok (.ireturn, 1) := by decide +kernel
theorem dX12_prime_76 : decode cX12_prime 76 = .ok (.aload_n 0, 1) := by decide +kernel
theorem dX12_prime_77 : decode cX12_prime 77 = .ok (.getfield 83, 3) := by decide +kernel
theorem dX12_prime_80 : decode cX12_prime 80 = .ok (.istore_n 3, 1) := by decide +kernel
theorem dX12_prime_81 : decode cX12_prime 81 = .ok (.iload_n 3, 1) := by decide +kernel
theorem dX12_prime_82 : decode cX12_prime 82 = .ok (.ifCond .le 29, 3) := by decide +kernel
theorem dX12_prime_85 : decode cX12_prime 85 = .ok (.aload_n 0, 1) := by decide +kernel
theorem dX12_prime_86 : decode cX12_prime 86 = .ok (.getfield 9, 3) := by decide +kernel
theorem dX12_prime_89 : decode cX12_prime 89 = .ok (.iload_n 3, 1) := by decide +kernel
theorem dX12_prime_90 : decode cX12_prime 90 = .ok (.iconst 1, 1) := by decide +kernel
theorem dX12_prime_91 : decode cX12_prime 91 = .ok (.isub, 1) := by decide +kernel
theorem dX12_prime_92 : decode cX12_prime 92 = .ok (.iaload, 1) := by decide +kernel
theorem dX12_prime_93 : decode cX12_prime 93 = .ok (.iload_n 1, 1) := by decide +kernel
theorem dX12_prime_94 : decode cX12_prime 94 = .ok (.if_icmp .le 17, 3) := by decide +kernel
theorem dX12_prime_97 : decode cX12_prime 97 = .ok (.aload_n 0, 1) := by decide +kernel
theorem dX12_prime_98 : decode cX12_prime 98 = .ok (.iload_n 3, 1) := by decide +kernel
theorem dX12_prime_99 : decode cX12_prime 99 = .ok (.iconst 1, 1) := by decide +kernel
theorem dX12_prime_100 : decode cX12_prime 100 = .ok (.isub, 1) := by decide +kernel
theorem dX12_prime_101 : decode cX12_prime 101 = .ok (.iload_n 3, 1) := by decide +kernel
theorem dX12_prime_102 : decode cX12_prime 102 = .ok (.invokevirtual 99, 3) := by decide +kernel
theorem dX12_prime_105 : decode cX12_prime 105 = .ok (.iinc 3 (-1), 3) := by decide +kernel
theorem dX12_prime_108 : decode cX12_prime 108 = .ok (.goto (-27), 3) := by decide +kernel
theorem dX12_prime_111 : decode cX12_prime 111 = .ok (.aload_n 0, 1) := by decide +kernel
theorem dX12_prime_112 : decode cX12_prime 112 = .ok (.getfield 9, 3) := by decide +kernel
theorem dX12_prime_115 : decode cX12_prime 115 = .ok (.iload_n 3, 1) := by decide +kernel
theorem dX12_prime_116 : decode cX12_prime 116 = .ok (.iload_n 1, 1) := by decide +kernel
theorem dX12_prime_117 : decode cX12_prime 117 = .ok (.iastore, 1) := by decide +kernel
theorem dX12_prime_118 : decode cX12_prime 118 = .ok (.aload_n 0, 1) := by decide +kernel
theorem dX12_prime_119 : decode cX12_prime 119 = .ok (.getfield 15, 3) := by decide +kernel
theorem dX12_prime_122 : decode cX12_prime 122 = .ok (.iload_n 3, 1) := by decide +kernel
theorem dX12_prime_123 : decode cX12_prime 123 = .ok (.iconst 2, 1) := by decide +kernel
theorem dX12_prime_124 : decode cX12_prime 124 = .ok (.iastore, 1) := by decide +kernel
theorem dX12_prime_125 : decode cX12_prime 125 = .ok (.iconst 0, 1) := by decide +kernel
theorem dX12_prime_126 : decode cX12_prime 126 = .ok (.istore 4, 2) := by decide +kernel
theorem dX12_prime_128 : decode cX12_prime 128 = .ok (.iload 4, 2) := by decide +kernel
theorem dX12_prime_130 : decode cX12_prime 130 = .ok (.iconst 4, 1) := by decide +kernel
theorem dX12_prime_131 : decode cX12_prime 131 = .ok (.if_icmp .ge 21, 3) := by decide +kernel
theorem dX12_prime_134 : decode cX12_prime 134 = .ok (.aload_n 0, 1) := by decide +kernel
theorem dX12_prime_135 : decode cX12_prime 135 = .ok (.getfield 18, 3) := by decide +kernel
theorem dX12_prime_138 : decode cX12_prime 138 = .ok (.iconst 4, 1) := by decide +kernel
theorem dX12_prime_139 : decode cX12_prime 139 = .ok (.iload 4, 2) := by decide +kernel
theorem dX12_prime_141 : decode cX12_prime 141 = .ok (.imul, 1) := by decide +kernel
theorem dX12_prime_142 : decode cX12_prime 142 = .ok (.iload_n 3, 1) := by decide +kernel
theorem dX12_prime_143 : decode cX12_prime 143 = .ok (.iadd, 1) := by decide +kernel
theorem dX12_prime_144 : decode cX12_prime 144 = .ok (.iconst 0, 1) := by decide +kernel
theorem dX12_prime_145 : decode cX12_prime 145 = .ok (.iastore, 1) := by decide +kernel
theorem dX12_prime_146 : decode cX12_prime 146 = .ok (.iinc 4 1, 3) := by decide +kernel
theorem dX12_prime_149 : decode cX12_prime 149 = .ok (.goto (-21), 3) := by decide +kernel
theorem dX12_prime_152 : decode cX12_prime 152 = .ok (.aload_n 0, 1) := by decide +kernel
theorem dX12_prime_153 : decode cX12_prime 153 = .ok (.dup, 1) := by decide +kernel
theorem dX12_prime_154 : decode cX12_prime 154 = .ok (.getfield 83, 3) := by decide +kernel
theorem dX12_prime_157 : decode cX12_prime 157 = .ok (.iconst 1, 1) := by decide +kernel
theorem dX12_prime_158 : decode cX12_prime 158 = .ok (.iadd, 1) := by decide +kernel
theorem dX12_prime_159 : decode cX12_prime 159 = .ok (.putfield 83, 3) := by decide +kernel
theorem dX12_prime_162 : decode cX12_prime 162 = .ok (.aload_n 0, 1) := by decide +kernel
theorem dX12_prime_163 : decode cX12_prime 163 = .ok (.iload_n 1, 1) := by decide +kernel
theorem dX12_prime_164 : decode cX12_prime 164 = .ok (.invokevirtual 103, 3) := by decide +kernel
theorem dX12_prime_167 : decode cX12_prime 167 = .ok (.istore 4, 2) := by decide +kernel
theorem dX12_prime_169 : decode cX12_prime 169 = .ok (.aload_n 0, 1) := by decide +kernel
theorem dX12_prime_170 : decode cX12_prime 170 = .ok (.getfield 83, 3) := by decide +kernel
theorem dX12_prime_173 : decode cX12_prime 173 = .ok (.ireturn, 1) := by decide +kernel
theorem dX12_moves_0 : decode cX12_moves 0 = .ok (.aload_n 0, 1) := by decide +kernel
theorem dX12_moves_1 : decode cX12_moves 1 = .ok (.getfield 9, 3) := by decide +kernel
theorem dX12_moves_4 : decode cX12_moves 4 = .ok (.iload_n 2, 1) := by decide +kernel
theorem dX12_moves_5 : decode cX12_moves 5 = .ok (.aload_n 0, 1) := by decide +kernel
theorem dX12_moves_6 : decode cX12_moves 6 = .ok (.getfield 9, 3) := by decide +kernel
theorem dX12_moves_9 : decode cX12_moves 9 = .ok (.iload_n 1, 1) := by decide +kernel
theorem dX12_moves_10 : decode cX12_moves 10 = .ok (.iaload, 1) := by decide +kernel
theorem dX12_moves_11 : decode cX12_moves 11 = .ok (.iastore, 1) := by decide +kernel
theorem dX12_moves_12 : decode cX12_moves 12 = .ok (.aload_n 0, 1) := by decide +kernel
theorem dX12_moves_13 : decode cX12_moves 13 = .ok (.getfield 15, 3) := by decide +kernel
theorem dX12_moves_16 : decode cX12_moves 16 = .ok (.iload_n 2, 1) := by decide +kernel
theorem dX12_moves_17 : decode cX12_moves 17 = .ok (.aload_n 0, 1) := by decide +kernel
theorem dX12_moves_18 : decode cX12_moves 18 = .ok (.getfield 15, 3) := by decide +kernel
theorem dX12_moves_21 : decode cX12_moves 21 = .ok (.iload_n 1, 1) := by decide +kernel
theorem dX12_moves_22 : decode cX12_moves 22 = .ok (.iaload, 1) := by decide +kernel
theorem dX12_moves_23 : decode cX12_moves 23 = .ok (.iastore, 1) := by decide +kernel
theorem dX12_moves_24 : decode cX12_moves 24 = .ok (.iconst 0, 1) := by decide +kernel
theorem dX12_moves_25 : decode cX12_moves 25 = .ok (.istore_n 3, 1) := by decide +kernel
theorem dX12_moves_26 : decode cX12_moves 26 = .ok (.iload_n 3, 1) := by decide +kernel
theorem dX12_moves_27 : decode cX12_moves 27 = .ok (.iconst 4, 1) := by decide +kernel
theorem dX12_moves_28 : decode cX12_moves 28 = .ok (.if_icmp .ge 34, 3) := by decide +kernel
theorem dX12_moves_31 : decode cX12_moves 31 = .ok (.iload_n 2, 1) := by decide +kernel
theorem dX12_moves_32 : decode cX12_moves 32 = .ok (.iconst 4, 1) := by decide +kernel
theorem dX12_moves_33 : decode cX12_moves 33 = .ok (.if_icmp .ge 23, 3) := by decide +kernel
theorem dX12_moves_36 : decode cX12_moves 36 = .ok (.aload_n 0, 1) := by decide +kernel
theorem dX12_moves_37 : decode cX12_moves 37 = .ok (.getfield 18, 3) := by decide +kernel
theorem dX12_moves_40 : decode cX12_moves 40 = .ok (.iconst 4, 1) := by decide +kernel
theorem dX12_moves_41 : decode cX12_moves 41 = .ok (.iload_n 3, 1) := by decide +kernel
theorem dX12_moves_42 : decode cX12_moves 42 = .ok (.imul, 1) := by decide +kernel
theorem dX12_moves_43 : decode cX12_moves 43 = .ok (.iload_n 2, 1) := by decide +kernel
theorem dX12_moves_44 : decode cX12_moves 44 = .ok (.iadd, 1) := by decide +kernel
theorem dX12_moves_45 : decode cX12_moves 45 = .ok (.aload_n 0, 1) := by decide +kernel
theorem dX12_moves_46 : decode cX12_moves 46 = .ok (.getfield 18, 3) := by decide +kernel
theorem dX12_moves_49 : decode cX12_moves 49 = .ok (.iconst 4, 1) := by decide +kernel
theorem dX12_moves_50 : decode cX12_moves 50 = .ok (.iload_n 3, 1) := by decide +kernel
theorem dX12_moves_51 : decode cX12_moves 51 = .ok (.imul, 1) := by decide +kernel
theorem dX12_moves_52 : decode cX12_moves 52 = .ok (.iload_n 1, 1) := by decide +kernel
theorem dX12_moves_53 : decode cX12_moves 53 = .ok (.iadd, 1) := by decide +kernel
theorem dX12_moves_54 : decode cX12_moves 54 = .ok (.iaload, 1) := by decide +kernel
theorem dX12_moves_55 : decode cX12_moves 55 = .ok (.iastore, 1) := by decide +kernel
theorem dX12_moves_56 : decode cX12_moves 56 = .ok (.iinc 3 1, 3) := by decide +kernel
theorem dX12_moves_59 : decode cX12_moves 59 = .ok (.goto (-33), 3) := by decide +kernel
theorem dX12_moves_62 : decode cX12_moves 62 = .ok (.return_, 1) := by decide +kernel
theorem dX12_drop_0 : decode cX12_drop 0 = .ok (.aload_n 0, 1) := by decide +kernel
theorem dX12_drop_1 : decode cX12_drop 1 = .ok (.iload_n 1, 1) := by decide +kernel
theorem dX12_drop_2 : decode cX12_drop 2 = .ok (.invokevirtual 106, 3) := by decide +kernel
theorem dX12_drop_5 : decode cX12_drop 5 = .ok (.ifCond .ne 5, 3) := by decide +kernel
theorem dX12_drop_8 : decode cX12_drop 8 = .ok (.iconst (-1), 1) := by decide +kernel
theorem dX12_drop_9 : decode cX12_drop 9 = .ok (.ireturn, 1) := by decide +kernel
theorem dX12_drop_10 : decode cX12_drop 10 = .ok (.aload_n 0, 1) := by decide +kernel
theorem dX12_drop_11 : decode cX12_drop 11 = .ok (.dup, 1) := by decide +kernel
theorem dX12_drop_12 : decode cX12_drop 12 = .ok (.getfield 83, 3) := by decide +kernel
theorem dX12_drop_15 : decode cX12_drop 15 = .ok (.iconst 1, 1) := by decide +kernel
theorem dX12_drop_16 : decode cX12_drop 16 = .ok (.isub, 1) := by decide +kernel
theorem dX12_drop_17 : decode cX12_drop 17 = .ok (.putfield 83, 3) := by decide +kernel
theorem dX12_drop_20 : decode cX12_drop 20 = .ok (.iload_n 1, 1) := by decide +kernel
theorem dX12_drop_21 : decode cX12_drop 21 = .ok (.istore_n 2, 1) := by decide +kernel
theorem dX12_drop_22 : decode cX12_drop 22 = .ok (.iload_n 2, 1) := by decide +kernel
theorem dX12_drop_23 : decode cX12_drop 23 = .ok (.aload_n 0, 1) := by decide +kernel
theorem dX12_drop_24 : decode cX12_drop 24 = .ok (.getfield 83, 3) := by decide +kernel
theorem dX12_drop_27 : decode cX12_drop 27 = .ok (.if_icmp .ge 17, 3) := by decide +kernel
theorem dX12_drop_30 : decode cX12_drop 30 = .ok (.aload_n 0, 1) := by decide +kernel
theorem dX12_drop_31 : decode cX12_drop 31 = .ok (.iload_n 2, 1) := by decide +kernel
theorem dX12_drop_32 : decode cX12_drop 32 = .ok (.iconst 1, 1) := by decide +kernel
theorem dX12_drop_33 : decode cX12_drop 33 = .ok (.iadd, 1) := by decide +kernel
theorem dX12_drop_34 : decode cX12_drop 34 = .ok (.iload_n 2, 1) := by decide +kernel
theorem dX12_drop_35 : decode cX12_drop 35 = .ok (.invokevirtual 99, 3) := by decide +kernel
theorem dX12_drop_38 : decode cX12_drop 38 = .ok (.iinc 2 1, 3) := by decide +kernel
theorem dX12_drop_41 : decode cX12_drop 41 = .ok (.goto (-19), 3) := by decide +kernel
theorem dX12_drop_44 : decode cX12_drop 44 = .ok (.aload_n 0, 1) := by decide +kernel
theorem dX12_drop_45 : decode cX12_drop 45 = .ok (.getfield 83, 3) := by decide +kernel
theorem dX12_drop_48 : decode cX12_drop 48 = .ok (.ireturn, 1) := by decide +kernel
