theorem d_MD_goThrough_63 : decode b_MD_goThrough 63 = .ok (.getfield 42, 3) := by decide +kernel
theorem d_MD_goThrough_66 : decode b_MD_goThrough 66 = .ok (.if_icmp .ge 16, 3) := by decide +kernel
theorem d_MD_goThrough_69 : decode b_MD_goThrough 69 = .ok (.iinc 3 1, 3) := by decide +kernel
theorem d_MD_goThrough_72 : decode b_MD_goThrough 72 = .ok (.aload_n 0, 1) := by decide +kernel
theorem d_MD_goThrough_73 : decode b_MD_goThrough 73 = .ok (.getfield 20, 3) := by decide +kernel
theorem d_MD_goThrough_76 : decode b_MD_goThrough 76 = .ok (.iload_n 3, 1) := by decide +kernel
theorem d_MD_goThrough_77 : decode b_MD_goThrough 77 = .ok (.iconst (-1), 1) := by decide +kernel
theorem d_MD_goThrough_78 : decode b_MD_goThrough 78 = .ok (.iastore, 1) := by decide +kernel
theorem d_MD_goThrough_79 : decode b_MD_goThrough 79 = .ok (.goto (-68), 3) := by decide +kernel
theorem d_MD_goThrough_82 : decode b_MD_goThrough 82 = .ok (.iload_n 2, 1) := by decide +kernel
theorem d_MD_goThrough_83 : decode b_MD_goThrough 83 = .ok (.iload_n 1, 1) := by decide +kernel
theorem d_MD_goThrough_84 : decode b_MD_goThrough 84 = .ok (.if_icmp .ne 35, 3) := by decide +kernel
theorem d_MD_goThrough_87 : decode b_MD_goThrough 87 = .ok (.iconst 0, 1) := by decide +kernel
theorem d_MD_goThrough_88 : decode b_MD_goThrough 88 = .ok (.istore 4, 2) := by decide +kernel
theorem d_MD_goThrough_90 : decode b_MD_goThrough 90 = .ok (.iload 4, 2) := by decide +kernel
theorem d_MD_goThrough_92 : decode b_MD_goThrough 92 = .ok (.aload_n 0, 1) := by decide +kernel
theorem d_MD_goThrough_93 : decode b_MD_goThrough 93 = .ok (.getfield 42, 3) := by decide +kernel
theorem d_MD_goThrough_96 : decode b_MD_goThrough 96 = .ok (.if_icmp .ge 23, 3) := by decide +kernel
theorem d_MD_goThrough_99 : decode b_MD_goThrough 99 = .ok (.aload_n 0, 1) := by decide +kernel
theorem d_MD_goThrough_100 : decode b_MD_goThrough 100 = .ok (.getfield 23, 3) := by decide +kernel
theorem d_MD_goThrough_103 : decode b_MD_goThrough 103 = .ok (.iload 4, 2) := by decide +kernel
theorem d_MD_goThrough_105 : decode b_MD_goThrough 105 = .ok (.aload_n 0, 1) := by decide +kernel
theorem d_MD_goThrough_106 : decode b_MD_goThrough 106 = .ok (.getfield 20, 3) := by decide +kernel
theorem d_MD_goThrough_109 : decode b_MD_goThrough 109 = .ok (.iload 4, 2) := by decide +kernel
theorem d_MD_goThrough_111 : decode b_MD_goThrough 111 = .ok (.iaload, 1) := by decide +kernel
theorem d_MD_goThrough_112 : decode b_MD_goThrough 112 = .ok (.iastore, 1) := by decide +kernel
theorem d_MD_goThrough_113 : decode b_MD_goThrough 113 = .ok (.iinc 4 1, 3) := by decide +kernel
theorem d_MD_goThrough_116 : decode b_MD_goThrough 116 = .ok (.goto (-26), 3) := by decide +kernel
theorem d_MD_goThrough_119 : decode b_MD_goThrough 119 = .ok (.iinc 2 1, 3) := by decide +kernel
theorem d_MD_goThrough_122 : decode b_MD_goThrough 122 = .ok (.goto (-111), 3) := by decide +kernel
theorem d_MD_goThrough_125 : decode b_MD_goThrough 125 = .ok (.iload_n 2, 1) := by decide +kernel
theorem d_MD_goThrough_126 : decode b_MD_goThrough 126 = .ok (.ireturn, 1) := by decide +kernel
theorem d_MD_stands_0 : decode b_MD_stands 0 = .ok (.aload_n 0, 1) := by decide +kernel
theorem d_MD_stands_1 : decode b_MD_stands 1 = .ok (.getfield 20, 3) := by decide +kernel
theorem d_MD_stands_4 : decode b_MD_stands 4 = .ok (.iload_n 1, 1) := by decide +kernel
theorem d_MD_stands_5 : decode b_MD_stands 5 = .ok (.iaload, 1) := by decide +kernel
theorem d_MD_stands_6 : decode b_MD_stands 6 = .ok (.istore_n 2, 1) := by decide +kernel
theorem d_MD_stands_7 : decode b_MD_stands 7 = .ok (.aload_n 0, 1) := by decide +kernel
theorem d_MD_stands_8 : decode b_MD_stands 8 = .ok (.getfield 7, 3) := by decide +kernel
theorem d_MD_stands_11 : decode b_MD_stands 11 = .ok (.iload_n 1, 1) := by decide +kernel
theorem d_MD_stands_12 : decode b_MD_stands 12 = .ok (.aload_n 0, 1) := by decide +kernel
theorem d_MD_stands_13 : decode b_MD_stands 13 = .ok (.getfield 42, 3) := by decide +kernel
theorem d_MD_stands_16 : decode b_MD_stands 16 = .ok (.iload_n 2, 1) := by decide +kernel
theorem d_MD_stands_17 : decode b_MD_stands 17 = .ok (.imul, 1) := by decide +kernel
theorem d_MD_stands_18 : decode b_MD_stands 18 = .ok (.iadd, 1) := by decide +kernel
theorem d_MD_stands_19 : decode b_MD_stands 19 = .ok (.baload, 1) := by decide +kernel
theorem d_MD_stands_20 : decode b_MD_stands 20 = .ok (.ifCond .eq 5, 3) := by decide +kernel
theorem d_MD_stands_23 : decode b_MD_stands 23 = .ok (.iconst 0, 1) := by decide +kernel
theorem d_MD_stands_24 : decode b_MD_stands 24 = .ok (.ireturn, 1) := by decide +kernel
theorem d_MD_stands_25 : decode b_MD_stands 25 = .ok (.iconst 0, 1) := by decide +kernel
theorem d_MD_stands_26 : decode b_MD_stands 26 = .ok (.istore_n 3, 1) := by decide +kernel
theorem d_MD_stands_27 : decode b_MD_stands 27 = .ok (.iload_n 3, 1) := by decide +kernel
theorem d_MD_stands_28 : decode b_MD_stands 28 = .ok (.iload_n 1, 1) := by decide +kernel
theorem d_MD_stands_29 : decode b_MD_stands 29 = .ok (.if_icmp .ge 37, 3) := by decide +kernel
theorem d_MD_stands_32 : decode b_MD_stands 32 = .ok (.aload_n 0, 1) := by decide +kernel
theorem d_MD_stands_33 : decode b_MD_stands 33 = .ok (.getfield 20, 3) := by decide +kernel
theorem d_MD_stands_36 : decode b_MD_stands 36 = .ok (.iload_n 3, 1) := by decide +kernel
theorem d_MD_stands_37 : decode b_MD_stands 37 = .ok (.iaload, 1) := by decide +kernel
theorem d_MD_stands_38 : decode b_MD_stands 38 = .ok (.iload_n 2, 1) := by decide +kernel
theorem d_MD_stands_39 : decode b_MD_stands 39 = .ok (.if_icmp .eq 19, 3) := by decide +kernel
theorem d_MD_stands_42 : decode b_MD_stands 42 = .ok (.aload_n 0, 1) := by decide +kernel
theorem d_MD_stands_43 : decode b_MD_stands 43 = .ok (.getfield 20, 3) := by decide +kernel
theorem d_MD_stands_46 : decode b_MD_stands 46 = .ok (.iload_n 3, 1) := by decide +kernel
theorem d_MD_stands_47 : decode b_MD_stands 47 = .ok (.iaload, 1) := by decide +kernel
theorem d_MD_stands_48 : decode b_MD_stands 48 = .ok (.iload_n 2, 1) := by decide +kernel
theorem d_MD_stands_49 : decode b_MD_stands 49 = .ok (.invokestatic 68, 3) := by decide +kernel
theorem d_MD_stands_52 : decode b_MD_stands 52 = .ok (.iload_n 1, 1) := by decide +kernel
theorem d_MD_stands_53 : decode b_MD_stands 53 = .ok (.iload_n 3, 1) := by decide +kernel
theorem d_MD_stands_54 : decode b_MD_stands 54 = .ok (.isub, 1) := by decide +kernel
theorem d_MD_stands_55 : decode b_MD_stands 55 = .ok (.if_icmp .ne 5, 3) := by decide +kernel
theorem d_MD_stands_58 : decode b_MD_stands 58 = .ok (.iconst 0, 1) := by decide +kernel
theorem d_MD_stands_59 : decode b_MD_stands 59 = .ok (.ireturn, 1) := by decide +kernel
theorem d_MD_stands_60 : decode b_MD_stands 60 = .ok (.iinc 3 1, 3) := by decide +kernel
theorem d_MD_stands_63 : decode b_MD_stands 63 = .ok (.goto (-36), 3) := by decide +kernel
theorem d_MD_stands_66 : decode b_MD_stands 66 = .ok (.iconst 1, 1) := by decide +kernel
theorem d_MD_stands_67 : decode b_MD_stands 67 = .ok (.ireturn, 1) := by decide +kernel
theorem d_MD_queen_0 : decode b_MD_queen 0 = .ok (.aload_n 0, 1) := by decide +kernel
theorem d_MD_queen_1 : decode b_MD_queen 1 = .ok (.iconst 0, 1) := by decide +kernel
theorem d_MD_queen_2 : decode b_MD_queen 2 = .ok (.putfield 55, 3) := by decide +kernel
theorem d_MD_queen_5 : decode b_MD_queen 5 = .ok (.iload_n 1, 1) := by decide +kernel
theorem d_MD_queen_6 : decode b_MD_queen 6 = .ok (.ifCond .lt 15, 3) := by decide +kernel
theorem d_MD_queen_9 : decode b_MD_queen 9 = .ok (.iload_n 2, 1) := by decide +kernel
theorem d_MD_queen_10 : decode b_MD_queen 10 = .ok (.ifCond .lt 11, 3) := by decide +kernel
theorem d_MD_queen_13 : decode b_MD_queen 13 = .ok (.iload_n 2, 1) := by decide +kernel
theorem d_MD_queen_14 : decode b_MD_queen 14 = .ok (.aload_n 0, 1) := by decide +kernel
theorem d_MD_queen_15 : decode b_MD_queen 15 = .ok (.getfield 42, 3) := by decide +kernel
theorem d_MD_queen_18 : decode b_MD_queen 18 = .ok (.if_icmp .lt 5, 3) := by decide +kernel
theorem d_MD_queen_21 : decode b_MD_queen 21 = .ok (.iconst (-1), 1) := by decide +kernel
theorem d_MD_queen_22 : decode b_MD_queen 22 = .ok (.ireturn, 1) := by decide +kernel
theorem d_MD_queen_23 : decode b_MD_queen 23 = .ok (.aload_n 0, 1) := by decide +kernel
theorem d_MD_queen_24 : decode b_MD_queen 24 = .ok (.iload_n 1, 1) := by decide +kernel
theorem d_MD_queen_25 : decode b_MD_queen 25 = .ok (.invokevirtual 99, 3) := by decide +kernel
theorem d_MD_queen_28 : decode b_MD_queen 28 = .ok (.iload_n 1, 1) := by decide +kernel
theorem d_MD_queen_29 : decode b_MD_queen 29 = .ok (.iconst 1, 1) := by decide +kernel
theorem d_MD_queen_30 : decode b_MD_queen 30 = .ok (.iadd, 1) := by decide +kernel
theorem d_MD_queen_31 : decode b_MD_queen 31 = .ok (.if_icmp .ne 12, 3) := by decide +kernel
theorem d_MD_queen_34 : decode b_MD_queen 34 = .ok (.aload_n 0, 1) := by decide +kernel
theorem d_MD_queen_35 : decode b_MD_queen 35 = .ok (.getfield 23, 3) := by decide +kernel
theorem d_MD_queen_38 : decode b_MD_queen 38 = .ok (.iload_n 2, 1) := by decide +kernel
theorem d_MD_queen_39 : decode b_MD_queen 39 = .ok (.iaload, 1) := by decide +kernel
theorem d_MD_queen_40 : decode b_MD_queen 40 = .ok (.goto 4, 3) := by decide +kernel
theorem d_MD_queen_43 : decode b_MD_queen 43 = .ok (.iconst (-1), 1) := by decide +kernel
theorem d_MD_queen_44 : decode b_MD_queen 44 = .ok (.ireturn, 1) := by decide +kernel
theorem d_MD_given_0 : decode b_MD_given 0 = .ok (.aload_n 0, 1) := by decide +kernel
theorem d_MD_given_1 : decode b_MD_given 1 = .ok (.iconst 0, 1) := by decide +kernel
theorem d_MD_given_2 : decode b_MD_given 2 = .ok (.putfield 55, 3) := by decide +kernel
theorem d_MD_given_5 : decode b_MD_given 5 = .ok (.aload_n 0, 1) := by decide +kernel
theorem d_MD_given_6 : decode b_MD_given 6 = .ok (.iload_n 1, 1) := by decide +kernel
theorem d_MD_given_7 : decode b_MD_given 7 = .ok (.iload_n 2, 1) := by decide +kernel
theorem d_MD_given_8 : decode b_MD_given 8 = .ok (.invokevirtual 58, 3) := by decide +kernel
theorem d_MD_given_11 : decode b_MD_given 11 = .ok (.ifCond .eq 15, 3) := by decide +kernel
theorem d_MD_given_14 : decode b_MD_given 14 = .ok (.iload_n 3, 1) := by decide +kernel
theorem d_MD_given_15 : decode b_MD_given 15 = .ok (.ifCond .lt 11, 3) := by decide +kernel
theorem d_MD_given_18 : decode b_MD_given 18 = .ok (.iload_n 3, 1) := by decide +kernel
theorem d_MD_given_19 : decode b_MD_given 19 = .ok (.aload_n 0, 1) := by decide +kernel
theorem d_MD_given_20 : decode b_MD_given 20 = .ok (.getfield 52, 3) := by decide +kernel
theorem d_MD_given_23 : decode b_MD_given 23 = .ok (.if_icmp .le 5, 3) := by decide +kernel
theorem d_MD_given_26 : decode b_MD_given 26 = .ok (.iconst 0, 1) := by decide +kernel
theorem d_MD_given_27 : decode b_MD_given 27 = .ok (.ireturn, 1) := by decide +kernel
theorem d_MD_given_28 : decode b_MD_given 28 = .ok (.aload_n 0, 1) := by decide +kernel
theorem d_MD_given_29 : decode b_MD_given 29 = .ok (.getfield 26, 3) := by decide +kernel
theorem d_MD_given_32 : decode b_MD_given 32 = .ok (.iload_n 1, 1) := by decide +kernel
theorem d_MD_given_33 : decode b_MD_given 33 = .ok (.aload_n 0, 1) := by decide +kernel
theorem d_MD_given_34 : decode b_MD_given 34 = .ok (.getfield 42, 3) := by decide +kernel
theorem d_MD_given_37 : decode b_MD_given 37 = .ok (.iload_n 2, 1) := by decide +kernel
theorem d_MD_given_38 : decode b_MD_given 38 = .ok (.imul, 1) := by decide +kernel
theorem d_MD_given_39 : decode b_MD_given 39 = .ok (.iadd, 1) := by decide +kernel
theorem d_MD_given_40 : decode b_MD_given 40 = .ok (.iload_n 3, 1) := by decide +kernel
theorem d_MD_given_41 : decode b_MD_given 41 = .ok (.iastore, 1) := by decide +kernel
theorem d_MD_given_42 : decode b_MD_given 42 = .ok (.aload_n 0, 1) := by decide +kernel
theorem d_MD_given_43 : decode b_MD_given 43 = .ok (.iconst 0, 1) := by decide +kernel
theorem d_MD_given_44 : decode b_MD_given 44 = .ok (.putfield 102, 3) := by decide +kernel
theorem d_MD_given_47 : decode b_MD_given 47 = .ok (.iconst 1, 1) := by decide +kernel
theorem d_MD_given_48 : decode b_MD_given 48 = .ok (.ireturn, 1) := by decide +kernel
theorem d_MD_fill_0 : decode b_MD_fill 0 = .ok (.aload_n 0, 1) := by decide +kernel
theorem d_MD_fill_1 : decode b_MD_fill 1 = .ok (.iconst 0, 1) := by decide +kernel
theorem d_MD_fill_2 : decode b_MD_fill 2 = .ok (.putfield 55, 3) := by decide +kernel
theorem d_MD_fill_5 : decode b_MD_fill 5 = .ok (.aload_n 0, 1) := by decide +kernel
theorem d_MD_fill_6 : decode b_MD_fill 6 = .ok (.aload_n 0, 1) := by decide +kernel
theorem d_MD_fill_7 : decode b_MD_fill 7 = .ok (.iconst 1, 1) := by decide +kernel
theorem d_MD_fill_8 : decode b_MD_fill 8 = .ok (.iconst 1, 1) := by decide +kernel
theorem d_MD_fill_9 : decode b_MD_fill 9 = .ok (.invokevirtual 122, 3) := by decide +kernel
theorem d_MD_fill_12 : decode b_MD_fill 12 = .ok (.iconst 1, 1) := by decide +kernel
theorem d_MD_fill_13 : decode b_MD_fill 13 = .ok (.if_icmp .ne 7, 3) := by decide +kernel
theorem d_MD_fill_16 : decode b_MD_fill 16 = .ok (.iconst 1, 1) := by decide +kernel
theorem d_MD_fill_17 : decode b_MD_fill 17 = .ok (.goto 4, 3) := by decide +kernel
theorem d_MD_fill_20 : decode b_MD_fill 20 = .ok (.iconst 0, 1) := by decide +kernel
theorem d_MD_fill_21 : decode b_MD_fill 21 = .ok (.putfield 102, 3) := by decide +kernel
theorem d_MD_fill_24 : decode b_MD_fill 24 = .ok (.aload_n 0, 1) := by decide +kernel
theorem d_MD_fill_25 : decode b_MD_fill 25 = .ok (.getfield 102, 3) := by decide +kernel
theorem d_MD_fill_28 : decode b_MD_fill 28 = .ok (.ireturn, 1) := by decide +kernel
theorem d_MD_fillThrough_0 : decode b_MD_fillThrough 0 = .ok (.iconst 0, 1) := by decide +kernel
theorem d_MD_fillThrough_1 : decode b_MD_fillThrough 1 = .ok (.istore_n 3, 1) := by decide +kernel
theorem d_MD_fillThrough_2 : decode b_MD_fillThrough 2 = .ok (.iconst 0, 1) := by decide +kernel
theorem d_MD_fillThrough_3 : decode b_MD_fillThrough 3 = .ok (.istore 4, 2) := by decide +kernel
theorem d_MD_fillThrough_5 : decode b_MD_fillThrough 5 = .ok (.aload_n 0, 1) := by decide +kernel
theorem d_MD_fillThrough_6 : decode b_MD_fillThrough 6 = .ok (.iconst (-1), 1) := by decide +kernel
theorem d_MD_fillThrough_7 : decode b_MD_fillThrough 7 = .ok (.invokevirtual 116, 3) := by decide +kernel
theorem d_MD_fillThrough_10 : decode b_MD_fillThrough 10 = .ok (.ifCond .ne 5, 3) := by decide +kernel
theorem d_MD_fillThrough_13 : decode b_MD_fillThrough 13 = .ok (.iconst 0, 1) := by decide +kernel
theorem d_MD_fillThrough_14 : decode b_MD_fillThrough 14 = .ok (.ireturn, 1) := by decide +kernel
theorem d_MD_fillThrough_15 : decode b_MD_fillThrough 15 = .ok (.aload_n 0, 1) := by decide +kernel
theorem d_MD_fillThrough_16 : decode b_MD_fillThrough 16 = .ok (.getfield 29, 3) := by decide +kernel
theorem d_MD_fillThrough_19 : decode b_MD_fillThrough 19 = .ok (.iconst 0, 1) := by decide +kernel
theorem d_MD_fillThrough_20 : decode b_MD_fillThrough 20 = .ok (.iconst 0, 1) := by decide +kernel
theorem d_MD_fillThrough_21 : decode b_MD_fillThrough 21 = .ok (.iastore, 1) := by decide +kernel
theorem d_MD_fillThrough_22 : decode b_MD_fillThrough 22 = .ok (.iload 4, 2) := by decide +kernel
theorem d_MD_fillThrough_24 : decode b_MD_fillThrough 24 = .ok (.ifCond .lt 135, 3) := by decide +kernel
theorem d_MD_fillThrough_27 : decode b_MD_fillThrough 27 = .ok (.iload_n 3, 1) := by decide +kernel
theorem d_MD_fillThrough_28 : decode b_MD_fillThrough 28 = .ok (.iload_n 1, 1) := by decide +kernel
theorem d_MD_fillThrough_29 : decode b_MD_fillThrough 29 = .ok (.if_icmp .ge 130, 3) := by decide +kernel
theorem d_MD_fillThrough_32 : decode b_MD_fillThrough 32 = .ok (.aload_n 0, 1) := by decide +kernel
theorem d_MD_fillThrough_33 : decode b_MD_fillThrough 33 = .ok (.getfield 29, 3) := by decide +kernel
theorem d_MD_fillThrough_36 : decode b_MD_fillThrough 36 = .ok (.iload 4, 2) := by decide +kernel
theorem d_MD_fillThrough_38 : decode b_MD_fillThrough 38 = .ok (.dup2, 1) := by decide +kernel
theorem d_MD_fillThrough_39 : decode b_MD_fillThrough 39 = .ok (.iaload, 1) := by decide +kernel
theorem d_MD_fillThrough_40 : decode b_MD_fillThrough 40 = .ok (.iconst 1, 1) := by decide +kernel
theorem d_MD_fillThrough_41 : decode b_MD_fillThrough 41 = .ok (.iadd, 1) := by decide +kernel
theorem d_MD_fillThrough_42 : decode b_MD_fillThrough 42 = .ok (.iastore, 1) := by decide +kernel
theorem d_MD_fillThrough_43 : decode b_MD_fillThrough 43 = .ok (.aload_n 0, 1) := by decide +kernel
theorem d_MD_fillThrough_44 : decode b_MD_fillThrough 44 = .ok (.getfield 29, 3) := by decide +kernel
theorem d_MD_fillThrough_47 : decode b_MD_fillThrough 47 = .ok (.iload 4, 2) := by decide +kernel
theorem d_MD_fillThrough_49 : decode b_MD_fillThrough 49 = .ok (.iaload, 1) := by decide +kernel
theorem d_MD_fillThrough_50 : decode b_MD_fillThrough 50 = .ok (.aload_n 0, 1) := by decide +kernel
theorem d_MD_fillThrough_51 : decode b_MD_fillThrough 51 = .ok (.getfield 52, 3) := by decide +kernel
theorem d_MD_fillThrough_54 : decode b_MD_fillThrough 54 = .ok (.if_icmp .le 9, 3) := by decide +kernel
theorem d_MD_fillThrough_57 : decode b_MD_fillThrough 57 = .ok (.iinc 4 (-1), 3) := by decide +kernel
theorem d_MD_fillThrough_60 : decode b_MD_fillThrough 60 = .ok (.goto (-38), 3) := by decide +kernel
theorem d_MD_fillThrough_63 : decode b_MD_fillThrough 63 = .ok (.aload_n 0, 1) := by decide +kernel
theorem d_MD_fillThrough_64 : decode b_MD_fillThrough 64 = .ok (.iload 4, 2) := by decide +kernel
theorem d_MD_fillThrough_66 : decode b_MD_fillThrough 66 = .ok (.aload_n 0, 1) := by decide +kernel
theorem d_MD_fillThrough_67 : decode b_MD_fillThrough 67 = .ok (.getfield 29, 3) := by decide +kernel
theorem d_MD_fillThrough_70 : decode b_MD_fillThrough 70 = .ok (.iload 4, 2) := by decide +kernel
theorem d_MD_fillThrough_72 : decode b_MD_fillThrough 72 = .ok (.iaload, 1) := by decide +kernel
theorem d_MD_fillThrough_73 : decode b_MD_fillThrough 73 = .ok (.invokevirtual 119, 3) := by decide +kernel
theorem d_MD_fillThrough_76 : decode b_MD_fillThrough 76 = .ok (.ifCond .eq (-54), 3) := by decide +kernel
theorem d_MD_fillThrough_79 : decode b_MD_fillThrough 79 = .ok (.aload_n 0, 1) := by decide +kernel
theorem d_MD_fillThrough_80 : decode b_MD_fillThrough 80 = .ok (.iload 4, 2) := by decide +kernel
theorem d_MD_fillThrough_82 : decode b_MD_fillThrough 82 = .ok (.invokevirtual 116, 3) := by decide +kernel
theorem d_MD_fillThrough_85 : decode b_MD_fillThrough 85 = .ok (.ifCond .eq (-63), 3) := by decide +kernel
theorem d_MD_fillThrough_88 : decode b_MD_fillThrough 88 = .ok (.iload 4, 2) := by decide +kernel
theorem d_MD_fillThrough_90 : decode b_MD_fillThrough 90 = .ok (.iconst 1, 1) := by decide +kernel
theorem d_MD_fillThrough_91 : decode b_MD_fillThrough 91 = .ok (.iadd, 1) := by decide +kernel
theorem d_MD_fillThrough_92 : decode b_MD_fillThrough 92 = .ok (.aload_n 0, 1) := by decide +kernel
theorem d_MD_fillThrough_93 : decode b_MD_fillThrough 93 = .ok (.getfield 49, 3) := by decide +kernel
theorem d_MD_fillThrough_96 : decode b_MD_fillThrough 96 = .ok (.if_icmp .ge 17, 3) := by decide +kernel
theorem d_MD_fillThrough_99 : decode b_MD_fillThrough 99 = .ok (.iinc 4 1, 3) := by decide +kernel
theorem d_MD_fillThrough_102 : decode b_MD_fillThrough 102 = .ok (.aload_n 0, 1) := by decide +kernel
theorem d_MD_fillThrough_103 : decode b_MD_fillThrough 103 = .ok (.getfield 29, 3) := by decide +kernel
theorem d_MD_fillThrough_106 : decode b_MD_fillThrough 106 = .ok (.iload 4, 2) := by decide +kernel
theorem d_MD_fillThrough_108 : decode b_MD_fillThrough 108 = .ok (.iconst 0, 1) := by decide +kernel
theorem d_MD_fillThrough_109 : decode b_MD_fillThrough 109 = .ok (.iastore, 1) := by decide +kernel
theorem d_MD_fillThrough_110 : decode b_MD_fillThrough 110 = .ok (.goto (-88), 3) := by decide +kernel
theorem d_MD_fillThrough_113 : decode b_MD_fillThrough 113 = .ok (.iload_n 2, 1) := by decide +kernel
theorem d_MD_fillThrough_114 : decode b_MD_fillThrough 114 = .ok (.ifCond .eq 39, 3) := by decide +kernel
theorem d_MD_fillThrough_117 : decode b_MD_fillThrough 117 = .ok (.iload_n 3, 1) := by decide +kernel
theorem d_MD_fillThrough_118 : decode b_MD_fillThrough 118 = .ok (.ifCond .ne 35, 3) := by decide +kernel
theorem d_MD_fillThrough_121 : decode b_MD_fillThrough 121 = .ok (.iconst 0, 1) := by decide +kernel
theorem d_MD_fillThrough_122 : decode b_MD_fillThrough 122 = .ok (.istore 5, 2) := by decide +kernel
theorem d_MD_fillThrough_124 : decode b_MD_fillThrough 124 = .ok (.iload 5, 2) := by decide +kernel
theorem d_MD_fillThrough_126 : decode b_MD_fillThrough 126 = .ok (.aload_n 0, 1) := by decide +kernel
theorem d_MD_fillThrough_127 : decode b_MD_fillThrough 127 = .ok (.getfield 49, 3) := by decide +kernel
theorem d_MD_fillThrough_130 : decode b_MD_fillThrough 130 = .ok (.if_icmp .ge 23, 3) := by decide +kernel
theorem d_MD_fillThrough_133 : decode b_MD_fillThrough 133 = .ok (.aload_n 0, 1) := by decide +kernel
theorem d_MD_fillThrough_134 : decode b_MD_fillThrough 134 = .ok (.getfield 32, 3) := by decide +kernel
theorem d_MD_fillThrough_137 : decode b_MD_fillThrough 137 = .ok (.iload 5, 2) := by decide +kernel
theorem d_MD_fillThrough_139 : decode b_MD_fillThrough 139 = .ok (.aload_n 0, 1) := by decide +kernel
theorem d_MD_fillThrough_140 : decode b_MD_fillThrough 140 = .ok (.getfield 29, 3) := by decide +kernel
theorem d_MD_fillThrough_143 : decode b_MD_fillThrough 143 = .ok (.iload 5, 2) := by decide +kernel
theorem d_MD_fillThrough_145 : decode b_MD_fillThrough 145 = .ok (.iaload, 1) := by decide +kernel
theorem d_MD_fillThrough_146 : decode b_MD_fillThrough 146 = .ok (.iastore, 1) := by decide +kernel
theorem d_MD_fillThrough_147 : decode b_MD_fillThrough 147 = .ok (.iinc 5 1, 3) := by decide +kernel
theorem d_MD_fillThrough_150 : decode b_MD_fillThrough 150 = .ok (.goto (-26), 3) := by decide +kernel
theorem d_MD_fillThrough_153 : decode b_MD_fillThrough 153 = .ok (.iinc 3 1, 3) := by decide +kernel
theorem d_MD_fillThrough_156 : decode b_MD_fillThrough 156 = .ok (.goto (-134), 3) := by decide +kernel
theorem d_MD_fillThrough_159 : decode b_MD_fillThrough 159 = .ok (.iload_n 3, 1) := by decide +kernel
theorem d_MD_fillThrough_160 : decode b_MD_fillThrough 160 = .ok (.ireturn, 1) := by decide +kernel
theorem d_MD_goesOn_0 : decode b_MD_goesOn 0 = .ok (.iload_n 1, 1) := by decide +kernel
theorem d_MD_goesOn_1 : decode b_MD_goesOn 1 = .ok (.iconst 1, 1) := by decide +kernel
theorem d_MD_goesOn_2 : decode b_MD_goesOn 2 = .ok (.iadd, 1) := by decide +kernel
theorem d_MD_goesOn_3 : decode b_MD_goesOn 3 = .ok (.istore_n 2, 1) := by decide +kernel
theorem d_MD_goesOn_4 : decode b_MD_goesOn 4 = .ok (.iload_n 2, 1) := by decide +kernel
theorem d_MD_goesOn_5 : decode b_MD_goesOn 5 = .ok (.aload_n 0, 1) := by decide +kernel
theorem d_MD_goesOn_6 : decode b_MD_goesOn 6 = .ok (.getfield 49, 3) := by decide +kernel
theorem d_MD_goesOn_9 : decode b_MD_goesOn 9 = .ok (.if_icmp .ge 21, 3) := by decide +kernel
theorem d_MD_goesOn_12 : decode b_MD_goesOn 12 = .ok (.aload_n 0, 1) := by decide +kernel
theorem d_MD_goesOn_13 : decode b_MD_goesOn 13 = .ok (.getfield 35, 3) := by decide +kernel
theorem d_MD_goesOn_16 : decode b_MD_goesOn 16 = .ok (.iload_n 2, 1) := by decide +kernel
theorem d_MD_goesOn_17 : decode b_MD_goesOn 17 = .ok (.aload_n 0, 1) := by decide +kernel
theorem d_MD_goesOn_18 : decode b_MD_goesOn 18 = .ok (.iload_n 2, 1) := by decide +kernel
theorem d_MD_goesOn_19 : decode b_MD_goesOn 19 = .ok (.iload_n 1, 1) := by decide +kernel
theorem d_MD_goesOn_20 : decode b_MD_goesOn 20 = .ok (.invokevirtual 106, 3) := by decide +kernel
theorem d_MD_goesOn_23 : decode b_MD_goesOn 23 = .ok (.iastore, 1) := by decide +kernel
theorem d_MD_goesOn_24 : decode b_MD_goesOn 24 = .ok (.iinc 2 1, 3) := by decide +kernel
theorem d_MD_goesOn_27 : decode b_MD_goesOn 27 = .ok (.goto (-23), 3) := by decide +kernel
theorem d_MD_goesOn_30 : decode b_MD_goesOn 30 = .ok (.iload_n 1, 1) := by decide +kernel
theorem d_MD_goesOn_31 : decode b_MD_goesOn 31 = .ok (.iconst 1, 1) := by decide +kernel
theorem d_MD_goesOn_32 : decode b_MD_goesOn 32 = .ok (.iadd, 1) := by decide +kernel
theorem d_MD_goesOn_33 : decode b_MD_goesOn 33 = .ok (.istore_n 2, 1) := by decide +kernel
theorem d_MD_goesOn_34 : decode b_MD_goesOn 34 = .ok (.iload_n 2, 1) := by decide +kernel
theorem d_MD_goesOn_35 : decode b_MD_goesOn 35 = .ok (.aload_n 0, 1) := by decide +kernel
theorem d_MD_goesOn_36 : decode b_MD_goesOn 36 = .ok (.getfield 49, 3) := by decide +kernel
theorem d_MD_goesOn_39 : decode b_MD_goesOn 39 = .ok (.if_icmp .ge 20, 3) := by decide +kernel
theorem d_MD_goesOn_42 : decode b_MD_goesOn 42 = .ok (.aload_n 0, 1) := by decide +kernel
theorem d_MD_goesOn_43 : decode b_MD_goesOn 43 = .ok (.getfield 35, 3) := by decide +kernel
theorem d_MD_goesOn_46 : decode b_MD_goesOn 46 = .ok (.iload_n 2, 1) := by decide +kernel
theorem d_MD_goesOn_47 : decode b_MD_goesOn 47 = .ok (.iaload, 1) := by decide +kernel
theorem d_MD_goesOn_48 : decode b_MD_goesOn 48 = .ok (.ifCond .ne 5, 3) := by decide +kernel
theorem d_MD_goesOn_51 : decode b_MD_goesOn 51 = .ok (.iconst 0, 1) := by decide +kernel
theorem d_MD_goesOn_52 : decode b_MD_goesOn 52 = .ok (.ireturn, 1) := by decide +kernel
theorem d_MD_goesOn_53 : decode b_MD_goesOn 53 = .ok (.iinc 2 1, 3) := by decide +kernel
theorem d_MD_goesOn_56 : decode b_MD_goesOn 56 = .ok (.goto (-22), 3) := by decide +kernel
theorem d_MD_goesOn_59 : decode b_MD_goesOn 59 = .ok (.iconst 0, 1) := by decide +kernel
theorem d_MD_goesOn_60 : decode b_MD_goesOn 60 = .ok (.istore_n 2, 1) := by decide +kernel
theorem d_MD_goesOn_61 : decode b_MD_goesOn 61 = .ok (.iload_n 2, 1) := by decide +kernel
theorem d_MD_goesOn_62 : decode b_MD_goesOn 62 = .ok (.aload_n 0, 1) := by decide +kernel
theorem d_MD_goesOn_63 : decode b_MD_goesOn 63 = .ok (.getfield 46, 3) := by decide +kernel
theorem d_MD_goesOn_66 : decode b_MD_goesOn 66 = .ok (.if_icmp .ge 30, 3) := by decide +kernel
theorem d_MD_goesOn_69 : decode b_MD_goesOn 69 = .ok (.aload_n 0, 1) := by decide +kernel
theorem d_MD_goesOn_70 : decode b_MD_goesOn 70 = .ok (.aload_n 0, 1) := by decide +kernel
theorem d_MD_goesOn_71 : decode b_MD_goesOn 71 = .ok (.getfield 42, 3) := by decide +kernel
theorem d_MD_goesOn_74 : decode b_MD_goesOn 74 = .ok (.iload_n 2, 1) := by decide +kernel
theorem d_MD_goesOn_75 : decode b_MD_goesOn 75 = .ok (.imul, 1) := by decide +kernel
theorem d_MD_goesOn_76 : decode b_MD_goesOn 76 = .ok (.iconst 1, 1) := by decide +kernel
theorem d_MD_goesOn_77 : decode b_MD_goesOn 77 = .ok (.aload_n 0, 1) := by decide +kernel
theorem d_MD_goesOn_78 : decode b_MD_goesOn 78 = .ok (.getfield 42, 3) := by decide +kernel
theorem d_MD_goesOn_81 : decode b_MD_goesOn 81 = .ok (.iload_n 1, 1) := by decide +kernel
theorem d_MD_goesOn_82 : decode b_MD_goesOn 82 = .ok (.invokevirtual 109, 3) := by decide +kernel
theorem d_MD_goesOn_85 : decode b_MD_goesOn 85 = .ok (.ifCond .ne 5, 3) := by decide +kernel
theorem d_MD_goesOn_88 : decode b_MD_goesOn 88 = .ok (.iconst 0, 1) := by decide +kernel
theorem d_MD_goesOn_89 : decode b_MD_goesOn 89 = .ok (.ireturn, 1) := by decide +kernel
theorem d_MD_goesOn_90 : decode b_MD_goesOn 90 = .ok (.iinc 2 1, 3) := by decide +kernel
theorem d_MD_goesOn_93 : decode b_MD_goesOn 93 = .ok (.goto (-32), 3) := by decide +kernel
theorem d_MD_goesOn_96 : decode b_MD_goesOn 96 = .ok (.iconst 0, 1) := by decide +kernel
theorem d_MD_goesOn_97 : decode b_MD_goesOn 97 = .ok (.istore_n 2, 1) := by decide +kernel
theorem d_MD_goesOn_98 : decode b_MD_goesOn 98 = .ok (.iload_n 2, 1) := by decide +kernel
theorem d_MD_goesOn_99 : decode b_MD_goesOn 99 = .ok (.aload_n 0, 1) := by decide +kernel
theorem d_MD_goesOn_100 : decode b_MD_goesOn 100 = .ok (.getfield 42, 3) := by decide +kernel
theorem d_MD_goesOn_103 : decode b_MD_goesOn 103 = .ok (.if_icmp .ge 28, 3) := by decide +kernel
theorem d_MD_goesOn_106 : decode b_MD_goesOn 106 = .ok (.aload_n 0, 1) := by decide +kernel
theorem d_MD_goesOn_107 : decode b_MD_goesOn 107 = .ok (.iload_n 2, 1) := by decide +kernel
theorem d_MD_goesOn_108 : decode b_MD_goesOn 108 = .ok (.aload_n 0, 1) := by decide +kernel
theorem d_MD_goesOn_109 : decode b_MD_goesOn 109 = .ok (.getfield 42, 3) := by decide +kernel
theorem d_MD_goesOn_112 : decode b_MD_goesOn 112 = .ok (.aload_n 0, 1) := by decide +kernel
theorem d_MD_goesOn_113 : decode b_MD_goesOn 113 = .ok (.getfield 46, 3) := by decide +kernel
theorem d_MD_goesOn_116 : decode b_MD_goesOn 116 = .ok (.iload_n 1, 1) := by decide +kernel
theorem d_MD_goesOn_117 : decode b_MD_goesOn 117 = .ok (.invokevirtual 109, 3) := by decide +kernel
theorem d_MD_goesOn_120 : decode b_MD_goesOn 120 = .ok (.ifCond .ne 5, 3) := by decide +kernel
theorem d_MD_goesOn_123 : decode b_MD_goesOn 123 = .ok (.iconst 0, 1) := by decide +kernel
theorem d_MD_goesOn_124 : decode b_MD_goesOn 124 = .ok (.ireturn, 1) := by decide +kernel
theorem d_MD_goesOn_125 : decode b_MD_goesOn 125 = .ok (.iinc 2 1, 3) := by decide +kernel
theorem d_MD_goesOn_128 : decode b_MD_goesOn 128 = .ok (.goto (-30), 3) := by decide +kernel
theorem d_MD_goesOn_131 : decode b_MD_goesOn 131 = .ok (.iconst 1, 1) := by decide +kernel
theorem d_MD_goesOn_132 : decode b_MD_goesOn 132 = .ok (.ireturn, 1) := by decide +kernel
theorem d_MD_free_0 : decode b_MD_free 0 = .ok (.iconst 0, 1) := by decide +kernel
theorem d_MD_free_1 : decode b_MD_free 1 = .ok (.istore_n 3, 1) := by decide +kernel
theorem d_MD_free_2 : decode b_MD_free 2 = .ok (.iconst 0, 1) := by decide +kernel
theorem d_MD_free_3 : decode b_MD_free 3 = .ok (.istore 4, 2) := by decide +kernel
theorem d_MD_free_5 : decode b_MD_free 5 = .ok (.iload 4, 2) := by decide +kernel
theorem d_MD_free_7 : decode b_MD_free 7 = .ok (.aload_n 0, 1) := by decide +kernel
theorem d_MD_free_8 : decode b_MD_free 8 = .ok (.getfield 49, 3) := by decide +kernel
theorem d_MD_free_11 : decode b_MD_free 11 = .ok (.if_icmp .ge 87, 3) := by decide +kernel
theorem d_MD_free_14 : decode b_MD_free 14 = .ok (.iload 4, 2) := by decide +kernel
theorem d_MD_free_16 : decode b_MD_free 16 = .ok (.iload_n 1, 1) := by decide +kernel
theorem d_MD_free_17 : decode b_MD_free 17 = .ok (.if_icmp .eq 39, 3) := by decide +kernel
theorem d_MD_free_20 : decode b_MD_free 20 = .ok (.iload 4, 2) := by decide +kernel
theorem d_MD_free_22 : decode b_MD_free 22 = .ok (.aload_n 0, 1) := by decide +kernel
theorem d_MD_free_23 : decode b_MD_free 23 = .ok (.getfield 42, 3) := by decide +kernel
theorem d_MD_free_26 : decode b_MD_free 26 = .ok (.irem, 1) := by decide +kernel
theorem d_MD_free_27 : decode b_MD_free 27 = .ok (.iload_n 1, 1) := by decide +kernel
theorem d_MD_free_28 : decode b_MD_free 28 = .ok (.aload_n 0, 1) := by decide +kernel
theorem d_MD_free_29 : decode b_MD_free 29 = .ok (.getfield 42, 3) := by decide +kernel
theorem d_MD_free_32 : decode b_MD_free 32 = .ok (.irem, 1) := by decide +kernel
theorem d_MD_free_33 : decode b_MD_free 33 = .ok (.if_icmp .eq 19, 3) := by decide +kernel
theorem d_MD_free_36 : decode b_MD_free 36 = .ok (.iload 4, 2) := by decide +kernel
theorem d_MD_free_38 : decode b_MD_free 38 = .ok (.aload_n 0, 1) := by decide +kernel
theorem d_MD_free_39 : decode b_MD_free 39 = .ok (.getfield 42, 3) := by decide +kernel
theorem d_MD_free_42 : decode b_MD_free 42 = .ok (.idiv, 1) := by decide +kernel
theorem d_MD_free_43 : decode b_MD_free 43 = .ok (.iload_n 1, 1) := by decide +kernel
theorem d_MD_free_44 : decode b_MD_free 44 = .ok (.aload_n 0, 1) := by decide +kernel
theorem d_MD_free_45 : decode b_MD_free 45 = .ok (.getfield 42, 3) := by decide +kernel
theorem d_MD_free_48 : decode b_MD_free 48 = .ok (.idiv, 1) := by decide +kernel
theorem d_MD_free_49 : decode b_MD_free 49 = .ok (.if_icmp .ne 7, 3) := by decide +kernel
theorem d_MD_free_52 : decode b_MD_free 52 = .ok (.iconst 1, 1) := by decide +kernel
theorem d_MD_free_53 : decode b_MD_free 53 = .ok (.goto 4, 3) := by decide +kernel
theorem d_MD_free_56 : decode b_MD_free 56 = .ok (.iconst 0, 1) := by decide +kernel
theorem d_MD_free_57 : decode b_MD_free 57 = .ok (.istore 5, 2) := by decide +kernel
theorem d_MD_free_59 : decode b_MD_free 59 = .ok (.iload 5, 2) := by decide +kernel
theorem d_MD_free_61 : decode b_MD_free 61 = .ok (.ifCond .eq 31, 3) := by decide +kernel
theorem d_MD_free_64 : decode b_MD_free 64 = .ok (.iload_n 3, 1) := by decide +kernel
theorem d_MD_free_65 : decode b_MD_free 65 = .ok (.iconst 1, 1) := by decide +kernel
theorem d_MD_free_66 : decode b_MD_free 66 = .ok (.iload 4, 2) := by decide +kernel
theorem d_MD_free_68 : decode b_MD_free 68 = .ok (.iload_n 2, 1) := by decide +kernel
theorem d_MD_free_69 : decode b_MD_free 69 = .ok (.if_icmp .gt 13, 3) := by decide +kernel
theorem d_MD_free_72 : decode b_MD_free 72 = .ok (.aload_n 0, 1) := by decide +kernel
theorem d_MD_free_73 : decode b_MD_free 73 = .ok (.getfield 29, 3) := by decide +kernel
theorem d_MD_free_76 : decode b_MD_free 76 = .ok (.iload 4, 2) := by decide +kernel
theorem d_MD_free_78 : decode b_MD_free 78 = .ok (.iaload, 1) := by decide +kernel
theorem d_MD_free_79 : decode b_MD_free 79 = .ok (.goto 10, 3) := by decide +kernel
theorem d_MD_free_82 : decode b_MD_free 82 = .ok (.aload_n 0, 1) := by decide +kernel
theorem d_MD_free_83 : decode b_MD_free 83 = .ok (.getfield 26, 3) := by decide +kernel
theorem d_MD_free_86 : decode b_MD_free 86 = .ok (.iload 4, 2) := by decide +kernel
theorem d_MD_free_88 : decode b_MD_free 88 = .ok (.iaload, 1) := by decide +kernel
theorem d_MD_free_89 : decode b_MD_free 89 = .ok (.ishl, 1) := by decide +kernel
theorem d_MD_free_90 : decode b_MD_free 90 = .ok (.ior, 1) := by decide +kernel
theorem d_MD_free_91 : decode b_MD_free 91 = .ok (.istore_n 3, 1) := by decide +kernel
theorem d_MD_free_92 : decode b_MD_free 92 = .ok (.iinc 4 1, 3) := by decide +kernel
theorem d_MD_free_95 : decode b_MD_free 95 = .ok (.goto (-90), 3) := by decide +kernel
theorem d_MD_free_98 : decode b_MD_free 98 = .ok (.iconst 2, 1) := by decide +kernel
theorem d_MD_free_99 : decode b_MD_free 99 = .ok (.aload_n 0, 1) := by decide +kernel
theorem d_MD_free_100 : decode b_MD_free 100 = .ok (.getfield 52, 3) := by decide +kernel
theorem d_MD_free_103 : decode b_MD_free 103 = .ok (.ishl, 1) := by decide +kernel
theorem d_MD_free_104 : decode b_MD_free 104 = .ok (.iconst 2, 1) := by decide +kernel
theorem d_MD_free_105 : decode b_MD_free 105 = .ok (.isub, 1) := by decide +kernel
theorem d_MD_free_106 : decode b_MD_free 106 = .ok (.iload_n 3, 1) := by decide +kernel
theorem d_MD_free_107 : decode b_MD_free 107 = .ok (.iconst (-1), 1) := by decide +kernel
theorem d_MD_free_108 : decode b_MD_free 108 = .ok (.ixor, 1) := by decide +kernel
theorem d_MD_free_109 : decode b_MD_free 109 = .ok (.iand, 1) := by decide +kernel
theorem d_MD_free_110 : decode b_MD_free 110 = .ok (.istore 4, 2) := by decide +kernel
theorem d_MD_free_112 : decode b_MD_free 112 = .ok (.aload_n 0, 1) := by decide +kernel
theorem d_MD_free_113 : decode b_MD_free 113 = .ok (.getfield 26, 3) := by decide +kernel
theorem d_MD_free_116 : decode b_MD_free 116 = .ok (.iload_n 1, 1) := by decide +kernel
theorem d_MD_free_117 : decode b_MD_free 117 = .ok (.iaload, 1) := by decide +kernel
theorem d_MD_free_118 : decode b_MD_free 118 = .ok (.ifCond .ne 8, 3) := by decide +kernel
theorem d_MD_free_121 : decode b_MD_free 121 = .ok (.iload 4, 2) := by decide +kernel
theorem d_MD_free_123 : decode b_MD_free 123 = .ok (.goto 14, 3) := by decide +kernel
theorem d_MD_free_126 : decode b_MD_free 126 = .ok (.iload 4, 2) := by decide +kernel
theorem d_MD_free_128 : decode b_MD_free 128 = .ok (.iconst 1, 1) := by decide +kernel
theorem d_MD_free_129 : decode b_MD_free 129 = .ok (.aload_n 0, 1) := by decide +kernel
theorem d_MD_free_130 : decode b_MD_free 130 = .ok (.getfield 26, 3) := by decide +kernel
theorem d_MD_free_133 : decode b_MD_free 133 = .ok (.iload_n 1, 1) := by decide +kernel
theorem d_MD_free_134 : decode b_MD_free 134 = .ok (.iaload, 1) := by decide +kernel
theorem d_MD_free_135 : decode b_MD_free 135 = .ok (.ishl, 1) := by decide +kernel
theorem d_MD_free_136 : decode b_MD_free 136 = .ok (.iand, 1) := by decide +kernel
theorem d_MD_free_137 : decode b_MD_free 137 = .ok (.ireturn, 1) := by decide +kernel
theorem d_MD_enough_0 : decode b_MD_enough 0 = .ok (.iconst 0, 1) := by decide +kernel
theorem d_MD_enough_1 : decode b_MD_enough 1 = .ok (.istore 5, 2) := by decide +kernel
theorem d_MD_enough_3 : decode b_MD_enough 3 = .ok (.iconst 0, 1) := by decide +kernel
theorem d_MD_enough_4 : decode b_MD_enough 4 = .ok (.istore 6, 2) := by decide +kernel
theorem d_MD_enough_6 : decode b_MD_enough 6 = .ok (.iconst 0, 1) := by decide +kernel
theorem d_MD_enough_7 : decode b_MD_enough 7 = .ok (.istore 7, 2) := by decide +kernel
theorem d_MD_enough_9 : decode b_MD_enough 9 = .ok (.iload 7, 2) := by decide +kernel
theorem d_MD_enough_11 : decode b_MD_enough 11 = .ok (.iload_n 3, 1) := by decide +kernel
theorem d_MD_enough_12 : decode b_MD_enough 12 = .ok (.if_icmp .ge 39, 3) := by decide +kernel
theorem d_MD_enough_15 : decode b_MD_enough 15 = .ok (.iload_n 1, 1) := by decide +kernel
theorem d_MD_enough_16 : decode b_MD_enough 16 = .ok (.iload_n 2, 1) := by decide +kernel
theorem d_MD_enough_17 : decode b_MD_enough 17 = .ok (.iload 7, 2) := by decide +kernel
theorem d_MD_enough_19 : decode b_MD_enough 19 = .ok (.imul, 1) := by decide +kernel
theorem d_MD_enough_20 : decode b_MD_enough 20 = .ok (.iadd, 1) := by decide +kernel
theorem d_MD_enough_21 : decode b_MD_enough 21 = .ok (.istore 8, 2) := by decide +kernel
theorem d_MD_enough_23 : decode b_MD_enough 23 = .ok (.iload 8, 2) := by decide +kernel
theorem d_MD_enough_25 : decode b_MD_enough 25 = .ok (.iload 4, 2) := by decide +kernel
theorem d_MD_enough_27 : decode b_MD_enough 27 = .ok (.if_icmp .le 18, 3) := by decide +kernel
theorem d_MD_enough_30 : decode b_MD_enough 30 = .ok (.iload 5, 2) := by decide +kernel
theorem d_MD_enough_32 : decode b_MD_enough 32 = .ok (.aload_n 0, 1) := by decide +kernel
theorem d_MD_enough_33 : decode b_MD_enough 33 = .ok (.getfield 35, 3) := by decide +kernel
theorem d_MD_enough_36 : decode b_MD_enough 36 = .ok (.iload 8, 2) := by decide +kernel
theorem d_MD_enough_38 : decode b_MD_enough 38 = .ok (.iaload, 1) := by decide +kernel
theorem d_MD_enough_39 : decode b_MD_enough 39 = .ok (.ior, 1) := by decide +kernel
theorem d_MD_enough_40 : decode b_MD_enough 40 = .ok (.istore 5, 2) := by decide +kernel
theorem d_MD_enough_42 : decode b_MD_enough 42 = .ok (.iinc 6 1, 3) := by decide +kernel
theorem d_MD_enough_45 : decode b_MD_enough 45 = .ok (.iinc 7 1, 3) := by decide +kernel
theorem d_MD_enough_48 : decode b_MD_enough 48 = .ok (.goto (-39), 3) := by decide +kernel
theorem d_MD_enough_51 : decode b_MD_enough 51 = .ok (.iload 5, 2) := by decide +kernel
theorem d_MD_enough_53 : decode b_MD_enough 53 = .ok (.invokestatic 113, 3) := by decide +kernel
theorem d_MD_enough_56 : decode b_MD_enough 56 = .ok (.iload 6, 2) := by decide +kernel
theorem d_MD_enough_58 : decode b_MD_enough 58 = .ok (.if_icmp .lt 7, 3) := by decide +kernel
theorem d_MD_enough_61 : decode b_MD_enough 61 = .ok (.iconst 1, 1) := by decide +kernel
theorem d_MD_enough_62 : decode b_MD_enough 62 = .ok (.goto 4, 3) := by decide +kernel
theorem d_MD_enough_65 : decode b_MD_enough 65 = .ok (.iconst 0, 1) := by decide +kernel
theorem d_MD_enough_66 : decode b_MD_enough 66 = .ok (.ireturn, 1) := by decide +kernel
theorem d_MD_bits_0 : decode b_MD_bits 0 = .ok (.iconst 0, 1) := by decide +kernel
theorem d_MD_bits_1 : decode b_MD_bits 1 = .ok (.istore_n 1, 1) := by decide +kernel
theorem d_MD_bits_2 : decode b_MD_bits 2 = .ok (.iconst 0, 1) := by decide +kernel
theorem d_MD_bits_3 : decode b_MD_bits 3 = .ok (.istore_n 2, 1) := by decide +kernel
theorem d_MD_bits_4 : decode b_MD_bits 4 = .ok (.iload_n 2, 1) := by decide +kernel
theorem d_MD_bits_5 : decode b_MD_bits 5 = .ok (.bipush 8, 2) := by decide +kernel
theorem d_MD_bits_7 : decode b_MD_bits 7 = .ok (.if_icmp .ge 17, 3) := by decide +kernel
theorem d_MD_bits_10 : decode b_MD_bits 10 = .ok (.iload_n 1, 1) := by decide +kernel
theorem d_MD_bits_11 : decode b_MD_bits 11 = .ok (.iload_n 0, 1) := by decide +kernel
theorem d_MD_bits_12 : decode b_MD_bits 12 = .ok (.iload_n 2, 1) := by decide +kernel
theorem d_MD_bits_13 : decode b_MD_bits 13 = .ok (.ishr, 1) := by decide +kernel
theorem d_MD_bits_14 : decode b_MD_bits 14 = .ok (.iconst 1, 1) := by decide +kernel
theorem d_MD_bits_15 : decode b_MD_bits 15 = .ok (.iand, 1) := by decide +kernel
theorem d_MD_bits_16 : decode b_MD_bits 16 = .ok (.iadd, 1) := by decide +kernel
theorem d_MD_bits_17 : decode b_MD_bits 17 = .ok (.istore_n 1, 1) := by decide +kernel
theorem d_MD_bits_18 : decode b_MD_bits 18 = .ok (.iinc 2 1, 3) := by decide +kernel
theorem d_MD_bits_21 : decode b_MD_bits 21 = .ok (.goto (-17), 3) := by decide +kernel
theorem d_MD_bits_24 : decode b_MD_bits 24 = .ok (.iload_n 1, 1) := by decide +kernel
theorem d_MD_bits_25 : decode b_MD_bits 25 = .ok (.ireturn, 1) := by decide +kernel
theorem d_MD_fits_0 : decode b_MD_fits 0 = .ok (.iload_n 1, 1) := by decide +kernel
theorem d_MD_fits_1 : decode b_MD_fits 1 = .ok (.aload_n 0, 1) := by decide +kernel
theorem d_MD_fits_2 : decode b_MD_fits 2 = .ok (.getfield 42, 3) := by decide +kernel
theorem d_MD_fits_5 : decode b_MD_fits 5 = .ok (.irem, 1) := by decide +kernel
theorem d_MD_fits_6 : decode b_MD_fits 6 = .ok (.istore_n 3, 1) := by decide +kernel
theorem d_MD_fits_7 : decode b_MD_fits 7 = .ok (.iload_n 1, 1) := by decide +kernel
theorem d_MD_fits_8 : decode b_MD_fits 8 = .ok (.aload_n 0, 1) := by decide +kernel
theorem d_MD_fits_9 : decode b_MD_fits 9 = .ok (.getfield 42, 3) := by decide +kernel
theorem d_MD_fits_12 : decode b_MD_fits 12 = .ok (.idiv, 1) := by decide +kernel
theorem d_MD_fits_13 : decode b_MD_fits 13 = .ok (.istore 4, 2) := by decide +kernel
theorem d_MD_fits_15 : decode b_MD_fits 15 = .ok (.iconst 0, 1) := by decide +kernel
theorem d_MD_fits_16 : decode b_MD_fits 16 = .ok (.istore 5, 2) := by decide +kernel
theorem d_MD_fits_18 : decode b_MD_fits 18 = .ok (.iload 5, 2) := by decide +kernel
theorem d_MD_fits_20 : decode b_MD_fits 20 = .ok (.aload_n 0, 1) := by decide +kernel
theorem d_MD_fits_21 : decode b_MD_fits 21 = .ok (.getfield 42, 3) := by decide +kernel
theorem d_MD_fits_24 : decode b_MD_fits 24 = .ok (.if_icmp .ge 56, 3) := by decide +kernel
theorem d_MD_fits_27 : decode b_MD_fits 27 = .ok (.iload 5, 2) := by decide +kernel
theorem d_MD_fits_29 : decode b_MD_fits 29 = .ok (.aload_n 0, 1) := by decide +kernel
theorem d_MD_fits_30 : decode b_MD_fits 30 = .ok (.getfield 42, 3) := by decide +kernel
theorem d_MD_fits_33 : decode b_MD_fits 33 = .ok (.iload 4, 2) := by decide +kernel
theorem d_MD_fits_35 : decode b_MD_fits 35 = .ok (.imul, 1) := by decide +kernel
theorem d_MD_fits_36 : decode b_MD_fits 36 = .ok (.iadd, 1) := by decide +kernel
theorem d_MD_fits_37 : decode b_MD_fits 37 = .ok (.istore 6, 2) := by decide +kernel
theorem d_MD_fits_39 : decode b_MD_fits 39 = .ok (.iload 6, 2) := by decide +kernel
theorem d_MD_fits_41 : decode b_MD_fits 41 = .ok (.iload_n 1, 1) := by decide +kernel
theorem d_MD_fits_42 : decode b_MD_fits 42 = .ok (.if_icmp .eq 32, 3) := by decide +kernel
theorem d_MD_fits_45 : decode b_MD_fits 45 = .ok (.iload 6, 2) := by decide +kernel
theorem d_MD_fits_47 : decode b_MD_fits 47 = .ok (.iload_n 1, 1) := by decide +kernel
theorem d_MD_fits_48 : decode b_MD_fits 48 = .ok (.if_icmp .ge 13, 3) := by decide +kernel
theorem d_MD_fits_51 : decode b_MD_fits 51 = .ok (.aload_n 0, 1) := by decide +kernel
theorem d_MD_fits_52 : decode b_MD_fits 52 = .ok (.getfield 29, 3) := by decide +kernel
theorem d_MD_fits_55 : decode b_MD_fits 55 = .ok (.iload 6, 2) := by decide +kernel
theorem d_MD_fits_57 : decode b_MD_fits 57 = .ok (.iaload, 1) := by decide +kernel
theorem d_MD_fits_58 : decode b_MD_fits 58 = .ok (.goto 10, 3) := by decide +kernel
theorem d_MD_fits_61 : decode b_MD_fits 61 = .ok (.aload_n 0, 1) := by decide +kernel
theorem d_MD_fits_62 : decode b_MD_fits 62 = .ok (.getfield 26, 3) := by decide +kernel
theorem d_MD_fits_65 : decode b_MD_fits 65 = .ok (.iload 6, 2) := by decide +kernel
theorem d_MD_fits_67 : decode b_MD_fits 67 = .ok (.iaload, 1) := by decide +kernel
theorem d_MD_fits_68 : decode b_MD_fits 68 = .ok (.iload_n 2, 1) := by decide +kernel
theorem d_MD_fits_69 : decode b_MD_fits 69 = .ok (.if_icmp .ne 5, 3) := by decide +kernel
theorem d_MD_fits_72 : decode b_MD_fits 72 = .ok (.iconst 0, 1) := by decide +kernel
theorem d_MD_fits_73 : decode b_MD_fits 73 = .ok (.ireturn, 1) := by decide +kernel
theorem d_MD_fits_74 : decode b_MD_fits 74 = .ok (.iinc 5 1, 3) := by decide +kernel
theorem d_MD_fits_77 : decode b_MD_fits 77 = .ok (.goto (-59), 3) := by decide +kernel
theorem d_MD_fits_80 : decode b_MD_fits 80 = .ok (.iconst 0, 1) := by decide +kernel
theorem d_MD_fits_81 : decode b_MD_fits 81 = .ok (.istore 5, 2) := by decide +kernel
theorem d_MD_fits_83 : decode b_MD_fits 83 = .ok (.iload 5, 2) := by decide +kernel
theorem d_MD_fits_85 : decode b_MD_fits 85 = .ok (.aload_n 0, 1) := by decide +kernel
theorem d_MD_fits_86 : decode b_MD_fits 86 = .ok (.getfield 46, 3) := by decide +kernel
theorem d_MD_fits_89 : decode b_MD_fits 89 = .ok (.if_icmp .ge 55, 3) := by decide +kernel
theorem d_MD_fits_92 : decode b_MD_fits 92 = .ok (.iload_n 3, 1) := by decide +kernel
theorem d_MD_fits_93 : decode b_MD_fits 93 = .ok (.aload_n 0, 1) := by decide +kernel
theorem d_MD_fits_94 : decode b_MD_fits 94 = .ok (.getfield 42, 3) := by decide +kernel
theorem d_MD_fits_97 : decode b_MD_fits 97 = .ok (.iload 5, 2) := by decide +kernel
theorem d_MD_fits_99 : decode b_MD_fits 99 = .ok (.imul, 1) := by decide +kernel
theorem d_MD_fits_100 : decode b_MD_fits 100 = .ok (.iadd, 1) := by decide +kernel
theorem d_MD_fits_101 : decode b_MD_fits 101 = .ok (.istore 6, 2) := by decide +kernel
theorem d_MD_fits_103 : decode b_MD_fits 103 = .ok (.iload 6, 2) := by decide +kernel
theorem d_MD_fits_105 : decode b_MD_fits 105 = .ok (.iload_n 1, 1) := by decide +kernel
theorem d_MD_fits_106 : decode b_MD_fits 106 = .ok (.if_icmp .eq 32, 3) := by decide +kernel
theorem d_MD_fits_109 : decode b_MD_fits 109 = .ok (.iload 6, 2) := by decide +kernel
theorem d_MD_fits_111 : decode b_MD_fits 111 = .ok (.iload_n 1, 1) := by decide +kernel
theorem d_MD_fits_112 : decode b_MD_fits 112 = .ok (.if_icmp .ge 13, 3) := by decide +kernel
theorem d_MD_fits_115 : decode b_MD_fits 115 = .ok (.aload_n 0, 1) := by decide +kernel
theorem d_MD_fits_116 : decode b_MD_fits 116 = .ok (.getfield 29, 3) := by decide +kernel
theorem d_MD_fits_119 : decode b_MD_fits 119 = .ok (.iload 6, 2) := by decide +kernel
theorem d_MD_fits_121 : decode b_MD_fits 121 = .ok (.iaload, 1) := by decide +kernel
theorem d_MD_fits_122 : decode b_MD_fits 122 = .ok (.goto 10, 3) := by decide +kernel
theorem d_MD_fits_125 : decode b_MD_fits 125 = .ok (.aload_n 0, 1) := by decide +kernel
theorem d_MD_fits_126 : decode b_MD_fits 126 = .ok (.getfield 26, 3) := by decide +kernel
theorem d_MD_fits_129 : decode b_MD_fits 129 = .ok (.iload 6, 2) := by decide +kernel
theorem d_MD_fits_131 : decode b_MD_fits 131 = .ok (.iaload, 1) := by decide +kernel
theorem d_MD_fits_132 : decode b_MD_fits 132 = .ok (.iload_n 2, 1) := by decide +kernel
theorem d_MD_fits_133 : decode b_MD_fits 133 = .ok (.if_icmp .ne 5, 3) := by decide +kernel
theorem d_MD_fits_136 : decode b_MD_fits 136 = .ok (.iconst 0, 1) := by decide +kernel
theorem d_MD_fits_137 : decode b_MD_fits 137 = .ok (.ireturn, 1) := by decide +kernel
theorem d_MD_fits_138 : decode b_MD_fits 138 = .ok (.iinc 5 1, 3) := by decide +kernel
theorem d_MD_fits_141 : decode b_MD_fits 141 = .ok (.goto (-58), 3) := by decide +kernel
theorem d_MD_fits_144 : decode b_MD_fits 144 = .ok (.aload_n 0, 1) := by decide +kernel
theorem d_MD_fits_145 : decode b_MD_fits 145 = .ok (.getfield 26, 3) := by decide +kernel
theorem d_MD_fits_148 : decode b_MD_fits 148 = .ok (.iload_n 1, 1) := by decide +kernel
theorem d_MD_fits_149 : decode b_MD_fits 149 = .ok (.iaload, 1) := by decide +kernel
theorem d_MD_fits_150 : decode b_MD_fits 150 = .ok (.ifCond .eq 13, 3) := by decide +kernel
theorem d_MD_fits_153 : decode b_MD_fits 153 = .ok (.aload_n 0, 1) := by decide +kernel
theorem d_MD_fits_154 : decode b_MD_fits 154 = .ok (.getfield 26, 3) := by decide +kernel
theorem d_MD_fits_157 : decode b_MD_fits 157 = .ok (.iload_n 1, 1) := by decide +kernel
theorem d_MD_fits_158 : decode b_MD_fits 158 = .ok (.iaload, 1) := by decide +kernel
theorem d_MD_fits_159 : decode b_MD_fits 159 = .ok (.iload_n 2, 1) := by decide +kernel
theorem d_MD_fits_160 : decode b_MD_fits 160 = .ok (.if_icmp .ne 7, 3) := by decide +kernel
theorem d_MD_fits_163 : decode b_MD_fits 163 = .ok (.iconst 1, 1) := by decide +kernel
theorem d_MD_fits_164 : decode b_MD_fits 164 = .ok (.goto 4, 3) := by decide +kernel
theorem d_MD_fits_167 : decode b_MD_fits 167 = .ok (.iconst 0, 1) := by decide +kernel
theorem d_MD_fits_168 : decode b_MD_fits 168 = .ok (.ireturn, 1) := by decide +kernel
theorem d_MD_number_0 : decode b_MD_number 0 = .ok (.aload_n 0, 1) := by decide +kernel
theorem d_MD_number_1 : decode b_MD_number 1 = .ok (.iconst 0, 1) := by decide +kernel
theorem d_MD_number_2 : decode b_MD_number 2 = .ok (.putfield 55, 3) := by decide +kernel
theorem d_MD_number_5 : decode b_MD_number 5 = .ok (.aload_n 0, 1) := by decide +kernel
theorem d_MD_number_6 : decode b_MD_number 6 = .ok (.iload_n 1, 1) := by decide +kernel
theorem d_MD_number_7 : decode b_MD_number 7 = .ok (.iload_n 2, 1) := by decide +kernel
theorem d_MD_number_8 : decode b_MD_number 8 = .ok (.invokevirtual 58, 3) := by decide +kernel
theorem d_MD_number_11 : decode b_MD_number 11 = .ok (.ifCond .ne 7, 3) := by decide +kernel
theorem d_MD_number_14 : decode b_MD_number 14 = .ok (.iconst (-1), 1) := by decide +kernel
theorem d_MD_number_15 : decode b_MD_number 15 = .ok (.goto 27, 3) := by decide +kernel
theorem d_MD_number_18 : decode b_MD_number 18 = .ok (.aload_n 0, 1) := by decide +kernel
theorem d_MD_number_19 : decode b_MD_number 19 = .ok (.getfield 102, 3) := by decide +kernel
theorem d_MD_number_22 : decode b_MD_number 22 = .ok (.ifCond .eq 19, 3) := by decide +kernel
theorem d_MD_number_25 : decode b_MD_number 25 = .ok (.aload_n 0, 1) := by decide +kernel
theorem d_MD_number_26 : decode b_MD_number 26 = .ok (.getfield 32, 3) := by decide +kernel
theorem d_MD_number_29 : decode b_MD_number 29 = .ok (.iload_n 1, 1) := by decide +kernel
theorem d_MD_number_30 : decode b_MD_number 30 = .ok (.aload_n 0, 1) := by decide +kernel
theorem d_MD_number_31 : decode b_MD_number 31 = .ok (.getfield 42, 3) := by decide +kernel
theorem d_MD_number_34 : decode b_MD_number 34 = .ok (.iload_n 2, 1) := by decide +kernel
theorem d_MD_number_35 : decode b_MD_number 35 = .ok (.imul, 1) := by decide +kernel
theorem d_MD_number_36 : decode b_MD_number 36 = .ok (.iadd, 1) := by decide +kernel
theorem d_MD_number_37 : decode b_MD_number 37 = .ok (.iaload, 1) := by decide +kernel
theorem d_MD_number_38 : decode b_MD_number 38 = .ok (.goto 4, 3) := by decide +kernel
theorem d_MD_number_41 : decode b_MD_number 41 = .ok (.iconst 0, 1) := by decide +kernel
theorem d_MD_number_42 : decode b_MD_number 42 = .ok (.ireturn, 1) := by decide +kernel
theorem d_MD_fills_0 : decode b_MD_fills 0 = .ok (.aload_n 0, 1) := by decide +kernel
theorem d_MD_fills_1 : decode b_MD_fills 1 = .ok (.iconst 0, 1) := by decide +kernel
theorem d_MD_fills_2 : decode b_MD_fills 2 = .ok (.putfield 55, 3) := by decide +kernel
theorem d_MD_fills_5 : decode b_MD_fills 5 = .ok (.iload_n 1, 1) := by decide +kernel
theorem d_MD_fills_6 : decode b_MD_fills 6 = .ok (.ifCond .lt 10, 3) := by decide +kernel
theorem d_MD_fills_9 : decode b_MD_fills 9 = .ok (.iload_n 1, 1) := by decide +kernel
theorem d_MD_fills_10 : decode b_MD_fills 10 = .ok (.sipush 1000, 3) := by decide +kernel
theorem d_MD_fills_13 : decode b_MD_fills 13 = .ok (.if_icmp .le 7, 3) := by decide +kernel
theorem d_MD_fills_16 : decode b_MD_fills 16 = .ok (.iconst (-1), 1) := by decide +kernel
theorem d_MD_fills_17 : decode b_MD_fills 17 = .ok (.goto 9, 3) := by decide +kernel
theorem d_MD_fills_20 : decode b_MD_fills 20 = .ok (.aload_n 0, 1) := by decide +kernel
theorem d_MD_fills_21 : decode b_MD_fills 21 = .ok (.iload_n 1, 1) := by decide +kernel
theorem d_MD_fills_22 : decode b_MD_fills 22 = .ok (.iconst 0, 1) := by decide +kernel
theorem d_MD_fills_23 : decode b_MD_fills 23 = .ok (.invokevirtual 122, 3) := by decide +kernel
theorem d_MD_fills_26 : decode b_MD_fills 26 = .ok (.ireturn, 1) := by decide +kernel
theorem d_MD_magic_0 : decode b_MD_magic 0 = .ok (.aload_n 0, 1) := by decide +kernel
theorem d_MD_magic_1 : decode b_MD_magic 1 = .ok (.iconst 0, 1) := by decide +kernel
theorem d_MD_magic_2 : decode b_MD_magic 2 = .ok (.putfield 55, 3) := by decide +kernel
theorem d_MD_magic_5 : decode b_MD_magic 5 = .ok (.iload_n 1, 1) := by decide +kernel
theorem d_MD_magic_6 : decode b_MD_magic 6 = .ok (.iconst 1, 1) := by decide +kernel
theorem d_MD_magic_7 : decode b_MD_magic 7 = .ok (.if_icmp .lt 33, 3) := by decide +kernel
theorem d_MD_magic_10 : decode b_MD_magic 10 = .ok (.iload_n 1, 1) := by decide +kernel
theorem d_MD_magic_11 : decode b_MD_magic 11 = .ok (.bipush 15, 2) := by decide +kernel
theorem d_MD_magic_13 : decode b_MD_magic 13 = .ok (.if_icmp .gt 27, 3) := by decide +kernel
theorem d_MD_magic_16 : decode b_MD_magic 16 = .ok (.iload_n 1, 1) := by decide +kernel
theorem d_MD_magic_17 : decode b_MD_magic 17 = .ok (.iconst 2, 1) := by decide +kernel
theorem d_MD_magic_18 : decode b_MD_magic 18 = .ok (.irem, 1) := by decide +kernel
theorem d_MD_magic_19 : decode b_MD_magic 19 = .ok (.ifCond .eq 21, 3) := by decide +kernel
theorem d_MD_magic_22 : decode b_MD_magic 22 = .ok (.iload_n 2, 1) := by decide +kernel
theorem d_MD_magic_23 : decode b_MD_magic 23 = .ok (.ifCond .lt 17, 3) := by decide +kernel
theorem d_MD_magic_26 : decode b_MD_magic 26 = .ok (.iload_n 2, 1) := by decide +kernel
theorem d_MD_magic_27 : decode b_MD_magic 27 = .ok (.iload_n 1, 1) := by decide +kernel
theorem d_MD_magic_28 : decode b_MD_magic 28 = .ok (.if_icmp .ge 12, 3) := by decide +kernel
theorem d_MD_magic_31 : decode b_MD_magic 31 = .ok (.iload_n 3, 1) := by decide +kernel
theorem d_MD_magic_32 : decode b_MD_magic 32 = .ok (.ifCond .lt 8, 3) := by decide +kernel
theorem d_MD_magic_35 : decode b_MD_magic 35 = .ok (.iload_n 3, 1) := by decide +kernel
theorem d_MD_magic_36 : decode b_MD_magic 36 = .ok (.iload_n 1, 1) := by decide +kernel
theorem d_MD_magic_37 : decode b_MD_magic 37 = .ok (.if_icmp .lt 5, 3) := by decide +kernel
theorem d_MD_magic_40 : decode b_MD_magic 40 = .ok (.iconst (-1), 1) := by decide +kernel
theorem d_MD_magic_41 : decode b_MD_magic 41 = .ok (.ireturn, 1) := by decide +kernel
theorem d_MD_magic_42 : decode b_MD_magic 42 = .ok (.iload_n 1, 1) := by decide +kernel
theorem d_MD_magic_43 : decode b_MD_magic 43 = .ok (.iconst 2, 1) := by decide +kernel
theorem d_MD_magic_44 : decode b_MD_magic 44 = .ok (.idiv, 1) := by decide +kernel
theorem d_MD_magic_45 : decode b_MD_magic 45 = .ok (.istore 4, 2) := by decide +kernel
theorem d_MD_magic_47 : decode b_MD_magic 47 = .ok (.iconst 0, 1) := by decide +kernel
theorem d_MD_magic_48 : decode b_MD_magic 48 = .ok (.istore 5, 2) := by decide +kernel
theorem d_MD_magic_50 : decode b_MD_magic 50 = .ok (.iconst 1, 1) := by decide +kernel
theorem d_MD_magic_51 : decode b_MD_magic 51 = .ok (.istore 6, 2) := by decide +kernel
theorem d_MD_magic_53 : decode b_MD_magic 53 = .ok (.iload 4, 2) := by decide +kernel
theorem d_MD_magic_55 : decode b_MD_magic 55 = .ok (.iload_n 2, 1) := by decide +kernel
theorem d_MD_magic_56 : decode b_MD_magic 56 = .ok (.if_icmp .ne 9, 3) := by decide +kernel
theorem d_MD_magic_59 : decode b_MD_magic 59 = .ok (.iload 5, 2) := by decide +kernel
theorem d_MD_magic_61 : decode b_MD_magic 61 = .ok (.iload_n 3, 1) := by decide +kernel
theorem d_MD_magic_62 : decode b_MD_magic 62 = .ok (.if_icmp .eq 45, 3) := by decide +kernel
theorem d_MD_magic_65 : decode b_MD_magic 65 = .ok (.iload 6, 2) := by decide +kernel
theorem d_MD_magic_67 : decode b_MD_magic 67 = .ok (.iload_n 1, 1) := by decide +kernel
theorem d_MD_magic_68 : decode b_MD_magic 68 = .ok (.irem, 1) := by decide +kernel
theorem d_MD_magic_69 : decode b_MD_magic 69 = .ok (.ifCond .ne 14, 3) := by decide +kernel
theorem d_MD_magic_72 : decode b_MD_magic 72 = .ok (.iload 5, 2) := by decide +kernel
theorem d_MD_magic_74 : decode b_MD_magic 74 = .ok (.iconst 1, 1) := by decide +kernel
theorem d_MD_magic_75 : decode b_MD_magic 75 = .ok (.iadd, 1) := by decide +kernel
theorem d_MD_magic_76 : decode b_MD_magic 76 = .ok (.iload_n 1, 1) := by decide +kernel
theorem d_MD_magic_77 : decode b_MD_magic 77 = .ok (.irem, 1) := by decide +kernel
theorem d_MD_magic_78 : decode b_MD_magic 78 = .ok (.istore 5, 2) := by decide +kernel
theorem d_MD_magic_80 : decode b_MD_magic 80 = .ok (.goto 21, 3) := by decide +kernel
theorem d_MD_magic_83 : decode b_MD_magic 83 = .ok (.iload 4, 2) := by decide +kernel
theorem d_MD_magic_85 : decode b_MD_magic 85 = .ok (.iconst 1, 1) := by decide +kernel
theorem d_MD_magic_86 : decode b_MD_magic 86 = .ok (.iadd, 1) := by decide +kernel
theorem d_MD_magic_87 : decode b_MD_magic 87 = .ok (.iload_n 1, 1) := by decide +kernel
theorem d_MD_magic_88 : decode b_MD_magic 88 = .ok (.irem, 1) := by decide +kernel
theorem d_MD_magic_89 : decode b_MD_magic 89 = .ok (.istore 4, 2) := by decide +kernel
theorem d_MD_magic_91 : decode b_MD_magic 91 = .ok (.iload 5, 2) := by decide +kernel
theorem d_MD_magic_93 : decode b_MD_magic 93 = .ok (.iload_n 1, 1) := by decide +kernel
theorem d_MD_magic_94 : decode b_MD_magic 94 = .ok (.iadd, 1) := by decide +kernel
theorem d_MD_magic_95 : decode b_MD_magic 95 = .ok (.iconst 1, 1) := by decide +kernel
theorem d_MD_magic_96 : decode b_MD_magic 96 = .ok (.isub, 1) := by decide +kernel
theorem d_MD_magic_97 : decode b_MD_magic 97 = .ok (.iload_n 1, 1) := by decide +kernel
theorem d_MD_magic_98 : decode b_MD_magic 98 = .ok (.irem, 1) := by decide +kernel
theorem d_MD_magic_99 : decode b_MD_magic 99 = .ok (.istore 5, 2) := by decide +kernel
theorem d_MD_magic_101 : decode b_MD_magic 101 = .ok (.iinc 6 1, 3) := by decide +kernel
theorem d_MD_magic_104 : decode b_MD_magic 104 = .ok (.goto (-51), 3) := by decide +kernel
theorem d_MD_magic_107 : decode b_MD_magic 107 = .ok (.iload 6, 2) := by decide +kernel
theorem d_MD_magic_109 : decode b_MD_magic 109 = .ok (.ireturn, 1) := by decide +kernel
theorem d_law_0 : decode code 0 = .ok (.new 7, 3) := by decide +kernel
theorem d_law_3 : decode code 3 = .ok (.dup, 1) := by decide +kernel
theorem d_law_4 : decode code 4 = .ok (.aload_n 0, 1) := by decide +kernel
theorem d_law_5 : decode code 5 = .ok (.iconst 0, 1) := by decide +kernel
theorem d_law_6 : decode code 6 = .ok (.invokestatic 9, 3) := by decide +kernel
theorem d_law_9 : decode code 9 = .ok (.aload_n 0, 1) := by decide +kernel
theorem d_law_10 : decode code 10 = .ok (.iconst 1, 1) := by decide +kernel
theorem d_law_11 : decode code 11 = .ok (.invokestatic 9, 3) := by decide +kernel
theorem d_law_14 : decode code 14 = .ok (.invokespecial 15, 3) := by decide +kernel
theorem d_law_17 : decode code 17 = .ok (.astore_n 1, 1) := by decide +kernel
theorem d_law_18 : decode code 18 = .ok (.new 18, 3) := by decide +kernel
theorem d_law_21 : decode code 21 = .ok (.dup, 1) := by decide +kernel
theorem d_law_22 : decode code 22 = .ok (.aload_n 0, 1) := by decide +kernel
theorem d_law_23 : decode code 23 = .ok (.iconst 0, 1) := by decide +kernel
theorem d_law_24 : decode code 24 = .ok (.invokestatic 9, 3) := by decide +kernel
theorem d_law_27 : decode code 27 = .ok (.aload_n 0, 1) := by decide +kernel
theorem d_law_28 : decode code 28 = .ok (.iconst 1, 1) := by decide +kernel
theorem d_law_29 : decode code 29 = .ok (.invokestatic 9, 3) := by decide +kernel
theorem d_law_32 : decode code 32 = .ok (.invokespecial 20, 3) := by decide +kernel
theorem d_law_35 : decode code 35 = .ok (.astore_n 2, 1) := by decide +kernel
theorem d_law_36 : decode code 36 = .ok (.iconst 2, 1) := by decide +kernel
theorem d_law_37 : decode code 37 = .ok (.istore_n 3, 1) := by decide +kernel
theorem d_law_38 : decode code 38 = .ok (.iload_n 3, 1) := by decide +kernel
theorem d_law_39 : decode code 39 = .ok (.aload_n 0, 1) := by decide +kernel
theorem d_law_40 : decode code 40 = .ok (.arraylength, 1) := by decide +kernel
theorem d_law_41 : decode code 41 = .ok (.iconst 4, 1) := by decide +kernel
theorem d_law_42 : decode code 42 = .ok (.isub, 1) := by decide +kernel
theorem d_law_43 : decode code 43 = .ok (.if_icmp .gt 504, 3) := by decide +kernel
theorem d_law_46 : decode code 46 = .ok (.aload_n 0, 1) := by decide +kernel
theorem d_law_47 : decode code 47 = .ok (.iload_n 3, 1) := by decide +kernel
theorem d_law_48 : decode code 48 = .ok (.iaload, 1) := by decide +kernel
theorem d_law_49 : decode code 49 = .ok (.bipush 15, 2) := by decide +kernel
theorem d_law_51 : decode code 51 = .ok (.iand, 1) := by decide +kernel
theorem d_law_52 : decode code 52 = .ok (.tableswitch 489 0 12 #[68, 127, 160, 219, 242, 255, 288, 301, 334, 377, 390, 423, 446], 68) := by decide +kernel
theorem d_law_120 : decode code 120 = .ok (.aload_n 1, 1) := by decide +kernel
theorem d_law_121 : decode code 121 = .ok (.aload_n 0, 1) := by decide +kernel
theorem d_law_122 : decode code 122 = .ok (.iload_n 3, 1) := by decide +kernel
theorem d_law_123 : decode code 123 = .ok (.iconst 1, 1) := by decide +kernel
theorem d_law_124 : decode code 124 = .ok (.iadd, 1) := by decide +kernel
theorem d_law_125 : decode code 125 = .ok (.iaload, 1) := by decide +kernel
theorem d_law_126 : decode code 126 = .ok (.aload_n 0, 1) := by decide +kernel
theorem d_law_127 : decode code 127 = .ok (.iload_n 3, 1) := by decide +kernel
theorem d_law_128 : decode code 128 = .ok (.iconst 2, 1) := by decide +kernel
theorem d_law_129 : decode code 129 = .ok (.iadd, 1) := by decide +kernel
theorem d_law_130 : decode code 130 = .ok (.iaload, 1) := by decide +kernel
theorem d_law_131 : decode code 131 = .ok (.aload_n 0, 1) := by decide +kernel
theorem d_law_132 : decode code 132 = .ok (.iload_n 3, 1) := by decide +kernel
theorem d_law_133 : decode code 133 = .ok (.iconst 3, 1) := by decide +kernel
theorem d_law_134 : decode code 134 = .ok (.iadd, 1) := by decide +kernel
theorem d_law_135 : decode code 135 = .ok (.iaload, 1) := by decide +kernel
theorem d_law_136 : decode code 136 = .ok (.ifCond .eq 7, 3) := by decide +kernel
theorem d_law_139 : decode code 139 = .ok (.iconst 1, 1) := by decide +kernel
theorem d_law_140 : decode code 140 = .ok (.goto 4, 3) := by decide +kernel
theorem d_law_143 : decode code 143 = .ok (.iconst 0, 1) := by decide +kernel
theorem d_law_144 : decode code 144 = .ok (.invokevirtual 21, 3) := by decide +kernel
theorem d_law_147 : decode code 147 = .ok (.aload_n 2, 1) := by decide +kernel
theorem d_law_148 : decode code 148 = .ok (.aload_n 0, 1) := by decide +kernel
theorem d_law_149 : decode code 149 = .ok (.iload_n 3, 1) := by decide +kernel
theorem d_law_150 : decode code 150 = .ok (.iconst 1, 1) := by decide +kernel
theorem d_law_151 : decode code 151 = .ok (.iadd, 1) := by decide +kernel
theorem d_law_152 : decode code 152 = .ok (.iaload, 1) := by decide +kernel
theorem d_law_153 : decode code 153 = .ok (.aload_n 0, 1) := by decide +kernel
theorem d_law_154 : decode code 154 = .ok (.iload_n 3, 1) := by decide +kernel
theorem d_law_155 : decode code 155 = .ok (.iconst 2, 1) := by decide +kernel
theorem d_law_156 : decode code 156 = .ok (.iadd, 1) := by decide +kernel
theorem d_law_157 : decode code 157 = .ok (.iaload, 1) := by decide +kernel
theorem d_law_158 : decode code 158 = .ok (.aload_n 0, 1) := by decide +kernel
theorem d_law_159 : decode code 159 = .ok (.iload_n 3, 1) := by decide +kernel
theorem d_law_160 : decode code 160 = .ok (.iconst 3, 1) := by decide +kernel
theorem d_law_161 : decode code 161 = .ok (.iadd, 1) := by decide +kernel
theorem d_law_162 : decode code 162 = .ok (.iaload, 1) := by decide +kernel
theorem d_law_163 : decode code 163 = .ok (.ifCond .eq 7, 3) := by decide +kernel
theorem d_law_166 : decode code 166 = .ok (.iconst 1, 1) := by decide +kernel
theorem d_law_167 : decode code 167 = .ok (.goto 4, 3) := by decide +kernel
theorem d_law_170 : decode code 170 = .ok (.iconst 0, 1) := by decide +kernel
theorem d_law_171 : decode code 171 = .ok (.invokevirtual 25, 3) := by decide +kernel
theorem d_law_174 : decode code 174 = .ok (.if_icmp .eq 367, 3) := by decide +kernel
theorem d_law_177 : decode code 177 = .ok (.iconst 0, 1) := by decide +kernel
theorem d_law_178 : decode code 178 = .ok (.ireturn, 1) := by decide +kernel
theorem d_law_179 : decode code 179 = .ok (.aload_n 1, 1) := by decide +kernel
theorem d_law_180 : decode code 180 = .ok (.aload_n 0, 1) := by decide +kernel
theorem d_law_181 : decode code 181 = .ok (.iload_n 3, 1) := by decide +kernel
theorem d_law_182 : decode code 182 = .ok (.iconst 1, 1) := by decide +kernel
theorem d_law_183 : decode code 183 = .ok (.iadd, 1) := by decide +kernel
theorem d_law_184 : decode code 184 = .ok (.iaload, 1) := by decide +kernel
theorem d_law_185 : decode code 185 = .ok (.aload_n 0, 1) := by decide +kernel
theorem d_law_186 : decode code 186 = .ok (.iload_n 3, 1) := by decide +kernel
theorem d_law_187 : decode code 187 = .ok (.iconst 2, 1) := by decide +kernel
theorem d_law_188 : decode code 188 = .ok (.iadd, 1) := by decide +kernel
theorem d_law_189 : decode code 189 = .ok (.iaload, 1) := by decide +kernel
theorem d_law_190 : decode code 190 = .ok (.invokevirtual 26, 3) := by decide +kernel
theorem d_law_193 : decode code 193 = .ok (.aload_n 2, 1) := by decide +kernel
theorem d_law_194 : decode code 194 = .ok (.aload_n 0, 1) := by decide +kernel
theorem d_law_195 : decode code 195 = .ok (.iload_n 3, 1) := by decide +kernel
theorem d_law_196 : decode code 196 = .ok (.iconst 1, 1) := by decide +kernel
theorem d_law_197 : decode code 197 = .ok (.iadd, 1) := by decide +kernel
theorem d_law_198 : decode code 198 = .ok (.iaload, 1) := by decide +kernel
theorem d_law_199 : decode code 199 = .ok (.aload_n 0, 1) := by decide +kernel
theorem d_law_200 : decode code 200 = .ok (.iload_n 3, 1) := by decide +kernel
theorem d_law_201 : decode code 201 = .ok (.iconst 2, 1) := by decide +kernel
theorem d_law_202 : decode code 202 = .ok (.iadd, 1) := by decide +kernel
theorem d_law_203 : decode code 203 = .ok (.iaload, 1) := by decide +kernel
theorem d_law_204 : decode code 204 = .ok (.invokevirtual 30, 3) := by decide +kernel
theorem d_law_207 : decode code 207 = .ok (.if_icmp .eq 334, 3) := by decide +kernel
theorem d_law_210 : decode code 210 = .ok (.iconst 0, 1) := by decide +kernel
theorem d_law_211 : decode code 211 = .ok (.ireturn, 1) := by decide +kernel
theorem d_law_212 : decode code 212 = .ok (.aload_n 1, 1) := by decide +kernel
theorem d_law_213 : decode code 213 = .ok (.aload_n 0, 1) := by decide +kernel
theorem d_law_214 : decode code 214 = .ok (.iload_n 3, 1) := by decide +kernel
theorem d_law_215 : decode code 215 = .ok (.iconst 1, 1) := by decide +kernel
theorem d_law_216 : decode code 216 = .ok (.iadd, 1) := by decide +kernel
theorem d_law_217 : decode code 217 = .ok (.iaload, 1) := by decide +kernel
theorem d_law_218 : decode code 218 = .ok (.aload_n 0, 1) := by decide +kernel
theorem d_law_219 : decode code 219 = .ok (.iload_n 3, 1) := by decide +kernel
theorem d_law_220 : decode code 220 = .ok (.iconst 2, 1) := by decide +kernel
theorem d_law_221 : decode code 221 = .ok (.iadd, 1) := by decide +kernel
theorem d_law_222 : decode code 222 = .ok (.iaload, 1) := by decide +kernel
theorem d_law_223 : decode code 223 = .ok (.ifCond .eq 7, 3) := by decide +kernel
theorem d_law_226 : decode code 226 = .ok (.iconst 1, 1) := by decide +kernel
theorem d_law_227 : decode code 227 = .ok (.goto 4, 3) := by decide +kernel
theorem d_law_230 : decode code 230 = .ok (.iconst 0, 1) := by decide +kernel
theorem d_law_231 : decode code 231 = .ok (.aload_n 0, 1) := by decide +kernel
theorem d_law_232 : decode code 232 = .ok (.iload_n 3, 1) := by decide +kernel
theorem d_law_233 : decode code 233 = .ok (.iconst 3, 1) := by decide +kernel
theorem d_law_234 : decode code 234 = .ok (.iadd, 1) := by decide +kernel
theorem d_law_235 : decode code 235 = .ok (.iaload, 1) := by decide +kernel
theorem d_law_236 : decode code 236 = .ok (.invokevirtual 31, 3) := by decide +kernel
theorem d_law_239 : decode code 239 = .ok (.aload_n 2, 1) := by decide +kernel
theorem d_law_240 : decode code 240 = .ok (.aload_n 0, 1) := by decide +kernel
theorem d_law_241 : decode code 241 = .ok (.iload_n 3, 1) := by decide +kernel
theorem d_law_242 : decode code 242 = .ok (.iconst 1, 1) := by decide +kernel
theorem d_law_243 : decode code 243 = .ok (.iadd, 1) := by decide +kernel
theorem d_law_244 : decode code 244 = .ok (.iaload, 1) := by decide +kernel
theorem d_law_245 : decode code 245 = .ok (.aload_n 0, 1) := by decide +kernel
theorem d_law_246 : decode code 246 = .ok (.iload_n 3, 1) := by decide +kernel
theorem d_law_247 : decode code 247 = .ok (.iconst 2, 1) := by decide +kernel
theorem d_law_248 : decode code 248 = .ok (.iadd, 1) := by decide +kernel
theorem d_law_249 : decode code 249 = .ok (.iaload, 1) := by decide +kernel
theorem d_law_250 : decode code 250 = .ok (.ifCond .eq 7, 3) := by decide +kernel
theorem d_law_253 : decode code 253 = .ok (.iconst 1, 1) := by decide +kernel
theorem d_law_254 : decode code 254 = .ok (.goto 4, 3) := by decide +kernel
theorem d_law_257 : decode code 257 = .ok (.iconst 0, 1) := by decide +kernel
theorem d_law_258 : decode code 258 = .ok (.aload_n 0, 1) := by decide +kernel
theorem d_law_259 : decode code 259 = .ok (.iload_n 3, 1) := by decide +kernel
theorem d_law_260 : decode code 260 = .ok (.iconst 3, 1) := by decide +kernel
theorem d_law_261 : decode code 261 = .ok (.iadd, 1) := by decide +kernel
theorem d_law_262 : decode code 262 = .ok (.iaload, 1) := by decide +kernel
theorem d_law_263 : decode code 263 = .ok (.invokevirtual 35, 3) := by decide +kernel
theorem d_law_266 : decode code 266 = .ok (.if_icmp .eq 275, 3) := by decide +kernel
theorem d_law_269 : decode code 269 = .ok (.iconst 0, 1) := by decide +kernel
theorem d_law_270 : decode code 270 = .ok (.ireturn, 1) := by decide +kernel
theorem d_law_271 : decode code 271 = .ok (.aload_n 1, 1) := by decide +kernel
theorem d_law_272 : decode code 272 = .ok (.aload_n 0, 1) := by decide +kernel
theorem d_law_273 : decode code 273 = .ok (.iload_n 3, 1) := by decide +kernel
theorem d_law_274 : decode code 274 = .ok (.iconst 1, 1) := by decide +kernel
theorem d_law_275 : decode code 275 = .ok (.iadd, 1) := by decide +kernel
theorem d_law_276 : decode code 276 = .ok (.iaload, 1) := by decide +kernel
theorem d_law_277 : decode code 277 = .ok (.invokevirtual 36, 3) := by decide +kernel
theorem d_law_280 : decode code 280 = .ok (.aload_n 2, 1) := by decide +kernel
theorem d_law_281 : decode code 281 = .ok (.aload_n 0, 1) := by decide +kernel
theorem d_law_282 : decode code 282 = .ok (.iload_n 3, 1) := by decide +kernel
theorem d_law_283 : decode code 283 = .ok (.iconst 1, 1) := by decide +kernel
theorem d_law_284 : decode code 284 = .ok (.iadd, 1) := by decide +kernel
theorem d_law_285 : decode code 285 = .ok (.iaload, 1) := by decide +kernel
theorem d_law_286 : decode code 286 = .ok (.invokevirtual 40, 3) := by decide +kernel
theorem d_law_289 : decode code 289 = .ok (.if_icmp .eq 252, 3) := by decide +kernel
theorem d_law_292 : decode code 292 = .ok (.iconst 0, 1) := by decide +kernel
theorem d_law_293 : decode code 293 = .ok (.ireturn, 1) := by decide +kernel
theorem d_law_294 : decode code 294 = .ok (.aload_n 1, 1) := by decide +kernel
theorem d_law_295 : decode code 295 = .ok (.invokevirtual 41, 3) := by decide +kernel
theorem d_law_298 : decode code 298 = .ok (.aload_n 2, 1) := by decide +kernel
theorem d_law_299 : decode code 299 = .ok (.invokevirtual 45, 3) := by decide +kernel
theorem d_law_302 : decode code 302 = .ok (.if_icmp .eq 239, 3) := by decide +kernel
theorem d_law_305 : decode code 305 = .ok (.iconst 0, 1) := by decide +kernel
theorem d_law_306 : decode code 306 = .ok (.ireturn, 1) := by decide +kernel
theorem d_law_307 : decode code 307 = .ok (.aload_n 1, 1) := by decide +kernel
theorem d_law_308 : decode code 308 = .ok (.aload_n 0, 1) := by decide +kernel
theorem d_law_309 : decode code 309 = .ok (.iload_n 3, 1) := by decide +kernel
theorem d_law_310 : decode code 310 = .ok (.iconst 1, 1) := by decide +kernel
theorem d_law_311 : decode code 311 = .ok (.iadd, 1) := by decide +kernel
theorem d_law_312 : decode code 312 = .ok (.iaload, 1) := by decide +kernel
theorem d_law_313 : decode code 313 = .ok (.aload_n 0, 1) := by decide +kernel
theorem d_law_314 : decode code 314 = .ok (.iload_n 3, 1) := by decide +kernel
theorem d_law_315 : decode code 315 = .ok (.iconst 2, 1) := by decide +kernel
theorem d_law_316 : decode code 316 = .ok (.iadd, 1) := by decide +kernel
theorem d_law_317 : decode code 317 = .ok (.iaload, 1) := by decide +kernel
theorem d_law_318 : decode code 318 = .ok (.invokevirtual 46, 3) := by decide +kernel
theorem d_law_321 : decode code 321 = .ok (.aload_n 2, 1) := by decide +kernel
theorem d_law_322 : decode code 322 = .ok (.aload_n 0, 1) := by decide +kernel
theorem d_law_323 : decode code 323 = .ok (.iload_n 3, 1) := by decide +kernel
theorem d_law_324 : decode code 324 = .ok (.iconst 1, 1) := by decide +kernel
theorem d_law_325 : decode code 325 = .ok (.iadd, 1) := by decide +kernel
theorem d_law_326 : decode code 326 = .ok (.iaload, 1) := by decide +kernel
theorem d_law_327 : decode code 327 = .ok (.aload_n 0, 1) := by decide +kernel
theorem d_law_328 : decode code 328 = .ok (.iload_n 3, 1) := by decide +kernel
theorem d_law_329 : decode code 329 = .ok (.iconst 2, 1) := by decide +kernel
theorem d_law_330 : decode code 330 = .ok (.iadd, 1) := by decide +kernel
theorem d_law_331 : decode code 331 = .ok (.iaload, 1) := by decide +kernel
theorem d_law_332 : decode code 332 = .ok (.invokevirtual 50, 3) := by decide +kernel
theorem d_law_335 : decode code 335 = .ok (.if_icmp .eq 206, 3) := by decide +kernel
theorem d_law_338 : decode code 338 = .ok (.iconst 0, 1) := by decide +kernel
theorem d_law_339 : decode code 339 = .ok (.ireturn, 1) := by decide +kernel
theorem d_law_340 : decode code 340 = .ok (.aload_n 1, 1) := by decide +kernel
theorem d_law_341 : decode code 341 = .ok (.invokevirtual 51, 3) := by decide +kernel
theorem d_law_344 : decode code 344 = .ok (.aload_n 2, 1) := by decide +kernel
theorem d_law_345 : decode code 345 = .ok (.invokevirtual 54, 3) := by decide +kernel
theorem d_law_348 : decode code 348 = .ok (.if_icmp .eq 193, 3) := by decide +kernel
theorem d_law_351 : decode code 351 = .ok (.iconst 0, 1) := by decide +kernel
theorem d_law_352 : decode code 352 = .ok (.ireturn, 1) := by decide +kernel
theorem d_law_353 : decode code 353 = .ok (.aload_n 1, 1) := by decide +kernel
theorem d_law_354 : decode code 354 = .ok (.aload_n 0, 1) := by decide +kernel
theorem d_law_355 : decode code 355 = .ok (.iload_n 3, 1) := by decide +kernel
theorem d_law_356 : decode code 356 = .ok (.iconst 1, 1) := by decide +kernel
theorem d_law_357 : decode code 357 = .ok (.iadd, 1) := by decide +kernel
theorem d_law_358 : decode code 358 = .ok (.iaload, 1) := by decide +kernel
theorem d_law_359 : decode code 359 = .ok (.aload_n 0, 1) := by decide +kernel
theorem d_law_360 : decode code 360 = .ok (.iload_n 3, 1) := by decide +kernel
theorem d_law_361 : decode code 361 = .ok (.iconst 2, 1) := by decide +kernel
theorem d_law_362 : decode code 362 = .ok (.iadd, 1) := by decide +kernel
theorem d_law_363 : decode code 363 = .ok (.iaload, 1) := by decide +kernel
theorem d_law_364 : decode code 364 = .ok (.invokevirtual 55, 3) := by decide +kernel
theorem d_law_367 : decode code 367 = .ok (.aload_n 2, 1) := by decide +kernel
theorem d_law_368 : decode code 368 = .ok (.aload_n 0, 1) := by decide +kernel
theorem d_law_369 : decode code 369 = .ok (.iload_n 3, 1) := by decide +kernel
theorem d_law_370 : decode code 370 = .ok (.iconst 1, 1) := by decide +kernel
theorem d_law_371 : decode code 371 = .ok (.iadd, 1) := by decide +kernel
theorem d_law_372 : decode code 372 = .ok (.iaload, 1) := by decide +kernel
theorem d_law_373 : decode code 373 = .ok (.aload_n 0, 1) := by decide +kernel
theorem d_law_374 : decode code 374 = .ok (.iload_n 3, 1) := by decide +kernel
theorem d_law_375 : decode code 375 = .ok (.iconst 2, 1) := by decide +kernel
theorem d_law_376 : decode code 376 = .ok (.iadd, 1) := by decide +kernel
theorem d_law_377 : decode code 377 = .ok (.iaload, 1) := by decide +kernel
theorem d_law_378 : decode code 378 = .ok (.invokevirtual 58, 3) := by decide +kernel
theorem d_law_381 : decode code 381 = .ok (.if_icmp .eq 160, 3) := by decide +kernel
theorem d_law_384 : decode code 384 = .ok (.iconst 0, 1) := by decide +kernel
theorem d_law_385 : decode code 385 = .ok (.ireturn, 1) := by decide +kernel
theorem d_law_386 : decode code 386 = .ok (.aload_n 1, 1) := by decide +kernel
theorem d_law_387 : decode code 387 = .ok (.aload_n 0, 1) := by decide +kernel
theorem d_law_388 : decode code 388 = .ok (.iload_n 3, 1) := by decide +kernel
theorem d_law_389 : decode code 389 = .ok (.iconst 1, 1) := by decide +kernel
theorem d_law_390 : decode code 390 = .ok (.iadd, 1) := by decide +kernel
theorem d_law_391 : decode code 391 = .ok (.iaload, 1) := by decide +kernel
theorem d_law_392 : decode code 392 = .ok (.aload_n 0, 1) := by decide +kernel
theorem d_law_393 : decode code 393 = .ok (.iload_n 3, 1) := by decide +kernel
theorem d_law_394 : decode code 394 = .ok (.iconst 2, 1) := by decide +kernel
theorem d_law_395 : decode code 395 = .ok (.iadd, 1) := by decide +kernel
theorem d_law_396 : decode code 396 = .ok (.iaload, 1) := by decide +kernel
theorem d_law_397 : decode code 397 = .ok (.aload_n 0, 1) := by decide +kernel
theorem d_law_398 : decode code 398 = .ok (.iload_n 3, 1) := by decide +kernel
theorem d_law_399 : decode code 399 = .ok (.iconst 3, 1) := by decide +kernel
theorem d_law_400 : decode code 400 = .ok (.iadd, 1) := by decide +kernel
theorem d_law_401 : decode code 401 = .ok (.iaload, 1) := by decide +kernel
theorem d_law_402 : decode code 402 = .ok (.invokevirtual 59, 3) := by decide +kernel
theorem d_law_405 : decode code 405 = .ok (.aload_n 2, 1) := by decide +kernel
theorem d_law_406 : decode code 406 = .ok (.aload_n 0, 1) := by decide +kernel
theorem d_law_407 : decode code 407 = .ok (.iload_n 3, 1) := by decide +kernel
theorem d_law_408 : decode code 408 = .ok (.iconst 1, 1) := by decide +kernel
theorem d_law_409 : decode code 409 = .ok (.iadd, 1) := by decide +kernel
theorem d_law_410 : decode code 410 = .ok (.iaload, 1) := by decide +kernel
theorem d_law_411 : decode code 411 = .ok (.aload_n 0, 1) := by decide +kernel
theorem d_law_412 : decode code 412 = .ok (.iload_n 3, 1) := by decide +kernel
theorem d_law_413 : decode code 413 = .ok (.iconst 2, 1) := by decide +kernel
theorem d_law_414 : decode code 414 = .ok (.iadd, 1) := by decide +kernel
theorem d_law_415 : decode code 415 = .ok (.iaload, 1) := by decide +kernel
theorem d_law_416 : decode code 416 = .ok (.aload_n 0, 1) := by decide +kernel
theorem d_law_417 : decode code 417 = .ok (.iload_n 3, 1) := by decide +kernel
theorem d_law_418 : decode code 418 = .ok (.iconst 3, 1) := by decide +kernel
theorem d_law_419 : decode code 419 = .ok (.iadd, 1) := by decide +kernel
theorem d_law_420 : decode code 420 = .ok (.iaload, 1) := by decide +kernel
theorem d_law_421 : decode code 421 = .ok (.invokevirtual 63, 3) := by decide +kernel
theorem d_law_424 : decode code 424 = .ok (.if_icmp .eq 117, 3) := by decide +kernel
theorem d_law_427 : decode code 427 = .ok (.iconst 0, 1) := by decide +kernel
theorem d_law_428 : decode code 428 = .ok (.ireturn, 1) := by decide +kernel
theorem d_law_429 : decode code 429 = .ok (.aload_n 1, 1) := by decide +kernel
theorem d_law_430 : decode code 430 = .ok (.invokevirtual 64, 3) := by decide +kernel
theorem d_law_433 : decode code 433 = .ok (.aload_n 2, 1) := by decide +kernel
theorem d_law_434 : decode code 434 = .ok (.invokevirtual 68, 3) := by decide +kernel
theorem d_law_437 : decode code 437 = .ok (.if_icmp .eq 104, 3) := by decide +kernel
theorem d_law_440 : decode code 440 = .ok (.iconst 0, 1) := by decide +kernel
theorem d_law_441 : decode code 441 = .ok (.ireturn, 1) := by decide +kernel
theorem d_law_442 : decode code 442 = .ok (.aload_n 1, 1) := by decide +kernel
theorem d_law_443 : decode code 443 = .ok (.aload_n 0, 1) := by decide +kernel
theorem d_law_444 : decode code 444 = .ok (.iload_n 3, 1) := by decide +kernel
theorem d_law_445 : decode code 445 = .ok (.iconst 1, 1) := by decide +kernel
theorem d_law_446 : decode code 446 = .ok (.iadd, 1) := by decide +kernel
theorem d_law_447 : decode code 447 = .ok (.iaload, 1) := by decide +kernel
theorem d_law_448 : decode code 448 = .ok (.aload_n 0, 1) := by decide +kernel
theorem d_law_449 : decode code 449 = .ok (.iload_n 3, 1) := by decide +kernel
theorem d_law_450 : decode code 450 = .ok (.iconst 2, 1) := by decide +kernel
theorem d_law_451 : decode code 451 = .ok (.iadd, 1) := by decide +kernel
theorem d_law_452 : decode code 452 = .ok (.iaload, 1) := by decide +kernel
theorem d_law_453 : decode code 453 = .ok (.invokevirtual 69, 3) := by decide +kernel
theorem d_law_456 : decode code 456 = .ok (.aload_n 2, 1) := by decide +kernel
theorem d_law_457 : decode code 457 = .ok (.aload_n 0, 1) := by decide +kernel
theorem d_law_458 : decode code 458 = .ok (.iload_n 3, 1) := by decide +kernel
theorem d_law_459 : decode code 459 = .ok (.iconst 1, 1) := by decide +kernel
theorem d_law_460 : decode code 460 = .ok (.iadd, 1) := by decide +kernel
theorem d_law_461 : decode code 461 = .ok (.iaload, 1) := by decide +kernel
theorem d_law_462 : decode code 462 = .ok (.aload_n 0, 1) := by decide +kernel
theorem d_law_463 : decode code 463 = .ok (.iload_n 3, 1) := by decide +kernel
theorem d_law_464 : decode code 464 = .ok (.iconst 2, 1) := by decide +kernel
theorem d_law_465 : decode code 465 = .ok (.iadd, 1) := by decide +kernel
theorem d_law_466 : decode code 466 = .ok (.iaload, 1) := by decide +kernel
theorem d_law_467 : decode code 467 = .ok (.invokevirtual 72, 3) := by decide +kernel
theorem d_law_470 : decode code 470 = .ok (.if_icmp .eq 71, 3) := by decide +kernel
theorem d_law_473 : decode code 473 = .ok (.iconst 0, 1) := by decide +kernel
theorem d_law_474 : decode code 474 = .ok (.ireturn, 1) := by decide +kernel
theorem d_law_475 : decode code 475 = .ok (.aload_n 1, 1) := by decide +kernel
theorem d_law_476 : decode code 476 = .ok (.aload_n 0, 1) := by decide +kernel
theorem d_law_477 : decode code 477 = .ok (.iload_n 3, 1) := by decide +kernel
theorem d_law_478 : decode code 478 = .ok (.iconst 1, 1) := by decide +kernel
theorem d_law_479 : decode code 479 = .ok (.iadd, 1) := by decide +kernel
theorem d_law_480 : decode code 480 = .ok (.iaload, 1) := by decide +kernel
theorem d_law_481 : decode code 481 = .ok (.invokevirtual 73, 3) := by decide +kernel
theorem d_law_484 : decode code 484 = .ok (.aload_n 2, 1) := by decide +kernel
theorem d_law_485 : decode code 485 = .ok (.aload_n 0, 1) := by decide +kernel
theorem d_law_486 : decode code 486 = .ok (.iload_n 3, 1) := by decide +kernel
theorem d_law_487 : decode code 487 = .ok (.iconst 1, 1) := by decide +kernel
theorem d_law_488 : decode code 488 = .ok (.iadd, 1) := by decide +kernel
theorem d_law_489 : decode code 489 = .ok (.iaload, 1) := by decide +kernel
theorem d_law_490 : decode code 490 = .ok (.invokevirtual 76, 3) := by decide +kernel
theorem d_law_493 : decode code 493 = .ok (.if_icmp .eq 48, 3) := by decide +kernel
theorem d_law_496 : decode code 496 = .ok (.iconst 0, 1) := by decide +kernel
theorem d_law_497 : decode code 497 = .ok (.ireturn, 1) := by decide +kernel
theorem d_law_498 : decode code 498 = .ok (.aload_n 1, 1) := by decide +kernel
theorem d_law_499 : decode code 499 = .ok (.aload_n 0, 1) := by decide +kernel
theorem d_law_500 : decode code 500 = .ok (.iload_n 3, 1) := by decide +kernel
theorem d_law_501 : decode code 501 = .ok (.iconst 1, 1) := by decide +kernel
theorem d_law_502 : decode code 502 = .ok (.iadd, 1) := by decide +kernel
theorem d_law_503 : decode code 503 = .ok (.iaload, 1) := by decide +kernel
theorem d_law_504 : decode code 504 = .ok (.aload_n 0, 1) := by decide +kernel
theorem d_law_505 : decode code 505 = .ok (.iload_n 3, 1) := by decide +kernel
theorem d_law_506 : decode code 506 = .ok (.iconst 2, 1) := by decide +kernel
theorem d_law_507 : decode code 507 = .ok (.iadd, 1) := by decide +kernel
theorem d_law_508 : decode code 508 = .ok (.iaload, 1) := by decide +kernel
theorem d_law_509 : decode code 509 = .ok (.aload_n 0, 1) := by decide +kernel
theorem d_law_510 : decode code 510 = .ok (.iload_n 3, 1) := by decide +kernel
theorem d_law_511 : decode code 511 = .ok (.iconst 3, 1) := by decide +kernel
theorem d_law_512 : decode code 512 = .ok (.iadd, 1) := by decide +kernel
theorem d_law_513 : decode code 513 = .ok (.iaload, 1) := by decide +kernel
theorem d_law_514 : decode code 514 = .ok (.invokevirtual 77, 3) := by decide +kernel
theorem d_law_517 : decode code 517 = .ok (.aload_n 2, 1) := by decide +kernel
theorem d_law_518 : decode code 518 = .ok (.aload_n 0, 1) := by decide +kernel
theorem d_law_519 : decode code 519 = .ok (.iload_n 3, 1) := by decide +kernel
theorem d_law_520 : decode code 520 = .ok (.iconst 1, 1) := by decide +kernel
theorem d_law_521 : decode code 521 = .ok (.iadd, 1) := by decide +kernel
theorem d_law_522 : decode code 522 = .ok (.iaload, 1) := by decide +kernel
theorem d_law_523 : decode code 523 = .ok (.aload_n 0, 1) := by decide +kernel
theorem d_law_524 : decode code 524 = .ok (.iload_n 3, 1) := by decide +kernel
theorem d_law_525 : decode code 525 = .ok (.iconst 2, 1) := by decide +kernel
theorem d_law_526 : decode code 526 = .ok (.iadd, 1) := by decide +kernel
theorem d_law_527 : decode code 527 = .ok (.iaload, 1) := by decide +kernel
theorem d_law_528 : decode code 528 = .ok (.aload_n 0, 1) := by decide +kernel
theorem d_law_529 : decode code 529 = .ok (.iload_n 3, 1) := by decide +kernel
theorem d_law_530 : decode code 530 = .ok (.iconst 3, 1) := by decide +kernel
theorem d_law_531 : decode code 531 = .ok (.iadd, 1) := by decide +kernel
theorem d_law_532 : decode code 532 = .ok (.iaload, 1) := by decide +kernel
theorem d_law_533 : decode code 533 = .ok (.invokevirtual 81, 3) := by decide +kernel
theorem d_law_536 : decode code 536 = .ok (.if_icmp .eq 5, 3) := by decide +kernel
theorem d_law_539 : decode code 539 = .ok (.iconst 0, 1) := by decide +kernel
theorem d_law_540 : decode code 540 = .ok (.ireturn, 1) := by decide +kernel
theorem d_law_541 : decode code 541 = .ok (.iinc 3 4, 3) := by decide +kernel
theorem d_law_544 : decode code 544 = .ok (.goto (-506), 3) := by decide +kernel
theorem d_law_547 : decode code 547 = .ok (.iconst 1, 1) := by decide +kernel
theorem d_law_548 : decode code 548 = .ok (.ireturn, 1) := by decide +kernel
