theorem d_TF_init_0 : decode b_TF_init 0 = .ok (.aload_n 0, 1) := by decide +kernel
theorem d_TF_init_1 : decode b_TF_init 1 = .ok (.invokespecial 1, 3) := by decide +kernel
theorem d_TF_init_4 : decode b_TF_init 4 = .ok (.iload_n 1, 1) := by decide +kernel
theorem d_TF_init_5 : decode b_TF_init 5 = .ok (.invokestatic 7, 3) := by decide +kernel
theorem d_TF_init_8 : decode b_TF_init 8 = .ok (.istore_n 3, 1) := by decide +kernel
theorem d_TF_init_9 : decode b_TF_init 9 = .ok (.iload_n 2, 1) := by decide +kernel
theorem d_TF_init_10 : decode b_TF_init 10 = .ok (.invokestatic 7, 3) := by decide +kernel
theorem d_TF_init_13 : decode b_TF_init 13 = .ok (.istore 4, 2) := by decide +kernel
theorem d_TF_init_15 : decode b_TF_init 15 = .ok (.aload_n 0, 1) := by decide +kernel
theorem d_TF_init_16 : decode b_TF_init 16 = .ok (.new 13, 3) := by decide +kernel
theorem d_TF_init_19 : decode b_TF_init 19 = .ok (.dup, 1) := by decide +kernel
theorem d_TF_init_20 : decode b_TF_init 20 = .ok (.iload_n 3, 1) := by decide +kernel
theorem d_TF_init_21 : decode b_TF_init 21 = .ok (.iload 4, 2) := by decide +kernel
theorem d_TF_init_23 : decode b_TF_init 23 = .ok (.invokespecial 15, 3) := by decide +kernel
theorem d_TF_init_26 : decode b_TF_init 26 = .ok (.putfield 18, 3) := by decide +kernel
theorem d_TF_init_29 : decode b_TF_init 29 = .ok (.aload_n 0, 1) := by decide +kernel
theorem d_TF_init_30 : decode b_TF_init 30 = .ok (.new 22, 3) := by decide +kernel
theorem d_TF_init_33 : decode b_TF_init 33 = .ok (.dup, 1) := by decide +kernel
theorem d_TF_init_34 : decode b_TF_init 34 = .ok (.iload_n 3, 1) := by decide +kernel
theorem d_TF_init_35 : decode b_TF_init 35 = .ok (.iload 4, 2) := by decide +kernel
theorem d_TF_init_37 : decode b_TF_init 37 = .ok (.invokespecial 24, 3) := by decide +kernel
theorem d_TF_init_40 : decode b_TF_init 40 = .ok (.putfield 25, 3) := by decide +kernel
theorem d_TF_init_43 : decode b_TF_init 43 = .ok (.aload_n 0, 1) := by decide +kernel
theorem d_TF_init_44 : decode b_TF_init 44 = .ok (.new 29, 3) := by decide +kernel
theorem d_TF_init_47 : decode b_TF_init 47 = .ok (.dup, 1) := by decide +kernel
theorem d_TF_init_48 : decode b_TF_init 48 = .ok (.iload_n 3, 1) := by decide +kernel
theorem d_TF_init_49 : decode b_TF_init 49 = .ok (.iload 4, 2) := by decide +kernel
theorem d_TF_init_51 : decode b_TF_init 51 = .ok (.invokespecial 31, 3) := by decide +kernel
theorem d_TF_init_54 : decode b_TF_init 54 = .ok (.putfield 32, 3) := by decide +kernel
theorem d_TF_init_57 : decode b_TF_init 57 = .ok (.aload_n 0, 1) := by decide +kernel
theorem d_TF_init_58 : decode b_TF_init 58 = .ok (.new 36, 3) := by decide +kernel
theorem d_TF_init_61 : decode b_TF_init 61 = .ok (.dup, 1) := by decide +kernel
theorem d_TF_init_62 : decode b_TF_init 62 = .ok (.iload_n 3, 1) := by decide +kernel
theorem d_TF_init_63 : decode b_TF_init 63 = .ok (.iload 4, 2) := by decide +kernel
theorem d_TF_init_65 : decode b_TF_init 65 = .ok (.invokespecial 38, 3) := by decide +kernel
theorem d_TF_init_68 : decode b_TF_init 68 = .ok (.putfield 39, 3) := by decide +kernel
theorem d_TF_init_71 : decode b_TF_init 71 = .ok (.aload_n 0, 1) := by decide +kernel
theorem d_TF_init_72 : decode b_TF_init 72 = .ok (.iconst 0, 1) := by decide +kernel
theorem d_TF_init_73 : decode b_TF_init 73 = .ok (.putfield 43, 3) := by decide +kernel
theorem d_TF_init_76 : decode b_TF_init 76 = .ok (.return_, 1) := by decide +kernel
theorem d_TF_heldToSide_0 : decode b_TF_heldToSide 0 = .ok (.iconst 1, 1) := by decide +kernel
theorem d_TF_heldToSide_1 : decode b_TF_heldToSide 1 = .ok (.bipush 6, 2) := by decide +kernel
theorem d_TF_heldToSide_3 : decode b_TF_heldToSide 3 = .ok (.iload_n 0, 1) := by decide +kernel
theorem d_TF_heldToSide_4 : decode b_TF_heldToSide 4 = .ok (.invokestatic 129, 3) := by decide +kernel
theorem d_TF_heldToSide_7 : decode b_TF_heldToSide 7 = .ok (.invokestatic 132, 3) := by decide +kernel
theorem d_TF_heldToSide_10 : decode b_TF_heldToSide 10 = .ok (.ireturn, 1) := by decide +kernel
theorem d_BD_init_0 : decode b_BD_init 0 = .ok (.aload_n 0, 1) := by decide +kernel
theorem d_BD_init_1 : decode b_BD_init 1 = .ok (.invokespecial 1, 3) := by decide +kernel
theorem d_BD_init_4 : decode b_BD_init 4 = .ok (.aload_n 0, 1) := by decide +kernel
theorem d_BD_init_5 : decode b_BD_init 5 = .ok (.iload_n 1, 1) := by decide +kernel
theorem d_BD_init_6 : decode b_BD_init 6 = .ok (.putfield 7, 3) := by decide +kernel
theorem d_BD_init_9 : decode b_BD_init 9 = .ok (.aload_n 0, 1) := by decide +kernel
theorem d_BD_init_10 : decode b_BD_init 10 = .ok (.iload_n 2, 1) := by decide +kernel
theorem d_BD_init_11 : decode b_BD_init 11 = .ok (.putfield 13, 3) := by decide +kernel
theorem d_BD_init_14 : decode b_BD_init 14 = .ok (.aload_n 0, 1) := by decide +kernel
theorem d_BD_init_15 : decode b_BD_init 15 = .ok (.iload_n 1, 1) := by decide +kernel
theorem d_BD_init_16 : decode b_BD_init 16 = .ok (.iload_n 2, 1) := by decide +kernel
theorem d_BD_init_17 : decode b_BD_init 17 = .ok (.imul, 1) := by decide +kernel
theorem d_BD_init_18 : decode b_BD_init 18 = .ok (.putfield 16, 3) := by decide +kernel
theorem d_BD_init_21 : decode b_BD_init 21 = .ok (.aload_n 0, 1) := by decide +kernel
theorem d_BD_init_22 : decode b_BD_init 22 = .ok (.lconst 1, 1) := by decide +kernel
theorem d_BD_init_23 : decode b_BD_init 23 = .ok (.aload_n 0, 1) := by decide +kernel
theorem d_BD_init_24 : decode b_BD_init 24 = .ok (.getfield 16, 3) := by decide +kernel
theorem d_BD_init_27 : decode b_BD_init 27 = .ok (.lshl, 1) := by decide +kernel
theorem d_BD_init_28 : decode b_BD_init 28 = .ok (.lconst 1, 1) := by decide +kernel
theorem d_BD_init_29 : decode b_BD_init 29 = .ok (.lsub, 1) := by decide +kernel
theorem d_BD_init_30 : decode b_BD_init 30 = .ok (.putfield 19, 3) := by decide +kernel
theorem d_BD_init_33 : decode b_BD_init 33 = .ok (.return_, 1) := by decide +kernel
theorem d_TS_init_0 : decode b_TS_init 0 = .ok (.aload_n 0, 1) := by decide +kernel
theorem d_TS_init_1 : decode b_TS_init 1 = .ok (.invokespecial 3, 3) := by decide +kernel
theorem d_TS_init_4 : decode b_TS_init 4 = .ok (.aload_n 0, 1) := by decide +kernel
theorem d_TS_init_5 : decode b_TS_init 5 = .ok (.bipush 36, 2) := by decide +kernel
theorem d_TS_init_7 : decode b_TS_init 7 = .ok (.newarray .int, 2) := by decide +kernel
theorem d_TS_init_9 : decode b_TS_init 9 = .ok (.putfield 9, 3) := by decide +kernel
theorem d_TS_init_12 : decode b_TS_init 12 = .ok (.aload_n 0, 1) := by decide +kernel
theorem d_TS_init_13 : decode b_TS_init 13 = .ok (.sipush 288, 3) := by decide +kernel
theorem d_TS_init_16 : decode b_TS_init 16 = .ok (.newarray .int, 2) := by decide +kernel
theorem d_TS_init_18 : decode b_TS_init 18 = .ok (.putfield 15, 3) := by decide +kernel
theorem d_TS_init_21 : decode b_TS_init 21 = .ok (.aload_n 0, 1) := by decide +kernel
theorem d_TS_init_22 : decode b_TS_init 22 = .ok (.bipush 36, 2) := by decide +kernel
theorem d_TS_init_24 : decode b_TS_init 24 = .ok (.newarray .int, 2) := by decide +kernel
theorem d_TS_init_26 : decode b_TS_init 26 = .ok (.putfield 18, 3) := by decide +kernel
theorem d_TS_init_29 : decode b_TS_init 29 = .ok (.aload_n 0, 1) := by decide +kernel
theorem d_TS_init_30 : decode b_TS_init 30 = .ok (.bipush 36, 2) := by decide +kernel
theorem d_TS_init_32 : decode b_TS_init 32 = .ok (.newarray .int, 2) := by decide +kernel
theorem d_TS_init_34 : decode b_TS_init 34 = .ok (.putfield 21, 3) := by decide +kernel
theorem d_TS_init_37 : decode b_TS_init 37 = .ok (.aload_n 0, 1) := by decide +kernel
theorem d_TS_init_38 : decode b_TS_init 38 = .ok (.iload_n 1, 1) := by decide +kernel
theorem d_TS_init_39 : decode b_TS_init 39 = .ok (.iload_n 2, 1) := by decide +kernel
theorem d_TS_init_40 : decode b_TS_init 40 = .ok (.invokestatic 24, 3) := by decide +kernel
theorem d_TS_init_43 : decode b_TS_init 43 = .ok (.putfield 28, 3) := by decide +kernel
theorem d_TS_init_46 : decode b_TS_init 46 = .ok (.return_, 1) := by decide +kernel
theorem d_TS_reachesOn_0 : decode b_TS_reachesOn 0 = .ok (.bipush 108, 2) := by decide +kernel
theorem d_TS_reachesOn_2 : decode b_TS_reachesOn 2 = .ok (.newarray .long, 2) := by decide +kernel
theorem d_TS_reachesOn_4 : decode b_TS_reachesOn 4 = .ok (.astore_n 2, 1) := by decide +kernel
theorem d_TS_reachesOn_5 : decode b_TS_reachesOn 5 = .ok (.iconst 0, 1) := by decide +kernel
theorem d_TS_reachesOn_6 : decode b_TS_reachesOn 6 = .ok (.istore_n 3, 1) := by decide +kernel
theorem d_TS_reachesOn_7 : decode b_TS_reachesOn 7 = .ok (.iload_n 3, 1) := by decide +kernel
theorem d_TS_reachesOn_8 : decode b_TS_reachesOn 8 = .ok (.iload_n 1, 1) := by decide +kernel
theorem d_TS_reachesOn_9 : decode b_TS_reachesOn 9 = .ok (.if_icmp .ge 92, 3) := by decide +kernel
theorem d_TS_reachesOn_12 : decode b_TS_reachesOn 12 = .ok (.iload_n 3, 1) := by decide +kernel
theorem d_TS_reachesOn_13 : decode b_TS_reachesOn 13 = .ok (.bipush 6, 2) := by decide +kernel
theorem d_TS_reachesOn_15 : decode b_TS_reachesOn 15 = .ok (.if_icmp .ge 86, 3) := by decide +kernel
theorem d_TS_reachesOn_18 : decode b_TS_reachesOn 18 = .ok (.iconst 0, 1) := by decide +kernel
theorem d_TS_reachesOn_19 : decode b_TS_reachesOn 19 = .ok (.istore 4, 2) := by decide +kernel
theorem d_TS_reachesOn_21 : decode b_TS_reachesOn 21 = .ok (.iload 4, 2) := by decide +kernel
theorem d_TS_reachesOn_23 : decode b_TS_reachesOn 23 = .ok (.iload_n 0, 1) := by decide +kernel
theorem d_TS_reachesOn_24 : decode b_TS_reachesOn 24 = .ok (.if_icmp .ge 71, 3) := by decide +kernel
theorem d_TS_reachesOn_27 : decode b_TS_reachesOn 27 = .ok (.iload 4, 2) := by decide +kernel
theorem d_TS_reachesOn_29 : decode b_TS_reachesOn 29 = .ok (.bipush 6, 2) := by decide +kernel
theorem d_TS_reachesOn_31 : decode b_TS_reachesOn 31 = .ok (.if_icmp .ge 64, 3) := by decide +kernel
theorem d_TS_reachesOn_34 : decode b_TS_reachesOn 34 = .ok (.iconst 0, 1) := by decide +kernel
theorem d_TS_reachesOn_35 : decode b_TS_reachesOn 35 = .ok (.istore 5, 2) := by decide +kernel
theorem d_TS_reachesOn_37 : decode b_TS_reachesOn 37 = .ok (.iload 5, 2) := by decide +kernel
theorem d_TS_reachesOn_39 : decode b_TS_reachesOn 39 = .ok (.iconst 3, 1) := by decide +kernel
theorem d_TS_reachesOn_40 : decode b_TS_reachesOn 40 = .ok (.if_icmp .ge 49, 3) := by decide +kernel
theorem d_TS_reachesOn_43 : decode b_TS_reachesOn 43 = .ok (.iload 5, 2) := by decide +kernel
theorem d_TS_reachesOn_45 : decode b_TS_reachesOn 45 = .ok (.bipush 36, 2) := by decide +kernel
theorem d_TS_reachesOn_47 : decode b_TS_reachesOn 47 = .ok (.imul, 1) := by decide +kernel
theorem d_TS_reachesOn_48 : decode b_TS_reachesOn 48 = .ok (.iload 4, 2) := by decide +kernel
theorem d_TS_reachesOn_50 : decode b_TS_reachesOn 50 = .ok (.iadd, 1) := by decide +kernel
theorem d_TS_reachesOn_51 : decode b_TS_reachesOn 51 = .ok (.iload_n 0, 1) := by decide +kernel
theorem d_TS_reachesOn_52 : decode b_TS_reachesOn 52 = .ok (.iload_n 3, 1) := by decide +kernel
theorem d_TS_reachesOn_53 : decode b_TS_reachesOn 53 = .ok (.imul, 1) := by decide +kernel
theorem d_TS_reachesOn_54 : decode b_TS_reachesOn 54 = .ok (.iadd, 1) := by decide +kernel
theorem d_TS_reachesOn_55 : decode b_TS_reachesOn 55 = .ok (.istore 6, 2) := by decide +kernel
theorem d_TS_reachesOn_57 : decode b_TS_reachesOn 57 = .ok (.iload 6, 2) := by decide +kernel
theorem d_TS_reachesOn_59 : decode b_TS_reachesOn 59 = .ok (.ifCond .lt 24, 3) := by decide +kernel
theorem d_TS_reachesOn_62 : decode b_TS_reachesOn 62 = .ok (.iload 6, 2) := by decide +kernel
theorem d_TS_reachesOn_64 : decode b_TS_reachesOn 64 = .ok (.aload_n 2, 1) := by decide +kernel
theorem d_TS_reachesOn_65 : decode b_TS_reachesOn 65 = .ok (.arraylength, 1) := by decide +kernel
theorem d_TS_reachesOn_66 : decode b_TS_reachesOn 66 = .ok (.if_icmp .ge 17, 3) := by decide +kernel
theorem d_TS_reachesOn_69 : decode b_TS_reachesOn 69 = .ok (.aload_n 2, 1) := by decide +kernel
theorem d_TS_reachesOn_70 : decode b_TS_reachesOn 70 = .ok (.iload 6, 2) := by decide +kernel
theorem d_TS_reachesOn_72 : decode b_TS_reachesOn 72 = .ok (.iload 5, 2) := by decide +kernel
theorem d_TS_reachesOn_74 : decode b_TS_reachesOn 74 = .ok (.iload 4, 2) := by decide +kernel
theorem d_TS_reachesOn_76 : decode b_TS_reachesOn 76 = .ok (.iload_n 3, 1) := by decide +kernel
theorem d_TS_reachesOn_77 : decode b_TS_reachesOn 77 = .ok (.iload_n 0, 1) := by decide +kernel
theorem d_TS_reachesOn_78 : decode b_TS_reachesOn 78 = .ok (.iload_n 1, 1) := by decide +kernel
theorem d_TS_reachesOn_79 : decode b_TS_reachesOn 79 = .ok (.invokestatic 32, 3) := by decide +kernel
theorem d_TS_reachesOn_82 : decode b_TS_reachesOn 82 = .ok (.lastore, 1) := by decide +kernel
theorem d_TS_reachesOn_83 : decode b_TS_reachesOn 83 = .ok (.iinc 5 1, 3) := by decide +kernel
theorem d_TS_reachesOn_86 : decode b_TS_reachesOn 86 = .ok (.goto (-49), 3) := by decide +kernel
theorem d_TS_reachesOn_89 : decode b_TS_reachesOn 89 = .ok (.iinc 4 1, 3) := by decide +kernel
theorem d_TS_reachesOn_92 : decode b_TS_reachesOn 92 = .ok (.goto (-71), 3) := by decide +kernel
theorem d_TS_reachesOn_95 : decode b_TS_reachesOn 95 = .ok (.iinc 3 1, 3) := by decide +kernel
theorem d_TS_reachesOn_98 : decode b_TS_reachesOn 98 = .ok (.goto (-91), 3) := by decide +kernel
theorem d_TS_reachesOn_101 : decode b_TS_reachesOn 101 = .ok (.aload_n 2, 1) := by decide +kernel
theorem d_TS_reachesOn_102 : decode b_TS_reachesOn 102 = .ok (.areturn, 1) := by decide +kernel
theorem d_TS_reachFrom_0 : decode b_TS_reachFrom 0 = .ok (.lconst 0, 1) := by decide +kernel
theorem d_TS_reachFrom_1 : decode b_TS_reachFrom 1 = .ok (.lstore 5, 2) := by decide +kernel
theorem d_TS_reachFrom_3 : decode b_TS_reachFrom 3 = .ok (.iconst 0, 1) := by decide +kernel
theorem d_TS_reachFrom_4 : decode b_TS_reachFrom 4 = .ok (.iload_n 2, 1) := by decide +kernel
theorem d_TS_reachFrom_5 : decode b_TS_reachFrom 5 = .ok (.iconst 2, 1) := by decide +kernel
theorem d_TS_reachFrom_6 : decode b_TS_reachFrom 6 = .ok (.isub, 1) := by decide +kernel
theorem d_TS_reachFrom_7 : decode b_TS_reachFrom 7 = .ok (.invokestatic 36, 3) := by decide +kernel
theorem d_TS_reachFrom_10 : decode b_TS_reachFrom 10 = .ok (.istore 7, 2) := by decide +kernel
theorem d_TS_reachFrom_12 : decode b_TS_reachFrom 12 = .ok (.iload 7, 2) := by decide +kernel
theorem d_TS_reachFrom_14 : decode b_TS_reachFrom 14 = .ok (.iload_n 2, 1) := by decide +kernel
theorem d_TS_reachFrom_15 : decode b_TS_reachFrom 15 = .ok (.iconst 2, 1) := by decide +kernel
theorem d_TS_reachFrom_16 : decode b_TS_reachFrom 16 = .ok (.iadd, 1) := by decide +kernel
theorem d_TS_reachFrom_17 : decode b_TS_reachFrom 17 = .ok (.if_icmp .gt 85, 3) := by decide +kernel
theorem d_TS_reachFrom_20 : decode b_TS_reachFrom 20 = .ok (.iload 7, 2) := by decide +kernel
theorem d_TS_reachFrom_22 : decode b_TS_reachFrom 22 = .ok (.iload 4, 2) := by decide +kernel
theorem d_TS_reachFrom_24 : decode b_TS_reachFrom 24 = .ok (.if_icmp .ge 78, 3) := by decide +kernel
theorem d_TS_reachFrom_27 : decode b_TS_reachFrom 27 = .ok (.iconst 0, 1) := by decide +kernel
theorem d_TS_reachFrom_28 : decode b_TS_reachFrom 28 = .ok (.iload_n 1, 1) := by decide +kernel
theorem d_TS_reachFrom_29 : decode b_TS_reachFrom 29 = .ok (.iconst 2, 1) := by decide +kernel
theorem d_TS_reachFrom_30 : decode b_TS_reachFrom 30 = .ok (.isub, 1) := by decide +kernel
theorem d_TS_reachFrom_31 : decode b_TS_reachFrom 31 = .ok (.invokestatic 36, 3) := by decide +kernel
theorem d_TS_reachFrom_34 : decode b_TS_reachFrom 34 = .ok (.istore 8, 2) := by decide +kernel
theorem d_TS_reachFrom_36 : decode b_TS_reachFrom 36 = .ok (.iload 8, 2) := by decide +kernel
theorem d_TS_reachFrom_38 : decode b_TS_reachFrom 38 = .ok (.iload_n 1, 1) := by decide +kernel
theorem d_TS_reachFrom_39 : decode b_TS_reachFrom 39 = .ok (.iconst 2, 1) := by decide +kernel
theorem d_TS_reachFrom_40 : decode b_TS_reachFrom 40 = .ok (.iadd, 1) := by decide +kernel
theorem d_TS_reachFrom_41 : decode b_TS_reachFrom 41 = .ok (.if_icmp .gt 55, 3) := by decide +kernel
theorem d_TS_reachFrom_44 : decode b_TS_reachFrom 44 = .ok (.iload 8, 2) := by decide +kernel
theorem d_TS_reachFrom_46 : decode b_TS_reachFrom 46 = .ok (.iload_n 3, 1) := by decide +kernel
theorem d_TS_reachFrom_47 : decode b_TS_reachFrom 47 = .ok (.if_icmp .ge 49, 3) := by decide +kernel
theorem d_TS_reachFrom_50 : decode b_TS_reachFrom 50 = .ok (.iload_n 0, 1) := by decide +kernel
theorem d_TS_reachFrom_51 : decode b_TS_reachFrom 51 = .ok (.iload 8, 2) := by decide +kernel
theorem d_TS_reachFrom_53 : decode b_TS_reachFrom 53 = .ok (.iload_n 1, 1) := by decide +kernel
theorem d_TS_reachFrom_54 : decode b_TS_reachFrom 54 = .ok (.isub, 1) := by decide +kernel
theorem d_TS_reachFrom_55 : decode b_TS_reachFrom 55 = .ok (.iload 8, 2) := by decide +kernel
theorem d_TS_reachFrom_57 : decode b_TS_reachFrom 57 = .ok (.iload_n 1, 1) := by decide +kernel
theorem d_TS_reachFrom_58 : decode b_TS_reachFrom 58 = .ok (.isub, 1) := by decide +kernel
theorem d_TS_reachFrom_59 : decode b_TS_reachFrom 59 = .ok (.imul, 1) := by decide +kernel
theorem d_TS_reachFrom_60 : decode b_TS_reachFrom 60 = .ok (.iload 7, 2) := by decide +kernel
theorem d_TS_reachFrom_62 : decode b_TS_reachFrom 62 = .ok (.iload_n 2, 1) := by decide +kernel
theorem d_TS_reachFrom_63 : decode b_TS_reachFrom 63 = .ok (.isub, 1) := by decide +kernel
theorem d_TS_reachFrom_64 : decode b_TS_reachFrom 64 = .ok (.iload 7, 2) := by decide +kernel
theorem d_TS_reachFrom_66 : decode b_TS_reachFrom 66 = .ok (.iload_n 2, 1) := by decide +kernel
theorem d_TS_reachFrom_67 : decode b_TS_reachFrom 67 = .ok (.isub, 1) := by decide +kernel
theorem d_TS_reachFrom_68 : decode b_TS_reachFrom 68 = .ok (.imul, 1) := by decide +kernel
theorem d_TS_reachFrom_69 : decode b_TS_reachFrom 69 = .ok (.iadd, 1) := by decide +kernel
theorem d_TS_reachFrom_70 : decode b_TS_reachFrom 70 = .ok (.invokestatic 42, 3) := by decide +kernel
theorem d_TS_reachFrom_73 : decode b_TS_reachFrom 73 = .ok (.ifCond .eq 17, 3) := by decide +kernel
theorem d_TS_reachFrom_76 : decode b_TS_reachFrom 76 = .ok (.lload 5, 2) := by decide +kernel
theorem d_TS_reachFrom_78 : decode b_TS_reachFrom 78 = .ok (.lconst 1, 1) := by decide +kernel
theorem d_TS_reachFrom_79 : decode b_TS_reachFrom 79 = .ok (.iload 8, 2) := by decide +kernel
theorem d_TS_reachFrom_81 : decode b_TS_reachFrom 81 = .ok (.iload_n 3, 1) := by decide +kernel
theorem d_TS_reachFrom_82 : decode b_TS_reachFrom 82 = .ok (.iload 7, 2) := by decide +kernel
theorem d_TS_reachFrom_84 : decode b_TS_reachFrom 84 = .ok (.imul, 1) := by decide +kernel
theorem d_TS_reachFrom_85 : decode b_TS_reachFrom 85 = .ok (.iadd, 1) := by decide +kernel
theorem d_TS_reachFrom_86 : decode b_TS_reachFrom 86 = .ok (.lshl, 1) := by decide +kernel
theorem d_TS_reachFrom_87 : decode b_TS_reachFrom 87 = .ok (.lor, 1) := by decide +kernel
theorem d_TS_reachFrom_88 : decode b_TS_reachFrom 88 = .ok (.lstore 5, 2) := by decide +kernel
theorem d_TS_reachFrom_90 : decode b_TS_reachFrom 90 = .ok (.iinc 8 1, 3) := by decide +kernel
theorem d_TS_reachFrom_93 : decode b_TS_reachFrom 93 = .ok (.goto (-57), 3) := by decide +kernel
theorem d_TS_reachFrom_96 : decode b_TS_reachFrom 96 = .ok (.iinc 7 1, 3) := by decide +kernel
theorem d_TS_reachFrom_99 : decode b_TS_reachFrom 99 = .ok (.goto (-87), 3) := by decide +kernel
theorem d_TS_reachFrom_102 : decode b_TS_reachFrom 102 = .ok (.lload 5, 2) := by decide +kernel
theorem d_TS_reachFrom_104 : decode b_TS_reachFrom 104 = .ok (.lreturn, 1) := by decide +kernel
theorem d_TS_goes_0 : decode b_TS_goes 0 = .ok (.iload_n 0, 1) := by decide +kernel
theorem d_TS_goes_1 : decode b_TS_goes 1 = .ok (.ifCond .ne 14, 3) := by decide +kernel
theorem d_TS_goes_4 : decode b_TS_goes 4 = .ok (.iload_n 1, 1) := by decide +kernel
theorem d_TS_goes_5 : decode b_TS_goes 5 = .ok (.iconst 5, 1) := by decide +kernel
theorem d_TS_goes_6 : decode b_TS_goes 6 = .ok (.if_icmp .ne 7, 3) := by decide +kernel
theorem d_TS_goes_9 : decode b_TS_goes 9 = .ok (.iconst 1, 1) := by decide +kernel
theorem d_TS_goes_10 : decode b_TS_goes 10 = .ok (.goto 4, 3) := by decide +kernel
theorem d_TS_goes_13 : decode b_TS_goes 13 = .ok (.iconst 0, 1) := by decide +kernel
theorem d_TS_goes_14 : decode b_TS_goes 14 = .ok (.ireturn, 1) := by decide +kernel
theorem d_TS_goes_15 : decode b_TS_goes 15 = .ok (.iload_n 1, 1) := by decide +kernel
theorem d_TS_goes_16 : decode b_TS_goes 16 = .ok (.iconst 1, 1) := by decide +kernel
theorem d_TS_goes_17 : decode b_TS_goes 17 = .ok (.if_icmp .eq 13, 3) := by decide +kernel
theorem d_TS_goes_20 : decode b_TS_goes 20 = .ok (.iload_n 0, 1) := by decide +kernel
theorem d_TS_goes_21 : decode b_TS_goes 21 = .ok (.iconst 1, 1) := by decide +kernel
theorem d_TS_goes_22 : decode b_TS_goes 22 = .ok (.if_icmp .ne 12, 3) := by decide +kernel
theorem d_TS_goes_25 : decode b_TS_goes 25 = .ok (.iload_n 1, 1) := by decide +kernel
theorem d_TS_goes_26 : decode b_TS_goes 26 = .ok (.iconst 2, 1) := by decide +kernel
theorem d_TS_goes_27 : decode b_TS_goes 27 = .ok (.if_icmp .ne 7, 3) := by decide +kernel
theorem d_TS_goes_30 : decode b_TS_goes 30 = .ok (.iconst 1, 1) := by decide +kernel
theorem d_TS_goes_31 : decode b_TS_goes 31 = .ok (.goto 4, 3) := by decide +kernel
theorem d_TS_goes_34 : decode b_TS_goes 34 = .ok (.iconst 0, 1) := by decide +kernel
theorem d_TS_goes_35 : decode b_TS_goes 35 = .ok (.ireturn, 1) := by decide +kernel
theorem d_QS_init_0 : decode b_QS_init 0 = .ok (.aload_n 0, 1) := by decide +kernel
theorem d_QS_init_1 : decode b_QS_init 1 = .ok (.invokespecial 3, 3) := by decide +kernel
theorem d_QS_init_4 : decode b_QS_init 4 = .ok (.aload_n 0, 1) := by decide +kernel
theorem d_QS_init_5 : decode b_QS_init 5 = .ok (.bipush 6, 2) := by decide +kernel
theorem d_QS_init_7 : decode b_QS_init 7 = .ok (.newarray .int, 2) := by decide +kernel
theorem d_QS_init_9 : decode b_QS_init 9 = .ok (.putfield 9, 3) := by decide +kernel
theorem d_QS_init_12 : decode b_QS_init 12 = .ok (.aload_n 0, 1) := by decide +kernel
theorem d_QS_init_13 : decode b_QS_init 13 = .ok (.bipush 6, 2) := by decide +kernel
theorem d_QS_init_15 : decode b_QS_init 15 = .ok (.iload_n 1, 1) := by decide +kernel
theorem d_QS_init_16 : decode b_QS_init 16 = .ok (.invokestatic 15, 3) := by decide +kernel
theorem d_QS_init_19 : decode b_QS_init 19 = .ok (.putfield 21, 3) := by decide +kernel
theorem d_QS_init_22 : decode b_QS_init 22 = .ok (.aload_n 0, 1) := by decide +kernel
theorem d_QS_init_23 : decode b_QS_init 23 = .ok (.bipush 6, 2) := by decide +kernel
theorem d_QS_init_25 : decode b_QS_init 25 = .ok (.iload_n 2, 1) := by decide +kernel
theorem d_QS_init_26 : decode b_QS_init 26 = .ok (.invokestatic 15, 3) := by decide +kernel
theorem d_QS_init_29 : decode b_QS_init 29 = .ok (.putfield 25, 3) := by decide +kernel
theorem d_QS_init_32 : decode b_QS_init 32 = .ok (.return_, 1) := by decide +kernel
theorem d_RC_init_0 : decode b_RC_init 0 = .ok (.aload_n 0, 1) := by decide +kernel
theorem d_RC_init_1 : decode b_RC_init 1 = .ok (.invokespecial 3, 3) := by decide +kernel
theorem d_RC_init_4 : decode b_RC_init 4 = .ok (.aload_n 0, 1) := by decide +kernel
theorem d_RC_init_5 : decode b_RC_init 5 = .ok (.bipush 36, 2) := by decide +kernel
theorem d_RC_init_7 : decode b_RC_init 7 = .ok (.newarray .int, 2) := by decide +kernel
theorem d_RC_init_9 : decode b_RC_init 9 = .ok (.putfield 9, 3) := by decide +kernel
theorem d_RC_init_12 : decode b_RC_init 12 = .ok (.aload_n 0, 1) := by decide +kernel
theorem d_RC_init_13 : decode b_RC_init 13 = .ok (.bipush 36, 2) := by decide +kernel
theorem d_RC_init_15 : decode b_RC_init 15 = .ok (.newarray .int, 2) := by decide +kernel
theorem d_RC_init_17 : decode b_RC_init 17 = .ok (.putfield 15, 3) := by decide +kernel
theorem d_RC_init_20 : decode b_RC_init 20 = .ok (.aload_n 0, 1) := by decide +kernel
theorem d_RC_init_21 : decode b_RC_init 21 = .ok (.bipush 36, 2) := by decide +kernel
theorem d_RC_init_23 : decode b_RC_init 23 = .ok (.newarray .int, 2) := by decide +kernel
theorem d_RC_init_25 : decode b_RC_init 25 = .ok (.putfield 18, 3) := by decide +kernel
theorem d_RC_init_28 : decode b_RC_init 28 = .ok (.aload_n 0, 1) := by decide +kernel
theorem d_RC_init_29 : decode b_RC_init 29 = .ok (.bipush 36, 2) := by decide +kernel
theorem d_RC_init_31 : decode b_RC_init 31 = .ok (.newarray .int, 2) := by decide +kernel
theorem d_RC_init_33 : decode b_RC_init 33 = .ok (.putfield 21, 3) := by decide +kernel
theorem d_RC_init_36 : decode b_RC_init 36 = .ok (.aload_n 0, 1) := by decide +kernel
theorem d_RC_init_37 : decode b_RC_init 37 = .ok (.bipush 36, 2) := by decide +kernel
theorem d_RC_init_39 : decode b_RC_init 39 = .ok (.newarray .int, 2) := by decide +kernel
theorem d_RC_init_41 : decode b_RC_init 41 = .ok (.putfield 24, 3) := by decide +kernel
theorem d_RC_init_44 : decode b_RC_init 44 = .ok (.aload_n 0, 1) := by decide +kernel
theorem d_RC_init_45 : decode b_RC_init 45 = .ok (.bipush 36, 2) := by decide +kernel
theorem d_RC_init_47 : decode b_RC_init 47 = .ok (.newarray .int, 2) := by decide +kernel
theorem d_RC_init_49 : decode b_RC_init 49 = .ok (.putfield 27, 3) := by decide +kernel
theorem d_RC_init_52 : decode b_RC_init 52 = .ok (.aload_n 0, 1) := by decide +kernel
theorem d_RC_init_53 : decode b_RC_init 53 = .ok (.bipush 36, 2) := by decide +kernel
theorem d_RC_init_55 : decode b_RC_init 55 = .ok (.iload_n 1, 1) := by decide +kernel
theorem d_RC_init_56 : decode b_RC_init 56 = .ok (.iload_n 2, 1) := by decide +kernel
theorem d_RC_init_57 : decode b_RC_init 57 = .ok (.imul, 1) := by decide +kernel
theorem d_RC_init_58 : decode b_RC_init 58 = .ok (.invokestatic 30, 3) := by decide +kernel
theorem d_RC_init_61 : decode b_RC_init 61 = .ok (.putfield 36, 3) := by decide +kernel
theorem d_RC_init_64 : decode b_RC_init 64 = .ok (.aload_n 0, 1) := by decide +kernel
theorem d_RC_init_65 : decode b_RC_init 65 = .ok (.iload_n 1, 1) := by decide +kernel
theorem d_RC_init_66 : decode b_RC_init 66 = .ok (.iload_n 2, 1) := by decide +kernel
theorem d_RC_init_67 : decode b_RC_init 67 = .ok (.invokestatic 40, 3) := by decide +kernel
theorem d_RC_init_70 : decode b_RC_init 70 = .ok (.putfield 43, 3) := by decide +kernel
theorem d_RC_init_73 : decode b_RC_init 73 = .ok (.aload_n 0, 1) := by decide +kernel
theorem d_RC_init_74 : decode b_RC_init 74 = .ok (.iload_n 1, 1) := by decide +kernel
theorem d_RC_init_75 : decode b_RC_init 75 = .ok (.iload_n 2, 1) := by decide +kernel
theorem d_RC_init_76 : decode b_RC_init 76 = .ok (.invokestatic 30, 3) := by decide +kernel
theorem d_RC_init_79 : decode b_RC_init 79 = .ok (.putfield 46, 3) := by decide +kernel
theorem d_RC_init_82 : decode b_RC_init 82 = .ok (.aload_n 0, 1) := by decide +kernel
theorem d_RC_init_83 : decode b_RC_init 83 = .ok (.iconst 2, 1) := by decide +kernel
theorem d_RC_init_84 : decode b_RC_init 84 = .ok (.aload_n 0, 1) := by decide +kernel
theorem d_RC_init_85 : decode b_RC_init 85 = .ok (.getfield 43, 3) := by decide +kernel
theorem d_RC_init_88 : decode b_RC_init 88 = .ok (.ishl, 1) := by decide +kernel
theorem d_RC_init_89 : decode b_RC_init 89 = .ok (.iconst 2, 1) := by decide +kernel
theorem d_RC_init_90 : decode b_RC_init 90 = .ok (.isub, 1) := by decide +kernel
theorem d_RC_init_91 : decode b_RC_init 91 = .ok (.putfield 49, 3) := by decide +kernel
theorem d_RC_init_94 : decode b_RC_init 94 = .ok (.iconst 0, 1) := by decide +kernel
theorem d_RC_init_95 : decode b_RC_init 95 = .ok (.istore_n 3, 1) := by decide +kernel
theorem d_RC_init_96 : decode b_RC_init 96 = .ok (.iload_n 3, 1) := by decide +kernel
theorem d_RC_init_97 : decode b_RC_init 97 = .ok (.iload_n 2, 1) := by decide +kernel
theorem d_RC_init_98 : decode b_RC_init 98 = .ok (.if_icmp .ge 80, 3) := by decide +kernel
theorem d_RC_init_101 : decode b_RC_init 101 = .ok (.iload_n 3, 1) := by decide +kernel
theorem d_RC_init_102 : decode b_RC_init 102 = .ok (.bipush 6, 2) := by decide +kernel
theorem d_RC_init_104 : decode b_RC_init 104 = .ok (.if_icmp .ge 74, 3) := by decide +kernel
theorem d_RC_init_107 : decode b_RC_init 107 = .ok (.iconst 0, 1) := by decide +kernel
theorem d_RC_init_108 : decode b_RC_init 108 = .ok (.istore 4, 2) := by decide +kernel
theorem d_RC_init_110 : decode b_RC_init 110 = .ok (.iload 4, 2) := by decide +kernel
theorem d_RC_init_112 : decode b_RC_init 112 = .ok (.iload_n 1, 1) := by decide +kernel
theorem d_RC_init_113 : decode b_RC_init 113 = .ok (.if_icmp .ge 59, 3) := by decide +kernel
theorem d_RC_init_116 : decode b_RC_init 116 = .ok (.iload 4, 2) := by decide +kernel
theorem d_RC_init_118 : decode b_RC_init 118 = .ok (.bipush 6, 2) := by decide +kernel
theorem d_RC_init_120 : decode b_RC_init 120 = .ok (.if_icmp .ge 52, 3) := by decide +kernel
theorem d_RC_init_123 : decode b_RC_init 123 = .ok (.iload 4, 2) := by decide +kernel
theorem d_RC_init_125 : decode b_RC_init 125 = .ok (.iload_n 1, 1) := by decide +kernel
theorem d_RC_init_126 : decode b_RC_init 126 = .ok (.iload_n 3, 1) := by decide +kernel
theorem d_RC_init_127 : decode b_RC_init 127 = .ok (.imul, 1) := by decide +kernel
theorem d_RC_init_128 : decode b_RC_init 128 = .ok (.iadd, 1) := by decide +kernel
theorem d_RC_init_129 : decode b_RC_init 129 = .ok (.istore 5, 2) := by decide +kernel
theorem d_RC_init_131 : decode b_RC_init 131 = .ok (.iload 5, 2) := by decide +kernel
theorem d_RC_init_133 : decode b_RC_init 133 = .ok (.ifCond .lt 33, 3) := by decide +kernel
theorem d_RC_init_136 : decode b_RC_init 136 = .ok (.iload 5, 2) := by decide +kernel
theorem d_RC_init_138 : decode b_RC_init 138 = .ok (.bipush 36, 2) := by decide +kernel
theorem d_RC_init_140 : decode b_RC_init 140 = .ok (.if_icmp .ge 26, 3) := by decide +kernel
theorem d_RC_init_143 : decode b_RC_init 143 = .ok (.aload_n 0, 1) := by decide +kernel
theorem d_RC_init_144 : decode b_RC_init 144 = .ok (.getfield 24, 3) := by decide +kernel
theorem d_RC_init_147 : decode b_RC_init 147 = .ok (.iload 5, 2) := by decide +kernel
theorem d_RC_init_149 : decode b_RC_init 149 = .ok (.bipush 8, 2) := by decide +kernel
theorem d_RC_init_151 : decode b_RC_init 151 = .ok (.iload 4, 2) := by decide +kernel
theorem d_RC_init_153 : decode b_RC_init 153 = .ok (.imul, 1) := by decide +kernel
theorem d_RC_init_154 : decode b_RC_init 154 = .ok (.iastore, 1) := by decide +kernel
theorem d_RC_init_155 : decode b_RC_init 155 = .ok (.aload_n 0, 1) := by decide +kernel
theorem d_RC_init_156 : decode b_RC_init 156 = .ok (.getfield 27, 3) := by decide +kernel
theorem d_RC_init_159 : decode b_RC_init 159 = .ok (.iload 5, 2) := by decide +kernel
theorem d_RC_init_161 : decode b_RC_init 161 = .ok (.bipush 8, 2) := by decide +kernel
theorem d_RC_init_163 : decode b_RC_init 163 = .ok (.iload_n 3, 1) := by decide +kernel
theorem d_RC_init_164 : decode b_RC_init 164 = .ok (.imul, 1) := by decide +kernel
theorem d_RC_init_165 : decode b_RC_init 165 = .ok (.iastore, 1) := by decide +kernel
theorem d_RC_init_166 : decode b_RC_init 166 = .ok (.iinc 4 1, 3) := by decide +kernel
theorem d_RC_init_169 : decode b_RC_init 169 = .ok (.goto (-59), 3) := by decide +kernel
theorem d_RC_init_172 : decode b_RC_init 172 = .ok (.iinc 3 1, 3) := by decide +kernel
theorem d_RC_init_175 : decode b_RC_init 175 = .ok (.goto (-79), 3) := by decide +kernel
theorem d_RC_init_178 : decode b_RC_init 178 = .ok (.return_, 1) := by decide +kernel
theorem d_TF_bar_0 : decode b_TF_bar 0 = .ok (.aload_n 0, 1) := by decide +kernel
theorem d_TF_bar_1 : decode b_TF_bar 1 = .ok (.getfield 18, 3) := by decide +kernel
theorem d_TF_bar_4 : decode b_TF_bar 4 = .ok (.iload_n 1, 1) := by decide +kernel
theorem d_TF_bar_5 : decode b_TF_bar 5 = .ok (.iload_n 2, 1) := by decide +kernel
theorem d_TF_bar_6 : decode b_TF_bar 6 = .ok (.invokevirtual 47, 3) := by decide +kernel
theorem d_TF_bar_9 : decode b_TF_bar 9 = .ok (.istore 4, 2) := by decide +kernel
theorem d_TF_bar_11 : decode b_TF_bar 11 = .ok (.iload 4, 2) := by decide +kernel
theorem d_TF_bar_13 : decode b_TF_bar 13 = .ok (.ifCond .lt 16, 3) := by decide +kernel
theorem d_TF_bar_16 : decode b_TF_bar 16 = .ok (.aload_n 0, 1) := by decide +kernel
theorem d_TF_bar_17 : decode b_TF_bar 17 = .ok (.getfield 18, 3) := by decide +kernel
theorem d_TF_bar_20 : decode b_TF_bar 20 = .ok (.iload 4, 2) := by decide +kernel
theorem d_TF_bar_22 : decode b_TF_bar 22 = .ok (.invokevirtual 51, 3) := by decide +kernel
theorem d_TF_bar_25 : decode b_TF_bar 25 = .ok (.iload_n 3, 1) := by decide +kernel
theorem d_TF_bar_26 : decode b_TF_bar 26 = .ok (.if_icmp .eq 5, 3) := by decide +kernel
theorem d_TF_bar_29 : decode b_TF_bar 29 = .ok (.iconst 0, 1) := by decide +kernel
theorem d_TF_bar_30 : decode b_TF_bar 30 = .ok (.ireturn, 1) := by decide +kernel
theorem d_TF_bar_31 : decode b_TF_bar 31 = .ok (.aload_n 0, 1) := by decide +kernel
theorem d_TF_bar_32 : decode b_TF_bar 32 = .ok (.getfield 18, 3) := by decide +kernel
theorem d_TF_bar_35 : decode b_TF_bar 35 = .ok (.iload 4, 2) := by decide +kernel
theorem d_TF_bar_37 : decode b_TF_bar 37 = .ok (.invokevirtual 55, 3) := by decide +kernel
theorem d_TF_bar_40 : decode b_TF_bar 40 = .ok (.aload_n 0, 1) := by decide +kernel
theorem d_TF_bar_41 : decode b_TF_bar 41 = .ok (.getfield 25, 3) := by decide +kernel
theorem d_TF_bar_44 : decode b_TF_bar 44 = .ok (.invokevirtual 59, 3) := by decide +kernel
theorem d_TF_bar_47 : decode b_TF_bar 47 = .ok (.iconst 1, 1) := by decide +kernel
theorem d_TF_bar_48 : decode b_TF_bar 48 = .ok (.ireturn, 1) := by decide +kernel
theorem d_BD_cellAt_0 : decode b_BD_cellAt 0 = .ok (.iload_n 1, 1) := by decide +kernel
theorem d_BD_cellAt_1 : decode b_BD_cellAt 1 = .ok (.ifCond .lt 23, 3) := by decide +kernel
theorem d_BD_cellAt_4 : decode b_BD_cellAt 4 = .ok (.iload_n 1, 1) := by decide +kernel
theorem d_BD_cellAt_5 : decode b_BD_cellAt 5 = .ok (.aload_n 0, 1) := by decide +kernel
theorem d_BD_cellAt_6 : decode b_BD_cellAt 6 = .ok (.getfield 7, 3) := by decide +kernel
theorem d_BD_cellAt_9 : decode b_BD_cellAt 9 = .ok (.if_icmp .ge 15, 3) := by decide +kernel
theorem d_BD_cellAt_12 : decode b_BD_cellAt 12 = .ok (.iload_n 2, 1) := by decide +kernel
theorem d_BD_cellAt_13 : decode b_BD_cellAt 13 = .ok (.ifCond .lt 11, 3) := by decide +kernel
theorem d_BD_cellAt_16 : decode b_BD_cellAt 16 = .ok (.iload_n 2, 1) := by decide +kernel
theorem d_BD_cellAt_17 : decode b_BD_cellAt 17 = .ok (.aload_n 0, 1) := by decide +kernel
theorem d_BD_cellAt_18 : decode b_BD_cellAt 18 = .ok (.getfield 13, 3) := by decide +kernel
theorem d_BD_cellAt_21 : decode b_BD_cellAt 21 = .ok (.if_icmp .lt 7, 3) := by decide +kernel
theorem d_BD_cellAt_24 : decode b_BD_cellAt 24 = .ok (.iconst (-1), 1) := by decide +kernel
theorem d_BD_cellAt_25 : decode b_BD_cellAt 25 = .ok (.goto 11, 3) := by decide +kernel
theorem d_BD_cellAt_28 : decode b_BD_cellAt 28 = .ok (.iload_n 1, 1) := by decide +kernel
theorem d_BD_cellAt_29 : decode b_BD_cellAt 29 = .ok (.aload_n 0, 1) := by decide +kernel
theorem d_BD_cellAt_30 : decode b_BD_cellAt 30 = .ok (.getfield 7, 3) := by decide +kernel
theorem d_BD_cellAt_33 : decode b_BD_cellAt 33 = .ok (.iload_n 2, 1) := by decide +kernel
theorem d_BD_cellAt_34 : decode b_BD_cellAt 34 = .ok (.imul, 1) := by decide +kernel
theorem d_BD_cellAt_35 : decode b_BD_cellAt 35 = .ok (.iadd, 1) := by decide +kernel
theorem d_BD_cellAt_36 : decode b_BD_cellAt 36 = .ok (.ireturn, 1) := by decide +kernel
theorem d_BD_isFree_0 : decode b_BD_isFree 0 = .ok (.aload_n 0, 1) := by decide +kernel
theorem d_BD_isFree_1 : decode b_BD_isFree 1 = .ok (.iload_n 1, 1) := by decide +kernel
theorem d_BD_isFree_2 : decode b_BD_isFree 2 = .ok (.invokevirtual 23, 3) := by decide +kernel
theorem d_BD_isFree_5 : decode b_BD_isFree 5 = .ok (.ifCond .eq 20, 3) := by decide +kernel
theorem d_BD_isFree_8 : decode b_BD_isFree 8 = .ok (.aload_n 0, 1) := by decide +kernel
theorem d_BD_isFree_9 : decode b_BD_isFree 9 = .ok (.getfield 19, 3) := by decide +kernel
theorem d_BD_isFree_12 : decode b_BD_isFree 12 = .ok (.iload_n 1, 1) := by decide +kernel
theorem d_BD_isFree_13 : decode b_BD_isFree 13 = .ok (.lushr, 1) := by decide +kernel
theorem d_BD_isFree_14 : decode b_BD_isFree 14 = .ok (.lconst 1, 1) := by decide +kernel
theorem d_BD_isFree_15 : decode b_BD_isFree 15 = .ok (.land, 1) := by decide +kernel
theorem d_BD_isFree_16 : decode b_BD_isFree 16 = .ok (.lconst 0, 1) := by decide +kernel
theorem d_BD_isFree_17 : decode b_BD_isFree 17 = .ok (.lcmp, 1) := by decide +kernel
theorem d_BD_isFree_18 : decode b_BD_isFree 18 = .ok (.ifCond .eq 7, 3) := by decide +kernel
theorem d_BD_isFree_21 : decode b_BD_isFree 21 = .ok (.iconst 1, 1) := by decide +kernel
theorem d_BD_isFree_22 : decode b_BD_isFree 22 = .ok (.goto 4, 3) := by decide +kernel
theorem d_BD_isFree_25 : decode b_BD_isFree 25 = .ok (.iconst 0, 1) := by decide +kernel
theorem d_BD_isFree_26 : decode b_BD_isFree 26 = .ok (.ireturn, 1) := by decide +kernel
theorem d_BD_hasCell_0 : decode b_BD_hasCell 0 = .ok (.iload_n 1, 1) := by decide +kernel
theorem d_BD_hasCell_1 : decode b_BD_hasCell 1 = .ok (.ifCond .lt 15, 3) := by decide +kernel
theorem d_BD_hasCell_4 : decode b_BD_hasCell 4 = .ok (.iload_n 1, 1) := by decide +kernel
theorem d_BD_hasCell_5 : decode b_BD_hasCell 5 = .ok (.aload_n 0, 1) := by decide +kernel
theorem d_BD_hasCell_6 : decode b_BD_hasCell 6 = .ok (.getfield 16, 3) := by decide +kernel
theorem d_BD_hasCell_9 : decode b_BD_hasCell 9 = .ok (.if_icmp .ge 7, 3) := by decide +kernel
theorem d_BD_hasCell_12 : decode b_BD_hasCell 12 = .ok (.iconst 1, 1) := by decide +kernel
theorem d_BD_hasCell_13 : decode b_BD_hasCell 13 = .ok (.goto 4, 3) := by decide +kernel
theorem d_BD_hasCell_16 : decode b_BD_hasCell 16 = .ok (.iconst 0, 1) := by decide +kernel
theorem d_BD_hasCell_17 : decode b_BD_hasCell 17 = .ok (.ireturn, 1) := by decide +kernel
theorem d_BD_turnBar_0 : decode b_BD_turnBar 0 = .ok (.aload_n 0, 1) := by decide +kernel
theorem d_BD_turnBar_1 : decode b_BD_turnBar 1 = .ok (.iload_n 1, 1) := by decide +kernel
theorem d_BD_turnBar_2 : decode b_BD_turnBar 2 = .ok (.invokevirtual 23, 3) := by decide +kernel
theorem d_BD_turnBar_5 : decode b_BD_turnBar 5 = .ok (.ifCond .eq 15, 3) := by decide +kernel
theorem d_BD_turnBar_8 : decode b_BD_turnBar 8 = .ok (.aload_n 0, 1) := by decide +kernel
theorem d_BD_turnBar_9 : decode b_BD_turnBar 9 = .ok (.dup, 1) := by decide +kernel
theorem d_BD_turnBar_10 : decode b_BD_turnBar 10 = .ok (.getfield 19, 3) := by decide +kernel
theorem d_BD_turnBar_13 : decode b_BD_turnBar 13 = .ok (.lconst 1, 1) := by decide +kernel
theorem d_BD_turnBar_14 : decode b_BD_turnBar 14 = .ok (.iload_n 1, 1) := by decide +kernel
theorem d_BD_turnBar_15 : decode b_BD_turnBar 15 = .ok (.lshl, 1) := by decide +kernel
theorem d_BD_turnBar_16 : decode b_BD_turnBar 16 = .ok (.lxor, 1) := by decide +kernel
theorem d_BD_turnBar_17 : decode b_BD_turnBar 17 = .ok (.putfield 19, 3) := by decide +kernel
theorem d_BD_turnBar_20 : decode b_BD_turnBar 20 = .ok (.return_, 1) := by decide +kernel
theorem d_TS_forget_0 : decode b_TS_forget 0 = .ok (.aload_n 0, 1) := by decide +kernel
theorem d_TS_forget_1 : decode b_TS_forget 1 = .ok (.iconst 0, 1) := by decide +kernel
theorem d_TS_forget_2 : decode b_TS_forget 2 = .ok (.putfield 50, 3) := by decide +kernel
theorem d_TS_forget_5 : decode b_TS_forget 5 = .ok (.return_, 1) := by decide +kernel
theorem d_TF_start_0 : decode b_TF_start 0 = .ok (.aload_n 0, 1) := by decide +kernel
theorem d_TF_start_1 : decode b_TF_start 1 = .ok (.getfield 18, 3) := by decide +kernel
theorem d_TF_start_4 : decode b_TF_start 4 = .ok (.iload_n 1, 1) := by decide +kernel
theorem d_TF_start_5 : decode b_TF_start 5 = .ok (.iload_n 2, 1) := by decide +kernel
theorem d_TF_start_6 : decode b_TF_start 6 = .ok (.invokevirtual 47, 3) := by decide +kernel
theorem d_TF_start_9 : decode b_TF_start 9 = .ok (.istore_n 3, 1) := by decide +kernel
theorem d_TF_start_10 : decode b_TF_start 10 = .ok (.iload_n 3, 1) := by decide +kernel
theorem d_TF_start_11 : decode b_TF_start 11 = .ok (.ifCond .ge 5, 3) := by decide +kernel
theorem d_TF_start_14 : decode b_TF_start 14 = .ok (.iconst 0, 1) := by decide +kernel
theorem d_TF_start_15 : decode b_TF_start 15 = .ok (.ireturn, 1) := by decide +kernel
theorem d_TF_start_16 : decode b_TF_start 16 = .ok (.aload_n 0, 1) := by decide +kernel
theorem d_TF_start_17 : decode b_TF_start 17 = .ok (.iload_n 3, 1) := by decide +kernel
theorem d_TF_start_18 : decode b_TF_start 18 = .ok (.putfield 43, 3) := by decide +kernel
theorem d_TF_start_21 : decode b_TF_start 21 = .ok (.aload_n 0, 1) := by decide +kernel
theorem d_TF_start_22 : decode b_TF_start 22 = .ok (.getfield 25, 3) := by decide +kernel
theorem d_TF_start_25 : decode b_TF_start 25 = .ok (.invokevirtual 59, 3) := by decide +kernel
theorem d_TF_start_28 : decode b_TF_start 28 = .ok (.iconst 1, 1) := by decide +kernel
theorem d_TF_start_29 : decode b_TF_start 29 = .ok (.ireturn, 1) := by decide +kernel
theorem d_TF_tour_0 : decode b_TF_tour 0 = .ok (.iload_n 1, 1) := by decide +kernel
theorem d_TF_tour_1 : decode b_TF_tour 1 = .ok (.invokestatic 62, 3) := by decide +kernel
theorem d_TF_tour_4 : decode b_TF_tour 4 = .ok (.ifCond .eq 13, 3) := by decide +kernel
theorem d_TF_tour_7 : decode b_TF_tour 7 = .ok (.iload_n 3, 1) := by decide +kernel
theorem d_TF_tour_8 : decode b_TF_tour 8 = .ok (.ifCond .lt 9, 3) := by decide +kernel
theorem d_TF_tour_11 : decode b_TF_tour 11 = .ok (.iload_n 3, 1) := by decide +kernel
theorem d_TF_tour_12 : decode b_TF_tour 12 = .ok (.ldc 65, 2) := by decide +kernel
theorem d_TF_tour_14 : decode b_TF_tour 14 = .ok (.if_icmp .le 5, 3) := by decide +kernel
theorem d_TF_tour_17 : decode b_TF_tour 17 = .ok (.iconst (-1), 1) := by decide +kernel
theorem d_TF_tour_18 : decode b_TF_tour 18 = .ok (.ireturn, 1) := by decide +kernel
theorem d_TF_tour_19 : decode b_TF_tour 19 = .ok (.aload_n 0, 1) := by decide +kernel
theorem d_TF_tour_20 : decode b_TF_tour 20 = .ok (.getfield 18, 3) := by decide +kernel
theorem d_TF_tour_23 : decode b_TF_tour 23 = .ok (.aload_n 0, 1) := by decide +kernel
theorem d_TF_tour_24 : decode b_TF_tour 24 = .ok (.getfield 43, 3) := by decide +kernel
theorem d_TF_tour_27 : decode b_TF_tour 27 = .ok (.invokevirtual 51, 3) := by decide +kernel
theorem d_TF_tour_30 : decode b_TF_tour 30 = .ok (.ifCond .ne 12, 3) := by decide +kernel
theorem d_TF_tour_33 : decode b_TF_tour 33 = .ok (.aload_n 0, 1) := by decide +kernel
theorem d_TF_tour_34 : decode b_TF_tour 34 = .ok (.getfield 25, 3) := by decide +kernel
theorem d_TF_tour_37 : decode b_TF_tour 37 = .ok (.invokevirtual 66, 3) := by decide +kernel
theorem d_TF_tour_40 : decode b_TF_tour 40 = .ok (.iconst 1, 1) := by decide +kernel
theorem d_TF_tour_41 : decode b_TF_tour 41 = .ok (.ireturn, 1) := by decide +kernel
theorem d_TF_tour_42 : decode b_TF_tour 42 = .ok (.aload_n 0, 1) := by decide +kernel
theorem d_TF_tour_43 : decode b_TF_tour 43 = .ok (.getfield 25, 3) := by decide +kernel
theorem d_TF_tour_46 : decode b_TF_tour 46 = .ok (.iload_n 1, 1) := by decide +kernel
theorem d_TF_tour_47 : decode b_TF_tour 47 = .ok (.aload_n 0, 1) := by decide +kernel
theorem d_TF_tour_48 : decode b_TF_tour 48 = .ok (.getfield 43, 3) := by decide +kernel
theorem d_TF_tour_51 : decode b_TF_tour 51 = .ok (.aload_n 0, 1) := by decide +kernel
theorem d_TF_tour_52 : decode b_TF_tour 52 = .ok (.getfield 18, 3) := by decide +kernel
theorem d_TF_tour_55 : decode b_TF_tour 55 = .ok (.invokevirtual 69, 3) := by decide +kernel
theorem d_TF_tour_58 : decode b_TF_tour 58 = .ok (.invokevirtual 73, 3) := by decide +kernel
theorem d_TF_tour_61 : decode b_TF_tour 61 = .ok (.aload_n 0, 1) := by decide +kernel
theorem d_TF_tour_62 : decode b_TF_tour 62 = .ok (.getfield 25, 3) := by decide +kernel
theorem d_TF_tour_65 : decode b_TF_tour 65 = .ok (.iload_n 2, 1) := by decide +kernel
theorem d_TF_tour_66 : decode b_TF_tour 66 = .ok (.iload_n 3, 1) := by decide +kernel
theorem d_TF_tour_67 : decode b_TF_tour 67 = .ok (.invokevirtual 77, 3) := by decide +kernel
theorem d_TF_tour_70 : decode b_TF_tour 70 = .ok (.ireturn, 1) := by decide +kernel
theorem d_TF_isPiece_0 : decode b_TF_isPiece 0 = .ok (.iload_n 0, 1) := by decide +kernel
theorem d_TF_isPiece_1 : decode b_TF_isPiece 1 = .ok (.ifCond .lt 12, 3) := by decide +kernel
theorem d_TF_isPiece_4 : decode b_TF_isPiece 4 = .ok (.iload_n 0, 1) := by decide +kernel
theorem d_TF_isPiece_5 : decode b_TF_isPiece 5 = .ok (.iconst 3, 1) := by decide +kernel
theorem d_TF_isPiece_6 : decode b_TF_isPiece 6 = .ok (.if_icmp .ge 7, 3) := by decide +kernel
theorem d_TF_isPiece_9 : decode b_TF_isPiece 9 = .ok (.iconst 1, 1) := by decide +kernel
theorem d_TF_isPiece_10 : decode b_TF_isPiece 10 = .ok (.goto 4, 3) := by decide +kernel
theorem d_TF_isPiece_13 : decode b_TF_isPiece 13 = .ok (.iconst 0, 1) := by decide +kernel
theorem d_TF_isPiece_14 : decode b_TF_isPiece 14 = .ok (.ireturn, 1) := by decide +kernel
theorem d_TS_giveUp_0 : decode b_TS_giveUp 0 = .ok (.aload_n 0, 1) := by decide +kernel
theorem d_TS_giveUp_1 : decode b_TS_giveUp 1 = .ok (.iconst 0, 1) := by decide +kernel
theorem d_TS_giveUp_2 : decode b_TS_giveUp 2 = .ok (.putfield 50, 3) := by decide +kernel
theorem d_TS_giveUp_5 : decode b_TS_giveUp 5 = .ok (.aload_n 0, 1) := by decide +kernel
theorem d_TS_giveUp_6 : decode b_TS_giveUp 6 = .ok (.iconst 0, 1) := by decide +kernel
theorem d_TS_giveUp_7 : decode b_TS_giveUp 7 = .ok (.putfield 54, 3) := by decide +kernel
theorem d_TS_giveUp_10 : decode b_TS_giveUp 10 = .ok (.return_, 1) := by decide +kernel
theorem d_BD_freeCells_0 : decode b_BD_freeCells 0 = .ok (.aload_n 0, 1) := by decide +kernel
theorem d_BD_freeCells_1 : decode b_BD_freeCells 1 = .ok (.getfield 19, 3) := by decide +kernel
theorem d_BD_freeCells_4 : decode b_BD_freeCells 4 = .ok (.lreturn, 1) := by decide +kernel
theorem d_TS_begin_0 : decode b_TS_begin 0 = .ok (.aload_n 0, 1) := by decide +kernel
theorem d_TS_begin_1 : decode b_TS_begin 1 = .ok (.invokevirtual 58, 3) := by decide +kernel
theorem d_TS_begin_4 : decode b_TS_begin 4 = .ok (.aload_n 0, 1) := by decide +kernel
theorem d_TS_begin_5 : decode b_TS_begin 5 = .ok (.iload_n 1, 1) := by decide +kernel
theorem d_TS_begin_6 : decode b_TS_begin 6 = .ok (.putfield 61, 3) := by decide +kernel
theorem d_TS_begin_9 : decode b_TS_begin 9 = .ok (.aload_n 0, 1) := by decide +kernel
theorem d_TS_begin_10 : decode b_TS_begin 10 = .ok (.lload_n 3, 1) := by decide +kernel
theorem d_TS_begin_11 : decode b_TS_begin 11 = .ok (.putfield 64, 3) := by decide +kernel
theorem d_TS_begin_14 : decode b_TS_begin 14 = .ok (.aload_n 0, 1) := by decide +kernel
theorem d_TS_begin_15 : decode b_TS_begin 15 = .ok (.iconst 0, 1) := by decide +kernel
theorem d_TS_begin_16 : decode b_TS_begin 16 = .ok (.putfield 68, 3) := by decide +kernel
theorem d_TS_begin_19 : decode b_TS_begin 19 = .ok (.aload_n 0, 1) := by decide +kernel
theorem d_TS_begin_20 : decode b_TS_begin 20 = .ok (.iload_n 2, 1) := by decide +kernel
theorem d_TS_begin_21 : decode b_TS_begin 21 = .ok (.invokevirtual 71, 3) := by decide +kernel
theorem d_TS_begin_24 : decode b_TS_begin 24 = .ok (.return_, 1) := by decide +kernel
theorem d_TS_enter_0 : decode b_TS_enter 0 = .ok (.aload_n 0, 1) := by decide +kernel
theorem d_TS_enter_1 : decode b_TS_enter 1 = .ok (.getfield 68, 3) := by decide +kernel
theorem d_TS_enter_4 : decode b_TS_enter 4 = .ok (.ifCond .lt 12, 3) := by decide +kernel
theorem d_TS_enter_7 : decode b_TS_enter 7 = .ok (.aload_n 0, 1) := by decide +kernel
theorem d_TS_enter_8 : decode b_TS_enter 8 = .ok (.getfield 68, 3) := by decide +kernel
theorem d_TS_enter_11 : decode b_TS_enter 11 = .ok (.bipush 36, 2) := by decide +kernel
theorem d_TS_enter_13 : decode b_TS_enter 13 = .ok (.if_icmp .lt 4, 3) := by decide +kernel
theorem d_TS_enter_16 : decode b_TS_enter 16 = .ok (.return_, 1) := by decide +kernel
theorem d_TS_enter_17 : decode b_TS_enter 17 = .ok (.aload_n 0, 1) := by decide +kernel
theorem d_TS_enter_18 : decode b_TS_enter 18 = .ok (.dup, 1) := by decide +kernel
theorem d_TS_enter_19 : decode b_TS_enter 19 = .ok (.getfield 64, 3) := by decide +kernel
theorem d_TS_enter_22 : decode b_TS_enter 22 = .ok (.lconst 1, 1) := by decide +kernel
theorem d_TS_enter_23 : decode b_TS_enter 23 = .ok (.iload_n 1, 1) := by decide +kernel
theorem d_TS_enter_24 : decode b_TS_enter 24 = .ok (.lshl, 1) := by decide +kernel
theorem d_TS_enter_25 : decode b_TS_enter 25 = .ok (.ldc2_w 90, 3) := by decide +kernel
theorem d_TS_enter_28 : decode b_TS_enter 28 = .ok (.lxor, 1) := by decide +kernel
theorem d_TS_enter_29 : decode b_TS_enter 29 = .ok (.land, 1) := by decide +kernel
theorem d_TS_enter_30 : decode b_TS_enter 30 = .ok (.putfield 64, 3) := by decide +kernel
theorem d_TS_enter_33 : decode b_TS_enter 33 = .ok (.aload_n 0, 1) := by decide +kernel
theorem d_TS_enter_34 : decode b_TS_enter 34 = .ok (.getfield 9, 3) := by decide +kernel
theorem d_TS_enter_37 : decode b_TS_enter 37 = .ok (.aload_n 0, 1) := by decide +kernel
theorem d_TS_enter_38 : decode b_TS_enter 38 = .ok (.getfield 68, 3) := by decide +kernel
theorem d_TS_enter_41 : decode b_TS_enter 41 = .ok (.iload_n 1, 1) := by decide +kernel
theorem d_TS_enter_42 : decode b_TS_enter 42 = .ok (.iastore, 1) := by decide +kernel
theorem d_TS_enter_43 : decode b_TS_enter 43 = .ok (.aload_n 0, 1) := by decide +kernel
theorem d_TS_enter_44 : decode b_TS_enter 44 = .ok (.getfield 21, 3) := by decide +kernel
theorem d_TS_enter_47 : decode b_TS_enter 47 = .ok (.aload_n 0, 1) := by decide +kernel
theorem d_TS_enter_48 : decode b_TS_enter 48 = .ok (.getfield 68, 3) := by decide +kernel
theorem d_TS_enter_51 : decode b_TS_enter 51 = .ok (.iconst 0, 1) := by decide +kernel
theorem d_TS_enter_52 : decode b_TS_enter 52 = .ok (.iastore, 1) := by decide +kernel
theorem d_TS_enter_53 : decode b_TS_enter 53 = .ok (.aload_n 0, 1) := by decide +kernel
theorem d_TS_enter_54 : decode b_TS_enter 54 = .ok (.getfield 18, 3) := by decide +kernel
theorem d_TS_enter_57 : decode b_TS_enter 57 = .ok (.aload_n 0, 1) := by decide +kernel
theorem d_TS_enter_58 : decode b_TS_enter 58 = .ok (.getfield 68, 3) := by decide +kernel
theorem d_TS_enter_61 : decode b_TS_enter 61 = .ok (.aload_n 0, 1) := by decide +kernel
theorem d_TS_enter_62 : decode b_TS_enter 62 = .ok (.iload_n 1, 1) := by decide +kernel
theorem d_TS_enter_63 : decode b_TS_enter 63 = .ok (.aload_n 0, 1) := by decide +kernel
theorem d_TS_enter_64 : decode b_TS_enter 64 = .ok (.getfield 68, 3) := by decide +kernel
theorem d_TS_enter_67 : decode b_TS_enter 67 = .ok (.bipush 8, 2) := by decide +kernel
theorem d_TS_enter_69 : decode b_TS_enter 69 = .ok (.imul, 1) := by decide +kernel
theorem d_TS_enter_70 : decode b_TS_enter 70 = .ok (.invokevirtual 92, 3) := by decide +kernel
theorem d_TS_enter_73 : decode b_TS_enter 73 = .ok (.iastore, 1) := by decide +kernel
theorem d_TS_enter_74 : decode b_TS_enter 74 = .ok (.aload_n 0, 1) := by decide +kernel
theorem d_TS_enter_75 : decode b_TS_enter 75 = .ok (.dup, 1) := by decide +kernel
theorem d_TS_enter_76 : decode b_TS_enter 76 = .ok (.getfield 68, 3) := by decide +kernel
theorem d_TS_enter_79 : decode b_TS_enter 79 = .ok (.iconst 1, 1) := by decide +kernel
theorem d_TS_enter_80 : decode b_TS_enter 80 = .ok (.iadd, 1) := by decide +kernel
theorem d_TS_enter_81 : decode b_TS_enter 81 = .ok (.putfield 68, 3) := by decide +kernel
theorem d_TS_enter_84 : decode b_TS_enter 84 = .ok (.return_, 1) := by decide +kernel
theorem d_TS_listWaysOn_0 : decode b_TS_listWaysOn 0 = .ok (.aload_n 0, 1) := by decide +kernel
theorem d_TS_listWaysOn_1 : decode b_TS_listWaysOn 1 = .ok (.aload_n 0, 1) := by decide +kernel
theorem d_TS_listWaysOn_2 : decode b_TS_listWaysOn 2 = .ok (.getfield 61, 3) := by decide +kernel
theorem d_TS_listWaysOn_5 : decode b_TS_listWaysOn 5 = .ok (.iload_n 1, 1) := by decide +kernel
theorem d_TS_listWaysOn_6 : decode b_TS_listWaysOn 6 = .ok (.invokevirtual 86, 3) := by decide +kernel
theorem d_TS_listWaysOn_9 : decode b_TS_listWaysOn 9 = .ok (.aload_n 0, 1) := by decide +kernel
theorem d_TS_listWaysOn_10 : decode b_TS_listWaysOn 10 = .ok (.getfield 64, 3) := by decide +kernel
theorem d_TS_listWaysOn_13 : decode b_TS_listWaysOn 13 = .ok (.land, 1) := by decide +kernel
theorem d_TS_listWaysOn_14 : decode b_TS_listWaysOn 14 = .ok (.lstore_n 3, 1) := by decide +kernel
theorem d_TS_listWaysOn_15 : decode b_TS_listWaysOn 15 = .ok (.bipush 8, 2) := by decide +kernel
theorem d_TS_listWaysOn_17 : decode b_TS_listWaysOn 17 = .ok (.lload_n 3, 1) := by decide +kernel
theorem d_TS_listWaysOn_18 : decode b_TS_listWaysOn 18 = .ok (.invokestatic 95, 3) := by decide +kernel
theorem d_TS_listWaysOn_21 : decode b_TS_listWaysOn 21 = .ok (.invokestatic 101, 3) := by decide +kernel
theorem d_TS_listWaysOn_24 : decode b_TS_listWaysOn 24 = .ok (.istore 5, 2) := by decide +kernel
theorem d_TS_listWaysOn_26 : decode b_TS_listWaysOn 26 = .ok (.iconst 0, 1) := by decide +kernel
theorem d_TS_listWaysOn_27 : decode b_TS_listWaysOn 27 = .ok (.istore 6, 2) := by decide +kernel
theorem d_TS_listWaysOn_29 : decode b_TS_listWaysOn 29 = .ok (.iload 6, 2) := by decide +kernel
theorem d_TS_listWaysOn_31 : decode b_TS_listWaysOn 31 = .ok (.iload 5, 2) := by decide +kernel
theorem d_TS_listWaysOn_33 : decode b_TS_listWaysOn 33 = .ok (.if_icmp .ge 64, 3) := by decide +kernel
theorem d_TS_listWaysOn_36 : decode b_TS_listWaysOn 36 = .ok (.lload_n 3, 1) := by decide +kernel
theorem d_TS_listWaysOn_37 : decode b_TS_listWaysOn 37 = .ok (.lload_n 3, 1) := by decide +kernel
theorem d_TS_listWaysOn_38 : decode b_TS_listWaysOn 38 = .ok (.lneg, 1) := by decide +kernel
theorem d_TS_listWaysOn_39 : decode b_TS_listWaysOn 39 = .ok (.land, 1) := by decide +kernel
theorem d_TS_listWaysOn_40 : decode b_TS_listWaysOn 40 = .ok (.lstore 7, 2) := by decide +kernel
theorem d_TS_listWaysOn_42 : decode b_TS_listWaysOn 42 = .ok (.lload_n 3, 1) := by decide +kernel
theorem d_TS_listWaysOn_43 : decode b_TS_listWaysOn 43 = .ok (.lload 7, 2) := by decide +kernel
theorem d_TS_listWaysOn_45 : decode b_TS_listWaysOn 45 = .ok (.lxor, 1) := by decide +kernel
theorem d_TS_listWaysOn_46 : decode b_TS_listWaysOn 46 = .ok (.lstore_n 3, 1) := by decide +kernel
theorem d_TS_listWaysOn_47 : decode b_TS_listWaysOn 47 = .ok (.lload 7, 2) := by decide +kernel
theorem d_TS_listWaysOn_49 : decode b_TS_listWaysOn 49 = .ok (.lconst 1, 1) := by decide +kernel
theorem d_TS_listWaysOn_50 : decode b_TS_listWaysOn 50 = .ok (.lsub, 1) := by decide +kernel
theorem d_TS_listWaysOn_51 : decode b_TS_listWaysOn 51 = .ok (.invokestatic 95, 3) := by decide +kernel
theorem d_TS_listWaysOn_54 : decode b_TS_listWaysOn 54 = .ok (.istore 9, 2) := by decide +kernel
theorem d_TS_listWaysOn_56 : decode b_TS_listWaysOn 56 = .ok (.aload_n 0, 1) := by decide +kernel
theorem d_TS_listWaysOn_57 : decode b_TS_listWaysOn 57 = .ok (.aload_n 0, 1) := by decide +kernel
theorem d_TS_listWaysOn_58 : decode b_TS_listWaysOn 58 = .ok (.getfield 61, 3) := by decide +kernel
theorem d_TS_listWaysOn_61 : decode b_TS_listWaysOn 61 = .ok (.iload 9, 2) := by decide +kernel
theorem d_TS_listWaysOn_63 : decode b_TS_listWaysOn 63 = .ok (.invokevirtual 86, 3) := by decide +kernel
theorem d_TS_listWaysOn_66 : decode b_TS_listWaysOn 66 = .ok (.aload_n 0, 1) := by decide +kernel
theorem d_TS_listWaysOn_67 : decode b_TS_listWaysOn 67 = .ok (.getfield 64, 3) := by decide +kernel
theorem d_TS_listWaysOn_70 : decode b_TS_listWaysOn 70 = .ok (.land, 1) := by decide +kernel
theorem d_TS_listWaysOn_71 : decode b_TS_listWaysOn 71 = .ok (.invokestatic 95, 3) := by decide +kernel
theorem d_TS_listWaysOn_74 : decode b_TS_listWaysOn 74 = .ok (.bipush 36, 2) := by decide +kernel
theorem d_TS_listWaysOn_76 : decode b_TS_listWaysOn 76 = .ok (.imul, 1) := by decide +kernel
theorem d_TS_listWaysOn_77 : decode b_TS_listWaysOn 77 = .ok (.iload 9, 2) := by decide +kernel
theorem d_TS_listWaysOn_79 : decode b_TS_listWaysOn 79 = .ok (.iadd, 1) := by decide +kernel
theorem d_TS_listWaysOn_80 : decode b_TS_listWaysOn 80 = .ok (.istore 10, 2) := by decide +kernel
theorem d_TS_listWaysOn_82 : decode b_TS_listWaysOn 82 = .ok (.aload_n 0, 1) := by decide +kernel
theorem d_TS_listWaysOn_83 : decode b_TS_listWaysOn 83 = .ok (.iload 10, 2) := by decide +kernel
theorem d_TS_listWaysOn_85 : decode b_TS_listWaysOn 85 = .ok (.iload_n 2, 1) := by decide +kernel
theorem d_TS_listWaysOn_86 : decode b_TS_listWaysOn 86 = .ok (.iload 6, 2) := by decide +kernel
theorem d_TS_listWaysOn_88 : decode b_TS_listWaysOn 88 = .ok (.invokevirtual 104, 3) := by decide +kernel
theorem d_TS_listWaysOn_91 : decode b_TS_listWaysOn 91 = .ok (.iinc 6 1, 3) := by decide +kernel
theorem d_TS_listWaysOn_94 : decode b_TS_listWaysOn 94 = .ok (.goto (-65), 3) := by decide +kernel
theorem d_TS_listWaysOn_97 : decode b_TS_listWaysOn 97 = .ok (.iload 5, 2) := by decide +kernel
theorem d_TS_listWaysOn_99 : decode b_TS_listWaysOn 99 = .ok (.ireturn, 1) := by decide +kernel
theorem d_TS_reach_0 : decode b_TS_reach 0 = .ok (.iload_n 1, 1) := by decide +kernel
theorem d_TS_reach_1 : decode b_TS_reach 1 = .ok (.invokestatic 46, 3) := by decide +kernel
theorem d_TS_reach_4 : decode b_TS_reach 4 = .ok (.ifCond .eq 27, 3) := by decide +kernel
theorem d_TS_reach_7 : decode b_TS_reach 7 = .ok (.iload_n 2, 1) := by decide +kernel
theorem d_TS_reach_8 : decode b_TS_reach 8 = .ok (.ifCond .lt 23, 3) := by decide +kernel
theorem d_TS_reach_11 : decode b_TS_reach 11 = .ok (.iload_n 2, 1) := by decide +kernel
theorem d_TS_reach_12 : decode b_TS_reach 12 = .ok (.bipush 36, 2) := by decide +kernel
theorem d_TS_reach_14 : decode b_TS_reach 14 = .ok (.if_icmp .ge 17, 3) := by decide +kernel
theorem d_TS_reach_17 : decode b_TS_reach 17 = .ok (.aload_n 0, 1) := by decide +kernel
theorem d_TS_reach_18 : decode b_TS_reach 18 = .ok (.getfield 28, 3) := by decide +kernel
theorem d_TS_reach_21 : decode b_TS_reach 21 = .ok (.iload_n 1, 1) := by decide +kernel
theorem d_TS_reach_22 : decode b_TS_reach 22 = .ok (.bipush 36, 2) := by decide +kernel
theorem d_TS_reach_24 : decode b_TS_reach 24 = .ok (.imul, 1) := by decide +kernel
theorem d_TS_reach_25 : decode b_TS_reach 25 = .ok (.iload_n 2, 1) := by decide +kernel
theorem d_TS_reach_26 : decode b_TS_reach 26 = .ok (.iadd, 1) := by decide +kernel
theorem d_TS_reach_27 : decode b_TS_reach 27 = .ok (.laload, 1) := by decide +kernel
theorem d_TS_reach_28 : decode b_TS_reach 28 = .ok (.goto 4, 3) := by decide +kernel
theorem d_TS_reach_31 : decode b_TS_reach 31 = .ok (.lconst 0, 1) := by decide +kernel
theorem d_TS_reach_32 : decode b_TS_reach 32 = .ok (.lreturn, 1) := by decide +kernel
theorem d_LG_bitCount_0 : decode b_LG_bitCount 0 = .ok (.lload_n 0, 1) := by decide +kernel
theorem d_LG_bitCount_1 : decode b_LG_bitCount 1 = .ok (.lload_n 0, 1) := by decide +kernel
theorem d_LG_bitCount_2 : decode b_LG_bitCount 2 = .ok (.iconst 1, 1) := by decide +kernel
theorem d_LG_bitCount_3 : decode b_LG_bitCount 3 = .ok (.lushr, 1) := by decide +kernel
theorem d_LG_bitCount_4 : decode b_LG_bitCount 4 = .ok (.ldc2_w 314, 3) := by decide +kernel
theorem d_LG_bitCount_7 : decode b_LG_bitCount 7 = .ok (.land, 1) := by decide +kernel
theorem d_LG_bitCount_8 : decode b_LG_bitCount 8 = .ok (.lsub, 1) := by decide +kernel
theorem d_LG_bitCount_9 : decode b_LG_bitCount 9 = .ok (.lstore_n 0, 1) := by decide +kernel
theorem d_LG_bitCount_10 : decode b_LG_bitCount 10 = .ok (.lload_n 0, 1) := by decide +kernel
theorem d_LG_bitCount_11 : decode b_LG_bitCount 11 = .ok (.ldc2_w 316, 3) := by decide +kernel
theorem d_LG_bitCount_14 : decode b_LG_bitCount 14 = .ok (.land, 1) := by decide +kernel
theorem d_LG_bitCount_15 : decode b_LG_bitCount 15 = .ok (.lload_n 0, 1) := by decide +kernel
theorem d_LG_bitCount_16 : decode b_LG_bitCount 16 = .ok (.iconst 2, 1) := by decide +kernel
theorem d_LG_bitCount_17 : decode b_LG_bitCount 17 = .ok (.lushr, 1) := by decide +kernel
theorem d_LG_bitCount_18 : decode b_LG_bitCount 18 = .ok (.ldc2_w 316, 3) := by decide +kernel
theorem d_LG_bitCount_21 : decode b_LG_bitCount 21 = .ok (.land, 1) := by decide +kernel
theorem d_LG_bitCount_22 : decode b_LG_bitCount 22 = .ok (.ladd, 1) := by decide +kernel
theorem d_LG_bitCount_23 : decode b_LG_bitCount 23 = .ok (.lstore_n 0, 1) := by decide +kernel
theorem d_LG_bitCount_24 : decode b_LG_bitCount 24 = .ok (.lload_n 0, 1) := by decide +kernel
theorem d_LG_bitCount_25 : decode b_LG_bitCount 25 = .ok (.lload_n 0, 1) := by decide +kernel
theorem d_LG_bitCount_26 : decode b_LG_bitCount 26 = .ok (.iconst 4, 1) := by decide +kernel
theorem d_LG_bitCount_27 : decode b_LG_bitCount 27 = .ok (.lushr, 1) := by decide +kernel
theorem d_LG_bitCount_28 : decode b_LG_bitCount 28 = .ok (.ladd, 1) := by decide +kernel
theorem d_LG_bitCount_29 : decode b_LG_bitCount 29 = .ok (.ldc2_w 318, 3) := by decide +kernel
theorem d_LG_bitCount_32 : decode b_LG_bitCount 32 = .ok (.land, 1) := by decide +kernel
theorem d_LG_bitCount_33 : decode b_LG_bitCount 33 = .ok (.lstore_n 0, 1) := by decide +kernel
theorem d_LG_bitCount_34 : decode b_LG_bitCount 34 = .ok (.lload_n 0, 1) := by decide +kernel
theorem d_LG_bitCount_35 : decode b_LG_bitCount 35 = .ok (.lload_n 0, 1) := by decide +kernel
theorem d_LG_bitCount_36 : decode b_LG_bitCount 36 = .ok (.bipush 8, 2) := by decide +kernel
theorem d_LG_bitCount_38 : decode b_LG_bitCount 38 = .ok (.lushr, 1) := by decide +kernel
theorem d_LG_bitCount_39 : decode b_LG_bitCount 39 = .ok (.ladd, 1) := by decide +kernel
theorem d_LG_bitCount_40 : decode b_LG_bitCount 40 = .ok (.lstore_n 0, 1) := by decide +kernel
theorem d_LG_bitCount_41 : decode b_LG_bitCount 41 = .ok (.lload_n 0, 1) := by decide +kernel
theorem d_LG_bitCount_42 : decode b_LG_bitCount 42 = .ok (.lload_n 0, 1) := by decide +kernel
theorem d_LG_bitCount_43 : decode b_LG_bitCount 43 = .ok (.bipush 16, 2) := by decide +kernel
theorem d_LG_bitCount_45 : decode b_LG_bitCount 45 = .ok (.lushr, 1) := by decide +kernel
theorem d_LG_bitCount_46 : decode b_LG_bitCount 46 = .ok (.ladd, 1) := by decide +kernel
theorem d_LG_bitCount_47 : decode b_LG_bitCount 47 = .ok (.lstore_n 0, 1) := by decide +kernel
theorem d_LG_bitCount_48 : decode b_LG_bitCount 48 = .ok (.lload_n 0, 1) := by decide +kernel
theorem d_LG_bitCount_49 : decode b_LG_bitCount 49 = .ok (.lload_n 0, 1) := by decide +kernel
theorem d_LG_bitCount_50 : decode b_LG_bitCount 50 = .ok (.bipush 32, 2) := by decide +kernel
theorem d_LG_bitCount_52 : decode b_LG_bitCount 52 = .ok (.lushr, 1) := by decide +kernel
theorem d_LG_bitCount_53 : decode b_LG_bitCount 53 = .ok (.ladd, 1) := by decide +kernel
theorem d_LG_bitCount_54 : decode b_LG_bitCount 54 = .ok (.lstore_n 0, 1) := by decide +kernel
theorem d_LG_bitCount_55 : decode b_LG_bitCount 55 = .ok (.lload_n 0, 1) := by decide +kernel
theorem d_LG_bitCount_56 : decode b_LG_bitCount 56 = .ok (.l2i, 1) := by decide +kernel
theorem d_LG_bitCount_57 : decode b_LG_bitCount 57 = .ok (.bipush 127, 2) := by decide +kernel
theorem d_LG_bitCount_59 : decode b_LG_bitCount 59 = .ok (.iand, 1) := by decide +kernel
theorem d_LG_bitCount_60 : decode b_LG_bitCount 60 = .ok (.ireturn, 1) := by decide +kernel
theorem d_TS_insertWayOn_0 : decode b_TS_insertWayOn 0 = .ok (.iload_n 2, 1) := by decide +kernel
theorem d_TS_insertWayOn_1 : decode b_TS_insertWayOn 1 = .ok (.ifCond .lt 18, 3) := by decide +kernel
theorem d_TS_insertWayOn_4 : decode b_TS_insertWayOn 4 = .ok (.iload_n 3, 1) := by decide +kernel
theorem d_TS_insertWayOn_5 : decode b_TS_insertWayOn 5 = .ok (.ifCond .lt 14, 3) := by decide +kernel
theorem d_TS_insertWayOn_8 : decode b_TS_insertWayOn 8 = .ok (.iload_n 2, 1) := by decide +kernel
theorem d_TS_insertWayOn_9 : decode b_TS_insertWayOn 9 = .ok (.iload_n 3, 1) := by decide +kernel
theorem d_TS_insertWayOn_10 : decode b_TS_insertWayOn 10 = .ok (.iadd, 1) := by decide +kernel
theorem d_TS_insertWayOn_11 : decode b_TS_insertWayOn 11 = .ok (.aload_n 0, 1) := by decide +kernel
theorem d_TS_insertWayOn_12 : decode b_TS_insertWayOn 12 = .ok (.getfield 15, 3) := by decide +kernel
theorem d_TS_insertWayOn_15 : decode b_TS_insertWayOn 15 = .ok (.arraylength, 1) := by decide +kernel
theorem d_TS_insertWayOn_16 : decode b_TS_insertWayOn 16 = .ok (.if_icmp .lt 4, 3) := by decide +kernel
theorem d_TS_insertWayOn_19 : decode b_TS_insertWayOn 19 = .ok (.return_, 1) := by decide +kernel
theorem d_TS_insertWayOn_20 : decode b_TS_insertWayOn 20 = .ok (.iload_n 2, 1) := by decide +kernel
theorem d_TS_insertWayOn_21 : decode b_TS_insertWayOn 21 = .ok (.iload_n 3, 1) := by decide +kernel
theorem d_TS_insertWayOn_22 : decode b_TS_insertWayOn 22 = .ok (.iadd, 1) := by decide +kernel
theorem d_TS_insertWayOn_23 : decode b_TS_insertWayOn 23 = .ok (.istore 4, 2) := by decide +kernel
theorem d_TS_insertWayOn_25 : decode b_TS_insertWayOn 25 = .ok (.iload 4, 2) := by decide +kernel
theorem d_TS_insertWayOn_27 : decode b_TS_insertWayOn 27 = .ok (.iload_n 2, 1) := by decide +kernel
theorem d_TS_insertWayOn_28 : decode b_TS_insertWayOn 28 = .ok (.if_icmp .le 38, 3) := by decide +kernel
theorem d_TS_insertWayOn_31 : decode b_TS_insertWayOn 31 = .ok (.aload_n 0, 1) := by decide +kernel
theorem d_TS_insertWayOn_32 : decode b_TS_insertWayOn 32 = .ok (.getfield 15, 3) := by decide +kernel
theorem d_TS_insertWayOn_35 : decode b_TS_insertWayOn 35 = .ok (.iload 4, 2) := by decide +kernel
theorem d_TS_insertWayOn_37 : decode b_TS_insertWayOn 37 = .ok (.iconst 1, 1) := by decide +kernel
theorem d_TS_insertWayOn_38 : decode b_TS_insertWayOn 38 = .ok (.isub, 1) := by decide +kernel
theorem d_TS_insertWayOn_39 : decode b_TS_insertWayOn 39 = .ok (.iaload, 1) := by decide +kernel
theorem d_TS_insertWayOn_40 : decode b_TS_insertWayOn 40 = .ok (.iload_n 1, 1) := by decide +kernel
theorem d_TS_insertWayOn_41 : decode b_TS_insertWayOn 41 = .ok (.if_icmp .le 25, 3) := by decide +kernel
theorem d_TS_insertWayOn_44 : decode b_TS_insertWayOn 44 = .ok (.aload_n 0, 1) := by decide +kernel
theorem d_TS_insertWayOn_45 : decode b_TS_insertWayOn 45 = .ok (.getfield 15, 3) := by decide +kernel
theorem d_TS_insertWayOn_48 : decode b_TS_insertWayOn 48 = .ok (.iload 4, 2) := by decide +kernel
theorem d_TS_insertWayOn_50 : decode b_TS_insertWayOn 50 = .ok (.aload_n 0, 1) := by decide +kernel
theorem d_TS_insertWayOn_51 : decode b_TS_insertWayOn 51 = .ok (.getfield 15, 3) := by decide +kernel
theorem d_TS_insertWayOn_54 : decode b_TS_insertWayOn 54 = .ok (.iload 4, 2) := by decide +kernel
theorem d_TS_insertWayOn_56 : decode b_TS_insertWayOn 56 = .ok (.iconst 1, 1) := by decide +kernel
theorem d_TS_insertWayOn_57 : decode b_TS_insertWayOn 57 = .ok (.isub, 1) := by decide +kernel
theorem d_TS_insertWayOn_58 : decode b_TS_insertWayOn 58 = .ok (.iaload, 1) := by decide +kernel
theorem d_TS_insertWayOn_59 : decode b_TS_insertWayOn 59 = .ok (.iastore, 1) := by decide +kernel
theorem d_TS_insertWayOn_60 : decode b_TS_insertWayOn 60 = .ok (.iinc 4 (-1), 3) := by decide +kernel
theorem d_TS_insertWayOn_63 : decode b_TS_insertWayOn 63 = .ok (.goto (-38), 3) := by decide +kernel
theorem d_TS_insertWayOn_66 : decode b_TS_insertWayOn 66 = .ok (.aload_n 0, 1) := by decide +kernel
theorem d_TS_insertWayOn_67 : decode b_TS_insertWayOn 67 = .ok (.getfield 15, 3) := by decide +kernel
theorem d_TS_insertWayOn_70 : decode b_TS_insertWayOn 70 = .ok (.iload 4, 2) := by decide +kernel
theorem d_TS_insertWayOn_72 : decode b_TS_insertWayOn 72 = .ok (.iload_n 1, 1) := by decide +kernel
theorem d_TS_insertWayOn_73 : decode b_TS_insertWayOn 73 = .ok (.iastore, 1) := by decide +kernel
theorem d_TS_insertWayOn_74 : decode b_TS_insertWayOn 74 = .ok (.return_, 1) := by decide +kernel
theorem d_TS_run_0 : decode b_TS_run 0 = .ok (.iconst 2, 1) := by decide +kernel
theorem d_TS_run_1 : decode b_TS_run 1 = .ok (.iload_n 2, 1) := by decide +kernel
theorem d_TS_run_2 : decode b_TS_run 2 = .ok (.imul, 1) := by decide +kernel
theorem d_TS_run_3 : decode b_TS_run 3 = .ok (.iconst 2, 1) := by decide +kernel
theorem d_TS_run_4 : decode b_TS_run 4 = .ok (.iadd, 1) := by decide +kernel
theorem d_TS_run_5 : decode b_TS_run 5 = .ok (.istore_n 3, 1) := by decide +kernel
theorem d_TS_run_6 : decode b_TS_run 6 = .ok (.iconst 0, 1) := by decide +kernel
theorem d_TS_run_7 : decode b_TS_run 7 = .ok (.istore 4, 2) := by decide +kernel
theorem d_TS_run_9 : decode b_TS_run 9 = .ok (.iload 4, 2) := by decide +kernel
theorem d_TS_run_11 : decode b_TS_run 11 = .ok (.iload_n 3, 1) := by decide +kernel
theorem d_TS_run_12 : decode b_TS_run 12 = .ok (.if_icmp .ge 87, 3) := by decide +kernel
theorem d_TS_run_15 : decode b_TS_run 15 = .ok (.aload_n 0, 1) := by decide +kernel
theorem d_TS_run_16 : decode b_TS_run 16 = .ok (.getfield 68, 3) := by decide +kernel
theorem d_TS_run_19 : decode b_TS_run 19 = .ok (.ifCond .le 80, 3) := by decide +kernel
theorem d_TS_run_22 : decode b_TS_run 22 = .ok (.aload_n 0, 1) := by decide +kernel
theorem d_TS_run_23 : decode b_TS_run 23 = .ok (.getfield 64, 3) := by decide +kernel
theorem d_TS_run_26 : decode b_TS_run 26 = .ok (.lconst 0, 1) := by decide +kernel
theorem d_TS_run_27 : decode b_TS_run 27 = .ok (.lcmp, 1) := by decide +kernel
theorem d_TS_run_28 : decode b_TS_run 28 = .ok (.ifCond .ne 21, 3) := by decide +kernel
theorem d_TS_run_31 : decode b_TS_run 31 = .ok (.iload_n 1, 1) := by decide +kernel
theorem d_TS_run_32 : decode b_TS_run 32 = .ok (.ifCond .eq 10, 3) := by decide +kernel
theorem d_TS_run_35 : decode b_TS_run 35 = .ok (.aload_n 0, 1) := by decide +kernel
theorem d_TS_run_36 : decode b_TS_run 36 = .ok (.invokevirtual 75, 3) := by decide +kernel
theorem d_TS_run_39 : decode b_TS_run 39 = .ok (.ifCond .eq 10, 3) := by decide +kernel
theorem d_TS_run_42 : decode b_TS_run 42 = .ok (.aload_n 0, 1) := by decide +kernel
theorem d_TS_run_43 : decode b_TS_run 43 = .ok (.iconst 1, 1) := by decide +kernel
theorem d_TS_run_44 : decode b_TS_run 44 = .ok (.putfield 50, 3) := by decide +kernel
theorem d_TS_run_47 : decode b_TS_run 47 = .ok (.iconst 0, 1) := by decide +kernel
theorem d_TS_run_48 : decode b_TS_run 48 = .ok (.ireturn, 1) := by decide +kernel
theorem d_TS_run_49 : decode b_TS_run 49 = .ok (.aload_n 0, 1) := by decide +kernel
theorem d_TS_run_50 : decode b_TS_run 50 = .ok (.invokevirtual 79, 3) := by decide +kernel
theorem d_TS_run_53 : decode b_TS_run 53 = .ok (.istore 5, 2) := by decide +kernel
theorem d_TS_run_55 : decode b_TS_run 55 = .ok (.iload 5, 2) := by decide +kernel
theorem d_TS_run_57 : decode b_TS_run 57 = .ok (.ifCond .ge 10, 3) := by decide +kernel
theorem d_TS_run_60 : decode b_TS_run 60 = .ok (.aload_n 0, 1) := by decide +kernel
theorem d_TS_run_61 : decode b_TS_run 61 = .ok (.invokevirtual 83, 3) := by decide +kernel
theorem d_TS_run_64 : decode b_TS_run 64 = .ok (.goto 29, 3) := by decide +kernel
theorem d_TS_run_67 : decode b_TS_run 67 = .ok (.aload_n 0, 1) := by decide +kernel
theorem d_TS_run_68 : decode b_TS_run 68 = .ok (.getfield 54, 3) := by decide +kernel
theorem d_TS_run_71 : decode b_TS_run 71 = .ok (.iload_n 2, 1) := by decide +kernel
theorem d_TS_run_72 : decode b_TS_run 72 = .ok (.if_icmp .lt 5, 3) := by decide +kernel
theorem d_TS_run_75 : decode b_TS_run 75 = .ok (.iconst 2, 1) := by decide +kernel
theorem d_TS_run_76 : decode b_TS_run 76 = .ok (.ireturn, 1) := by decide +kernel
theorem d_TS_run_77 : decode b_TS_run 77 = .ok (.aload_n 0, 1) := by decide +kernel
theorem d_TS_run_78 : decode b_TS_run 78 = .ok (.dup, 1) := by decide +kernel
theorem d_TS_run_79 : decode b_TS_run 79 = .ok (.getfield 54, 3) := by decide +kernel
theorem d_TS_run_82 : decode b_TS_run 82 = .ok (.iconst 1, 1) := by decide +kernel
theorem d_TS_run_83 : decode b_TS_run 83 = .ok (.iadd, 1) := by decide +kernel
theorem d_TS_run_84 : decode b_TS_run 84 = .ok (.putfield 54, 3) := by decide +kernel
theorem d_TS_run_87 : decode b_TS_run 87 = .ok (.aload_n 0, 1) := by decide +kernel
theorem d_TS_run_88 : decode b_TS_run 88 = .ok (.iload 5, 2) := by decide +kernel
theorem d_TS_run_90 : decode b_TS_run 90 = .ok (.invokevirtual 71, 3) := by decide +kernel
theorem d_TS_run_93 : decode b_TS_run 93 = .ok (.iinc 4 1, 3) := by decide +kernel
theorem d_TS_run_96 : decode b_TS_run 96 = .ok (.goto (-87), 3) := by decide +kernel
theorem d_TS_run_99 : decode b_TS_run 99 = .ok (.iconst 1, 1) := by decide +kernel
theorem d_TS_run_100 : decode b_TS_run 100 = .ok (.ireturn, 1) := by decide +kernel
theorem d_TS_closes_0 : decode b_TS_closes 0 = .ok (.aload_n 0, 1) := by decide +kernel
theorem d_TS_closes_1 : decode b_TS_closes 1 = .ok (.getfield 68, 3) := by decide +kernel
theorem d_TS_closes_4 : decode b_TS_closes 4 = .ok (.iconst 1, 1) := by decide +kernel
theorem d_TS_closes_5 : decode b_TS_closes 5 = .ok (.if_icmp .lt 12, 3) := by decide +kernel
theorem d_TS_closes_8 : decode b_TS_closes 8 = .ok (.aload_n 0, 1) := by decide +kernel
theorem d_TS_closes_9 : decode b_TS_closes 9 = .ok (.getfield 68, 3) := by decide +kernel
theorem d_TS_closes_12 : decode b_TS_closes 12 = .ok (.bipush 36, 2) := by decide +kernel
theorem d_TS_closes_14 : decode b_TS_closes 14 = .ok (.if_icmp .le 5, 3) := by decide +kernel
theorem d_TS_closes_17 : decode b_TS_closes 17 = .ok (.iconst 0, 1) := by decide +kernel
theorem d_TS_closes_18 : decode b_TS_closes 18 = .ok (.ireturn, 1) := by decide +kernel
theorem d_TS_closes_19 : decode b_TS_closes 19 = .ok (.aload_n 0, 1) := by decide +kernel
theorem d_TS_closes_20 : decode b_TS_closes 20 = .ok (.aload_n 0, 1) := by decide +kernel
theorem d_TS_closes_21 : decode b_TS_closes 21 = .ok (.getfield 61, 3) := by decide +kernel
theorem d_TS_closes_24 : decode b_TS_closes 24 = .ok (.aload_n 0, 1) := by decide +kernel
theorem d_TS_closes_25 : decode b_TS_closes 25 = .ok (.getfield 9, 3) := by decide +kernel
theorem d_TS_closes_28 : decode b_TS_closes 28 = .ok (.aload_n 0, 1) := by decide +kernel
theorem d_TS_closes_29 : decode b_TS_closes 29 = .ok (.getfield 68, 3) := by decide +kernel
theorem d_TS_closes_32 : decode b_TS_closes 32 = .ok (.iconst 1, 1) := by decide +kernel
theorem d_TS_closes_33 : decode b_TS_closes 33 = .ok (.isub, 1) := by decide +kernel
theorem d_TS_closes_34 : decode b_TS_closes 34 = .ok (.iaload, 1) := by decide +kernel
theorem d_TS_closes_35 : decode b_TS_closes 35 = .ok (.invokevirtual 86, 3) := by decide +kernel
theorem d_TS_closes_38 : decode b_TS_closes 38 = .ok (.aload_n 0, 1) := by decide +kernel
theorem d_TS_closes_39 : decode b_TS_closes 39 = .ok (.getfield 9, 3) := by decide +kernel
theorem d_TS_closes_42 : decode b_TS_closes 42 = .ok (.iconst 0, 1) := by decide +kernel
theorem d_TS_closes_43 : decode b_TS_closes 43 = .ok (.iaload, 1) := by decide +kernel
theorem d_TS_closes_44 : decode b_TS_closes 44 = .ok (.lushr, 1) := by decide +kernel
theorem d_TS_closes_45 : decode b_TS_closes 45 = .ok (.lconst 1, 1) := by decide +kernel
theorem d_TS_closes_46 : decode b_TS_closes 46 = .ok (.land, 1) := by decide +kernel
theorem d_TS_closes_47 : decode b_TS_closes 47 = .ok (.lconst 0, 1) := by decide +kernel
theorem d_TS_closes_48 : decode b_TS_closes 48 = .ok (.lcmp, 1) := by decide +kernel
theorem d_TS_closes_49 : decode b_TS_closes 49 = .ok (.ifCond .eq 7, 3) := by decide +kernel
theorem d_TS_closes_52 : decode b_TS_closes 52 = .ok (.iconst 1, 1) := by decide +kernel
theorem d_TS_closes_53 : decode b_TS_closes 53 = .ok (.goto 4, 3) := by decide +kernel
theorem d_TS_closes_56 : decode b_TS_closes 56 = .ok (.iconst 0, 1) := by decide +kernel
theorem d_TS_closes_57 : decode b_TS_closes 57 = .ok (.ireturn, 1) := by decide +kernel
theorem d_TS_nextCell_0 : decode b_TS_nextCell 0 = .ok (.aload_n 0, 1) := by decide +kernel
theorem d_TS_nextCell_1 : decode b_TS_nextCell 1 = .ok (.getfield 68, 3) := by decide +kernel
theorem d_TS_nextCell_4 : decode b_TS_nextCell 4 = .ok (.iconst 1, 1) := by decide +kernel
theorem d_TS_nextCell_5 : decode b_TS_nextCell 5 = .ok (.isub, 1) := by decide +kernel
theorem d_TS_nextCell_6 : decode b_TS_nextCell 6 = .ok (.istore_n 1, 1) := by decide +kernel
theorem d_TS_nextCell_7 : decode b_TS_nextCell 7 = .ok (.iload_n 1, 1) := by decide +kernel
theorem d_TS_nextCell_8 : decode b_TS_nextCell 8 = .ok (.ifCond .lt 9, 3) := by decide +kernel
theorem d_TS_nextCell_11 : decode b_TS_nextCell 11 = .ok (.iload_n 1, 1) := by decide +kernel
theorem d_TS_nextCell_12 : decode b_TS_nextCell 12 = .ok (.bipush 36, 2) := by decide +kernel
theorem d_TS_nextCell_14 : decode b_TS_nextCell 14 = .ok (.if_icmp .lt 5, 3) := by decide +kernel
theorem d_TS_nextCell_17 : decode b_TS_nextCell 17 = .ok (.iconst (-1), 1) := by decide +kernel
theorem d_TS_nextCell_18 : decode b_TS_nextCell 18 = .ok (.ireturn, 1) := by decide +kernel
theorem d_TS_nextCell_19 : decode b_TS_nextCell 19 = .ok (.aload_n 0, 1) := by decide +kernel
theorem d_TS_nextCell_20 : decode b_TS_nextCell 20 = .ok (.getfield 21, 3) := by decide +kernel
theorem d_TS_nextCell_23 : decode b_TS_nextCell 23 = .ok (.iload_n 1, 1) := by decide +kernel
theorem d_TS_nextCell_24 : decode b_TS_nextCell 24 = .ok (.iaload, 1) := by decide +kernel
theorem d_TS_nextCell_25 : decode b_TS_nextCell 25 = .ok (.istore_n 2, 1) := by decide +kernel
theorem d_TS_nextCell_26 : decode b_TS_nextCell 26 = .ok (.iload_n 2, 1) := by decide +kernel
theorem d_TS_nextCell_27 : decode b_TS_nextCell 27 = .ok (.ifCond .lt 19, 3) := by decide +kernel
theorem d_TS_nextCell_30 : decode b_TS_nextCell 30 = .ok (.iload_n 2, 1) := by decide +kernel
theorem d_TS_nextCell_31 : decode b_TS_nextCell 31 = .ok (.bipush 8, 2) := by decide +kernel
theorem d_TS_nextCell_33 : decode b_TS_nextCell 33 = .ok (.if_icmp .ge 13, 3) := by decide +kernel
theorem d_TS_nextCell_36 : decode b_TS_nextCell 36 = .ok (.iload_n 2, 1) := by decide +kernel
theorem d_TS_nextCell_37 : decode b_TS_nextCell 37 = .ok (.aload_n 0, 1) := by decide +kernel
theorem d_TS_nextCell_38 : decode b_TS_nextCell 38 = .ok (.getfield 18, 3) := by decide +kernel
theorem d_TS_nextCell_41 : decode b_TS_nextCell 41 = .ok (.iload_n 1, 1) := by decide +kernel
theorem d_TS_nextCell_42 : decode b_TS_nextCell 42 = .ok (.iaload, 1) := by decide +kernel
theorem d_TS_nextCell_43 : decode b_TS_nextCell 43 = .ok (.if_icmp .lt 5, 3) := by decide +kernel
theorem d_TS_nextCell_46 : decode b_TS_nextCell 46 = .ok (.iconst (-1), 1) := by decide +kernel
theorem d_TS_nextCell_47 : decode b_TS_nextCell 47 = .ok (.ireturn, 1) := by decide +kernel
theorem d_TS_nextCell_48 : decode b_TS_nextCell 48 = .ok (.aload_n 0, 1) := by decide +kernel
theorem d_TS_nextCell_49 : decode b_TS_nextCell 49 = .ok (.getfield 21, 3) := by decide +kernel
theorem d_TS_nextCell_52 : decode b_TS_nextCell 52 = .ok (.iload_n 1, 1) := by decide +kernel
theorem d_TS_nextCell_53 : decode b_TS_nextCell 53 = .ok (.iload_n 2, 1) := by decide +kernel
theorem d_TS_nextCell_54 : decode b_TS_nextCell 54 = .ok (.iconst 1, 1) := by decide +kernel
theorem d_TS_nextCell_55 : decode b_TS_nextCell 55 = .ok (.iadd, 1) := by decide +kernel
theorem d_TS_nextCell_56 : decode b_TS_nextCell 56 = .ok (.iastore, 1) := by decide +kernel
theorem d_TS_nextCell_57 : decode b_TS_nextCell 57 = .ok (.aload_n 0, 1) := by decide +kernel
theorem d_TS_nextCell_58 : decode b_TS_nextCell 58 = .ok (.getfield 15, 3) := by decide +kernel
theorem d_TS_nextCell_61 : decode b_TS_nextCell 61 = .ok (.iload_n 1, 1) := by decide +kernel
theorem d_TS_nextCell_62 : decode b_TS_nextCell 62 = .ok (.bipush 8, 2) := by decide +kernel
theorem d_TS_nextCell_64 : decode b_TS_nextCell 64 = .ok (.imul, 1) := by decide +kernel
theorem d_TS_nextCell_65 : decode b_TS_nextCell 65 = .ok (.iload_n 2, 1) := by decide +kernel
theorem d_TS_nextCell_66 : decode b_TS_nextCell 66 = .ok (.iadd, 1) := by decide +kernel
theorem d_TS_nextCell_67 : decode b_TS_nextCell 67 = .ok (.iaload, 1) := by decide +kernel
theorem d_TS_nextCell_68 : decode b_TS_nextCell 68 = .ok (.bipush 36, 2) := by decide +kernel
theorem d_TS_nextCell_70 : decode b_TS_nextCell 70 = .ok (.irem, 1) := by decide +kernel
theorem d_TS_nextCell_71 : decode b_TS_nextCell 71 = .ok (.ireturn, 1) := by decide +kernel
theorem d_TS_goBack_0 : decode b_TS_goBack 0 = .ok (.aload_n 0, 1) := by decide +kernel
theorem d_TS_goBack_1 : decode b_TS_goBack 1 = .ok (.getfield 68, 3) := by decide +kernel
theorem d_TS_goBack_4 : decode b_TS_goBack 4 = .ok (.iconst 1, 1) := by decide +kernel
theorem d_TS_goBack_5 : decode b_TS_goBack 5 = .ok (.if_icmp .lt 12, 3) := by decide +kernel
theorem d_TS_goBack_8 : decode b_TS_goBack 8 = .ok (.aload_n 0, 1) := by decide +kernel
theorem d_TS_goBack_9 : decode b_TS_goBack 9 = .ok (.getfield 68, 3) := by decide +kernel
theorem d_TS_goBack_12 : decode b_TS_goBack 12 = .ok (.bipush 36, 2) := by decide +kernel
theorem d_TS_goBack_14 : decode b_TS_goBack 14 = .ok (.if_icmp .le 4, 3) := by decide +kernel
theorem d_TS_goBack_17 : decode b_TS_goBack 17 = .ok (.return_, 1) := by decide +kernel
theorem d_TS_goBack_18 : decode b_TS_goBack 18 = .ok (.aload_n 0, 1) := by decide +kernel
theorem d_TS_goBack_19 : decode b_TS_goBack 19 = .ok (.dup, 1) := by decide +kernel
theorem d_TS_goBack_20 : decode b_TS_goBack 20 = .ok (.getfield 68, 3) := by decide +kernel
theorem d_TS_goBack_23 : decode b_TS_goBack 23 = .ok (.iconst 1, 1) := by decide +kernel
theorem d_TS_goBack_24 : decode b_TS_goBack 24 = .ok (.isub, 1) := by decide +kernel
theorem d_TS_goBack_25 : decode b_TS_goBack 25 = .ok (.putfield 68, 3) := by decide +kernel
theorem d_TS_goBack_28 : decode b_TS_goBack 28 = .ok (.aload_n 0, 1) := by decide +kernel
theorem d_TS_goBack_29 : decode b_TS_goBack 29 = .ok (.dup, 1) := by decide +kernel
theorem d_TS_goBack_30 : decode b_TS_goBack 30 = .ok (.getfield 64, 3) := by decide +kernel
theorem d_TS_goBack_33 : decode b_TS_goBack 33 = .ok (.lconst 1, 1) := by decide +kernel
theorem d_TS_goBack_34 : decode b_TS_goBack 34 = .ok (.aload_n 0, 1) := by decide +kernel
theorem d_TS_goBack_35 : decode b_TS_goBack 35 = .ok (.getfield 9, 3) := by decide +kernel
theorem d_TS_goBack_38 : decode b_TS_goBack 38 = .ok (.aload_n 0, 1) := by decide +kernel
theorem d_TS_goBack_39 : decode b_TS_goBack 39 = .ok (.getfield 68, 3) := by decide +kernel
theorem d_TS_goBack_42 : decode b_TS_goBack 42 = .ok (.iaload, 1) := by decide +kernel
theorem d_TS_goBack_43 : decode b_TS_goBack 43 = .ok (.lshl, 1) := by decide +kernel
theorem d_TS_goBack_44 : decode b_TS_goBack 44 = .ok (.lor, 1) := by decide +kernel
theorem d_TS_goBack_45 : decode b_TS_goBack 45 = .ok (.putfield 64, 3) := by decide +kernel
theorem d_TS_goBack_48 : decode b_TS_goBack 48 = .ok (.return_, 1) := by decide +kernel
theorem d_TF_at_0 : decode b_TF_at 0 = .ok (.aload_n 0, 1) := by decide +kernel
theorem d_TF_at_1 : decode b_TF_at 1 = .ok (.getfield 25, 3) := by decide +kernel
theorem d_TF_at_4 : decode b_TF_at 4 = .ok (.iload_n 1, 1) := by decide +kernel
theorem d_TF_at_5 : decode b_TF_at 5 = .ok (.invokevirtual 81, 3) := by decide +kernel
theorem d_TF_at_8 : decode b_TF_at 8 = .ok (.ireturn, 1) := by decide +kernel
theorem d_TS_cellOfTour_0 : decode b_TS_cellOfTour 0 = .ok (.aload_n 0, 1) := by decide +kernel
theorem d_TS_cellOfTour_1 : decode b_TS_cellOfTour 1 = .ok (.getfield 50, 3) := by decide +kernel
theorem d_TS_cellOfTour_4 : decode b_TS_cellOfTour 4 = .ok (.ifCond .eq 30, 3) := by decide +kernel
theorem d_TS_cellOfTour_7 : decode b_TS_cellOfTour 7 = .ok (.iload_n 1, 1) := by decide +kernel
theorem d_TS_cellOfTour_8 : decode b_TS_cellOfTour 8 = .ok (.ifCond .lt 26, 3) := by decide +kernel
theorem d_TS_cellOfTour_11 : decode b_TS_cellOfTour 11 = .ok (.iload_n 1, 1) := by decide +kernel
theorem d_TS_cellOfTour_12 : decode b_TS_cellOfTour 12 = .ok (.aload_n 0, 1) := by decide +kernel
theorem d_TS_cellOfTour_13 : decode b_TS_cellOfTour 13 = .ok (.getfield 68, 3) := by decide +kernel
theorem d_TS_cellOfTour_16 : decode b_TS_cellOfTour 16 = .ok (.if_icmp .ge 18, 3) := by decide +kernel
theorem d_TS_cellOfTour_19 : decode b_TS_cellOfTour 19 = .ok (.iload_n 1, 1) := by decide +kernel
theorem d_TS_cellOfTour_20 : decode b_TS_cellOfTour 20 = .ok (.bipush 36, 2) := by decide +kernel
theorem d_TS_cellOfTour_22 : decode b_TS_cellOfTour 22 = .ok (.if_icmp .ge 12, 3) := by decide +kernel
theorem d_TS_cellOfTour_25 : decode b_TS_cellOfTour 25 = .ok (.aload_n 0, 1) := by decide +kernel
theorem d_TS_cellOfTour_26 : decode b_TS_cellOfTour 26 = .ok (.getfield 9, 3) := by decide +kernel
theorem d_TS_cellOfTour_29 : decode b_TS_cellOfTour 29 = .ok (.iload_n 1, 1) := by decide +kernel
theorem d_TS_cellOfTour_30 : decode b_TS_cellOfTour 30 = .ok (.iaload, 1) := by decide +kernel
theorem d_TS_cellOfTour_31 : decode b_TS_cellOfTour 31 = .ok (.goto 4, 3) := by decide +kernel
theorem d_TS_cellOfTour_34 : decode b_TS_cellOfTour 34 = .ok (.iconst (-1), 1) := by decide +kernel
theorem d_TS_cellOfTour_35 : decode b_TS_cellOfTour 35 = .ok (.ireturn, 1) := by decide +kernel
theorem d_TF_steps_0 : decode b_TF_steps 0 = .ok (.aload_n 0, 1) := by decide +kernel
theorem d_TF_steps_1 : decode b_TF_steps 1 = .ok (.getfield 25, 3) := by decide +kernel
theorem d_TF_steps_4 : decode b_TF_steps 4 = .ok (.invokevirtual 84, 3) := by decide +kernel
theorem d_TF_steps_7 : decode b_TF_steps 7 = .ok (.ireturn, 1) := by decide +kernel
theorem d_TS_stepsMade_0 : decode b_TS_stepsMade 0 = .ok (.aload_n 0, 1) := by decide +kernel
theorem d_TS_stepsMade_1 : decode b_TS_stepsMade 1 = .ok (.getfield 54, 3) := by decide +kernel
theorem d_TS_stepsMade_4 : decode b_TS_stepsMade 4 = .ok (.ireturn, 1) := by decide +kernel
theorem d_TF_ways_0 : decode b_TF_ways 0 = .ok (.iload_n 1, 1) := by decide +kernel
theorem d_TF_ways_1 : decode b_TF_ways 1 = .ok (.invokestatic 62, 3) := by decide +kernel
theorem d_TF_ways_4 : decode b_TF_ways 4 = .ok (.ifCond .eq 14, 3) := by decide +kernel
theorem d_TF_ways_7 : decode b_TF_ways 7 = .ok (.aload_n 0, 1) := by decide +kernel
theorem d_TF_ways_8 : decode b_TF_ways 8 = .ok (.getfield 18, 3) := by decide +kernel
theorem d_TF_ways_11 : decode b_TF_ways 11 = .ok (.iload_n 2, 1) := by decide +kernel
theorem d_TF_ways_12 : decode b_TF_ways 12 = .ok (.invokevirtual 88, 3) := by decide +kernel
theorem d_TF_ways_15 : decode b_TF_ways 15 = .ok (.ifCond .ne 5, 3) := by decide +kernel
theorem d_TF_ways_18 : decode b_TF_ways 18 = .ok (.iconst (-1), 1) := by decide +kernel
theorem d_TF_ways_19 : decode b_TF_ways 19 = .ok (.ireturn, 1) := by decide +kernel
theorem d_TF_ways_20 : decode b_TF_ways 20 = .ok (.aload_n 0, 1) := by decide +kernel
theorem d_TF_ways_21 : decode b_TF_ways 21 = .ok (.getfield 25, 3) := by decide +kernel
theorem d_TF_ways_24 : decode b_TF_ways 24 = .ok (.iload_n 1, 1) := by decide +kernel
theorem d_TF_ways_25 : decode b_TF_ways 25 = .ok (.iload_n 2, 1) := by decide +kernel
theorem d_TF_ways_26 : decode b_TF_ways 26 = .ok (.invokevirtual 91, 3) := by decide +kernel
theorem d_TF_ways_29 : decode b_TF_ways 29 = .ok (.aload_n 0, 1) := by decide +kernel
theorem d_TF_ways_30 : decode b_TF_ways 30 = .ok (.getfield 18, 3) := by decide +kernel
theorem d_TF_ways_33 : decode b_TF_ways 33 = .ok (.invokevirtual 69, 3) := by decide +kernel
theorem d_TF_ways_36 : decode b_TF_ways 36 = .ok (.land, 1) := by decide +kernel
theorem d_TF_ways_37 : decode b_TF_ways 37 = .ok (.invokestatic 95, 3) := by decide +kernel
theorem d_TF_ways_40 : decode b_TF_ways 40 = .ok (.ireturn, 1) := by decide +kernel
theorem d_TF_queens_0 : decode b_TF_queens 0 = .ok (.aload_n 0, 1) := by decide +kernel
theorem d_TF_queens_1 : decode b_TF_queens 1 = .ok (.getfield 32, 3) := by decide +kernel
theorem d_TF_queens_4 : decode b_TF_queens 4 = .ok (.aload_n 0, 1) := by decide +kernel
theorem d_TF_queens_5 : decode b_TF_queens 5 = .ok (.getfield 18, 3) := by decide +kernel
theorem d_TF_queens_8 : decode b_TF_queens 8 = .ok (.invokevirtual 69, 3) := by decide +kernel
theorem d_TF_queens_11 : decode b_TF_queens 11 = .ok (.invokevirtual 101, 3) := by decide +kernel
theorem d_TF_queens_14 : decode b_TF_queens 14 = .ok (.ireturn, 1) := by decide +kernel
theorem d_QS_countWays_0 : decode b_QS_countWays 0 = .ok (.aload_n 0, 1) := by decide +kernel
theorem d_QS_countWays_1 : decode b_QS_countWays 1 = .ok (.lload_n 1, 1) := by decide +kernel
theorem d_QS_countWays_2 : decode b_QS_countWays 2 = .ok (.putfield 28, 3) := by decide +kernel
theorem d_QS_countWays_5 : decode b_QS_countWays 5 = .ok (.aload_n 0, 1) := by decide +kernel
theorem d_QS_countWays_6 : decode b_QS_countWays 6 = .ok (.iconst 0, 1) := by decide +kernel
theorem d_QS_countWays_7 : decode b_QS_countWays 7 = .ok (.putfield 32, 3) := by decide +kernel
theorem d_QS_countWays_10 : decode b_QS_countWays 10 = .ok (.aload_n 0, 1) := by decide +kernel
theorem d_QS_countWays_11 : decode b_QS_countWays 11 = .ok (.iconst 0, 1) := by decide +kernel
theorem d_QS_countWays_12 : decode b_QS_countWays 12 = .ok (.iconst (-1), 1) := by decide +kernel
theorem d_QS_countWays_13 : decode b_QS_countWays 13 = .ok (.invokevirtual 35, 3) := by decide +kernel
theorem d_QS_countWays_16 : decode b_QS_countWays 16 = .ok (.pop, 1) := by decide +kernel
theorem d_QS_countWays_17 : decode b_QS_countWays 17 = .ok (.aload_n 0, 1) := by decide +kernel
theorem d_QS_countWays_18 : decode b_QS_countWays 18 = .ok (.getfield 32, 3) := by decide +kernel
theorem d_QS_countWays_21 : decode b_QS_countWays 21 = .ok (.ireturn, 1) := by decide +kernel
theorem d_QS_placeFrom_0 : decode b_QS_placeFrom 0 = .ok (.iload_n 1, 1) := by decide +kernel
theorem d_QS_placeFrom_1 : decode b_QS_placeFrom 1 = .ok (.aload_n 0, 1) := by decide +kernel
theorem d_QS_placeFrom_2 : decode b_QS_placeFrom 2 = .ok (.getfield 21, 3) := by decide +kernel
theorem d_QS_placeFrom_5 : decode b_QS_placeFrom 5 = .ok (.if_icmp .ge 10, 3) := by decide +kernel
theorem d_QS_placeFrom_8 : decode b_QS_placeFrom 8 = .ok (.aload_n 0, 1) := by decide +kernel
theorem d_QS_placeFrom_9 : decode b_QS_placeFrom 9 = .ok (.iload_n 1, 1) := by decide +kernel
theorem d_QS_placeFrom_10 : decode b_QS_placeFrom 10 = .ok (.iload_n 2, 1) := by decide +kernel
theorem d_QS_placeFrom_11 : decode b_QS_placeFrom 11 = .ok (.invokevirtual 39, 3) := by decide +kernel
theorem d_QS_placeFrom_14 : decode b_QS_placeFrom 14 = .ok (.ireturn, 1) := by decide +kernel
theorem d_QS_placeFrom_15 : decode b_QS_placeFrom 15 = .ok (.aload_n 0, 1) := by decide +kernel
theorem d_QS_placeFrom_16 : decode b_QS_placeFrom 16 = .ok (.dup, 1) := by decide +kernel
theorem d_QS_placeFrom_17 : decode b_QS_placeFrom 17 = .ok (.getfield 32, 3) := by decide +kernel
theorem d_QS_placeFrom_20 : decode b_QS_placeFrom 20 = .ok (.iconst 1, 1) := by decide +kernel
theorem d_QS_placeFrom_21 : decode b_QS_placeFrom 21 = .ok (.iadd, 1) := by decide +kernel
theorem d_QS_placeFrom_22 : decode b_QS_placeFrom 22 = .ok (.putfield 32, 3) := by decide +kernel
theorem d_QS_placeFrom_25 : decode b_QS_placeFrom 25 = .ok (.aload_n 0, 1) := by decide +kernel
theorem d_QS_placeFrom_26 : decode b_QS_placeFrom 26 = .ok (.getfield 32, 3) := by decide +kernel
theorem d_QS_placeFrom_29 : decode b_QS_placeFrom 29 = .ok (.iconst 1, 1) := by decide +kernel
theorem d_QS_placeFrom_30 : decode b_QS_placeFrom 30 = .ok (.isub, 1) := by decide +kernel
theorem d_QS_placeFrom_31 : decode b_QS_placeFrom 31 = .ok (.iload_n 2, 1) := by decide +kernel
theorem d_QS_placeFrom_32 : decode b_QS_placeFrom 32 = .ok (.if_icmp .ne 7, 3) := by decide +kernel
theorem d_QS_placeFrom_35 : decode b_QS_placeFrom 35 = .ok (.iconst 1, 1) := by decide +kernel
theorem d_QS_placeFrom_36 : decode b_QS_placeFrom 36 = .ok (.goto 4, 3) := by decide +kernel
theorem d_QS_placeFrom_39 : decode b_QS_placeFrom 39 = .ok (.iconst 0, 1) := by decide +kernel
theorem d_QS_placeFrom_40 : decode b_QS_placeFrom 40 = .ok (.ireturn, 1) := by decide +kernel
theorem d_QS_placeIn_0 : decode b_QS_placeIn 0 = .ok (.iload_n 1, 1) := by decide +kernel
theorem d_QS_placeIn_1 : decode b_QS_placeIn 1 = .ok (.ifCond .lt 11, 3) := by decide +kernel
theorem d_QS_placeIn_4 : decode b_QS_placeIn 4 = .ok (.iload_n 1, 1) := by decide +kernel
theorem d_QS_placeIn_5 : decode b_QS_placeIn 5 = .ok (.aload_n 0, 1) := by decide +kernel
theorem d_QS_placeIn_6 : decode b_QS_placeIn 6 = .ok (.getfield 21, 3) := by decide +kernel
theorem d_QS_placeIn_9 : decode b_QS_placeIn 9 = .ok (.if_icmp .lt 5, 3) := by decide +kernel
theorem d_QS_placeIn_12 : decode b_QS_placeIn 12 = .ok (.iconst 0, 1) := by decide +kernel
theorem d_QS_placeIn_13 : decode b_QS_placeIn 13 = .ok (.ireturn, 1) := by decide +kernel
theorem d_QS_placeIn_14 : decode b_QS_placeIn 14 = .ok (.iconst 0, 1) := by decide +kernel
theorem d_QS_placeIn_15 : decode b_QS_placeIn 15 = .ok (.istore_n 3, 1) := by decide +kernel
theorem d_QS_placeIn_16 : decode b_QS_placeIn 16 = .ok (.iload_n 3, 1) := by decide +kernel
theorem d_QS_placeIn_17 : decode b_QS_placeIn 17 = .ok (.aload_n 0, 1) := by decide +kernel
theorem d_QS_placeIn_18 : decode b_QS_placeIn 18 = .ok (.getfield 25, 3) := by decide +kernel
theorem d_QS_placeIn_21 : decode b_QS_placeIn 21 = .ok (.if_icmp .ge 38, 3) := by decide +kernel
theorem d_QS_placeIn_24 : decode b_QS_placeIn 24 = .ok (.aload_n 0, 1) := by decide +kernel
theorem d_QS_placeIn_25 : decode b_QS_placeIn 25 = .ok (.iload_n 1, 1) := by decide +kernel
theorem d_QS_placeIn_26 : decode b_QS_placeIn 26 = .ok (.iload_n 3, 1) := by decide +kernel
theorem d_QS_placeIn_27 : decode b_QS_placeIn 27 = .ok (.invokevirtual 42, 3) := by decide +kernel
theorem d_QS_placeIn_30 : decode b_QS_placeIn 30 = .ok (.ifCond .eq 23, 3) := by decide +kernel
theorem d_QS_placeIn_33 : decode b_QS_placeIn 33 = .ok (.aload_n 0, 1) := by decide +kernel
theorem d_QS_placeIn_34 : decode b_QS_placeIn 34 = .ok (.getfield 9, 3) := by decide +kernel
theorem d_QS_placeIn_37 : decode b_QS_placeIn 37 = .ok (.iload_n 1, 1) := by decide +kernel
theorem d_QS_placeIn_38 : decode b_QS_placeIn 38 = .ok (.iload_n 3, 1) := by decide +kernel
theorem d_QS_placeIn_39 : decode b_QS_placeIn 39 = .ok (.iastore, 1) := by decide +kernel
theorem d_QS_placeIn_40 : decode b_QS_placeIn 40 = .ok (.aload_n 0, 1) := by decide +kernel
theorem d_QS_placeIn_41 : decode b_QS_placeIn 41 = .ok (.iload_n 1, 1) := by decide +kernel
theorem d_QS_placeIn_42 : decode b_QS_placeIn 42 = .ok (.iconst 1, 1) := by decide +kernel
theorem d_QS_placeIn_43 : decode b_QS_placeIn 43 = .ok (.iadd, 1) := by decide +kernel
theorem d_QS_placeIn_44 : decode b_QS_placeIn 44 = .ok (.iload_n 2, 1) := by decide +kernel
theorem d_QS_placeIn_45 : decode b_QS_placeIn 45 = .ok (.invokevirtual 35, 3) := by decide +kernel
theorem d_QS_placeIn_48 : decode b_QS_placeIn 48 = .ok (.ifCond .eq 5, 3) := by decide +kernel
theorem d_QS_placeIn_51 : decode b_QS_placeIn 51 = .ok (.iconst 1, 1) := by decide +kernel
theorem d_QS_placeIn_52 : decode b_QS_placeIn 52 = .ok (.ireturn, 1) := by decide +kernel
theorem d_QS_placeIn_53 : decode b_QS_placeIn 53 = .ok (.iinc 3 1, 3) := by decide +kernel
theorem d_QS_placeIn_56 : decode b_QS_placeIn 56 = .ok (.goto (-40), 3) := by decide +kernel
theorem d_QS_placeIn_59 : decode b_QS_placeIn 59 = .ok (.iconst 0, 1) := by decide +kernel
theorem d_QS_placeIn_60 : decode b_QS_placeIn 60 = .ok (.ireturn, 1) := by decide +kernel
theorem d_QS_canStand_0 : decode b_QS_canStand 0 = .ok (.aload_n 0, 1) := by decide +kernel
theorem d_QS_canStand_1 : decode b_QS_canStand 1 = .ok (.getfield 28, 3) := by decide +kernel
theorem d_QS_canStand_4 : decode b_QS_canStand 4 = .ok (.iload_n 1, 1) := by decide +kernel
theorem d_QS_canStand_5 : decode b_QS_canStand 5 = .ok (.aload_n 0, 1) := by decide +kernel
theorem d_QS_canStand_6 : decode b_QS_canStand 6 = .ok (.getfield 21, 3) := by decide +kernel
theorem d_QS_canStand_9 : decode b_QS_canStand 9 = .ok (.iload_n 2, 1) := by decide +kernel
theorem d_QS_canStand_10 : decode b_QS_canStand 10 = .ok (.imul, 1) := by decide +kernel
theorem d_QS_canStand_11 : decode b_QS_canStand 11 = .ok (.iadd, 1) := by decide +kernel
theorem d_QS_canStand_12 : decode b_QS_canStand 12 = .ok (.lushr, 1) := by decide +kernel
theorem d_QS_canStand_13 : decode b_QS_canStand 13 = .ok (.lconst 1, 1) := by decide +kernel
theorem d_QS_canStand_14 : decode b_QS_canStand 14 = .ok (.land, 1) := by decide +kernel
theorem d_QS_canStand_15 : decode b_QS_canStand 15 = .ok (.lconst 0, 1) := by decide +kernel
theorem d_QS_canStand_16 : decode b_QS_canStand 16 = .ok (.lcmp, 1) := by decide +kernel
theorem d_QS_canStand_17 : decode b_QS_canStand 17 = .ok (.ifCond .ne 5, 3) := by decide +kernel
theorem d_QS_canStand_20 : decode b_QS_canStand 20 = .ok (.iconst 0, 1) := by decide +kernel
theorem d_QS_canStand_21 : decode b_QS_canStand 21 = .ok (.ireturn, 1) := by decide +kernel
theorem d_QS_canStand_22 : decode b_QS_canStand 22 = .ok (.iconst 0, 1) := by decide +kernel
theorem d_QS_canStand_23 : decode b_QS_canStand 23 = .ok (.istore_n 3, 1) := by decide +kernel
theorem d_QS_canStand_24 : decode b_QS_canStand 24 = .ok (.iload_n 3, 1) := by decide +kernel
theorem d_QS_canStand_25 : decode b_QS_canStand 25 = .ok (.iload_n 1, 1) := by decide +kernel
theorem d_QS_canStand_26 : decode b_QS_canStand 26 = .ok (.if_icmp .ge 43, 3) := by decide +kernel
theorem d_QS_canStand_29 : decode b_QS_canStand 29 = .ok (.iload_n 3, 1) := by decide +kernel
theorem d_QS_canStand_30 : decode b_QS_canStand 30 = .ok (.bipush 6, 2) := by decide +kernel
theorem d_QS_canStand_32 : decode b_QS_canStand 32 = .ok (.if_icmp .ge 37, 3) := by decide +kernel
theorem d_QS_canStand_35 : decode b_QS_canStand 35 = .ok (.aload_n 0, 1) := by decide +kernel
theorem d_QS_canStand_36 : decode b_QS_canStand 36 = .ok (.getfield 9, 3) := by decide +kernel
theorem d_QS_canStand_39 : decode b_QS_canStand 39 = .ok (.iload_n 3, 1) := by decide +kernel
theorem d_QS_canStand_40 : decode b_QS_canStand 40 = .ok (.iaload, 1) := by decide +kernel
theorem d_QS_canStand_41 : decode b_QS_canStand 41 = .ok (.iload_n 2, 1) := by decide +kernel
theorem d_QS_canStand_42 : decode b_QS_canStand 42 = .ok (.isub, 1) := by decide +kernel
theorem d_QS_canStand_43 : decode b_QS_canStand 43 = .ok (.invokestatic 45, 3) := by decide +kernel
theorem d_QS_canStand_46 : decode b_QS_canStand 46 = .ok (.istore 4, 2) := by decide +kernel
theorem d_QS_canStand_48 : decode b_QS_canStand 48 = .ok (.iload 4, 2) := by decide +kernel
theorem d_QS_canStand_50 : decode b_QS_canStand 50 = .ok (.ifCond .eq 11, 3) := by decide +kernel
theorem d_QS_canStand_53 : decode b_QS_canStand 53 = .ok (.iload 4, 2) := by decide +kernel
theorem d_QS_canStand_55 : decode b_QS_canStand 55 = .ok (.iload_n 1, 1) := by decide +kernel
theorem d_QS_canStand_56 : decode b_QS_canStand 56 = .ok (.iload_n 3, 1) := by decide +kernel
theorem d_QS_canStand_57 : decode b_QS_canStand 57 = .ok (.isub, 1) := by decide +kernel
theorem d_QS_canStand_58 : decode b_QS_canStand 58 = .ok (.if_icmp .ne 5, 3) := by decide +kernel
theorem d_QS_canStand_61 : decode b_QS_canStand 61 = .ok (.iconst 0, 1) := by decide +kernel
theorem d_QS_canStand_62 : decode b_QS_canStand 62 = .ok (.ireturn, 1) := by decide +kernel
theorem d_QS_canStand_63 : decode b_QS_canStand 63 = .ok (.iinc 3 1, 3) := by decide +kernel
theorem d_QS_canStand_66 : decode b_QS_canStand 66 = .ok (.goto (-42), 3) := by decide +kernel
theorem d_QS_canStand_69 : decode b_QS_canStand 69 = .ok (.iconst 1, 1) := by decide +kernel
theorem d_QS_canStand_70 : decode b_QS_canStand 70 = .ok (.ireturn, 1) := by decide +kernel
theorem d_TF_queen_0 : decode b_TF_queen 0 = .ok (.aload_n 0, 1) := by decide +kernel
theorem d_TF_queen_1 : decode b_TF_queen 1 = .ok (.getfield 32, 3) := by decide +kernel
theorem d_TF_queen_4 : decode b_TF_queen 4 = .ok (.aload_n 0, 1) := by decide +kernel
theorem d_TF_queen_5 : decode b_TF_queen 5 = .ok (.getfield 18, 3) := by decide +kernel
theorem d_TF_queen_8 : decode b_TF_queen 8 = .ok (.invokevirtual 69, 3) := by decide +kernel
theorem d_TF_queen_11 : decode b_TF_queen 11 = .ok (.iload_n 1, 1) := by decide +kernel
theorem d_TF_queen_12 : decode b_TF_queen 12 = .ok (.iload_n 2, 1) := by decide +kernel
theorem d_TF_queen_13 : decode b_TF_queen 13 = .ok (.invokevirtual 104, 3) := by decide +kernel
theorem d_TF_queen_16 : decode b_TF_queen 16 = .ok (.ireturn, 1) := by decide +kernel
theorem d_QS_rowInWay_0 : decode b_QS_rowInWay 0 = .ok (.iload_n 3, 1) := by decide +kernel
theorem d_QS_rowInWay_1 : decode b_QS_rowInWay 1 = .ok (.ifCond .lt 17, 3) := by decide +kernel
theorem d_QS_rowInWay_4 : decode b_QS_rowInWay 4 = .ok (.iload 4, 2) := by decide +kernel
theorem d_QS_rowInWay_6 : decode b_QS_rowInWay 6 = .ok (.ifCond .lt 12, 3) := by decide +kernel
theorem d_QS_rowInWay_9 : decode b_QS_rowInWay 9 = .ok (.iload 4, 2) := by decide +kernel
theorem d_QS_rowInWay_11 : decode b_QS_rowInWay 11 = .ok (.aload_n 0, 1) := by decide +kernel
theorem d_QS_rowInWay_12 : decode b_QS_rowInWay 12 = .ok (.getfield 21, 3) := by decide +kernel
theorem d_QS_rowInWay_15 : decode b_QS_rowInWay 15 = .ok (.if_icmp .lt 5, 3) := by decide +kernel
theorem d_QS_rowInWay_18 : decode b_QS_rowInWay 18 = .ok (.iconst (-1), 1) := by decide +kernel
theorem d_QS_rowInWay_19 : decode b_QS_rowInWay 19 = .ok (.ireturn, 1) := by decide +kernel
theorem d_QS_rowInWay_20 : decode b_QS_rowInWay 20 = .ok (.aload_n 0, 1) := by decide +kernel
theorem d_QS_rowInWay_21 : decode b_QS_rowInWay 21 = .ok (.lload_n 1, 1) := by decide +kernel
theorem d_QS_rowInWay_22 : decode b_QS_rowInWay 22 = .ok (.putfield 28, 3) := by decide +kernel
theorem d_QS_rowInWay_25 : decode b_QS_rowInWay 25 = .ok (.aload_n 0, 1) := by decide +kernel
theorem d_QS_rowInWay_26 : decode b_QS_rowInWay 26 = .ok (.iconst 0, 1) := by decide +kernel
theorem d_QS_rowInWay_27 : decode b_QS_rowInWay 27 = .ok (.putfield 32, 3) := by decide +kernel
theorem d_QS_rowInWay_30 : decode b_QS_rowInWay 30 = .ok (.aload_n 0, 1) := by decide +kernel
theorem d_QS_rowInWay_31 : decode b_QS_rowInWay 31 = .ok (.iconst 0, 1) := by decide +kernel
theorem d_QS_rowInWay_32 : decode b_QS_rowInWay 32 = .ok (.iload_n 3, 1) := by decide +kernel
theorem d_QS_rowInWay_33 : decode b_QS_rowInWay 33 = .ok (.invokevirtual 35, 3) := by decide +kernel
theorem d_QS_rowInWay_36 : decode b_QS_rowInWay 36 = .ok (.ifCond .eq 13, 3) := by decide +kernel
theorem d_QS_rowInWay_39 : decode b_QS_rowInWay 39 = .ok (.aload_n 0, 1) := by decide +kernel
theorem d_QS_rowInWay_40 : decode b_QS_rowInWay 40 = .ok (.getfield 9, 3) := by decide +kernel
theorem d_QS_rowInWay_43 : decode b_QS_rowInWay 43 = .ok (.iload 4, 2) := by decide +kernel
theorem d_QS_rowInWay_45 : decode b_QS_rowInWay 45 = .ok (.iaload, 1) := by decide +kernel
theorem d_QS_rowInWay_46 : decode b_QS_rowInWay 46 = .ok (.goto 4, 3) := by decide +kernel
theorem d_QS_rowInWay_49 : decode b_QS_rowInWay 49 = .ok (.iconst (-1), 1) := by decide +kernel
theorem d_QS_rowInWay_50 : decode b_QS_rowInWay 50 = .ok (.ireturn, 1) := by decide +kernel
theorem d_TF_given_0 : decode b_TF_given 0 = .ok (.aload_n 0, 1) := by decide +kernel
theorem d_TF_given_1 : decode b_TF_given 1 = .ok (.getfield 18, 3) := by decide +kernel
theorem d_TF_given_4 : decode b_TF_given 4 = .ok (.iload_n 1, 1) := by decide +kernel
theorem d_TF_given_5 : decode b_TF_given 5 = .ok (.iload_n 2, 1) := by decide +kernel
theorem d_TF_given_6 : decode b_TF_given 6 = .ok (.invokevirtual 47, 3) := by decide +kernel
theorem d_TF_given_9 : decode b_TF_given 9 = .ok (.istore 4, 2) := by decide +kernel
theorem d_TF_given_11 : decode b_TF_given 11 = .ok (.iload 4, 2) := by decide +kernel
theorem d_TF_given_13 : decode b_TF_given 13 = .ok (.ifCond .lt 14, 3) := by decide +kernel
theorem d_TF_given_16 : decode b_TF_given 16 = .ok (.aload_n 0, 1) := by decide +kernel
theorem d_TF_given_17 : decode b_TF_given 17 = .ok (.getfield 39, 3) := by decide +kernel
theorem d_TF_given_20 : decode b_TF_given 20 = .ok (.iload_n 3, 1) := by decide +kernel
theorem d_TF_given_21 : decode b_TF_given 21 = .ok (.invokevirtual 108, 3) := by decide +kernel
theorem d_TF_given_24 : decode b_TF_given 24 = .ok (.ifCond .ne 5, 3) := by decide +kernel
theorem d_TF_given_27 : decode b_TF_given 27 = .ok (.iconst 0, 1) := by decide +kernel
theorem d_TF_given_28 : decode b_TF_given 28 = .ok (.ireturn, 1) := by decide +kernel
theorem d_TF_given_29 : decode b_TF_given 29 = .ok (.aload_n 0, 1) := by decide +kernel
theorem d_TF_given_30 : decode b_TF_given 30 = .ok (.getfield 39, 3) := by decide +kernel
theorem d_TF_given_33 : decode b_TF_given 33 = .ok (.iload 4, 2) := by decide +kernel
theorem d_TF_given_35 : decode b_TF_given 35 = .ok (.iload_n 3, 1) := by decide +kernel
theorem d_TF_given_36 : decode b_TF_given 36 = .ok (.invokevirtual 111, 3) := by decide +kernel
theorem d_TF_given_39 : decode b_TF_given 39 = .ok (.iconst 1, 1) := by decide +kernel
theorem d_TF_given_40 : decode b_TF_given 40 = .ok (.ireturn, 1) := by decide +kernel
theorem d_RC_allows_0 : decode b_RC_allows 0 = .ok (.iload_n 1, 1) := by decide +kernel
theorem d_RC_allows_1 : decode b_RC_allows 1 = .ok (.ifCond .lt 15, 3) := by decide +kernel
theorem d_RC_allows_4 : decode b_RC_allows 4 = .ok (.iload_n 1, 1) := by decide +kernel
theorem d_RC_allows_5 : decode b_RC_allows 5 = .ok (.aload_n 0, 1) := by decide +kernel
theorem d_RC_allows_6 : decode b_RC_allows 6 = .ok (.getfield 43, 3) := by decide +kernel
theorem d_RC_allows_9 : decode b_RC_allows 9 = .ok (.if_icmp .gt 7, 3) := by decide +kernel
theorem d_RC_allows_12 : decode b_RC_allows 12 = .ok (.iconst 1, 1) := by decide +kernel
theorem d_RC_allows_13 : decode b_RC_allows 13 = .ok (.goto 4, 3) := by decide +kernel
theorem d_RC_allows_16 : decode b_RC_allows 16 = .ok (.iconst 0, 1) := by decide +kernel
theorem d_RC_allows_17 : decode b_RC_allows 17 = .ok (.ireturn, 1) := by decide +kernel
theorem d_RC_give_0 : decode b_RC_give 0 = .ok (.iload_n 1, 1) := by decide +kernel
theorem d_RC_give_1 : decode b_RC_give 1 = .ok (.ifCond .lt 21, 3) := by decide +kernel
theorem d_RC_give_4 : decode b_RC_give 4 = .ok (.iload_n 1, 1) := by decide +kernel
theorem d_RC_give_5 : decode b_RC_give 5 = .ok (.bipush 36, 2) := by decide +kernel
theorem d_RC_give_7 : decode b_RC_give 7 = .ok (.if_icmp .ge 15, 3) := by decide +kernel
theorem d_RC_give_10 : decode b_RC_give 10 = .ok (.aload_n 0, 1) := by decide +kernel
theorem d_RC_give_11 : decode b_RC_give 11 = .ok (.getfield 9, 3) := by decide +kernel
theorem d_RC_give_14 : decode b_RC_give 14 = .ok (.iload_n 1, 1) := by decide +kernel
theorem d_RC_give_15 : decode b_RC_give 15 = .ok (.iload_n 2, 1) := by decide +kernel
theorem d_RC_give_16 : decode b_RC_give 16 = .ok (.iastore, 1) := by decide +kernel
theorem d_RC_give_17 : decode b_RC_give 17 = .ok (.aload_n 0, 1) := by decide +kernel
theorem d_RC_give_18 : decode b_RC_give 18 = .ok (.iconst 0, 1) := by decide +kernel
theorem d_RC_give_19 : decode b_RC_give 19 = .ok (.putfield 52, 3) := by decide +kernel
theorem d_RC_give_22 : decode b_RC_give 22 = .ok (.return_, 1) := by decide +kernel
theorem d_TF_fill_0 : decode b_TF_fill 0 = .ok (.aload_n 0, 1) := by decide +kernel
theorem d_TF_fill_1 : decode b_TF_fill 1 = .ok (.getfield 39, 3) := by decide +kernel
theorem d_TF_fill_4 : decode b_TF_fill 4 = .ok (.invokevirtual 114, 3) := by decide +kernel
theorem d_TF_fill_7 : decode b_TF_fill 7 = .ok (.ireturn, 1) := by decide +kernel
theorem d_RC_findLeast_0 : decode b_RC_findLeast 0 = .ok (.aload_n 0, 1) := by decide +kernel
theorem d_RC_findLeast_1 : decode b_RC_findLeast 1 = .ok (.aload_n 0, 1) := by decide +kernel
theorem d_RC_findLeast_2 : decode b_RC_findLeast 2 = .ok (.invokevirtual 56, 3) := by decide +kernel
theorem d_RC_findLeast_5 : decode b_RC_findLeast 5 = .ok (.ifCond .eq 16, 3) := by decide +kernel
theorem d_RC_findLeast_8 : decode b_RC_findLeast 8 = .ok (.aload_n 0, 1) := by decide +kernel
theorem d_RC_findLeast_9 : decode b_RC_findLeast 9 = .ok (.iconst 0, 1) := by decide +kernel
theorem d_RC_findLeast_10 : decode b_RC_findLeast 10 = .ok (.iconst 1, 1) := by decide +kernel
theorem d_RC_findLeast_11 : decode b_RC_findLeast 11 = .ok (.invokevirtual 60, 3) := by decide +kernel
theorem d_RC_findLeast_14 : decode b_RC_findLeast 14 = .ok (.ifCond .le 7, 3) := by decide +kernel
theorem d_RC_findLeast_17 : decode b_RC_findLeast 17 = .ok (.iconst 1, 1) := by decide +kernel
theorem d_RC_findLeast_18 : decode b_RC_findLeast 18 = .ok (.goto 4, 3) := by decide +kernel
theorem d_RC_findLeast_21 : decode b_RC_findLeast 21 = .ok (.iconst 0, 1) := by decide +kernel
theorem d_RC_findLeast_22 : decode b_RC_findLeast 22 = .ok (.putfield 52, 3) := by decide +kernel
theorem d_RC_findLeast_25 : decode b_RC_findLeast 25 = .ok (.iconst 0, 1) := by decide +kernel
theorem d_RC_findLeast_26 : decode b_RC_findLeast 26 = .ok (.istore_n 1, 1) := by decide +kernel
theorem d_RC_findLeast_27 : decode b_RC_findLeast 27 = .ok (.aload_n 0, 1) := by decide +kernel
theorem d_RC_findLeast_28 : decode b_RC_findLeast 28 = .ok (.getfield 52, 3) := by decide +kernel
theorem d_RC_findLeast_31 : decode b_RC_findLeast 31 = .ok (.ifCond .eq 31, 3) := by decide +kernel
theorem d_RC_findLeast_34 : decode b_RC_findLeast 34 = .ok (.iload_n 1, 1) := by decide +kernel
theorem d_RC_findLeast_35 : decode b_RC_findLeast 35 = .ok (.aload_n 0, 1) := by decide +kernel
theorem d_RC_findLeast_36 : decode b_RC_findLeast 36 = .ok (.getfield 36, 3) := by decide +kernel
