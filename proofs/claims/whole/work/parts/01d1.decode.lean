theorem d_RC_findLeast_39 : decode b_RC_findLeast 39 = .ok (.if_icmp .ge 23, 3) := by decide +kernel
theorem d_RC_findLeast_42 : decode b_RC_findLeast 42 = .ok (.aload_n 0, 1) := by decide +kernel
theorem d_RC_findLeast_43 : decode b_RC_findLeast 43 = .ok (.getfield 18, 3) := by decide +kernel
theorem d_RC_findLeast_46 : decode b_RC_findLeast 46 = .ok (.iload_n 1, 1) := by decide +kernel
theorem d_RC_findLeast_47 : decode b_RC_findLeast 47 = .ok (.iaload, 1) := by decide +kernel
theorem d_RC_findLeast_48 : decode b_RC_findLeast 48 = .ok (.ifCond .ne 8, 3) := by decide +kernel
theorem d_RC_findLeast_51 : decode b_RC_findLeast 51 = .ok (.aload_n 0, 1) := by decide +kernel
theorem d_RC_findLeast_52 : decode b_RC_findLeast 52 = .ok (.iload_n 1, 1) := by decide +kernel
theorem d_RC_findLeast_53 : decode b_RC_findLeast 53 = .ok (.invokevirtual 63, 3) := by decide +kernel
theorem d_RC_findLeast_56 : decode b_RC_findLeast 56 = .ok (.iinc 1 1, 3) := by decide +kernel
theorem d_RC_findLeast_59 : decode b_RC_findLeast 59 = .ok (.goto (-32), 3) := by decide +kernel
theorem d_RC_findLeast_62 : decode b_RC_findLeast 62 = .ok (.aload_n 0, 1) := by decide +kernel
theorem d_RC_findLeast_63 : decode b_RC_findLeast 63 = .ok (.getfield 52, 3) := by decide +kernel
theorem d_RC_findLeast_66 : decode b_RC_findLeast 66 = .ok (.ifCond .eq 18, 3) := by decide +kernel
theorem d_RC_findLeast_69 : decode b_RC_findLeast 69 = .ok (.aload_n 0, 1) := by decide +kernel
theorem d_RC_findLeast_70 : decode b_RC_findLeast 70 = .ok (.getfield 18, 3) := by decide +kernel
theorem d_RC_findLeast_73 : decode b_RC_findLeast 73 = .ok (.iconst 0, 1) := by decide +kernel
theorem d_RC_findLeast_74 : decode b_RC_findLeast 74 = .ok (.aload_n 0, 1) := by decide +kernel
theorem d_RC_findLeast_75 : decode b_RC_findLeast 75 = .ok (.getfield 15, 3) := by decide +kernel
theorem d_RC_findLeast_78 : decode b_RC_findLeast 78 = .ok (.iconst 0, 1) := by decide +kernel
theorem d_RC_findLeast_79 : decode b_RC_findLeast 79 = .ok (.bipush 36, 2) := by decide +kernel
theorem d_RC_findLeast_81 : decode b_RC_findLeast 81 = .ok (.invokestatic 67, 3) := by decide +kernel
theorem d_RC_findLeast_84 : decode b_RC_findLeast 84 = .ok (.aload_n 0, 1) := by decide +kernel
theorem d_RC_findLeast_85 : decode b_RC_findLeast 85 = .ok (.getfield 52, 3) := by decide +kernel
theorem d_RC_findLeast_88 : decode b_RC_findLeast 88 = .ok (.ireturn, 1) := by decide +kernel
theorem d_RC_layGiven_0 : decode b_RC_layGiven 0 = .ok (.aload_n 0, 1) := by decide +kernel
theorem d_RC_layGiven_1 : decode b_RC_layGiven 1 = .ok (.lconst 0, 1) := by decide +kernel
theorem d_RC_layGiven_2 : decode b_RC_layGiven 2 = .ok (.putfield 84, 3) := by decide +kernel
theorem d_RC_layGiven_5 : decode b_RC_layGiven 5 = .ok (.aload_n 0, 1) := by decide +kernel
theorem d_RC_layGiven_6 : decode b_RC_layGiven 6 = .ok (.lconst 0, 1) := by decide +kernel
theorem d_RC_layGiven_7 : decode b_RC_layGiven 7 = .ok (.putfield 88, 3) := by decide +kernel
theorem d_RC_layGiven_10 : decode b_RC_layGiven 10 = .ok (.iconst 0, 1) := by decide +kernel
theorem d_RC_layGiven_11 : decode b_RC_layGiven 11 = .ok (.istore_n 1, 1) := by decide +kernel
theorem d_RC_layGiven_12 : decode b_RC_layGiven 12 = .ok (.iload_n 1, 1) := by decide +kernel
theorem d_RC_layGiven_13 : decode b_RC_layGiven 13 = .ok (.aload_n 0, 1) := by decide +kernel
theorem d_RC_layGiven_14 : decode b_RC_layGiven 14 = .ok (.getfield 36, 3) := by decide +kernel
theorem d_RC_layGiven_17 : decode b_RC_layGiven 17 = .ok (.if_icmp .ge 16, 3) := by decide +kernel
theorem d_RC_layGiven_20 : decode b_RC_layGiven 20 = .ok (.aload_n 0, 1) := by decide +kernel
theorem d_RC_layGiven_21 : decode b_RC_layGiven 21 = .ok (.getfield 18, 3) := by decide +kernel
theorem d_RC_layGiven_24 : decode b_RC_layGiven 24 = .ok (.iload_n 1, 1) := by decide +kernel
theorem d_RC_layGiven_25 : decode b_RC_layGiven 25 = .ok (.iconst 0, 1) := by decide +kernel
theorem d_RC_layGiven_26 : decode b_RC_layGiven 26 = .ok (.iastore, 1) := by decide +kernel
theorem d_RC_layGiven_27 : decode b_RC_layGiven 27 = .ok (.iinc 1 1, 3) := by decide +kernel
theorem d_RC_layGiven_30 : decode b_RC_layGiven 30 = .ok (.goto (-18), 3) := by decide +kernel
theorem d_RC_layGiven_33 : decode b_RC_layGiven 33 = .ok (.iconst 0, 1) := by decide +kernel
theorem d_RC_layGiven_34 : decode b_RC_layGiven 34 = .ok (.istore_n 1, 1) := by decide +kernel
theorem d_RC_layGiven_35 : decode b_RC_layGiven 35 = .ok (.iload_n 1, 1) := by decide +kernel
theorem d_RC_layGiven_36 : decode b_RC_layGiven 36 = .ok (.aload_n 0, 1) := by decide +kernel
theorem d_RC_layGiven_37 : decode b_RC_layGiven 37 = .ok (.getfield 36, 3) := by decide +kernel
theorem d_RC_layGiven_40 : decode b_RC_layGiven 40 = .ok (.if_icmp .ge 40, 3) := by decide +kernel
theorem d_RC_layGiven_43 : decode b_RC_layGiven 43 = .ok (.aload_n 0, 1) := by decide +kernel
theorem d_RC_layGiven_44 : decode b_RC_layGiven 44 = .ok (.getfield 9, 3) := by decide +kernel
theorem d_RC_layGiven_47 : decode b_RC_layGiven 47 = .ok (.iload_n 1, 1) := by decide +kernel
theorem d_RC_layGiven_48 : decode b_RC_layGiven 48 = .ok (.iaload, 1) := by decide +kernel
theorem d_RC_layGiven_49 : decode b_RC_layGiven 49 = .ok (.istore_n 2, 1) := by decide +kernel
theorem d_RC_layGiven_50 : decode b_RC_layGiven 50 = .ok (.iload_n 2, 1) := by decide +kernel
theorem d_RC_layGiven_51 : decode b_RC_layGiven 51 = .ok (.ifCond .eq 23, 3) := by decide +kernel
theorem d_RC_layGiven_54 : decode b_RC_layGiven 54 = .ok (.aload_n 0, 1) := by decide +kernel
theorem d_RC_layGiven_55 : decode b_RC_layGiven 55 = .ok (.iload_n 1, 1) := by decide +kernel
theorem d_RC_layGiven_56 : decode b_RC_layGiven 56 = .ok (.invokevirtual 73, 3) := by decide +kernel
theorem d_RC_layGiven_59 : decode b_RC_layGiven 59 = .ok (.iload_n 2, 1) := by decide +kernel
theorem d_RC_layGiven_60 : decode b_RC_layGiven 60 = .ok (.iushr, 1) := by decide +kernel
theorem d_RC_layGiven_61 : decode b_RC_layGiven 61 = .ok (.iconst 1, 1) := by decide +kernel
theorem d_RC_layGiven_62 : decode b_RC_layGiven 62 = .ok (.iand, 1) := by decide +kernel
theorem d_RC_layGiven_63 : decode b_RC_layGiven 63 = .ok (.ifCond .ne 5, 3) := by decide +kernel
theorem d_RC_layGiven_66 : decode b_RC_layGiven 66 = .ok (.iconst 0, 1) := by decide +kernel
theorem d_RC_layGiven_67 : decode b_RC_layGiven 67 = .ok (.ireturn, 1) := by decide +kernel
theorem d_RC_layGiven_68 : decode b_RC_layGiven 68 = .ok (.aload_n 0, 1) := by decide +kernel
theorem d_RC_layGiven_69 : decode b_RC_layGiven 69 = .ok (.iload_n 1, 1) := by decide +kernel
theorem d_RC_layGiven_70 : decode b_RC_layGiven 70 = .ok (.iload_n 2, 1) := by decide +kernel
theorem d_RC_layGiven_71 : decode b_RC_layGiven 71 = .ok (.invokevirtual 77, 3) := by decide +kernel
theorem d_RC_layGiven_74 : decode b_RC_layGiven 74 = .ok (.iinc 1 1, 3) := by decide +kernel
theorem d_RC_layGiven_77 : decode b_RC_layGiven 77 = .ok (.goto (-42), 3) := by decide +kernel
theorem d_RC_layGiven_80 : decode b_RC_layGiven 80 = .ok (.iconst 1, 1) := by decide +kernel
theorem d_RC_layGiven_81 : decode b_RC_layGiven 81 = .ok (.ireturn, 1) := by decide +kernel
theorem d_RC_choicesAt_0 : decode b_RC_choicesAt 0 = .ok (.iload_n 1, 1) := by decide +kernel
theorem d_RC_choicesAt_1 : decode b_RC_choicesAt 1 = .ok (.ifCond .lt 9, 3) := by decide +kernel
theorem d_RC_choicesAt_4 : decode b_RC_choicesAt 4 = .ok (.iload_n 1, 1) := by decide +kernel
theorem d_RC_choicesAt_5 : decode b_RC_choicesAt 5 = .ok (.bipush 36, 2) := by decide +kernel
theorem d_RC_choicesAt_7 : decode b_RC_choicesAt 7 = .ok (.if_icmp .lt 5, 3) := by decide +kernel
theorem d_RC_choicesAt_10 : decode b_RC_choicesAt 10 = .ok (.iconst 0, 1) := by decide +kernel
theorem d_RC_choicesAt_11 : decode b_RC_choicesAt 11 = .ok (.ireturn, 1) := by decide +kernel
theorem d_RC_choicesAt_12 : decode b_RC_choicesAt 12 = .ok (.aload_n 0, 1) := by decide +kernel
theorem d_RC_choicesAt_13 : decode b_RC_choicesAt 13 = .ok (.getfield 49, 3) := by decide +kernel
theorem d_RC_choicesAt_16 : decode b_RC_choicesAt 16 = .ok (.aload_n 0, 1) := by decide +kernel
theorem d_RC_choicesAt_17 : decode b_RC_choicesAt 17 = .ok (.getfield 84, 3) := by decide +kernel
theorem d_RC_choicesAt_20 : decode b_RC_choicesAt 20 = .ok (.aload_n 0, 1) := by decide +kernel
theorem d_RC_choicesAt_21 : decode b_RC_choicesAt 21 = .ok (.getfield 24, 3) := by decide +kernel
theorem d_RC_choicesAt_24 : decode b_RC_choicesAt 24 = .ok (.iload_n 1, 1) := by decide +kernel
theorem d_RC_choicesAt_25 : decode b_RC_choicesAt 25 = .ok (.iaload, 1) := by decide +kernel
theorem d_RC_choicesAt_26 : decode b_RC_choicesAt 26 = .ok (.lushr, 1) := by decide +kernel
theorem d_RC_choicesAt_27 : decode b_RC_choicesAt 27 = .ok (.aload_n 0, 1) := by decide +kernel
theorem d_RC_choicesAt_28 : decode b_RC_choicesAt 28 = .ok (.getfield 88, 3) := by decide +kernel
theorem d_RC_choicesAt_31 : decode b_RC_choicesAt 31 = .ok (.aload_n 0, 1) := by decide +kernel
theorem d_RC_choicesAt_32 : decode b_RC_choicesAt 32 = .ok (.getfield 27, 3) := by decide +kernel
theorem d_RC_choicesAt_35 : decode b_RC_choicesAt 35 = .ok (.iload_n 1, 1) := by decide +kernel
theorem d_RC_choicesAt_36 : decode b_RC_choicesAt 36 = .ok (.iaload, 1) := by decide +kernel
theorem d_RC_choicesAt_37 : decode b_RC_choicesAt 37 = .ok (.lushr, 1) := by decide +kernel
theorem d_RC_choicesAt_38 : decode b_RC_choicesAt 38 = .ok (.lor, 1) := by decide +kernel
theorem d_RC_choicesAt_39 : decode b_RC_choicesAt 39 = .ok (.l2i, 1) := by decide +kernel
theorem d_RC_choicesAt_40 : decode b_RC_choicesAt 40 = .ok (.iconst (-1), 1) := by decide +kernel
theorem d_RC_choicesAt_41 : decode b_RC_choicesAt 41 = .ok (.ixor, 1) := by decide +kernel
theorem d_RC_choicesAt_42 : decode b_RC_choicesAt 42 = .ok (.iand, 1) := by decide +kernel
theorem d_RC_choicesAt_43 : decode b_RC_choicesAt 43 = .ok (.ireturn, 1) := by decide +kernel
theorem d_RC_put_0 : decode b_RC_put 0 = .ok (.iload_n 1, 1) := by decide +kernel
theorem d_RC_put_1 : decode b_RC_put 1 = .ok (.ifCond .lt 9, 3) := by decide +kernel
theorem d_RC_put_4 : decode b_RC_put 4 = .ok (.iload_n 1, 1) := by decide +kernel
theorem d_RC_put_5 : decode b_RC_put 5 = .ok (.bipush 36, 2) := by decide +kernel
theorem d_RC_put_7 : decode b_RC_put 7 = .ok (.if_icmp .lt 4, 3) := by decide +kernel
theorem d_RC_put_10 : decode b_RC_put 10 = .ok (.return_, 1) := by decide +kernel
theorem d_RC_put_11 : decode b_RC_put 11 = .ok (.aload_n 0, 1) := by decide +kernel
theorem d_RC_put_12 : decode b_RC_put 12 = .ok (.getfield 18, 3) := by decide +kernel
theorem d_RC_put_15 : decode b_RC_put 15 = .ok (.iload_n 1, 1) := by decide +kernel
theorem d_RC_put_16 : decode b_RC_put 16 = .ok (.iload_n 2, 1) := by decide +kernel
theorem d_RC_put_17 : decode b_RC_put 17 = .ok (.iastore, 1) := by decide +kernel
theorem d_RC_put_18 : decode b_RC_put 18 = .ok (.aload_n 0, 1) := by decide +kernel
theorem d_RC_put_19 : decode b_RC_put 19 = .ok (.dup, 1) := by decide +kernel
theorem d_RC_put_20 : decode b_RC_put 20 = .ok (.getfield 84, 3) := by decide +kernel
theorem d_RC_put_23 : decode b_RC_put 23 = .ok (.lconst 1, 1) := by decide +kernel
theorem d_RC_put_24 : decode b_RC_put 24 = .ok (.aload_n 0, 1) := by decide +kernel
theorem d_RC_put_25 : decode b_RC_put 25 = .ok (.getfield 24, 3) := by decide +kernel
theorem d_RC_put_28 : decode b_RC_put 28 = .ok (.iload_n 1, 1) := by decide +kernel
theorem d_RC_put_29 : decode b_RC_put 29 = .ok (.iaload, 1) := by decide +kernel
theorem d_RC_put_30 : decode b_RC_put 30 = .ok (.iload_n 2, 1) := by decide +kernel
theorem d_RC_put_31 : decode b_RC_put 31 = .ok (.iadd, 1) := by decide +kernel
theorem d_RC_put_32 : decode b_RC_put 32 = .ok (.lshl, 1) := by decide +kernel
theorem d_RC_put_33 : decode b_RC_put 33 = .ok (.lor, 1) := by decide +kernel
theorem d_RC_put_34 : decode b_RC_put 34 = .ok (.putfield 84, 3) := by decide +kernel
theorem d_RC_put_37 : decode b_RC_put 37 = .ok (.aload_n 0, 1) := by decide +kernel
theorem d_RC_put_38 : decode b_RC_put 38 = .ok (.dup, 1) := by decide +kernel
theorem d_RC_put_39 : decode b_RC_put 39 = .ok (.getfield 88, 3) := by decide +kernel
theorem d_RC_put_42 : decode b_RC_put 42 = .ok (.lconst 1, 1) := by decide +kernel
theorem d_RC_put_43 : decode b_RC_put 43 = .ok (.aload_n 0, 1) := by decide +kernel
theorem d_RC_put_44 : decode b_RC_put 44 = .ok (.getfield 27, 3) := by decide +kernel
theorem d_RC_put_47 : decode b_RC_put 47 = .ok (.iload_n 1, 1) := by decide +kernel
theorem d_RC_put_48 : decode b_RC_put 48 = .ok (.iaload, 1) := by decide +kernel
theorem d_RC_put_49 : decode b_RC_put 49 = .ok (.iload_n 2, 1) := by decide +kernel
theorem d_RC_put_50 : decode b_RC_put 50 = .ok (.iadd, 1) := by decide +kernel
theorem d_RC_put_51 : decode b_RC_put 51 = .ok (.lshl, 1) := by decide +kernel
theorem d_RC_put_52 : decode b_RC_put 52 = .ok (.lor, 1) := by decide +kernel
theorem d_RC_put_53 : decode b_RC_put 53 = .ok (.putfield 88, 3) := by decide +kernel
theorem d_RC_put_56 : decode b_RC_put 56 = .ok (.return_, 1) := by decide +kernel
theorem d_RC_countFrom_0 : decode b_RC_countFrom 0 = .ok (.aload_n 0, 1) := by decide +kernel
theorem d_RC_countFrom_1 : decode b_RC_countFrom 1 = .ok (.invokevirtual 91, 3) := by decide +kernel
theorem d_RC_countFrom_4 : decode b_RC_countFrom 4 = .ok (.istore_n 3, 1) := by decide +kernel
theorem d_RC_countFrom_5 : decode b_RC_countFrom 5 = .ok (.iload_n 3, 1) := by decide +kernel
theorem d_RC_countFrom_6 : decode b_RC_countFrom 6 = .ok (.ifCond .ge 20, 3) := by decide +kernel
theorem d_RC_countFrom_9 : decode b_RC_countFrom 9 = .ok (.aload_n 0, 1) := by decide +kernel
theorem d_RC_countFrom_10 : decode b_RC_countFrom 10 = .ok (.getfield 18, 3) := by decide +kernel
theorem d_RC_countFrom_13 : decode b_RC_countFrom 13 = .ok (.iconst 0, 1) := by decide +kernel
theorem d_RC_countFrom_14 : decode b_RC_countFrom 14 = .ok (.aload_n 0, 1) := by decide +kernel
theorem d_RC_countFrom_15 : decode b_RC_countFrom 15 = .ok (.getfield 21, 3) := by decide +kernel
theorem d_RC_countFrom_18 : decode b_RC_countFrom 18 = .ok (.iconst 0, 1) := by decide +kernel
theorem d_RC_countFrom_19 : decode b_RC_countFrom 19 = .ok (.bipush 36, 2) := by decide +kernel
theorem d_RC_countFrom_21 : decode b_RC_countFrom 21 = .ok (.invokestatic 67, 3) := by decide +kernel
theorem d_RC_countFrom_24 : decode b_RC_countFrom 24 = .ok (.iconst 1, 1) := by decide +kernel
theorem d_RC_countFrom_25 : decode b_RC_countFrom 25 = .ok (.ireturn, 1) := by decide +kernel
theorem d_RC_countFrom_26 : decode b_RC_countFrom 26 = .ok (.aload_n 0, 1) := by decide +kernel
theorem d_RC_countFrom_27 : decode b_RC_countFrom 27 = .ok (.iload_n 3, 1) := by decide +kernel
theorem d_RC_countFrom_28 : decode b_RC_countFrom 28 = .ok (.invokevirtual 73, 3) := by decide +kernel
theorem d_RC_countFrom_31 : decode b_RC_countFrom 31 = .ok (.istore 4, 2) := by decide +kernel
theorem d_RC_countFrom_33 : decode b_RC_countFrom 33 = .ok (.iload_n 1, 1) := by decide +kernel
theorem d_RC_countFrom_34 : decode b_RC_countFrom 34 = .ok (.bipush 36, 2) := by decide +kernel
theorem d_RC_countFrom_36 : decode b_RC_countFrom 36 = .ok (.if_icmp .ge 19, 3) := by decide +kernel
theorem d_RC_countFrom_39 : decode b_RC_countFrom 39 = .ok (.iload 4, 2) := by decide +kernel
theorem d_RC_countFrom_41 : decode b_RC_countFrom 41 = .ok (.invokestatic 95, 3) := by decide +kernel
theorem d_RC_countFrom_44 : decode b_RC_countFrom 44 = .ok (.iconst 1, 1) := by decide +kernel
theorem d_RC_countFrom_45 : decode b_RC_countFrom 45 = .ok (.if_icmp .le 14, 3) := by decide +kernel
theorem d_RC_countFrom_48 : decode b_RC_countFrom 48 = .ok (.aload_n 0, 1) := by decide +kernel
theorem d_RC_countFrom_49 : decode b_RC_countFrom 49 = .ok (.invokevirtual 100, 3) := by decide +kernel
theorem d_RC_countFrom_52 : decode b_RC_countFrom 52 = .ok (.ifCond .eq 7, 3) := by decide +kernel
theorem d_RC_countFrom_55 : decode b_RC_countFrom 55 = .ok (.iconst 1, 1) := by decide +kernel
theorem d_RC_countFrom_56 : decode b_RC_countFrom 56 = .ok (.goto 4, 3) := by decide +kernel
theorem d_RC_countFrom_59 : decode b_RC_countFrom 59 = .ok (.iconst 0, 1) := by decide +kernel
theorem d_RC_countFrom_60 : decode b_RC_countFrom 60 = .ok (.istore 5, 2) := by decide +kernel
theorem d_RC_countFrom_62 : decode b_RC_countFrom 62 = .ok (.iload 5, 2) := by decide +kernel
theorem d_RC_countFrom_64 : decode b_RC_countFrom 64 = .ok (.ifCond .eq 7, 3) := by decide +kernel
theorem d_RC_countFrom_67 : decode b_RC_countFrom 67 = .ok (.iconst 0, 1) := by decide +kernel
theorem d_RC_countFrom_68 : decode b_RC_countFrom 68 = .ok (.goto 12, 3) := by decide +kernel
theorem d_RC_countFrom_71 : decode b_RC_countFrom 71 = .ok (.aload_n 0, 1) := by decide +kernel
theorem d_RC_countFrom_72 : decode b_RC_countFrom 72 = .ok (.iload_n 3, 1) := by decide +kernel
theorem d_RC_countFrom_73 : decode b_RC_countFrom 73 = .ok (.iload 4, 2) := by decide +kernel
theorem d_RC_countFrom_75 : decode b_RC_countFrom 75 = .ok (.iload_n 1, 1) := by decide +kernel
theorem d_RC_countFrom_76 : decode b_RC_countFrom 76 = .ok (.iload_n 2, 1) := by decide +kernel
theorem d_RC_countFrom_77 : decode b_RC_countFrom 77 = .ok (.invokevirtual 103, 3) := by decide +kernel
theorem d_RC_countFrom_80 : decode b_RC_countFrom 80 = .ok (.ireturn, 1) := by decide +kernel
theorem d_RC_narrowestOpenCell_0 : decode b_RC_narrowestOpenCell 0 = .ok (.iconst (-1), 1) := by decide +kernel
theorem d_RC_narrowestOpenCell_1 : decode b_RC_narrowestOpenCell 1 = .ok (.istore_n 1, 1) := by decide +kernel
theorem d_RC_narrowestOpenCell_2 : decode b_RC_narrowestOpenCell 2 = .ok (.aload_n 0, 1) := by decide +kernel
theorem d_RC_narrowestOpenCell_3 : decode b_RC_narrowestOpenCell 3 = .ok (.getfield 43, 3) := by decide +kernel
theorem d_RC_narrowestOpenCell_6 : decode b_RC_narrowestOpenCell 6 = .ok (.iconst 1, 1) := by decide +kernel
theorem d_RC_narrowestOpenCell_7 : decode b_RC_narrowestOpenCell 7 = .ok (.iadd, 1) := by decide +kernel
theorem d_RC_narrowestOpenCell_8 : decode b_RC_narrowestOpenCell 8 = .ok (.istore_n 2, 1) := by decide +kernel
theorem d_RC_narrowestOpenCell_9 : decode b_RC_narrowestOpenCell 9 = .ok (.iconst 0, 1) := by decide +kernel
theorem d_RC_narrowestOpenCell_10 : decode b_RC_narrowestOpenCell 10 = .ok (.istore_n 3, 1) := by decide +kernel
theorem d_RC_narrowestOpenCell_11 : decode b_RC_narrowestOpenCell 11 = .ok (.iload_n 3, 1) := by decide +kernel
theorem d_RC_narrowestOpenCell_12 : decode b_RC_narrowestOpenCell 12 = .ok (.aload_n 0, 1) := by decide +kernel
theorem d_RC_narrowestOpenCell_13 : decode b_RC_narrowestOpenCell 13 = .ok (.getfield 36, 3) := by decide +kernel
theorem d_RC_narrowestOpenCell_16 : decode b_RC_narrowestOpenCell 16 = .ok (.if_icmp .ge 44, 3) := by decide +kernel
theorem d_RC_narrowestOpenCell_19 : decode b_RC_narrowestOpenCell 19 = .ok (.iload_n 2, 1) := by decide +kernel
theorem d_RC_narrowestOpenCell_20 : decode b_RC_narrowestOpenCell 20 = .ok (.iconst 1, 1) := by decide +kernel
theorem d_RC_narrowestOpenCell_21 : decode b_RC_narrowestOpenCell 21 = .ok (.if_icmp .le 39, 3) := by decide +kernel
theorem d_RC_narrowestOpenCell_24 : decode b_RC_narrowestOpenCell 24 = .ok (.aload_n 0, 1) := by decide +kernel
theorem d_RC_narrowestOpenCell_25 : decode b_RC_narrowestOpenCell 25 = .ok (.getfield 18, 3) := by decide +kernel
theorem d_RC_narrowestOpenCell_28 : decode b_RC_narrowestOpenCell 28 = .ok (.iload_n 3, 1) := by decide +kernel
theorem d_RC_narrowestOpenCell_29 : decode b_RC_narrowestOpenCell 29 = .ok (.iaload, 1) := by decide +kernel
theorem d_RC_narrowestOpenCell_30 : decode b_RC_narrowestOpenCell 30 = .ok (.ifCond .ne 24, 3) := by decide +kernel
theorem d_RC_narrowestOpenCell_33 : decode b_RC_narrowestOpenCell 33 = .ok (.aload_n 0, 1) := by decide +kernel
theorem d_RC_narrowestOpenCell_34 : decode b_RC_narrowestOpenCell 34 = .ok (.iload_n 3, 1) := by decide +kernel
theorem d_RC_narrowestOpenCell_35 : decode b_RC_narrowestOpenCell 35 = .ok (.invokevirtual 73, 3) := by decide +kernel
theorem d_RC_narrowestOpenCell_38 : decode b_RC_narrowestOpenCell 38 = .ok (.invokestatic 95, 3) := by decide +kernel
theorem d_RC_narrowestOpenCell_41 : decode b_RC_narrowestOpenCell 41 = .ok (.istore 4, 2) := by decide +kernel
theorem d_RC_narrowestOpenCell_43 : decode b_RC_narrowestOpenCell 43 = .ok (.iload 4, 2) := by decide +kernel
theorem d_RC_narrowestOpenCell_45 : decode b_RC_narrowestOpenCell 45 = .ok (.iload_n 2, 1) := by decide +kernel
theorem d_RC_narrowestOpenCell_46 : decode b_RC_narrowestOpenCell 46 = .ok (.if_icmp .ge 8, 3) := by decide +kernel
theorem d_RC_narrowestOpenCell_49 : decode b_RC_narrowestOpenCell 49 = .ok (.iload 4, 2) := by decide +kernel
theorem d_RC_narrowestOpenCell_51 : decode b_RC_narrowestOpenCell 51 = .ok (.istore_n 2, 1) := by decide +kernel
theorem d_RC_narrowestOpenCell_52 : decode b_RC_narrowestOpenCell 52 = .ok (.iload_n 3, 1) := by decide +kernel
theorem d_RC_narrowestOpenCell_53 : decode b_RC_narrowestOpenCell 53 = .ok (.istore_n 1, 1) := by decide +kernel
theorem d_RC_narrowestOpenCell_54 : decode b_RC_narrowestOpenCell 54 = .ok (.iinc 3 1, 3) := by decide +kernel
theorem d_RC_narrowestOpenCell_57 : decode b_RC_narrowestOpenCell 57 = .ok (.goto (-46), 3) := by decide +kernel
theorem d_RC_narrowestOpenCell_60 : decode b_RC_narrowestOpenCell 60 = .ok (.iload_n 1, 1) := by decide +kernel
theorem d_RC_narrowestOpenCell_61 : decode b_RC_narrowestOpenCell 61 = .ok (.ireturn, 1) := by decide +kernel
theorem d_IN_bitCount_0 : decode b_IN_bitCount 0 = .ok (.iload_n 0, 1) := by decide +kernel
theorem d_IN_bitCount_1 : decode b_IN_bitCount 1 = .ok (.iload_n 0, 1) := by decide +kernel
theorem d_IN_bitCount_2 : decode b_IN_bitCount 2 = .ok (.iconst 1, 1) := by decide +kernel
theorem d_IN_bitCount_3 : decode b_IN_bitCount 3 = .ok (.iushr, 1) := by decide +kernel
theorem d_IN_bitCount_4 : decode b_IN_bitCount 4 = .ok (.ldc_w 265, 3) := by decide +kernel
theorem d_IN_bitCount_7 : decode b_IN_bitCount 7 = .ok (.iand, 1) := by decide +kernel
theorem d_IN_bitCount_8 : decode b_IN_bitCount 8 = .ok (.isub, 1) := by decide +kernel
theorem d_IN_bitCount_9 : decode b_IN_bitCount 9 = .ok (.istore_n 0, 1) := by decide +kernel
theorem d_IN_bitCount_10 : decode b_IN_bitCount 10 = .ok (.iload_n 0, 1) := by decide +kernel
theorem d_IN_bitCount_11 : decode b_IN_bitCount 11 = .ok (.ldc_w 266, 3) := by decide +kernel
theorem d_IN_bitCount_14 : decode b_IN_bitCount 14 = .ok (.iand, 1) := by decide +kernel
theorem d_IN_bitCount_15 : decode b_IN_bitCount 15 = .ok (.iload_n 0, 1) := by decide +kernel
theorem d_IN_bitCount_16 : decode b_IN_bitCount 16 = .ok (.iconst 2, 1) := by decide +kernel
theorem d_IN_bitCount_17 : decode b_IN_bitCount 17 = .ok (.iushr, 1) := by decide +kernel
theorem d_IN_bitCount_18 : decode b_IN_bitCount 18 = .ok (.ldc_w 266, 3) := by decide +kernel
theorem d_IN_bitCount_21 : decode b_IN_bitCount 21 = .ok (.iand, 1) := by decide +kernel
theorem d_IN_bitCount_22 : decode b_IN_bitCount 22 = .ok (.iadd, 1) := by decide +kernel
theorem d_IN_bitCount_23 : decode b_IN_bitCount 23 = .ok (.istore_n 0, 1) := by decide +kernel
theorem d_IN_bitCount_24 : decode b_IN_bitCount 24 = .ok (.iload_n 0, 1) := by decide +kernel
theorem d_IN_bitCount_25 : decode b_IN_bitCount 25 = .ok (.iload_n 0, 1) := by decide +kernel
theorem d_IN_bitCount_26 : decode b_IN_bitCount 26 = .ok (.iconst 4, 1) := by decide +kernel
theorem d_IN_bitCount_27 : decode b_IN_bitCount 27 = .ok (.iushr, 1) := by decide +kernel
theorem d_IN_bitCount_28 : decode b_IN_bitCount 28 = .ok (.iadd, 1) := by decide +kernel
theorem d_IN_bitCount_29 : decode b_IN_bitCount 29 = .ok (.ldc_w 267, 3) := by decide +kernel
theorem d_IN_bitCount_32 : decode b_IN_bitCount 32 = .ok (.iand, 1) := by decide +kernel
theorem d_IN_bitCount_33 : decode b_IN_bitCount 33 = .ok (.istore_n 0, 1) := by decide +kernel
theorem d_IN_bitCount_34 : decode b_IN_bitCount 34 = .ok (.iload_n 0, 1) := by decide +kernel
theorem d_IN_bitCount_35 : decode b_IN_bitCount 35 = .ok (.iload_n 0, 1) := by decide +kernel
theorem d_IN_bitCount_36 : decode b_IN_bitCount 36 = .ok (.bipush 8, 2) := by decide +kernel
theorem d_IN_bitCount_38 : decode b_IN_bitCount 38 = .ok (.iushr, 1) := by decide +kernel
theorem d_IN_bitCount_39 : decode b_IN_bitCount 39 = .ok (.iadd, 1) := by decide +kernel
theorem d_IN_bitCount_40 : decode b_IN_bitCount 40 = .ok (.istore_n 0, 1) := by decide +kernel
theorem d_IN_bitCount_41 : decode b_IN_bitCount 41 = .ok (.iload_n 0, 1) := by decide +kernel
theorem d_IN_bitCount_42 : decode b_IN_bitCount 42 = .ok (.iload_n 0, 1) := by decide +kernel
theorem d_IN_bitCount_43 : decode b_IN_bitCount 43 = .ok (.bipush 16, 2) := by decide +kernel
theorem d_IN_bitCount_45 : decode b_IN_bitCount 45 = .ok (.iushr, 1) := by decide +kernel
theorem d_IN_bitCount_46 : decode b_IN_bitCount 46 = .ok (.iadd, 1) := by decide +kernel
theorem d_IN_bitCount_47 : decode b_IN_bitCount 47 = .ok (.istore_n 0, 1) := by decide +kernel
theorem d_IN_bitCount_48 : decode b_IN_bitCount 48 = .ok (.iload_n 0, 1) := by decide +kernel
theorem d_IN_bitCount_49 : decode b_IN_bitCount 49 = .ok (.bipush 63, 2) := by decide +kernel
theorem d_IN_bitCount_51 : decode b_IN_bitCount 51 = .ok (.iand, 1) := by decide +kernel
theorem d_IN_bitCount_52 : decode b_IN_bitCount 52 = .ok (.ireturn, 1) := by decide +kernel
theorem d_RC_someNumberLacksPlaces_0 : decode b_RC_someNumberLacksPlaces 0 = .ok (.aload_n 0, 1) := by decide +kernel
theorem d_RC_someNumberLacksPlaces_1 : decode b_RC_someNumberLacksPlaces 1 = .ok (.getfield 84, 3) := by decide +kernel
theorem d_RC_someNumberLacksPlaces_4 : decode b_RC_someNumberLacksPlaces 4 = .ok (.lstore_n 1, 1) := by decide +kernel
theorem d_RC_someNumberLacksPlaces_5 : decode b_RC_someNumberLacksPlaces 5 = .ok (.aload_n 0, 1) := by decide +kernel
theorem d_RC_someNumberLacksPlaces_6 : decode b_RC_someNumberLacksPlaces 6 = .ok (.getfield 88, 3) := by decide +kernel
theorem d_RC_someNumberLacksPlaces_9 : decode b_RC_someNumberLacksPlaces 9 = .ok (.lstore_n 3, 1) := by decide +kernel
theorem d_RC_someNumberLacksPlaces_10 : decode b_RC_someNumberLacksPlaces 10 = .ok (.iconst 0, 1) := by decide +kernel
theorem d_RC_someNumberLacksPlaces_11 : decode b_RC_someNumberLacksPlaces 11 = .ok (.istore 5, 2) := by decide +kernel
theorem d_RC_someNumberLacksPlaces_13 : decode b_RC_someNumberLacksPlaces 13 = .ok (.iload 5, 2) := by decide +kernel
theorem d_RC_someNumberLacksPlaces_15 : decode b_RC_someNumberLacksPlaces 15 = .ok (.aload_n 0, 1) := by decide +kernel
theorem d_RC_someNumberLacksPlaces_16 : decode b_RC_someNumberLacksPlaces 16 = .ok (.getfield 36, 3) := by decide +kernel
theorem d_RC_someNumberLacksPlaces_19 : decode b_RC_someNumberLacksPlaces 19 = .ok (.if_icmp .ge 54, 3) := by decide +kernel
theorem d_RC_someNumberLacksPlaces_22 : decode b_RC_someNumberLacksPlaces 22 = .ok (.aload_n 0, 1) := by decide +kernel
theorem d_RC_someNumberLacksPlaces_23 : decode b_RC_someNumberLacksPlaces 23 = .ok (.getfield 18, 3) := by decide +kernel
theorem d_RC_someNumberLacksPlaces_26 : decode b_RC_someNumberLacksPlaces 26 = .ok (.iload 5, 2) := by decide +kernel
theorem d_RC_someNumberLacksPlaces_28 : decode b_RC_someNumberLacksPlaces 28 = .ok (.iaload, 1) := by decide +kernel
theorem d_RC_someNumberLacksPlaces_29 : decode b_RC_someNumberLacksPlaces 29 = .ok (.ifCond .ne 38, 3) := by decide +kernel
theorem d_RC_someNumberLacksPlaces_32 : decode b_RC_someNumberLacksPlaces 32 = .ok (.aload_n 0, 1) := by decide +kernel
theorem d_RC_someNumberLacksPlaces_33 : decode b_RC_someNumberLacksPlaces 33 = .ok (.iload 5, 2) := by decide +kernel
theorem d_RC_someNumberLacksPlaces_35 : decode b_RC_someNumberLacksPlaces 35 = .ok (.invokevirtual 73, 3) := by decide +kernel
theorem d_RC_someNumberLacksPlaces_38 : decode b_RC_someNumberLacksPlaces 38 = .ok (.i2l, 1) := by decide +kernel
theorem d_RC_someNumberLacksPlaces_39 : decode b_RC_someNumberLacksPlaces 39 = .ok (.lstore 6, 2) := by decide +kernel
theorem d_RC_someNumberLacksPlaces_41 : decode b_RC_someNumberLacksPlaces 41 = .ok (.lload_n 1, 1) := by decide +kernel
theorem d_RC_someNumberLacksPlaces_42 : decode b_RC_someNumberLacksPlaces 42 = .ok (.lload 6, 2) := by decide +kernel
theorem d_RC_someNumberLacksPlaces_44 : decode b_RC_someNumberLacksPlaces 44 = .ok (.aload_n 0, 1) := by decide +kernel
theorem d_RC_someNumberLacksPlaces_45 : decode b_RC_someNumberLacksPlaces 45 = .ok (.getfield 24, 3) := by decide +kernel
theorem d_RC_someNumberLacksPlaces_48 : decode b_RC_someNumberLacksPlaces 48 = .ok (.iload 5, 2) := by decide +kernel
theorem d_RC_someNumberLacksPlaces_50 : decode b_RC_someNumberLacksPlaces 50 = .ok (.iaload, 1) := by decide +kernel
theorem d_RC_someNumberLacksPlaces_51 : decode b_RC_someNumberLacksPlaces 51 = .ok (.lshl, 1) := by decide +kernel
theorem d_RC_someNumberLacksPlaces_52 : decode b_RC_someNumberLacksPlaces 52 = .ok (.lor, 1) := by decide +kernel
theorem d_RC_someNumberLacksPlaces_53 : decode b_RC_someNumberLacksPlaces 53 = .ok (.lstore_n 1, 1) := by decide +kernel
theorem d_RC_someNumberLacksPlaces_54 : decode b_RC_someNumberLacksPlaces 54 = .ok (.lload_n 3, 1) := by decide +kernel
theorem d_RC_someNumberLacksPlaces_55 : decode b_RC_someNumberLacksPlaces 55 = .ok (.lload 6, 2) := by decide +kernel
theorem d_RC_someNumberLacksPlaces_57 : decode b_RC_someNumberLacksPlaces 57 = .ok (.aload_n 0, 1) := by decide +kernel
theorem d_RC_someNumberLacksPlaces_58 : decode b_RC_someNumberLacksPlaces 58 = .ok (.getfield 27, 3) := by decide +kernel
theorem d_RC_someNumberLacksPlaces_61 : decode b_RC_someNumberLacksPlaces 61 = .ok (.iload 5, 2) := by decide +kernel
theorem d_RC_someNumberLacksPlaces_63 : decode b_RC_someNumberLacksPlaces 63 = .ok (.iaload, 1) := by decide +kernel
theorem d_RC_someNumberLacksPlaces_64 : decode b_RC_someNumberLacksPlaces 64 = .ok (.lshl, 1) := by decide +kernel
theorem d_RC_someNumberLacksPlaces_65 : decode b_RC_someNumberLacksPlaces 65 = .ok (.lor, 1) := by decide +kernel
theorem d_RC_someNumberLacksPlaces_66 : decode b_RC_someNumberLacksPlaces 66 = .ok (.lstore_n 3, 1) := by decide +kernel
theorem d_RC_someNumberLacksPlaces_67 : decode b_RC_someNumberLacksPlaces 67 = .ok (.iinc 5 1, 3) := by decide +kernel
theorem d_RC_someNumberLacksPlaces_70 : decode b_RC_someNumberLacksPlaces 70 = .ok (.goto (-57), 3) := by decide +kernel
theorem d_RC_someNumberLacksPlaces_73 : decode b_RC_someNumberLacksPlaces 73 = .ok (.iconst 1, 1) := by decide +kernel
theorem d_RC_someNumberLacksPlaces_74 : decode b_RC_someNumberLacksPlaces 74 = .ok (.istore 5, 2) := by decide +kernel
theorem d_RC_someNumberLacksPlaces_76 : decode b_RC_someNumberLacksPlaces 76 = .ok (.iload 5, 2) := by decide +kernel
theorem d_RC_someNumberLacksPlaces_78 : decode b_RC_someNumberLacksPlaces 78 = .ok (.aload_n 0, 1) := by decide +kernel
theorem d_RC_someNumberLacksPlaces_79 : decode b_RC_someNumberLacksPlaces 79 = .ok (.getfield 43, 3) := by decide +kernel
theorem d_RC_someNumberLacksPlaces_82 : decode b_RC_someNumberLacksPlaces 82 = .ok (.if_icmp .gt 37, 3) := by decide +kernel
theorem d_RC_someNumberLacksPlaces_85 : decode b_RC_someNumberLacksPlaces 85 = .ok (.lload_n 1, 1) := by decide +kernel
theorem d_RC_someNumberLacksPlaces_86 : decode b_RC_someNumberLacksPlaces 86 = .ok (.iload 5, 2) := by decide +kernel
theorem d_RC_someNumberLacksPlaces_88 : decode b_RC_someNumberLacksPlaces 88 = .ok (.invokestatic 107, 3) := by decide +kernel
theorem d_RC_someNumberLacksPlaces_91 : decode b_RC_someNumberLacksPlaces 91 = .ok (.aload_n 0, 1) := by decide +kernel
theorem d_RC_someNumberLacksPlaces_92 : decode b_RC_someNumberLacksPlaces 92 = .ok (.getfield 46, 3) := by decide +kernel
theorem d_RC_someNumberLacksPlaces_95 : decode b_RC_someNumberLacksPlaces 95 = .ok (.if_icmp .lt 16, 3) := by decide +kernel
theorem d_RC_someNumberLacksPlaces_98 : decode b_RC_someNumberLacksPlaces 98 = .ok (.lload_n 3, 1) := by decide +kernel
theorem d_RC_someNumberLacksPlaces_99 : decode b_RC_someNumberLacksPlaces 99 = .ok (.iload 5, 2) := by decide +kernel
theorem d_RC_someNumberLacksPlaces_101 : decode b_RC_someNumberLacksPlaces 101 = .ok (.invokestatic 107, 3) := by decide +kernel
theorem d_RC_someNumberLacksPlaces_104 : decode b_RC_someNumberLacksPlaces 104 = .ok (.aload_n 0, 1) := by decide +kernel
theorem d_RC_someNumberLacksPlaces_105 : decode b_RC_someNumberLacksPlaces 105 = .ok (.getfield 46, 3) := by decide +kernel
theorem d_RC_someNumberLacksPlaces_108 : decode b_RC_someNumberLacksPlaces 108 = .ok (.if_icmp .ge 5, 3) := by decide +kernel
theorem d_RC_someNumberLacksPlaces_111 : decode b_RC_someNumberLacksPlaces 111 = .ok (.iconst 1, 1) := by decide +kernel
theorem d_RC_someNumberLacksPlaces_112 : decode b_RC_someNumberLacksPlaces 112 = .ok (.ireturn, 1) := by decide +kernel
theorem d_RC_someNumberLacksPlaces_113 : decode b_RC_someNumberLacksPlaces 113 = .ok (.iinc 5 1, 3) := by decide +kernel
theorem d_RC_someNumberLacksPlaces_116 : decode b_RC_someNumberLacksPlaces 116 = .ok (.goto (-40), 3) := by decide +kernel
theorem d_RC_someNumberLacksPlaces_119 : decode b_RC_someNumberLacksPlaces 119 = .ok (.iconst 0, 1) := by decide +kernel
theorem d_RC_someNumberLacksPlaces_120 : decode b_RC_someNumberLacksPlaces 120 = .ok (.ireturn, 1) := by decide +kernel
theorem d_RC_linesWith_0 : decode b_RC_linesWith 0 = .ok (.lload_n 0, 1) := by decide +kernel
theorem d_RC_linesWith_1 : decode b_RC_linesWith 1 = .ok (.iload_n 2, 1) := by decide +kernel
theorem d_RC_linesWith_2 : decode b_RC_linesWith 2 = .ok (.lushr, 1) := by decide +kernel
theorem d_RC_linesWith_3 : decode b_RC_linesWith 3 = .ok (.ldc2_w 111, 3) := by decide +kernel
theorem d_RC_linesWith_6 : decode b_RC_linesWith 6 = .ok (.land, 1) := by decide +kernel
theorem d_RC_linesWith_7 : decode b_RC_linesWith 7 = .ok (.invokestatic 113, 3) := by decide +kernel
theorem d_RC_linesWith_10 : decode b_RC_linesWith 10 = .ok (.ireturn, 1) := by decide +kernel
theorem d_RC_countWith_0 : decode b_RC_countWith 0 = .ok (.iconst 0, 1) := by decide +kernel
theorem d_RC_countWith_1 : decode b_RC_countWith 1 = .ok (.istore 5, 2) := by decide +kernel
theorem d_RC_countWith_3 : decode b_RC_countWith 3 = .ok (.iconst 1, 1) := by decide +kernel
theorem d_RC_countWith_4 : decode b_RC_countWith 4 = .ok (.istore 6, 2) := by decide +kernel
theorem d_RC_countWith_6 : decode b_RC_countWith 6 = .ok (.iload 6, 2) := by decide +kernel
theorem d_RC_countWith_8 : decode b_RC_countWith 8 = .ok (.aload_n 0, 1) := by decide +kernel
theorem d_RC_countWith_9 : decode b_RC_countWith 9 = .ok (.getfield 43, 3) := by decide +kernel
theorem d_RC_countWith_12 : decode b_RC_countWith 12 = .ok (.if_icmp .gt 56, 3) := by decide +kernel
theorem d_RC_countWith_15 : decode b_RC_countWith 15 = .ok (.iload 5, 2) := by decide +kernel
theorem d_RC_countWith_17 : decode b_RC_countWith 17 = .ok (.iload 4, 2) := by decide +kernel
theorem d_RC_countWith_19 : decode b_RC_countWith 19 = .ok (.if_icmp .ge 49, 3) := by decide +kernel
theorem d_RC_countWith_22 : decode b_RC_countWith 22 = .ok (.iload_n 2, 1) := by decide +kernel
theorem d_RC_countWith_23 : decode b_RC_countWith 23 = .ok (.iload 6, 2) := by decide +kernel
theorem d_RC_countWith_25 : decode b_RC_countWith 25 = .ok (.iushr, 1) := by decide +kernel
theorem d_RC_countWith_26 : decode b_RC_countWith 26 = .ok (.iconst 1, 1) := by decide +kernel
theorem d_RC_countWith_27 : decode b_RC_countWith 27 = .ok (.iand, 1) := by decide +kernel
theorem d_RC_countWith_28 : decode b_RC_countWith 28 = .ok (.ifCond .eq 34, 3) := by decide +kernel
theorem d_RC_countWith_31 : decode b_RC_countWith 31 = .ok (.aload_n 0, 1) := by decide +kernel
theorem d_RC_countWith_32 : decode b_RC_countWith 32 = .ok (.iload_n 1, 1) := by decide +kernel
theorem d_RC_countWith_33 : decode b_RC_countWith 33 = .ok (.iload 6, 2) := by decide +kernel
theorem d_RC_countWith_35 : decode b_RC_countWith 35 = .ok (.invokevirtual 77, 3) := by decide +kernel
theorem d_RC_countWith_38 : decode b_RC_countWith 38 = .ok (.iload 5, 2) := by decide +kernel
theorem d_RC_countWith_40 : decode b_RC_countWith 40 = .ok (.aload_n 0, 1) := by decide +kernel
theorem d_RC_countWith_41 : decode b_RC_countWith 41 = .ok (.iload_n 3, 1) := by decide +kernel
theorem d_RC_countWith_42 : decode b_RC_countWith 42 = .ok (.iconst 1, 1) := by decide +kernel
theorem d_RC_countWith_43 : decode b_RC_countWith 43 = .ok (.iadd, 1) := by decide +kernel
theorem d_RC_countWith_44 : decode b_RC_countWith 44 = .ok (.iload 4, 2) := by decide +kernel
theorem d_RC_countWith_46 : decode b_RC_countWith 46 = .ok (.iload 5, 2) := by decide +kernel
theorem d_RC_countWith_48 : decode b_RC_countWith 48 = .ok (.isub, 1) := by decide +kernel
theorem d_RC_countWith_49 : decode b_RC_countWith 49 = .ok (.invokevirtual 60, 3) := by decide +kernel
theorem d_RC_countWith_52 : decode b_RC_countWith 52 = .ok (.iadd, 1) := by decide +kernel
theorem d_RC_countWith_53 : decode b_RC_countWith 53 = .ok (.istore 5, 2) := by decide +kernel
theorem d_RC_countWith_55 : decode b_RC_countWith 55 = .ok (.aload_n 0, 1) := by decide +kernel
theorem d_RC_countWith_56 : decode b_RC_countWith 56 = .ok (.iload_n 1, 1) := by decide +kernel
theorem d_RC_countWith_57 : decode b_RC_countWith 57 = .ok (.iload 6, 2) := by decide +kernel
theorem d_RC_countWith_59 : decode b_RC_countWith 59 = .ok (.invokevirtual 81, 3) := by decide +kernel
theorem d_RC_countWith_62 : decode b_RC_countWith 62 = .ok (.iinc 6 1, 3) := by decide +kernel
theorem d_RC_countWith_65 : decode b_RC_countWith 65 = .ok (.goto (-59), 3) := by decide +kernel
theorem d_RC_countWith_68 : decode b_RC_countWith 68 = .ok (.iload 5, 2) := by decide +kernel
theorem d_RC_countWith_70 : decode b_RC_countWith 70 = .ok (.ireturn, 1) := by decide +kernel
theorem d_RC_take_0 : decode b_RC_take 0 = .ok (.iload_n 1, 1) := by decide +kernel
theorem d_RC_take_1 : decode b_RC_take 1 = .ok (.ifCond .lt 9, 3) := by decide +kernel
theorem d_RC_take_4 : decode b_RC_take 4 = .ok (.iload_n 1, 1) := by decide +kernel
theorem d_RC_take_5 : decode b_RC_take 5 = .ok (.bipush 36, 2) := by decide +kernel
theorem d_RC_take_7 : decode b_RC_take 7 = .ok (.if_icmp .lt 4, 3) := by decide +kernel
theorem d_RC_take_10 : decode b_RC_take 10 = .ok (.return_, 1) := by decide +kernel
theorem d_RC_take_11 : decode b_RC_take 11 = .ok (.aload_n 0, 1) := by decide +kernel
theorem d_RC_take_12 : decode b_RC_take 12 = .ok (.getfield 18, 3) := by decide +kernel
theorem d_RC_take_15 : decode b_RC_take 15 = .ok (.iload_n 1, 1) := by decide +kernel
theorem d_RC_take_16 : decode b_RC_take 16 = .ok (.iconst 0, 1) := by decide +kernel
theorem d_RC_take_17 : decode b_RC_take 17 = .ok (.iastore, 1) := by decide +kernel
theorem d_RC_take_18 : decode b_RC_take 18 = .ok (.aload_n 0, 1) := by decide +kernel
theorem d_RC_take_19 : decode b_RC_take 19 = .ok (.dup, 1) := by decide +kernel
theorem d_RC_take_20 : decode b_RC_take 20 = .ok (.getfield 84, 3) := by decide +kernel
theorem d_RC_take_23 : decode b_RC_take 23 = .ok (.lconst 1, 1) := by decide +kernel
theorem d_RC_take_24 : decode b_RC_take 24 = .ok (.aload_n 0, 1) := by decide +kernel
theorem d_RC_take_25 : decode b_RC_take 25 = .ok (.getfield 24, 3) := by decide +kernel
theorem d_RC_take_28 : decode b_RC_take 28 = .ok (.iload_n 1, 1) := by decide +kernel
theorem d_RC_take_29 : decode b_RC_take 29 = .ok (.iaload, 1) := by decide +kernel
theorem d_RC_take_30 : decode b_RC_take 30 = .ok (.iload_n 2, 1) := by decide +kernel
theorem d_RC_take_31 : decode b_RC_take 31 = .ok (.iadd, 1) := by decide +kernel
theorem d_RC_take_32 : decode b_RC_take 32 = .ok (.lshl, 1) := by decide +kernel
theorem d_RC_take_33 : decode b_RC_take 33 = .ok (.ldc2_w 118, 3) := by decide +kernel
theorem d_RC_take_36 : decode b_RC_take 36 = .ok (.lxor, 1) := by decide +kernel
theorem d_RC_take_37 : decode b_RC_take 37 = .ok (.land, 1) := by decide +kernel
theorem d_RC_take_38 : decode b_RC_take 38 = .ok (.putfield 84, 3) := by decide +kernel
theorem d_RC_take_41 : decode b_RC_take 41 = .ok (.aload_n 0, 1) := by decide +kernel
theorem d_RC_take_42 : decode b_RC_take 42 = .ok (.dup, 1) := by decide +kernel
theorem d_RC_take_43 : decode b_RC_take 43 = .ok (.getfield 88, 3) := by decide +kernel
theorem d_RC_take_46 : decode b_RC_take 46 = .ok (.lconst 1, 1) := by decide +kernel
theorem d_RC_take_47 : decode b_RC_take 47 = .ok (.aload_n 0, 1) := by decide +kernel
theorem d_RC_take_48 : decode b_RC_take 48 = .ok (.getfield 27, 3) := by decide +kernel
theorem d_RC_take_51 : decode b_RC_take 51 = .ok (.iload_n 1, 1) := by decide +kernel
theorem d_RC_take_52 : decode b_RC_take 52 = .ok (.iaload, 1) := by decide +kernel
theorem d_RC_take_53 : decode b_RC_take 53 = .ok (.iload_n 2, 1) := by decide +kernel
theorem d_RC_take_54 : decode b_RC_take 54 = .ok (.iadd, 1) := by decide +kernel
theorem d_RC_take_55 : decode b_RC_take 55 = .ok (.lshl, 1) := by decide +kernel
theorem d_RC_take_56 : decode b_RC_take 56 = .ok (.ldc2_w 118, 3) := by decide +kernel
theorem d_RC_take_59 : decode b_RC_take 59 = .ok (.lxor, 1) := by decide +kernel
theorem d_RC_take_60 : decode b_RC_take 60 = .ok (.land, 1) := by decide +kernel
theorem d_RC_take_61 : decode b_RC_take 61 = .ok (.putfield 88, 3) := by decide +kernel
theorem d_RC_take_64 : decode b_RC_take 64 = .ok (.return_, 1) := by decide +kernel
theorem d_RC_settle_0 : decode b_RC_settle 0 = .ok (.iload_n 1, 1) := by decide +kernel
theorem d_RC_settle_1 : decode b_RC_settle 1 = .ok (.ifCond .lt 9, 3) := by decide +kernel
theorem d_RC_settle_4 : decode b_RC_settle 4 = .ok (.iload_n 1, 1) := by decide +kernel
theorem d_RC_settle_5 : decode b_RC_settle 5 = .ok (.bipush 36, 2) := by decide +kernel
theorem d_RC_settle_7 : decode b_RC_settle 7 = .ok (.if_icmp .lt 4, 3) := by decide +kernel
theorem d_RC_settle_10 : decode b_RC_settle 10 = .ok (.return_, 1) := by decide +kernel
theorem d_RC_settle_11 : decode b_RC_settle 11 = .ok (.aload_n 0, 1) := by decide +kernel
theorem d_RC_settle_12 : decode b_RC_settle 12 = .ok (.getfield 21, 3) := by decide +kernel
theorem d_RC_settle_15 : decode b_RC_settle 15 = .ok (.iload_n 1, 1) := by decide +kernel
theorem d_RC_settle_16 : decode b_RC_settle 16 = .ok (.iaload, 1) := by decide +kernel
theorem d_RC_settle_17 : decode b_RC_settle 17 = .ok (.istore_n 2, 1) := by decide +kernel
theorem d_RC_settle_18 : decode b_RC_settle 18 = .ok (.aload_n 0, 1) := by decide +kernel
theorem d_RC_settle_19 : decode b_RC_settle 19 = .ok (.iload_n 1, 1) := by decide +kernel
theorem d_RC_settle_20 : decode b_RC_settle 20 = .ok (.invokevirtual 73, 3) := by decide +kernel
theorem d_RC_settle_23 : decode b_RC_settle 23 = .ok (.istore_n 3, 1) := by decide +kernel
theorem d_RC_settle_24 : decode b_RC_settle 24 = .ok (.iconst 1, 1) := by decide +kernel
theorem d_RC_settle_25 : decode b_RC_settle 25 = .ok (.istore 4, 2) := by decide +kernel
theorem d_RC_settle_27 : decode b_RC_settle 27 = .ok (.iload 4, 2) := by decide +kernel
theorem d_RC_settle_29 : decode b_RC_settle 29 = .ok (.iload_n 2, 1) := by decide +kernel
theorem d_RC_settle_30 : decode b_RC_settle 30 = .ok (.if_icmp .ge 42, 3) := by decide +kernel
theorem d_RC_settle_33 : decode b_RC_settle 33 = .ok (.iload_n 3, 1) := by decide +kernel
theorem d_RC_settle_34 : decode b_RC_settle 34 = .ok (.iload 4, 2) := by decide +kernel
theorem d_RC_settle_36 : decode b_RC_settle 36 = .ok (.iushr, 1) := by decide +kernel
theorem d_RC_settle_37 : decode b_RC_settle 37 = .ok (.iconst 1, 1) := by decide +kernel
theorem d_RC_settle_38 : decode b_RC_settle 38 = .ok (.iand, 1) := by decide +kernel
theorem d_RC_settle_39 : decode b_RC_settle 39 = .ok (.ifCond .eq 27, 3) := by decide +kernel
theorem d_RC_settle_42 : decode b_RC_settle 42 = .ok (.aload_n 0, 1) := by decide +kernel
theorem d_RC_settle_43 : decode b_RC_settle 43 = .ok (.iload_n 1, 1) := by decide +kernel
theorem d_RC_settle_44 : decode b_RC_settle 44 = .ok (.iload 4, 2) := by decide +kernel
theorem d_RC_settle_46 : decode b_RC_settle 46 = .ok (.invokevirtual 77, 3) := by decide +kernel
theorem d_RC_settle_49 : decode b_RC_settle 49 = .ok (.aload_n 0, 1) := by decide +kernel
theorem d_RC_settle_50 : decode b_RC_settle 50 = .ok (.iconst 0, 1) := by decide +kernel
theorem d_RC_settle_51 : decode b_RC_settle 51 = .ok (.iconst 1, 1) := by decide +kernel
theorem d_RC_settle_52 : decode b_RC_settle 52 = .ok (.invokevirtual 60, 3) := by decide +kernel
theorem d_RC_settle_55 : decode b_RC_settle 55 = .ok (.ifCond .le 4, 3) := by decide +kernel
theorem d_RC_settle_58 : decode b_RC_settle 58 = .ok (.return_, 1) := by decide +kernel
theorem d_RC_settle_59 : decode b_RC_settle 59 = .ok (.aload_n 0, 1) := by decide +kernel
theorem d_RC_settle_60 : decode b_RC_settle 60 = .ok (.iload_n 1, 1) := by decide +kernel
theorem d_RC_settle_61 : decode b_RC_settle 61 = .ok (.iload 4, 2) := by decide +kernel
theorem d_RC_settle_63 : decode b_RC_settle 63 = .ok (.invokevirtual 81, 3) := by decide +kernel
theorem d_RC_settle_66 : decode b_RC_settle 66 = .ok (.iinc 4 1, 3) := by decide +kernel
theorem d_RC_settle_69 : decode b_RC_settle 69 = .ok (.goto (-42), 3) := by decide +kernel
theorem d_RC_settle_72 : decode b_RC_settle 72 = .ok (.aload_n 0, 1) := by decide +kernel
theorem d_RC_settle_73 : decode b_RC_settle 73 = .ok (.iload_n 1, 1) := by decide +kernel
theorem d_RC_settle_74 : decode b_RC_settle 74 = .ok (.iload_n 2, 1) := by decide +kernel
theorem d_RC_settle_75 : decode b_RC_settle 75 = .ok (.invokevirtual 77, 3) := by decide +kernel
theorem d_RC_settle_78 : decode b_RC_settle 78 = .ok (.return_, 1) := by decide +kernel
theorem d_TF_number_0 : decode b_TF_number 0 = .ok (.aload_n 0, 1) := by decide +kernel
theorem d_TF_number_1 : decode b_TF_number 1 = .ok (.getfield 18, 3) := by decide +kernel
theorem d_TF_number_4 : decode b_TF_number 4 = .ok (.iload_n 1, 1) := by decide +kernel
theorem d_TF_number_5 : decode b_TF_number 5 = .ok (.iload_n 2, 1) := by decide +kernel
theorem d_TF_number_6 : decode b_TF_number 6 = .ok (.invokevirtual 47, 3) := by decide +kernel
theorem d_TF_number_9 : decode b_TF_number 9 = .ok (.istore_n 3, 1) := by decide +kernel
theorem d_TF_number_10 : decode b_TF_number 10 = .ok (.iload_n 3, 1) := by decide +kernel
theorem d_TF_number_11 : decode b_TF_number 11 = .ok (.ifCond .ge 7, 3) := by decide +kernel
theorem d_TF_number_14 : decode b_TF_number 14 = .ok (.iconst (-1), 1) := by decide +kernel
theorem d_TF_number_15 : decode b_TF_number 15 = .ok (.goto 11, 3) := by decide +kernel
theorem d_TF_number_18 : decode b_TF_number 18 = .ok (.aload_n 0, 1) := by decide +kernel
theorem d_TF_number_19 : decode b_TF_number 19 = .ok (.getfield 39, 3) := by decide +kernel
theorem d_TF_number_22 : decode b_TF_number 22 = .ok (.iload_n 3, 1) := by decide +kernel
theorem d_TF_number_23 : decode b_TF_number 23 = .ok (.invokevirtual 118, 3) := by decide +kernel
theorem d_TF_number_26 : decode b_TF_number 26 = .ok (.ireturn, 1) := by decide +kernel
theorem d_RC_foundAt_0 : decode b_RC_foundAt 0 = .ok (.aload_n 0, 1) := by decide +kernel
theorem d_RC_foundAt_1 : decode b_RC_foundAt 1 = .ok (.getfield 52, 3) := by decide +kernel
theorem d_RC_foundAt_4 : decode b_RC_foundAt 4 = .ok (.ifCond .eq 22, 3) := by decide +kernel
theorem d_RC_foundAt_7 : decode b_RC_foundAt 7 = .ok (.iload_n 1, 1) := by decide +kernel
theorem d_RC_foundAt_8 : decode b_RC_foundAt 8 = .ok (.ifCond .lt 18, 3) := by decide +kernel
theorem d_RC_foundAt_11 : decode b_RC_foundAt 11 = .ok (.iload_n 1, 1) := by decide +kernel
theorem d_RC_foundAt_12 : decode b_RC_foundAt 12 = .ok (.bipush 36, 2) := by decide +kernel
theorem d_RC_foundAt_14 : decode b_RC_foundAt 14 = .ok (.if_icmp .ge 12, 3) := by decide +kernel
theorem d_RC_foundAt_17 : decode b_RC_foundAt 17 = .ok (.aload_n 0, 1) := by decide +kernel
theorem d_RC_foundAt_18 : decode b_RC_foundAt 18 = .ok (.getfield 15, 3) := by decide +kernel
theorem d_RC_foundAt_21 : decode b_RC_foundAt 21 = .ok (.iload_n 1, 1) := by decide +kernel
theorem d_RC_foundAt_22 : decode b_RC_foundAt 22 = .ok (.iaload, 1) := by decide +kernel
theorem d_RC_foundAt_23 : decode b_RC_foundAt 23 = .ok (.goto 4, 3) := by decide +kernel
theorem d_RC_foundAt_26 : decode b_RC_foundAt 26 = .ok (.iconst 0, 1) := by decide +kernel
theorem d_RC_foundAt_27 : decode b_RC_foundAt 27 = .ok (.ireturn, 1) := by decide +kernel
theorem d_TF_fills_0 : decode b_TF_fills 0 = .ok (.iload_n 1, 1) := by decide +kernel
theorem d_TF_fills_1 : decode b_TF_fills 1 = .ok (.ifCond .lt 10, 3) := by decide +kernel
theorem d_TF_fills_4 : decode b_TF_fills 4 = .ok (.iload_n 1, 1) := by decide +kernel
theorem d_TF_fills_5 : decode b_TF_fills 5 = .ok (.sipush 1000, 3) := by decide +kernel
theorem d_TF_fills_8 : decode b_TF_fills 8 = .ok (.if_icmp .le 5, 3) := by decide +kernel
theorem d_TF_fills_11 : decode b_TF_fills 11 = .ok (.iconst (-1), 1) := by decide +kernel
theorem d_TF_fills_12 : decode b_TF_fills 12 = .ok (.ireturn, 1) := by decide +kernel
theorem d_TF_fills_13 : decode b_TF_fills 13 = .ok (.aload_n 0, 1) := by decide +kernel
theorem d_TF_fills_14 : decode b_TF_fills 14 = .ok (.getfield 39, 3) := by decide +kernel
theorem d_TF_fills_17 : decode b_TF_fills 17 = .ok (.iload_n 1, 1) := by decide +kernel
theorem d_TF_fills_18 : decode b_TF_fills 18 = .ok (.invokevirtual 121, 3) := by decide +kernel
theorem d_TF_fills_21 : decode b_TF_fills 21 = .ok (.ireturn, 1) := by decide +kernel
theorem d_RC_countUpTo_0 : decode b_RC_countUpTo 0 = .ok (.iload_n 1, 1) := by decide +kernel
theorem d_RC_countUpTo_1 : decode b_RC_countUpTo 1 = .ok (.ifCond .le 19, 3) := by decide +kernel
theorem d_RC_countUpTo_4 : decode b_RC_countUpTo 4 = .ok (.aload_n 0, 1) := by decide +kernel
theorem d_RC_countUpTo_5 : decode b_RC_countUpTo 5 = .ok (.invokevirtual 56, 3) := by decide +kernel
theorem d_RC_countUpTo_8 : decode b_RC_countUpTo 8 = .ok (.ifCond .eq 12, 3) := by decide +kernel
theorem d_RC_countUpTo_11 : decode b_RC_countUpTo 11 = .ok (.aload_n 0, 1) := by decide +kernel
theorem d_RC_countUpTo_12 : decode b_RC_countUpTo 12 = .ok (.iconst 0, 1) := by decide +kernel
theorem d_RC_countUpTo_13 : decode b_RC_countUpTo 13 = .ok (.iload_n 1, 1) := by decide +kernel
theorem d_RC_countUpTo_14 : decode b_RC_countUpTo 14 = .ok (.invokevirtual 60, 3) := by decide +kernel
theorem d_RC_countUpTo_17 : decode b_RC_countUpTo 17 = .ok (.goto 4, 3) := by decide +kernel
theorem d_RC_countUpTo_20 : decode b_RC_countUpTo 20 = .ok (.iconst 0, 1) := by decide +kernel
theorem d_RC_countUpTo_21 : decode b_RC_countUpTo 21 = .ok (.ireturn, 1) := by decide +kernel
theorem d_TF_magic_0 : decode b_TF_magic 0 = .ok (.iload_n 1, 1) := by decide +kernel
theorem d_TF_magic_1 : decode b_TF_magic 1 = .ok (.iconst 1, 1) := by decide +kernel
theorem d_TF_magic_2 : decode b_TF_magic 2 = .ok (.if_icmp .lt 33, 3) := by decide +kernel
theorem d_TF_magic_5 : decode b_TF_magic 5 = .ok (.iload_n 1, 1) := by decide +kernel
theorem d_TF_magic_6 : decode b_TF_magic 6 = .ok (.bipush 15, 2) := by decide +kernel
theorem d_TF_magic_8 : decode b_TF_magic 8 = .ok (.if_icmp .gt 27, 3) := by decide +kernel
theorem d_TF_magic_11 : decode b_TF_magic 11 = .ok (.iload_n 1, 1) := by decide +kernel
theorem d_TF_magic_12 : decode b_TF_magic 12 = .ok (.iconst 2, 1) := by decide +kernel
theorem d_TF_magic_13 : decode b_TF_magic 13 = .ok (.irem, 1) := by decide +kernel
theorem d_TF_magic_14 : decode b_TF_magic 14 = .ok (.ifCond .eq 21, 3) := by decide +kernel
theorem d_TF_magic_17 : decode b_TF_magic 17 = .ok (.iload_n 2, 1) := by decide +kernel
theorem d_TF_magic_18 : decode b_TF_magic 18 = .ok (.ifCond .lt 17, 3) := by decide +kernel
theorem d_TF_magic_21 : decode b_TF_magic 21 = .ok (.iload_n 2, 1) := by decide +kernel
theorem d_TF_magic_22 : decode b_TF_magic 22 = .ok (.iload_n 1, 1) := by decide +kernel
theorem d_TF_magic_23 : decode b_TF_magic 23 = .ok (.if_icmp .ge 12, 3) := by decide +kernel
theorem d_TF_magic_26 : decode b_TF_magic 26 = .ok (.iload_n 3, 1) := by decide +kernel
theorem d_TF_magic_27 : decode b_TF_magic 27 = .ok (.ifCond .lt 8, 3) := by decide +kernel
theorem d_TF_magic_30 : decode b_TF_magic 30 = .ok (.iload_n 3, 1) := by decide +kernel
theorem d_TF_magic_31 : decode b_TF_magic 31 = .ok (.iload_n 1, 1) := by decide +kernel
theorem d_TF_magic_32 : decode b_TF_magic 32 = .ok (.if_icmp .lt 5, 3) := by decide +kernel
theorem d_TF_magic_35 : decode b_TF_magic 35 = .ok (.iconst (-1), 1) := by decide +kernel
theorem d_TF_magic_36 : decode b_TF_magic 36 = .ok (.ireturn, 1) := by decide +kernel
theorem d_TF_magic_37 : decode b_TF_magic 37 = .ok (.iload_n 2, 1) := by decide +kernel
theorem d_TF_magic_38 : decode b_TF_magic 38 = .ok (.iload_n 3, 1) := by decide +kernel
theorem d_TF_magic_39 : decode b_TF_magic 39 = .ok (.iadd, 1) := by decide +kernel
theorem d_TF_magic_40 : decode b_TF_magic 40 = .ok (.iload_n 1, 1) := by decide +kernel
theorem d_TF_magic_41 : decode b_TF_magic 41 = .ok (.iconst 1, 1) := by decide +kernel
theorem d_TF_magic_42 : decode b_TF_magic 42 = .ok (.isub, 1) := by decide +kernel
theorem d_TF_magic_43 : decode b_TF_magic 43 = .ok (.iconst 2, 1) := by decide +kernel
theorem d_TF_magic_44 : decode b_TF_magic 44 = .ok (.idiv, 1) := by decide +kernel
theorem d_TF_magic_45 : decode b_TF_magic 45 = .ok (.isub, 1) := by decide +kernel
theorem d_TF_magic_46 : decode b_TF_magic 46 = .ok (.iload_n 1, 1) := by decide +kernel
theorem d_TF_magic_47 : decode b_TF_magic 47 = .ok (.invokestatic 124, 3) := by decide +kernel
theorem d_TF_magic_50 : decode b_TF_magic 50 = .ok (.istore 4, 2) := by decide +kernel
theorem d_TF_magic_52 : decode b_TF_magic 52 = .ok (.iconst 2, 1) := by decide +kernel
theorem d_TF_magic_53 : decode b_TF_magic 53 = .ok (.iload 4, 2) := by decide +kernel
theorem d_TF_magic_55 : decode b_TF_magic 55 = .ok (.imul, 1) := by decide +kernel
theorem d_TF_magic_56 : decode b_TF_magic 56 = .ok (.iload_n 3, 1) := by decide +kernel
theorem d_TF_magic_57 : decode b_TF_magic 57 = .ok (.isub, 1) := by decide +kernel
theorem d_TF_magic_58 : decode b_TF_magic 58 = .ok (.iload_n 1, 1) := by decide +kernel
theorem d_TF_magic_59 : decode b_TF_magic 59 = .ok (.invokestatic 124, 3) := by decide +kernel
theorem d_TF_magic_62 : decode b_TF_magic 62 = .ok (.istore 5, 2) := by decide +kernel
theorem d_TF_magic_64 : decode b_TF_magic 64 = .ok (.iload 4, 2) := by decide +kernel
theorem d_TF_magic_66 : decode b_TF_magic 66 = .ok (.iload_n 1, 1) := by decide +kernel
theorem d_TF_magic_67 : decode b_TF_magic 67 = .ok (.imul, 1) := by decide +kernel
theorem d_TF_magic_68 : decode b_TF_magic 68 = .ok (.iload 5, 2) := by decide +kernel
theorem d_TF_magic_70 : decode b_TF_magic 70 = .ok (.iadd, 1) := by decide +kernel
theorem d_TF_magic_71 : decode b_TF_magic 71 = .ok (.iconst 1, 1) := by decide +kernel
theorem d_TF_magic_72 : decode b_TF_magic 72 = .ok (.iadd, 1) := by decide +kernel
theorem d_TF_magic_73 : decode b_TF_magic 73 = .ok (.ireturn, 1) := by decide +kernel
theorem d_MT_floorMod_0 : decode b_MT_floorMod 0 = .ok (.iload_n 0, 1) := by decide +kernel
theorem d_MT_floorMod_1 : decode b_MT_floorMod 1 = .ok (.iload_n 1, 1) := by decide +kernel
theorem d_MT_floorMod_2 : decode b_MT_floorMod 2 = .ok (.irem, 1) := by decide +kernel
theorem d_MT_floorMod_3 : decode b_MT_floorMod 3 = .ok (.istore_n 2, 1) := by decide +kernel
theorem d_MT_floorMod_4 : decode b_MT_floorMod 4 = .ok (.iload_n 0, 1) := by decide +kernel
theorem d_MT_floorMod_5 : decode b_MT_floorMod 5 = .ok (.iload_n 1, 1) := by decide +kernel
theorem d_MT_floorMod_6 : decode b_MT_floorMod 6 = .ok (.ixor, 1) := by decide +kernel
theorem d_MT_floorMod_7 : decode b_MT_floorMod 7 = .ok (.ifCond .ge 11, 3) := by decide +kernel
theorem d_MT_floorMod_10 : decode b_MT_floorMod 10 = .ok (.iload_n 2, 1) := by decide +kernel
theorem d_MT_floorMod_11 : decode b_MT_floorMod 11 = .ok (.ifCond .eq 7, 3) := by decide +kernel
theorem d_MT_floorMod_14 : decode b_MT_floorMod 14 = .ok (.iload_n 2, 1) := by decide +kernel
theorem d_MT_floorMod_15 : decode b_MT_floorMod 15 = .ok (.iload_n 1, 1) := by decide +kernel
theorem d_MT_floorMod_16 : decode b_MT_floorMod 16 = .ok (.iadd, 1) := by decide +kernel
theorem d_MT_floorMod_17 : decode b_MT_floorMod 17 = .ok (.ireturn, 1) := by decide +kernel
theorem d_MT_floorMod_18 : decode b_MT_floorMod 18 = .ok (.iload_n 2, 1) := by decide +kernel
theorem d_MT_floorMod_19 : decode b_MT_floorMod 19 = .ok (.ireturn, 1) := by decide +kernel
theorem d_law_cell_0 : decode b_law_cell 0 = .ok (.iload_n 1, 1) := by decide +kernel
theorem d_law_cell_1 : decode b_law_cell 1 = .ok (.aload_n 0, 1) := by decide +kernel
theorem d_law_cell_2 : decode b_law_cell 2 = .ok (.arraylength, 1) := by decide +kernel
theorem d_law_cell_3 : decode b_law_cell 3 = .ok (.if_icmp .ge 9, 3) := by decide +kernel
theorem d_law_cell_6 : decode b_law_cell 6 = .ok (.aload_n 0, 1) := by decide +kernel
theorem d_law_cell_7 : decode b_law_cell 7 = .ok (.iload_n 1, 1) := by decide +kernel
theorem d_law_cell_8 : decode b_law_cell 8 = .ok (.iaload, 1) := by decide +kernel
theorem d_law_cell_9 : decode b_law_cell 9 = .ok (.goto 4, 3) := by decide +kernel
theorem d_law_cell_12 : decode b_law_cell 12 = .ok (.iconst 0, 1) := by decide +kernel
theorem d_law_cell_13 : decode b_law_cell 13 = .ok (.ireturn, 1) := by decide +kernel
theorem d_MD_init_0 : decode b_MD_init 0 = .ok (.aload_n 0, 1) := by decide +kernel
theorem d_MD_init_1 : decode b_MD_init 1 = .ok (.invokespecial 1, 3) := by decide +kernel
theorem d_MD_init_4 : decode b_MD_init 4 = .ok (.aload_n 0, 1) := by decide +kernel
theorem d_MD_init_5 : decode b_MD_init 5 = .ok (.bipush 36, 2) := by decide +kernel
theorem d_MD_init_7 : decode b_MD_init 7 = .ok (.newarray .boolean, 2) := by decide +kernel
theorem d_MD_init_9 : decode b_MD_init 9 = .ok (.putfield 7, 3) := by decide +kernel
theorem d_MD_init_12 : decode b_MD_init 12 = .ok (.aload_n 0, 1) := by decide +kernel
theorem d_MD_init_13 : decode b_MD_init 13 = .ok (.bipush 36, 2) := by decide +kernel
theorem d_MD_init_15 : decode b_MD_init 15 = .ok (.newarray .boolean, 2) := by decide +kernel
theorem d_MD_init_17 : decode b_MD_init 17 = .ok (.putfield 13, 3) := by decide +kernel
theorem d_MD_init_20 : decode b_MD_init 20 = .ok (.aload_n 0, 1) := by decide +kernel
theorem d_MD_init_21 : decode b_MD_init 21 = .ok (.bipush 36, 2) := by decide +kernel
theorem d_MD_init_23 : decode b_MD_init 23 = .ok (.newarray .int, 2) := by decide +kernel
theorem d_MD_init_25 : decode b_MD_init 25 = .ok (.putfield 16, 3) := by decide +kernel
theorem d_MD_init_28 : decode b_MD_init 28 = .ok (.aload_n 0, 1) := by decide +kernel
theorem d_MD_init_29 : decode b_MD_init 29 = .ok (.bipush 6, 2) := by decide +kernel
theorem d_MD_init_31 : decode b_MD_init 31 = .ok (.newarray .int, 2) := by decide +kernel
theorem d_MD_init_33 : decode b_MD_init 33 = .ok (.putfield 20, 3) := by decide +kernel
theorem d_MD_init_36 : decode b_MD_init 36 = .ok (.aload_n 0, 1) := by decide +kernel
theorem d_MD_init_37 : decode b_MD_init 37 = .ok (.bipush 6, 2) := by decide +kernel
theorem d_MD_init_39 : decode b_MD_init 39 = .ok (.newarray .int, 2) := by decide +kernel
theorem d_MD_init_41 : decode b_MD_init 41 = .ok (.putfield 23, 3) := by decide +kernel
theorem d_MD_init_44 : decode b_MD_init 44 = .ok (.aload_n 0, 1) := by decide +kernel
theorem d_MD_init_45 : decode b_MD_init 45 = .ok (.bipush 36, 2) := by decide +kernel
theorem d_MD_init_47 : decode b_MD_init 47 = .ok (.newarray .int, 2) := by decide +kernel
theorem d_MD_init_49 : decode b_MD_init 49 = .ok (.putfield 26, 3) := by decide +kernel
theorem d_MD_init_52 : decode b_MD_init 52 = .ok (.aload_n 0, 1) := by decide +kernel
theorem d_MD_init_53 : decode b_MD_init 53 = .ok (.bipush 36, 2) := by decide +kernel
theorem d_MD_init_55 : decode b_MD_init 55 = .ok (.newarray .int, 2) := by decide +kernel
theorem d_MD_init_57 : decode b_MD_init 57 = .ok (.putfield 29, 3) := by decide +kernel
theorem d_MD_init_60 : decode b_MD_init 60 = .ok (.aload_n 0, 1) := by decide +kernel
theorem d_MD_init_61 : decode b_MD_init 61 = .ok (.bipush 36, 2) := by decide +kernel
theorem d_MD_init_63 : decode b_MD_init 63 = .ok (.newarray .int, 2) := by decide +kernel
theorem d_MD_init_65 : decode b_MD_init 65 = .ok (.putfield 32, 3) := by decide +kernel
theorem d_MD_init_68 : decode b_MD_init 68 = .ok (.aload_n 0, 1) := by decide +kernel
theorem d_MD_init_69 : decode b_MD_init 69 = .ok (.bipush 36, 2) := by decide +kernel
theorem d_MD_init_71 : decode b_MD_init 71 = .ok (.newarray .int, 2) := by decide +kernel
theorem d_MD_init_73 : decode b_MD_init 73 = .ok (.putfield 35, 3) := by decide +kernel
theorem d_MD_init_76 : decode b_MD_init 76 = .ok (.aload_n 0, 1) := by decide +kernel
theorem d_MD_init_77 : decode b_MD_init 77 = .ok (.iload_n 1, 1) := by decide +kernel
theorem d_MD_init_78 : decode b_MD_init 78 = .ok (.invokestatic 38, 3) := by decide +kernel
theorem d_MD_init_81 : decode b_MD_init 81 = .ok (.putfield 42, 3) := by decide +kernel
theorem d_MD_init_84 : decode b_MD_init 84 = .ok (.aload_n 0, 1) := by decide +kernel
theorem d_MD_init_85 : decode b_MD_init 85 = .ok (.iload_n 2, 1) := by decide +kernel
theorem d_MD_init_86 : decode b_MD_init 86 = .ok (.invokestatic 38, 3) := by decide +kernel
theorem d_MD_init_89 : decode b_MD_init 89 = .ok (.putfield 46, 3) := by decide +kernel
theorem d_MD_init_92 : decode b_MD_init 92 = .ok (.aload_n 0, 1) := by decide +kernel
theorem d_MD_init_93 : decode b_MD_init 93 = .ok (.aload_n 0, 1) := by decide +kernel
theorem d_MD_init_94 : decode b_MD_init 94 = .ok (.getfield 42, 3) := by decide +kernel
theorem d_MD_init_97 : decode b_MD_init 97 = .ok (.aload_n 0, 1) := by decide +kernel
theorem d_MD_init_98 : decode b_MD_init 98 = .ok (.getfield 46, 3) := by decide +kernel
theorem d_MD_init_101 : decode b_MD_init 101 = .ok (.imul, 1) := by decide +kernel
theorem d_MD_init_102 : decode b_MD_init 102 = .ok (.putfield 49, 3) := by decide +kernel
theorem d_MD_init_105 : decode b_MD_init 105 = .ok (.aload_n 0, 1) := by decide +kernel
theorem d_MD_init_106 : decode b_MD_init 106 = .ok (.aload_n 0, 1) := by decide +kernel
theorem d_MD_init_107 : decode b_MD_init 107 = .ok (.getfield 42, 3) := by decide +kernel
theorem d_MD_init_110 : decode b_MD_init 110 = .ok (.aload_n 0, 1) := by decide +kernel
theorem d_MD_init_111 : decode b_MD_init 111 = .ok (.getfield 46, 3) := by decide +kernel
theorem d_MD_init_114 : decode b_MD_init 114 = .ok (.if_icmp .le 10, 3) := by decide +kernel
theorem d_MD_init_117 : decode b_MD_init 117 = .ok (.aload_n 0, 1) := by decide +kernel
theorem d_MD_init_118 : decode b_MD_init 118 = .ok (.getfield 42, 3) := by decide +kernel
theorem d_MD_init_121 : decode b_MD_init 121 = .ok (.goto 7, 3) := by decide +kernel
theorem d_MD_init_124 : decode b_MD_init 124 = .ok (.aload_n 0, 1) := by decide +kernel
theorem d_MD_init_125 : decode b_MD_init 125 = .ok (.getfield 46, 3) := by decide +kernel
theorem d_MD_init_128 : decode b_MD_init 128 = .ok (.putfield 52, 3) := by decide +kernel
theorem d_MD_init_131 : decode b_MD_init 131 = .ok (.return_, 1) := by decide +kernel
theorem d_MD_held_0 : decode b_MD_held 0 = .ok (.iload_n 0, 1) := by decide +kernel
theorem d_MD_held_1 : decode b_MD_held 1 = .ok (.iconst 1, 1) := by decide +kernel
theorem d_MD_held_2 : decode b_MD_held 2 = .ok (.if_icmp .ge 7, 3) := by decide +kernel
theorem d_MD_held_5 : decode b_MD_held 5 = .ok (.iconst 1, 1) := by decide +kernel
theorem d_MD_held_6 : decode b_MD_held 6 = .ok (.goto 15, 3) := by decide +kernel
theorem d_MD_held_9 : decode b_MD_held 9 = .ok (.iload_n 0, 1) := by decide +kernel
theorem d_MD_held_10 : decode b_MD_held 10 = .ok (.bipush 6, 2) := by decide +kernel
theorem d_MD_held_12 : decode b_MD_held 12 = .ok (.if_icmp .le 8, 3) := by decide +kernel
theorem d_MD_held_15 : decode b_MD_held 15 = .ok (.bipush 6, 2) := by decide +kernel
theorem d_MD_held_17 : decode b_MD_held 17 = .ok (.goto 4, 3) := by decide +kernel
theorem d_MD_held_20 : decode b_MD_held 20 = .ok (.iload_n 0, 1) := by decide +kernel
theorem d_MD_held_21 : decode b_MD_held 21 = .ok (.ireturn, 1) := by decide +kernel
theorem d_MD_bar_0 : decode b_MD_bar 0 = .ok (.aload_n 0, 1) := by decide +kernel
theorem d_MD_bar_1 : decode b_MD_bar 1 = .ok (.iconst 0, 1) := by decide +kernel
theorem d_MD_bar_2 : decode b_MD_bar 2 = .ok (.putfield 55, 3) := by decide +kernel
theorem d_MD_bar_5 : decode b_MD_bar 5 = .ok (.aload_n 0, 1) := by decide +kernel
theorem d_MD_bar_6 : decode b_MD_bar 6 = .ok (.iload_n 1, 1) := by decide +kernel
theorem d_MD_bar_7 : decode b_MD_bar 7 = .ok (.iload_n 2, 1) := by decide +kernel
theorem d_MD_bar_8 : decode b_MD_bar 8 = .ok (.invokevirtual 58, 3) := by decide +kernel
theorem d_MD_bar_11 : decode b_MD_bar 11 = .ok (.ifCond .eq 20, 3) := by decide +kernel
theorem d_MD_bar_14 : decode b_MD_bar 14 = .ok (.aload_n 0, 1) := by decide +kernel
theorem d_MD_bar_15 : decode b_MD_bar 15 = .ok (.getfield 7, 3) := by decide +kernel
theorem d_MD_bar_18 : decode b_MD_bar 18 = .ok (.iload_n 1, 1) := by decide +kernel
theorem d_MD_bar_19 : decode b_MD_bar 19 = .ok (.aload_n 0, 1) := by decide +kernel
theorem d_MD_bar_20 : decode b_MD_bar 20 = .ok (.getfield 42, 3) := by decide +kernel
theorem d_MD_bar_23 : decode b_MD_bar 23 = .ok (.iload_n 2, 1) := by decide +kernel
theorem d_MD_bar_24 : decode b_MD_bar 24 = .ok (.imul, 1) := by decide +kernel
theorem d_MD_bar_25 : decode b_MD_bar 25 = .ok (.iadd, 1) := by decide +kernel
theorem d_MD_bar_26 : decode b_MD_bar 26 = .ok (.baload, 1) := by decide +kernel
theorem d_MD_bar_27 : decode b_MD_bar 27 = .ok (.iload_n 3, 1) := by decide +kernel
theorem d_MD_bar_28 : decode b_MD_bar 28 = .ok (.if_icmp .ne 5, 3) := by decide +kernel
theorem d_MD_bar_31 : decode b_MD_bar 31 = .ok (.iconst 0, 1) := by decide +kernel
theorem d_MD_bar_32 : decode b_MD_bar 32 = .ok (.ireturn, 1) := by decide +kernel
theorem d_MD_bar_33 : decode b_MD_bar 33 = .ok (.aload_n 0, 1) := by decide +kernel
theorem d_MD_bar_34 : decode b_MD_bar 34 = .ok (.getfield 7, 3) := by decide +kernel
theorem d_MD_bar_37 : decode b_MD_bar 37 = .ok (.iload_n 1, 1) := by decide +kernel
theorem d_MD_bar_38 : decode b_MD_bar 38 = .ok (.aload_n 0, 1) := by decide +kernel
theorem d_MD_bar_39 : decode b_MD_bar 39 = .ok (.getfield 42, 3) := by decide +kernel
theorem d_MD_bar_42 : decode b_MD_bar 42 = .ok (.iload_n 2, 1) := by decide +kernel
theorem d_MD_bar_43 : decode b_MD_bar 43 = .ok (.imul, 1) := by decide +kernel
theorem d_MD_bar_44 : decode b_MD_bar 44 = .ok (.iadd, 1) := by decide +kernel
theorem d_MD_bar_45 : decode b_MD_bar 45 = .ok (.iload_n 3, 1) := by decide +kernel
theorem d_MD_bar_46 : decode b_MD_bar 46 = .ok (.bastore, 1) := by decide +kernel
theorem d_MD_bar_47 : decode b_MD_bar 47 = .ok (.aload_n 0, 1) := by decide +kernel
theorem d_MD_bar_48 : decode b_MD_bar 48 = .ok (.iconst 0, 1) := by decide +kernel
theorem d_MD_bar_49 : decode b_MD_bar 49 = .ok (.putfield 62, 3) := by decide +kernel
theorem d_MD_bar_52 : decode b_MD_bar 52 = .ok (.iconst 1, 1) := by decide +kernel
theorem d_MD_bar_53 : decode b_MD_bar 53 = .ok (.ireturn, 1) := by decide +kernel
theorem d_MD_isCell_0 : decode b_MD_isCell 0 = .ok (.iload_n 1, 1) := by decide +kernel
theorem d_MD_isCell_1 : decode b_MD_isCell 1 = .ok (.ifCond .lt 27, 3) := by decide +kernel
theorem d_MD_isCell_4 : decode b_MD_isCell 4 = .ok (.iload_n 1, 1) := by decide +kernel
theorem d_MD_isCell_5 : decode b_MD_isCell 5 = .ok (.aload_n 0, 1) := by decide +kernel
theorem d_MD_isCell_6 : decode b_MD_isCell 6 = .ok (.getfield 42, 3) := by decide +kernel
theorem d_MD_isCell_9 : decode b_MD_isCell 9 = .ok (.if_icmp .ge 19, 3) := by decide +kernel
theorem d_MD_isCell_12 : decode b_MD_isCell 12 = .ok (.iload_n 2, 1) := by decide +kernel
theorem d_MD_isCell_13 : decode b_MD_isCell 13 = .ok (.ifCond .lt 15, 3) := by decide +kernel
theorem d_MD_isCell_16 : decode b_MD_isCell 16 = .ok (.iload_n 2, 1) := by decide +kernel
theorem d_MD_isCell_17 : decode b_MD_isCell 17 = .ok (.aload_n 0, 1) := by decide +kernel
theorem d_MD_isCell_18 : decode b_MD_isCell 18 = .ok (.getfield 46, 3) := by decide +kernel
theorem d_MD_isCell_21 : decode b_MD_isCell 21 = .ok (.if_icmp .ge 7, 3) := by decide +kernel
theorem d_MD_isCell_24 : decode b_MD_isCell 24 = .ok (.iconst 1, 1) := by decide +kernel
theorem d_MD_isCell_25 : decode b_MD_isCell 25 = .ok (.goto 4, 3) := by decide +kernel
theorem d_MD_isCell_28 : decode b_MD_isCell 28 = .ok (.iconst 0, 1) := by decide +kernel
theorem d_MD_isCell_29 : decode b_MD_isCell 29 = .ok (.ireturn, 1) := by decide +kernel
theorem d_MD_start_0 : decode b_MD_start 0 = .ok (.aload_n 0, 1) := by decide +kernel
theorem d_MD_start_1 : decode b_MD_start 1 = .ok (.iconst 0, 1) := by decide +kernel
theorem d_MD_start_2 : decode b_MD_start 2 = .ok (.putfield 55, 3) := by decide +kernel
theorem d_MD_start_5 : decode b_MD_start 5 = .ok (.aload_n 0, 1) := by decide +kernel
theorem d_MD_start_6 : decode b_MD_start 6 = .ok (.iload_n 1, 1) := by decide +kernel
theorem d_MD_start_7 : decode b_MD_start 7 = .ok (.iload_n 2, 1) := by decide +kernel
theorem d_MD_start_8 : decode b_MD_start 8 = .ok (.invokevirtual 58, 3) := by decide +kernel
theorem d_MD_start_11 : decode b_MD_start 11 = .ok (.ifCond .ne 5, 3) := by decide +kernel
theorem d_MD_start_14 : decode b_MD_start 14 = .ok (.iconst 0, 1) := by decide +kernel
theorem d_MD_start_15 : decode b_MD_start 15 = .ok (.ireturn, 1) := by decide +kernel
theorem d_MD_start_16 : decode b_MD_start 16 = .ok (.aload_n 0, 1) := by decide +kernel
theorem d_MD_start_17 : decode b_MD_start 17 = .ok (.iload_n 1, 1) := by decide +kernel
theorem d_MD_start_18 : decode b_MD_start 18 = .ok (.aload_n 0, 1) := by decide +kernel
theorem d_MD_start_19 : decode b_MD_start 19 = .ok (.getfield 42, 3) := by decide +kernel
theorem d_MD_start_22 : decode b_MD_start 22 = .ok (.iload_n 2, 1) := by decide +kernel
theorem d_MD_start_23 : decode b_MD_start 23 = .ok (.imul, 1) := by decide +kernel
theorem d_MD_start_24 : decode b_MD_start 24 = .ok (.iadd, 1) := by decide +kernel
theorem d_MD_start_25 : decode b_MD_start 25 = .ok (.putfield 65, 3) := by decide +kernel
theorem d_MD_start_28 : decode b_MD_start 28 = .ok (.aload_n 0, 1) := by decide +kernel
theorem d_MD_start_29 : decode b_MD_start 29 = .ok (.iconst 0, 1) := by decide +kernel
theorem d_MD_start_30 : decode b_MD_start 30 = .ok (.putfield 62, 3) := by decide +kernel
theorem d_MD_start_33 : decode b_MD_start 33 = .ok (.iconst 1, 1) := by decide +kernel
theorem d_MD_start_34 : decode b_MD_start 34 = .ok (.ireturn, 1) := by decide +kernel
theorem d_MD_tour_0 : decode b_MD_tour 0 = .ok (.aload_n 0, 1) := by decide +kernel
theorem d_MD_tour_1 : decode b_MD_tour 1 = .ok (.iconst 0, 1) := by decide +kernel
theorem d_MD_tour_2 : decode b_MD_tour 2 = .ok (.putfield 55, 3) := by decide +kernel
theorem d_MD_tour_5 : decode b_MD_tour 5 = .ok (.iload_n 1, 1) := by decide +kernel
theorem d_MD_tour_6 : decode b_MD_tour 6 = .ok (.ifCond .lt 18, 3) := by decide +kernel
theorem d_MD_tour_9 : decode b_MD_tour 9 = .ok (.iload_n 1, 1) := by decide +kernel
theorem d_MD_tour_10 : decode b_MD_tour 10 = .ok (.iconst 2, 1) := by decide +kernel
theorem d_MD_tour_11 : decode b_MD_tour 11 = .ok (.if_icmp .gt 13, 3) := by decide +kernel
theorem d_MD_tour_14 : decode b_MD_tour 14 = .ok (.iload_n 3, 1) := by decide +kernel
theorem d_MD_tour_15 : decode b_MD_tour 15 = .ok (.ifCond .lt 9, 3) := by decide +kernel
theorem d_MD_tour_18 : decode b_MD_tour 18 = .ok (.iload_n 3, 1) := by decide +kernel
theorem d_MD_tour_19 : decode b_MD_tour 19 = .ok (.ldc 90, 2) := by decide +kernel
theorem d_MD_tour_21 : decode b_MD_tour 21 = .ok (.if_icmp .le 5, 3) := by decide +kernel
theorem d_MD_tour_24 : decode b_MD_tour 24 = .ok (.iconst (-1), 1) := by decide +kernel
theorem d_MD_tour_25 : decode b_MD_tour 25 = .ok (.ireturn, 1) := by decide +kernel
theorem d_MD_tour_26 : decode b_MD_tour 26 = .ok (.aload_n 0, 1) := by decide +kernel
theorem d_MD_tour_27 : decode b_MD_tour 27 = .ok (.iconst 0, 1) := by decide +kernel
theorem d_MD_tour_28 : decode b_MD_tour 28 = .ok (.putfield 62, 3) := by decide +kernel
theorem d_MD_tour_31 : decode b_MD_tour 31 = .ok (.aload_n 0, 1) := by decide +kernel
theorem d_MD_tour_32 : decode b_MD_tour 32 = .ok (.iconst 0, 1) := by decide +kernel
theorem d_MD_tour_33 : decode b_MD_tour 33 = .ok (.putfield 87, 3) := by decide +kernel
theorem d_MD_tour_36 : decode b_MD_tour 36 = .ok (.aload_n 0, 1) := by decide +kernel
theorem d_MD_tour_37 : decode b_MD_tour 37 = .ok (.getfield 7, 3) := by decide +kernel
theorem d_MD_tour_40 : decode b_MD_tour 40 = .ok (.aload_n 0, 1) := by decide +kernel
theorem d_MD_tour_41 : decode b_MD_tour 41 = .ok (.getfield 65, 3) := by decide +kernel
theorem d_MD_tour_44 : decode b_MD_tour 44 = .ok (.baload, 1) := by decide +kernel
theorem d_MD_tour_45 : decode b_MD_tour 45 = .ok (.ifCond .eq 7, 3) := by decide +kernel
theorem d_MD_tour_48 : decode b_MD_tour 48 = .ok (.iconst 1, 1) := by decide +kernel
theorem d_MD_tour_49 : decode b_MD_tour 49 = .ok (.goto 10, 3) := by decide +kernel
theorem d_MD_tour_52 : decode b_MD_tour 52 = .ok (.aload_n 0, 1) := by decide +kernel
theorem d_MD_tour_53 : decode b_MD_tour 53 = .ok (.iload_n 1, 1) := by decide +kernel
theorem d_MD_tour_54 : decode b_MD_tour 54 = .ok (.iload_n 2, 1) := by decide +kernel
theorem d_MD_tour_55 : decode b_MD_tour 55 = .ok (.iload_n 3, 1) := by decide +kernel
theorem d_MD_tour_56 : decode b_MD_tour 56 = .ok (.invokevirtual 91, 3) := by decide +kernel
theorem d_MD_tour_59 : decode b_MD_tour 59 = .ok (.ireturn, 1) := by decide +kernel
theorem d_MD_search_0 : decode b_MD_search 0 = .ok (.aload_n 0, 1) := by decide +kernel
theorem d_MD_search_1 : decode b_MD_search 1 = .ok (.invokevirtual 79, 3) := by decide +kernel
theorem d_MD_search_4 : decode b_MD_search 4 = .ok (.istore 4, 2) := by decide +kernel
theorem d_MD_search_6 : decode b_MD_search 6 = .ok (.iconst 0, 1) := by decide +kernel
theorem d_MD_search_7 : decode b_MD_search 7 = .ok (.istore 5, 2) := by decide +kernel
theorem d_MD_search_9 : decode b_MD_search 9 = .ok (.iload 5, 2) := by decide +kernel
theorem d_MD_search_11 : decode b_MD_search 11 = .ok (.aload_n 0, 1) := by decide +kernel
theorem d_MD_search_12 : decode b_MD_search 12 = .ok (.getfield 49, 3) := by decide +kernel
theorem d_MD_search_15 : decode b_MD_search 15 = .ok (.if_icmp .ge 17, 3) := by decide +kernel
theorem d_MD_search_18 : decode b_MD_search 18 = .ok (.aload_n 0, 1) := by decide +kernel
theorem d_MD_search_19 : decode b_MD_search 19 = .ok (.getfield 13, 3) := by decide +kernel
theorem d_MD_search_22 : decode b_MD_search 22 = .ok (.iload 5, 2) := by decide +kernel
theorem d_MD_search_24 : decode b_MD_search 24 = .ok (.iconst 0, 1) := by decide +kernel
theorem d_MD_search_25 : decode b_MD_search 25 = .ok (.bastore, 1) := by decide +kernel
theorem d_MD_search_26 : decode b_MD_search 26 = .ok (.iinc 5 1, 3) := by decide +kernel
theorem d_MD_search_29 : decode b_MD_search 29 = .ok (.goto (-20), 3) := by decide +kernel
theorem d_MD_search_32 : decode b_MD_search 32 = .ok (.aload_n 0, 1) := by decide +kernel
theorem d_MD_search_33 : decode b_MD_search 33 = .ok (.getfield 13, 3) := by decide +kernel
theorem d_MD_search_36 : decode b_MD_search 36 = .ok (.aload_n 0, 1) := by decide +kernel
theorem d_MD_search_37 : decode b_MD_search 37 = .ok (.getfield 65, 3) := by decide +kernel
theorem d_MD_search_40 : decode b_MD_search 40 = .ok (.iconst 1, 1) := by decide +kernel
theorem d_MD_search_41 : decode b_MD_search 41 = .ok (.bastore, 1) := by decide +kernel
theorem d_MD_search_42 : decode b_MD_search 42 = .ok (.aload_n 0, 1) := by decide +kernel
theorem d_MD_search_43 : decode b_MD_search 43 = .ok (.getfield 16, 3) := by decide +kernel
theorem d_MD_search_46 : decode b_MD_search 46 = .ok (.iconst 0, 1) := by decide +kernel
theorem d_MD_search_47 : decode b_MD_search 47 = .ok (.aload_n 0, 1) := by decide +kernel
theorem d_MD_search_48 : decode b_MD_search 48 = .ok (.getfield 65, 3) := by decide +kernel
theorem d_MD_search_51 : decode b_MD_search 51 = .ok (.iastore, 1) := by decide +kernel
theorem d_MD_search_52 : decode b_MD_search 52 = .ok (.iconst 1, 1) := by decide +kernel
theorem d_MD_search_53 : decode b_MD_search 53 = .ok (.istore 5, 2) := by decide +kernel
theorem d_MD_search_55 : decode b_MD_search 55 = .ok (.iconst (-1), 1) := by decide +kernel
theorem d_MD_search_56 : decode b_MD_search 56 = .ok (.istore 6, 2) := by decide +kernel
theorem d_MD_search_58 : decode b_MD_search 58 = .ok (.iload 5, 2) := by decide +kernel
theorem d_MD_search_60 : decode b_MD_search 60 = .ok (.ifCond .le 142, 3) := by decide +kernel
theorem d_MD_search_63 : decode b_MD_search 63 = .ok (.iload 5, 2) := by decide +kernel
theorem d_MD_search_65 : decode b_MD_search 65 = .ok (.iload 4, 2) := by decide +kernel
theorem d_MD_search_67 : decode b_MD_search 67 = .ok (.if_icmp .ne 42, 3) := by decide +kernel
theorem d_MD_search_70 : decode b_MD_search 70 = .ok (.iload 6, 2) := by decide +kernel
theorem d_MD_search_72 : decode b_MD_search 72 = .ok (.iconst (-1), 1) := by decide +kernel
theorem d_MD_search_73 : decode b_MD_search 73 = .ok (.if_icmp .ne 36, 3) := by decide +kernel
theorem d_MD_search_76 : decode b_MD_search 76 = .ok (.iload_n 2, 1) := by decide +kernel
theorem d_MD_search_77 : decode b_MD_search 77 = .ok (.ifCond .eq 24, 3) := by decide +kernel
theorem d_MD_search_80 : decode b_MD_search 80 = .ok (.aload_n 0, 1) := by decide +kernel
theorem d_MD_search_81 : decode b_MD_search 81 = .ok (.iload_n 1, 1) := by decide +kernel
theorem d_MD_search_82 : decode b_MD_search 82 = .ok (.aload_n 0, 1) := by decide +kernel
theorem d_MD_search_83 : decode b_MD_search 83 = .ok (.getfield 16, 3) := by decide +kernel
theorem d_MD_search_86 : decode b_MD_search 86 = .ok (.iload 5, 2) := by decide +kernel
theorem d_MD_search_88 : decode b_MD_search 88 = .ok (.iconst 1, 1) := by decide +kernel
theorem d_MD_search_89 : decode b_MD_search 89 = .ok (.isub, 1) := by decide +kernel
theorem d_MD_search_90 : decode b_MD_search 90 = .ok (.iaload, 1) := by decide +kernel
theorem d_MD_search_91 : decode b_MD_search 91 = .ok (.aload_n 0, 1) := by decide +kernel
theorem d_MD_search_92 : decode b_MD_search 92 = .ok (.getfield 65, 3) := by decide +kernel
theorem d_MD_search_95 : decode b_MD_search 95 = .ok (.invokevirtual 72, 3) := by decide +kernel
theorem d_MD_search_98 : decode b_MD_search 98 = .ok (.ifCond .eq 11, 3) := by decide +kernel
theorem d_MD_search_101 : decode b_MD_search 101 = .ok (.aload_n 0, 1) := by decide +kernel
theorem d_MD_search_102 : decode b_MD_search 102 = .ok (.iload 5, 2) := by decide +kernel
theorem d_MD_search_104 : decode b_MD_search 104 = .ok (.putfield 62, 3) := by decide +kernel
theorem d_MD_search_107 : decode b_MD_search 107 = .ok (.iconst 0, 1) := by decide +kernel
theorem d_MD_search_108 : decode b_MD_search 108 = .ok (.ireturn, 1) := by decide +kernel
theorem d_MD_search_109 : decode b_MD_search 109 = .ok (.aload_n 0, 1) := by decide +kernel
theorem d_MD_search_110 : decode b_MD_search 110 = .ok (.iload_n 1, 1) := by decide +kernel
theorem d_MD_search_111 : decode b_MD_search 111 = .ok (.aload_n 0, 1) := by decide +kernel
theorem d_MD_search_112 : decode b_MD_search 112 = .ok (.getfield 16, 3) := by decide +kernel
theorem d_MD_search_115 : decode b_MD_search 115 = .ok (.iload 5, 2) := by decide +kernel
theorem d_MD_search_117 : decode b_MD_search 117 = .ok (.iconst 1, 1) := by decide +kernel
theorem d_MD_search_118 : decode b_MD_search 118 = .ok (.isub, 1) := by decide +kernel
theorem d_MD_search_119 : decode b_MD_search 119 = .ok (.iaload, 1) := by decide +kernel
theorem d_MD_search_120 : decode b_MD_search 120 = .ok (.iload 6, 2) := by decide +kernel
theorem d_MD_search_122 : decode b_MD_search 122 = .ok (.invokevirtual 83, 3) := by decide +kernel
theorem d_MD_search_125 : decode b_MD_search 125 = .ok (.istore 7, 2) := by decide +kernel
theorem d_MD_search_127 : decode b_MD_search 127 = .ok (.iload 7, 2) := by decide +kernel
theorem d_MD_search_129 : decode b_MD_search 129 = .ok (.iconst (-1), 1) := by decide +kernel
theorem d_MD_search_130 : decode b_MD_search 130 = .ok (.if_icmp .ne 26, 3) := by decide +kernel
theorem d_MD_search_133 : decode b_MD_search 133 = .ok (.iinc 5 (-1), 3) := by decide +kernel
theorem d_MD_search_136 : decode b_MD_search 136 = .ok (.aload_n 0, 1) := by decide +kernel
theorem d_MD_search_137 : decode b_MD_search 137 = .ok (.getfield 16, 3) := by decide +kernel
theorem d_MD_search_140 : decode b_MD_search 140 = .ok (.iload 5, 2) := by decide +kernel
theorem d_MD_search_142 : decode b_MD_search 142 = .ok (.iaload, 1) := by decide +kernel
theorem d_MD_search_143 : decode b_MD_search 143 = .ok (.istore 6, 2) := by decide +kernel
theorem d_MD_search_145 : decode b_MD_search 145 = .ok (.aload_n 0, 1) := by decide +kernel
theorem d_MD_search_146 : decode b_MD_search 146 = .ok (.getfield 13, 3) := by decide +kernel
theorem d_MD_search_149 : decode b_MD_search 149 = .ok (.iload 6, 2) := by decide +kernel
theorem d_MD_search_151 : decode b_MD_search 151 = .ok (.iconst 0, 1) := by decide +kernel
theorem d_MD_search_152 : decode b_MD_search 152 = .ok (.bastore, 1) := by decide +kernel
theorem d_MD_search_153 : decode b_MD_search 153 = .ok (.goto 46, 3) := by decide +kernel
theorem d_MD_search_156 : decode b_MD_search 156 = .ok (.aload_n 0, 1) := by decide +kernel
theorem d_MD_search_157 : decode b_MD_search 157 = .ok (.getfield 87, 3) := by decide +kernel
theorem d_MD_search_160 : decode b_MD_search 160 = .ok (.iload_n 3, 1) := by decide +kernel
theorem d_MD_search_161 : decode b_MD_search 161 = .ok (.if_icmp .ne 5, 3) := by decide +kernel
theorem d_MD_search_164 : decode b_MD_search 164 = .ok (.iconst 2, 1) := by decide +kernel
theorem d_MD_search_165 : decode b_MD_search 165 = .ok (.ireturn, 1) := by decide +kernel
theorem d_MD_search_166 : decode b_MD_search 166 = .ok (.aload_n 0, 1) := by decide +kernel
theorem d_MD_search_167 : decode b_MD_search 167 = .ok (.dup, 1) := by decide +kernel
theorem d_MD_search_168 : decode b_MD_search 168 = .ok (.getfield 87, 3) := by decide +kernel
theorem d_MD_search_171 : decode b_MD_search 171 = .ok (.iconst 1, 1) := by decide +kernel
theorem d_MD_search_172 : decode b_MD_search 172 = .ok (.iadd, 1) := by decide +kernel
theorem d_MD_search_173 : decode b_MD_search 173 = .ok (.putfield 87, 3) := by decide +kernel
theorem d_MD_search_176 : decode b_MD_search 176 = .ok (.aload_n 0, 1) := by decide +kernel
theorem d_MD_search_177 : decode b_MD_search 177 = .ok (.getfield 16, 3) := by decide +kernel
theorem d_MD_search_180 : decode b_MD_search 180 = .ok (.iload 5, 2) := by decide +kernel
theorem d_MD_search_182 : decode b_MD_search 182 = .ok (.iload 7, 2) := by decide +kernel
theorem d_MD_search_184 : decode b_MD_search 184 = .ok (.iastore, 1) := by decide +kernel
theorem d_MD_search_185 : decode b_MD_search 185 = .ok (.aload_n 0, 1) := by decide +kernel
theorem d_MD_search_186 : decode b_MD_search 186 = .ok (.getfield 13, 3) := by decide +kernel
theorem d_MD_search_189 : decode b_MD_search 189 = .ok (.iload 7, 2) := by decide +kernel
theorem d_MD_search_191 : decode b_MD_search 191 = .ok (.iconst 1, 1) := by decide +kernel
theorem d_MD_search_192 : decode b_MD_search 192 = .ok (.bastore, 1) := by decide +kernel
theorem d_MD_search_193 : decode b_MD_search 193 = .ok (.iinc 5 1, 3) := by decide +kernel
theorem d_MD_search_196 : decode b_MD_search 196 = .ok (.iconst (-1), 1) := by decide +kernel
theorem d_MD_search_197 : decode b_MD_search 197 = .ok (.istore 6, 2) := by decide +kernel
theorem d_MD_search_199 : decode b_MD_search 199 = .ok (.goto (-141), 3) := by decide +kernel
theorem d_MD_search_202 : decode b_MD_search 202 = .ok (.iconst 1, 1) := by decide +kernel
theorem d_MD_search_203 : decode b_MD_search 203 = .ok (.ireturn, 1) := by decide +kernel
theorem d_MD_open_0 : decode b_MD_open 0 = .ok (.iconst 0, 1) := by decide +kernel
theorem d_MD_open_1 : decode b_MD_open 1 = .ok (.istore_n 1, 1) := by decide +kernel
theorem d_MD_open_2 : decode b_MD_open 2 = .ok (.iconst 0, 1) := by decide +kernel
theorem d_MD_open_3 : decode b_MD_open 3 = .ok (.istore_n 2, 1) := by decide +kernel
theorem d_MD_open_4 : decode b_MD_open 4 = .ok (.iload_n 2, 1) := by decide +kernel
theorem d_MD_open_5 : decode b_MD_open 5 = .ok (.aload_n 0, 1) := by decide +kernel
theorem d_MD_open_6 : decode b_MD_open 6 = .ok (.getfield 49, 3) := by decide +kernel
theorem d_MD_open_9 : decode b_MD_open 9 = .ok (.if_icmp .ge 21, 3) := by decide +kernel
theorem d_MD_open_12 : decode b_MD_open 12 = .ok (.aload_n 0, 1) := by decide +kernel
theorem d_MD_open_13 : decode b_MD_open 13 = .ok (.getfield 7, 3) := by decide +kernel
theorem d_MD_open_16 : decode b_MD_open 16 = .ok (.iload_n 2, 1) := by decide +kernel
theorem d_MD_open_17 : decode b_MD_open 17 = .ok (.baload, 1) := by decide +kernel
theorem d_MD_open_18 : decode b_MD_open 18 = .ok (.ifCond .ne 6, 3) := by decide +kernel
theorem d_MD_open_21 : decode b_MD_open 21 = .ok (.iinc 1 1, 3) := by decide +kernel
theorem d_MD_open_24 : decode b_MD_open 24 = .ok (.iinc 2 1, 3) := by decide +kernel
theorem d_MD_open_27 : decode b_MD_open 27 = .ok (.goto (-23), 3) := by decide +kernel
theorem d_MD_open_30 : decode b_MD_open 30 = .ok (.iload_n 1, 1) := by decide +kernel
theorem d_MD_open_31 : decode b_MD_open 31 = .ok (.ireturn, 1) := by decide +kernel
theorem d_MD_goes_0 : decode b_MD_goes 0 = .ok (.iload_n 2, 1) := by decide +kernel
theorem d_MD_goes_1 : decode b_MD_goes 1 = .ok (.aload_n 0, 1) := by decide +kernel
theorem d_MD_goes_2 : decode b_MD_goes 2 = .ok (.getfield 42, 3) := by decide +kernel
theorem d_MD_goes_5 : decode b_MD_goes 5 = .ok (.irem, 1) := by decide +kernel
theorem d_MD_goes_6 : decode b_MD_goes 6 = .ok (.iload_n 3, 1) := by decide +kernel
theorem d_MD_goes_7 : decode b_MD_goes 7 = .ok (.aload_n 0, 1) := by decide +kernel
theorem d_MD_goes_8 : decode b_MD_goes 8 = .ok (.getfield 42, 3) := by decide +kernel
theorem d_MD_goes_11 : decode b_MD_goes 11 = .ok (.irem, 1) := by decide +kernel
theorem d_MD_goes_12 : decode b_MD_goes 12 = .ok (.invokestatic 68, 3) := by decide +kernel
theorem d_MD_goes_15 : decode b_MD_goes 15 = .ok (.istore 4, 2) := by decide +kernel
theorem d_MD_goes_17 : decode b_MD_goes 17 = .ok (.iload_n 2, 1) := by decide +kernel
theorem d_MD_goes_18 : decode b_MD_goes 18 = .ok (.aload_n 0, 1) := by decide +kernel
theorem d_MD_goes_19 : decode b_MD_goes 19 = .ok (.getfield 42, 3) := by decide +kernel
theorem d_MD_goes_22 : decode b_MD_goes 22 = .ok (.idiv, 1) := by decide +kernel
theorem d_MD_goes_23 : decode b_MD_goes 23 = .ok (.iload_n 3, 1) := by decide +kernel
theorem d_MD_goes_24 : decode b_MD_goes 24 = .ok (.aload_n 0, 1) := by decide +kernel
theorem d_MD_goes_25 : decode b_MD_goes 25 = .ok (.getfield 42, 3) := by decide +kernel
theorem d_MD_goes_28 : decode b_MD_goes 28 = .ok (.idiv, 1) := by decide +kernel
theorem d_MD_goes_29 : decode b_MD_goes 29 = .ok (.invokestatic 68, 3) := by decide +kernel
theorem d_MD_goes_32 : decode b_MD_goes 32 = .ok (.istore 5, 2) := by decide +kernel
theorem d_MD_goes_34 : decode b_MD_goes 34 = .ok (.iload_n 1, 1) := by decide +kernel
theorem d_MD_goes_35 : decode b_MD_goes 35 = .ok (.ifCond .ne 33, 3) := by decide +kernel
theorem d_MD_goes_38 : decode b_MD_goes 38 = .ok (.iload 4, 2) := by decide +kernel
theorem d_MD_goes_40 : decode b_MD_goes 40 = .ok (.iconst 1, 1) := by decide +kernel
theorem d_MD_goes_41 : decode b_MD_goes 41 = .ok (.if_icmp .ne 9, 3) := by decide +kernel
theorem d_MD_goes_44 : decode b_MD_goes 44 = .ok (.iload 5, 2) := by decide +kernel
theorem d_MD_goes_46 : decode b_MD_goes 46 = .ok (.iconst 2, 1) := by decide +kernel
theorem d_MD_goes_47 : decode b_MD_goes 47 = .ok (.if_icmp .eq 15, 3) := by decide +kernel
theorem d_MD_goes_50 : decode b_MD_goes 50 = .ok (.iload 4, 2) := by decide +kernel
theorem d_MD_goes_52 : decode b_MD_goes 52 = .ok (.iconst 2, 1) := by decide +kernel
theorem d_MD_goes_53 : decode b_MD_goes 53 = .ok (.if_icmp .ne 13, 3) := by decide +kernel
theorem d_MD_goes_56 : decode b_MD_goes 56 = .ok (.iload 5, 2) := by decide +kernel
theorem d_MD_goes_58 : decode b_MD_goes 58 = .ok (.iconst 1, 1) := by decide +kernel
theorem d_MD_goes_59 : decode b_MD_goes 59 = .ok (.if_icmp .ne 7, 3) := by decide +kernel
theorem d_MD_goes_62 : decode b_MD_goes 62 = .ok (.iconst 1, 1) := by decide +kernel
theorem d_MD_goes_63 : decode b_MD_goes 63 = .ok (.goto 4, 3) := by decide +kernel
theorem d_MD_goes_66 : decode b_MD_goes 66 = .ok (.iconst 0, 1) := by decide +kernel
theorem d_MD_goes_67 : decode b_MD_goes 67 = .ok (.ireturn, 1) := by decide +kernel
theorem d_MD_goes_68 : decode b_MD_goes 68 = .ok (.iload_n 1, 1) := by decide +kernel
theorem d_MD_goes_69 : decode b_MD_goes 69 = .ok (.iconst 1, 1) := by decide +kernel
theorem d_MD_goes_70 : decode b_MD_goes 70 = .ok (.if_icmp .ne 31, 3) := by decide +kernel
theorem d_MD_goes_73 : decode b_MD_goes 73 = .ok (.iload 4, 2) := by decide +kernel
theorem d_MD_goes_75 : decode b_MD_goes 75 = .ok (.iconst 2, 1) := by decide +kernel
theorem d_MD_goes_76 : decode b_MD_goes 76 = .ok (.if_icmp .ge 21, 3) := by decide +kernel
theorem d_MD_goes_79 : decode b_MD_goes 79 = .ok (.iload 5, 2) := by decide +kernel
theorem d_MD_goes_81 : decode b_MD_goes 81 = .ok (.iconst 2, 1) := by decide +kernel
theorem d_MD_goes_82 : decode b_MD_goes 82 = .ok (.if_icmp .ge 15, 3) := by decide +kernel
theorem d_MD_goes_85 : decode b_MD_goes 85 = .ok (.iload 4, 2) := by decide +kernel
theorem d_MD_goes_87 : decode b_MD_goes 87 = .ok (.iload 5, 2) := by decide +kernel
theorem d_MD_goes_89 : decode b_MD_goes 89 = .ok (.iadd, 1) := by decide +kernel
theorem d_MD_goes_90 : decode b_MD_goes 90 = .ok (.ifCond .le 7, 3) := by decide +kernel
theorem d_MD_goes_93 : decode b_MD_goes 93 = .ok (.iconst 1, 1) := by decide +kernel
theorem d_MD_goes_94 : decode b_MD_goes 94 = .ok (.goto 21, 3) := by decide +kernel
theorem d_MD_goes_97 : decode b_MD_goes 97 = .ok (.iconst 0, 1) := by decide +kernel
theorem d_MD_goes_98 : decode b_MD_goes 98 = .ok (.goto 17, 3) := by decide +kernel
theorem d_MD_goes_101 : decode b_MD_goes 101 = .ok (.iload 4, 2) := by decide +kernel
theorem d_MD_goes_103 : decode b_MD_goes 103 = .ok (.iload 5, 2) := by decide +kernel
theorem d_MD_goes_105 : decode b_MD_goes 105 = .ok (.iadd, 1) := by decide +kernel
theorem d_MD_goes_106 : decode b_MD_goes 106 = .ok (.iconst 1, 1) := by decide +kernel
theorem d_MD_goes_107 : decode b_MD_goes 107 = .ok (.if_icmp .ne 7, 3) := by decide +kernel
theorem d_MD_goes_110 : decode b_MD_goes 110 = .ok (.iconst 1, 1) := by decide +kernel
theorem d_MD_goes_111 : decode b_MD_goes 111 = .ok (.goto 4, 3) := by decide +kernel
theorem d_MD_goes_114 : decode b_MD_goes 114 = .ok (.iconst 0, 1) := by decide +kernel
theorem d_MD_goes_115 : decode b_MD_goes 115 = .ok (.ireturn, 1) := by decide +kernel
theorem d_MD_apart_0 : decode b_MD_apart 0 = .ok (.iload_n 0, 1) := by decide +kernel
theorem d_MD_apart_1 : decode b_MD_apart 1 = .ok (.iload_n 1, 1) := by decide +kernel
theorem d_MD_apart_2 : decode b_MD_apart 2 = .ok (.if_icmp .le 9, 3) := by decide +kernel
theorem d_MD_apart_5 : decode b_MD_apart 5 = .ok (.iload_n 0, 1) := by decide +kernel
theorem d_MD_apart_6 : decode b_MD_apart 6 = .ok (.iload_n 1, 1) := by decide +kernel
theorem d_MD_apart_7 : decode b_MD_apart 7 = .ok (.isub, 1) := by decide +kernel
theorem d_MD_apart_8 : decode b_MD_apart 8 = .ok (.goto 6, 3) := by decide +kernel
theorem d_MD_apart_11 : decode b_MD_apart 11 = .ok (.iload_n 1, 1) := by decide +kernel
theorem d_MD_apart_12 : decode b_MD_apart 12 = .ok (.iload_n 0, 1) := by decide +kernel
theorem d_MD_apart_13 : decode b_MD_apart 13 = .ok (.isub, 1) := by decide +kernel
theorem d_MD_apart_14 : decode b_MD_apart 14 = .ok (.ireturn, 1) := by decide +kernel
theorem d_MD_nextCell_0 : decode b_MD_nextCell 0 = .ok (.iload_n 3, 1) := by decide +kernel
theorem d_MD_nextCell_1 : decode b_MD_nextCell 1 = .ok (.iconst (-1), 1) := by decide +kernel
theorem d_MD_nextCell_2 : decode b_MD_nextCell 2 = .ok (.if_icmp .ne 7, 3) := by decide +kernel
theorem d_MD_nextCell_5 : decode b_MD_nextCell 5 = .ok (.iconst (-1), 1) := by decide +kernel
theorem d_MD_nextCell_6 : decode b_MD_nextCell 6 = .ok (.goto 9, 3) := by decide +kernel
theorem d_MD_nextCell_9 : decode b_MD_nextCell 9 = .ok (.aload_n 0, 1) := by decide +kernel
theorem d_MD_nextCell_10 : decode b_MD_nextCell 10 = .ok (.iload_n 1, 1) := by decide +kernel
theorem d_MD_nextCell_11 : decode b_MD_nextCell 11 = .ok (.iload_n 3, 1) := by decide +kernel
theorem d_MD_nextCell_12 : decode b_MD_nextCell 12 = .ok (.invokevirtual 76, 3) := by decide +kernel
theorem d_MD_nextCell_15 : decode b_MD_nextCell 15 = .ok (.istore 4, 2) := by decide +kernel
theorem d_MD_nextCell_17 : decode b_MD_nextCell 17 = .ok (.iconst (-1), 1) := by decide +kernel
theorem d_MD_nextCell_18 : decode b_MD_nextCell 18 = .ok (.istore 5, 2) := by decide +kernel
theorem d_MD_nextCell_20 : decode b_MD_nextCell 20 = .ok (.bipush 99, 2) := by decide +kernel
theorem d_MD_nextCell_22 : decode b_MD_nextCell 22 = .ok (.istore 6, 2) := by decide +kernel
theorem d_MD_nextCell_24 : decode b_MD_nextCell 24 = .ok (.iconst 0, 1) := by decide +kernel
theorem d_MD_nextCell_25 : decode b_MD_nextCell 25 = .ok (.istore 7, 2) := by decide +kernel
theorem d_MD_nextCell_27 : decode b_MD_nextCell 27 = .ok (.iload 7, 2) := by decide +kernel
theorem d_MD_nextCell_29 : decode b_MD_nextCell 29 = .ok (.aload_n 0, 1) := by decide +kernel
theorem d_MD_nextCell_30 : decode b_MD_nextCell 30 = .ok (.getfield 49, 3) := by decide +kernel
theorem d_MD_nextCell_33 : decode b_MD_nextCell 33 = .ok (.if_icmp .ge 101, 3) := by decide +kernel
theorem d_MD_nextCell_36 : decode b_MD_nextCell 36 = .ok (.aload_n 0, 1) := by decide +kernel
theorem d_MD_nextCell_37 : decode b_MD_nextCell 37 = .ok (.getfield 7, 3) := by decide +kernel
theorem d_MD_nextCell_40 : decode b_MD_nextCell 40 = .ok (.iload 7, 2) := by decide +kernel
theorem d_MD_nextCell_42 : decode b_MD_nextCell 42 = .ok (.baload, 1) := by decide +kernel
theorem d_MD_nextCell_43 : decode b_MD_nextCell 43 = .ok (.ifCond .ne 85, 3) := by decide +kernel
theorem d_MD_nextCell_46 : decode b_MD_nextCell 46 = .ok (.aload_n 0, 1) := by decide +kernel
theorem d_MD_nextCell_47 : decode b_MD_nextCell 47 = .ok (.getfield 13, 3) := by decide +kernel
theorem d_MD_nextCell_50 : decode b_MD_nextCell 50 = .ok (.iload 7, 2) := by decide +kernel
theorem d_MD_nextCell_52 : decode b_MD_nextCell 52 = .ok (.baload, 1) := by decide +kernel
theorem d_MD_nextCell_53 : decode b_MD_nextCell 53 = .ok (.ifCond .ne 75, 3) := by decide +kernel
theorem d_MD_nextCell_56 : decode b_MD_nextCell 56 = .ok (.aload_n 0, 1) := by decide +kernel
theorem d_MD_nextCell_57 : decode b_MD_nextCell 57 = .ok (.iload_n 1, 1) := by decide +kernel
theorem d_MD_nextCell_58 : decode b_MD_nextCell 58 = .ok (.iload_n 2, 1) := by decide +kernel
theorem d_MD_nextCell_59 : decode b_MD_nextCell 59 = .ok (.iload 7, 2) := by decide +kernel
theorem d_MD_nextCell_61 : decode b_MD_nextCell 61 = .ok (.invokevirtual 72, 3) := by decide +kernel
theorem d_MD_nextCell_64 : decode b_MD_nextCell 64 = .ok (.ifCond .eq 64, 3) := by decide +kernel
theorem d_MD_nextCell_67 : decode b_MD_nextCell 67 = .ok (.aload_n 0, 1) := by decide +kernel
theorem d_MD_nextCell_68 : decode b_MD_nextCell 68 = .ok (.iload_n 1, 1) := by decide +kernel
theorem d_MD_nextCell_69 : decode b_MD_nextCell 69 = .ok (.iload 7, 2) := by decide +kernel
theorem d_MD_nextCell_71 : decode b_MD_nextCell 71 = .ok (.invokevirtual 76, 3) := by decide +kernel
theorem d_MD_nextCell_74 : decode b_MD_nextCell 74 = .ok (.istore 8, 2) := by decide +kernel
theorem d_MD_nextCell_76 : decode b_MD_nextCell 76 = .ok (.iload_n 3, 1) := by decide +kernel
theorem d_MD_nextCell_77 : decode b_MD_nextCell 77 = .ok (.iconst (-1), 1) := by decide +kernel
theorem d_MD_nextCell_78 : decode b_MD_nextCell 78 = .ok (.if_icmp .eq 23, 3) := by decide +kernel
theorem d_MD_nextCell_81 : decode b_MD_nextCell 81 = .ok (.iload 8, 2) := by decide +kernel
theorem d_MD_nextCell_83 : decode b_MD_nextCell 83 = .ok (.iload 4, 2) := by decide +kernel
theorem d_MD_nextCell_85 : decode b_MD_nextCell 85 = .ok (.if_icmp .gt 16, 3) := by decide +kernel
theorem d_MD_nextCell_88 : decode b_MD_nextCell 88 = .ok (.iload 8, 2) := by decide +kernel
theorem d_MD_nextCell_90 : decode b_MD_nextCell 90 = .ok (.iload 4, 2) := by decide +kernel
theorem d_MD_nextCell_92 : decode b_MD_nextCell 92 = .ok (.if_icmp .ne 13, 3) := by decide +kernel
theorem d_MD_nextCell_95 : decode b_MD_nextCell 95 = .ok (.iload 7, 2) := by decide +kernel
theorem d_MD_nextCell_97 : decode b_MD_nextCell 97 = .ok (.iload_n 3, 1) := by decide +kernel
theorem d_MD_nextCell_98 : decode b_MD_nextCell 98 = .ok (.if_icmp .le 7, 3) := by decide +kernel
theorem d_MD_nextCell_101 : decode b_MD_nextCell 101 = .ok (.iconst 1, 1) := by decide +kernel
theorem d_MD_nextCell_102 : decode b_MD_nextCell 102 = .ok (.goto 4, 3) := by decide +kernel
theorem d_MD_nextCell_105 : decode b_MD_nextCell 105 = .ok (.iconst 0, 1) := by decide +kernel
theorem d_MD_nextCell_106 : decode b_MD_nextCell 106 = .ok (.istore 9, 2) := by decide +kernel
theorem d_MD_nextCell_108 : decode b_MD_nextCell 108 = .ok (.iload 9, 2) := by decide +kernel
theorem d_MD_nextCell_110 : decode b_MD_nextCell 110 = .ok (.ifCond .eq 18, 3) := by decide +kernel
theorem d_MD_nextCell_113 : decode b_MD_nextCell 113 = .ok (.iload 8, 2) := by decide +kernel
theorem d_MD_nextCell_115 : decode b_MD_nextCell 115 = .ok (.iload 6, 2) := by decide +kernel
theorem d_MD_nextCell_117 : decode b_MD_nextCell 117 = .ok (.if_icmp .ge 11, 3) := by decide +kernel
theorem d_MD_nextCell_120 : decode b_MD_nextCell 120 = .ok (.iload 8, 2) := by decide +kernel
theorem d_MD_nextCell_122 : decode b_MD_nextCell 122 = .ok (.istore 6, 2) := by decide +kernel
theorem d_MD_nextCell_124 : decode b_MD_nextCell 124 = .ok (.iload 7, 2) := by decide +kernel
theorem d_MD_nextCell_126 : decode b_MD_nextCell 126 = .ok (.istore 5, 2) := by decide +kernel
theorem d_MD_nextCell_128 : decode b_MD_nextCell 128 = .ok (.iinc 7 1, 3) := by decide +kernel
theorem d_MD_nextCell_131 : decode b_MD_nextCell 131 = .ok (.goto (-104), 3) := by decide +kernel
theorem d_MD_nextCell_134 : decode b_MD_nextCell 134 = .ok (.iload 5, 2) := by decide +kernel
theorem d_MD_nextCell_136 : decode b_MD_nextCell 136 = .ok (.ireturn, 1) := by decide +kernel
theorem d_MD_waysOn_0 : decode b_MD_waysOn 0 = .ok (.iconst 0, 1) := by decide +kernel
theorem d_MD_waysOn_1 : decode b_MD_waysOn 1 = .ok (.istore_n 3, 1) := by decide +kernel
theorem d_MD_waysOn_2 : decode b_MD_waysOn 2 = .ok (.iconst 0, 1) := by decide +kernel
theorem d_MD_waysOn_3 : decode b_MD_waysOn 3 = .ok (.istore 4, 2) := by decide +kernel
theorem d_MD_waysOn_5 : decode b_MD_waysOn 5 = .ok (.iload 4, 2) := by decide +kernel
theorem d_MD_waysOn_7 : decode b_MD_waysOn 7 = .ok (.aload_n 0, 1) := by decide +kernel
theorem d_MD_waysOn_8 : decode b_MD_waysOn 8 = .ok (.getfield 49, 3) := by decide +kernel
theorem d_MD_waysOn_11 : decode b_MD_waysOn 11 = .ok (.if_icmp .ge 43, 3) := by decide +kernel
theorem d_MD_waysOn_14 : decode b_MD_waysOn 14 = .ok (.aload_n 0, 1) := by decide +kernel
theorem d_MD_waysOn_15 : decode b_MD_waysOn 15 = .ok (.getfield 7, 3) := by decide +kernel
theorem d_MD_waysOn_18 : decode b_MD_waysOn 18 = .ok (.iload 4, 2) := by decide +kernel
theorem d_MD_waysOn_20 : decode b_MD_waysOn 20 = .ok (.baload, 1) := by decide +kernel
theorem d_MD_waysOn_21 : decode b_MD_waysOn 21 = .ok (.ifCond .ne 27, 3) := by decide +kernel
theorem d_MD_waysOn_24 : decode b_MD_waysOn 24 = .ok (.aload_n 0, 1) := by decide +kernel
theorem d_MD_waysOn_25 : decode b_MD_waysOn 25 = .ok (.getfield 13, 3) := by decide +kernel
theorem d_MD_waysOn_28 : decode b_MD_waysOn 28 = .ok (.iload 4, 2) := by decide +kernel
theorem d_MD_waysOn_30 : decode b_MD_waysOn 30 = .ok (.baload, 1) := by decide +kernel
theorem d_MD_waysOn_31 : decode b_MD_waysOn 31 = .ok (.ifCond .ne 17, 3) := by decide +kernel
theorem d_MD_waysOn_34 : decode b_MD_waysOn 34 = .ok (.aload_n 0, 1) := by decide +kernel
theorem d_MD_waysOn_35 : decode b_MD_waysOn 35 = .ok (.iload_n 1, 1) := by decide +kernel
theorem d_MD_waysOn_36 : decode b_MD_waysOn 36 = .ok (.iload_n 2, 1) := by decide +kernel
theorem d_MD_waysOn_37 : decode b_MD_waysOn 37 = .ok (.iload 4, 2) := by decide +kernel
theorem d_MD_waysOn_39 : decode b_MD_waysOn 39 = .ok (.invokevirtual 72, 3) := by decide +kernel
theorem d_MD_waysOn_42 : decode b_MD_waysOn 42 = .ok (.ifCond .eq 6, 3) := by decide +kernel
theorem d_MD_waysOn_45 : decode b_MD_waysOn 45 = .ok (.iinc 3 1, 3) := by decide +kernel
theorem d_MD_waysOn_48 : decode b_MD_waysOn 48 = .ok (.iinc 4 1, 3) := by decide +kernel
theorem d_MD_waysOn_51 : decode b_MD_waysOn 51 = .ok (.goto (-46), 3) := by decide +kernel
theorem d_MD_waysOn_54 : decode b_MD_waysOn 54 = .ok (.iload_n 3, 1) := by decide +kernel
theorem d_MD_waysOn_55 : decode b_MD_waysOn 55 = .ok (.ireturn, 1) := by decide +kernel
theorem d_MD_at_0 : decode b_MD_at 0 = .ok (.aload_n 0, 1) := by decide +kernel
theorem d_MD_at_1 : decode b_MD_at 1 = .ok (.iconst 0, 1) := by decide +kernel
theorem d_MD_at_2 : decode b_MD_at 2 = .ok (.putfield 55, 3) := by decide +kernel
theorem d_MD_at_5 : decode b_MD_at 5 = .ok (.iload_n 1, 1) := by decide +kernel
theorem d_MD_at_6 : decode b_MD_at 6 = .ok (.ifCond .lt 11, 3) := by decide +kernel
theorem d_MD_at_9 : decode b_MD_at 9 = .ok (.iload_n 1, 1) := by decide +kernel
theorem d_MD_at_10 : decode b_MD_at 10 = .ok (.aload_n 0, 1) := by decide +kernel
theorem d_MD_at_11 : decode b_MD_at 11 = .ok (.getfield 62, 3) := by decide +kernel
theorem d_MD_at_14 : decode b_MD_at 14 = .ok (.if_icmp .lt 7, 3) := by decide +kernel
theorem d_MD_at_17 : decode b_MD_at 17 = .ok (.iconst (-1), 1) := by decide +kernel
theorem d_MD_at_18 : decode b_MD_at 18 = .ok (.goto 9, 3) := by decide +kernel
theorem d_MD_at_21 : decode b_MD_at 21 = .ok (.aload_n 0, 1) := by decide +kernel
theorem d_MD_at_22 : decode b_MD_at 22 = .ok (.getfield 16, 3) := by decide +kernel
theorem d_MD_at_25 : decode b_MD_at 25 = .ok (.iload_n 1, 1) := by decide +kernel
theorem d_MD_at_26 : decode b_MD_at 26 = .ok (.iaload, 1) := by decide +kernel
theorem d_MD_at_27 : decode b_MD_at 27 = .ok (.ireturn, 1) := by decide +kernel
theorem d_MD_steps_0 : decode b_MD_steps 0 = .ok (.aload_n 0, 1) := by decide +kernel
theorem d_MD_steps_1 : decode b_MD_steps 1 = .ok (.iconst 0, 1) := by decide +kernel
theorem d_MD_steps_2 : decode b_MD_steps 2 = .ok (.putfield 55, 3) := by decide +kernel
theorem d_MD_steps_5 : decode b_MD_steps 5 = .ok (.aload_n 0, 1) := by decide +kernel
theorem d_MD_steps_6 : decode b_MD_steps 6 = .ok (.getfield 87, 3) := by decide +kernel
theorem d_MD_steps_9 : decode b_MD_steps 9 = .ok (.ireturn, 1) := by decide +kernel
theorem d_MD_ways_0 : decode b_MD_ways 0 = .ok (.aload_n 0, 1) := by decide +kernel
theorem d_MD_ways_1 : decode b_MD_ways 1 = .ok (.iconst 0, 1) := by decide +kernel
theorem d_MD_ways_2 : decode b_MD_ways 2 = .ok (.putfield 55, 3) := by decide +kernel
theorem d_MD_ways_5 : decode b_MD_ways 5 = .ok (.iload_n 1, 1) := by decide +kernel
theorem d_MD_ways_6 : decode b_MD_ways 6 = .ok (.ifCond .lt 20, 3) := by decide +kernel
theorem d_MD_ways_9 : decode b_MD_ways 9 = .ok (.iload_n 1, 1) := by decide +kernel
theorem d_MD_ways_10 : decode b_MD_ways 10 = .ok (.iconst 2, 1) := by decide +kernel
theorem d_MD_ways_11 : decode b_MD_ways 11 = .ok (.if_icmp .gt 15, 3) := by decide +kernel
theorem d_MD_ways_14 : decode b_MD_ways 14 = .ok (.iload_n 2, 1) := by decide +kernel
theorem d_MD_ways_15 : decode b_MD_ways 15 = .ok (.ifCond .lt 11, 3) := by decide +kernel
theorem d_MD_ways_18 : decode b_MD_ways 18 = .ok (.iload_n 2, 1) := by decide +kernel
theorem d_MD_ways_19 : decode b_MD_ways 19 = .ok (.aload_n 0, 1) := by decide +kernel
theorem d_MD_ways_20 : decode b_MD_ways 20 = .ok (.getfield 49, 3) := by decide +kernel
theorem d_MD_ways_23 : decode b_MD_ways 23 = .ok (.if_icmp .lt 5, 3) := by decide +kernel
theorem d_MD_ways_26 : decode b_MD_ways 26 = .ok (.iconst (-1), 1) := by decide +kernel
theorem d_MD_ways_27 : decode b_MD_ways 27 = .ok (.ireturn, 1) := by decide +kernel
theorem d_MD_ways_28 : decode b_MD_ways 28 = .ok (.iconst 0, 1) := by decide +kernel
theorem d_MD_ways_29 : decode b_MD_ways 29 = .ok (.istore_n 3, 1) := by decide +kernel
theorem d_MD_ways_30 : decode b_MD_ways 30 = .ok (.iconst 0, 1) := by decide +kernel
theorem d_MD_ways_31 : decode b_MD_ways 31 = .ok (.istore 4, 2) := by decide +kernel
theorem d_MD_ways_33 : decode b_MD_ways 33 = .ok (.iload 4, 2) := by decide +kernel
theorem d_MD_ways_35 : decode b_MD_ways 35 = .ok (.aload_n 0, 1) := by decide +kernel
theorem d_MD_ways_36 : decode b_MD_ways 36 = .ok (.getfield 49, 3) := by decide +kernel
theorem d_MD_ways_39 : decode b_MD_ways 39 = .ok (.if_icmp .ge 33, 3) := by decide +kernel
theorem d_MD_ways_42 : decode b_MD_ways 42 = .ok (.aload_n 0, 1) := by decide +kernel
theorem d_MD_ways_43 : decode b_MD_ways 43 = .ok (.getfield 7, 3) := by decide +kernel
theorem d_MD_ways_46 : decode b_MD_ways 46 = .ok (.iload 4, 2) := by decide +kernel
theorem d_MD_ways_48 : decode b_MD_ways 48 = .ok (.baload, 1) := by decide +kernel
theorem d_MD_ways_49 : decode b_MD_ways 49 = .ok (.ifCond .ne 17, 3) := by decide +kernel
theorem d_MD_ways_52 : decode b_MD_ways 52 = .ok (.aload_n 0, 1) := by decide +kernel
theorem d_MD_ways_53 : decode b_MD_ways 53 = .ok (.iload_n 1, 1) := by decide +kernel
theorem d_MD_ways_54 : decode b_MD_ways 54 = .ok (.iload_n 2, 1) := by decide +kernel
theorem d_MD_ways_55 : decode b_MD_ways 55 = .ok (.iload 4, 2) := by decide +kernel
theorem d_MD_ways_57 : decode b_MD_ways 57 = .ok (.invokevirtual 72, 3) := by decide +kernel
theorem d_MD_ways_60 : decode b_MD_ways 60 = .ok (.ifCond .eq 6, 3) := by decide +kernel
theorem d_MD_ways_63 : decode b_MD_ways 63 = .ok (.iinc 3 1, 3) := by decide +kernel
theorem d_MD_ways_66 : decode b_MD_ways 66 = .ok (.iinc 4 1, 3) := by decide +kernel
theorem d_MD_ways_69 : decode b_MD_ways 69 = .ok (.goto (-36), 3) := by decide +kernel
theorem d_MD_ways_72 : decode b_MD_ways 72 = .ok (.iload_n 3, 1) := by decide +kernel
theorem d_MD_ways_73 : decode b_MD_ways 73 = .ok (.ireturn, 1) := by decide +kernel
theorem d_MD_queens_0 : decode b_MD_queens 0 = .ok (.aload_n 0, 1) := by decide +kernel
theorem d_MD_queens_1 : decode b_MD_queens 1 = .ok (.iconst 0, 1) := by decide +kernel
theorem d_MD_queens_2 : decode b_MD_queens 2 = .ok (.putfield 55, 3) := by decide +kernel
theorem d_MD_queens_5 : decode b_MD_queens 5 = .ok (.aload_n 0, 1) := by decide +kernel
theorem d_MD_queens_6 : decode b_MD_queens 6 = .ok (.bipush (-2), 2) := by decide +kernel
theorem d_MD_queens_8 : decode b_MD_queens 8 = .ok (.invokevirtual 99, 3) := by decide +kernel
theorem d_MD_queens_11 : decode b_MD_queens 11 = .ok (.ireturn, 1) := by decide +kernel
theorem d_MD_goThrough_0 : decode b_MD_goThrough 0 = .ok (.iconst 0, 1) := by decide +kernel
theorem d_MD_goThrough_1 : decode b_MD_goThrough 1 = .ok (.istore_n 2, 1) := by decide +kernel
theorem d_MD_goThrough_2 : decode b_MD_goThrough 2 = .ok (.iconst 0, 1) := by decide +kernel
theorem d_MD_goThrough_3 : decode b_MD_goThrough 3 = .ok (.istore_n 3, 1) := by decide +kernel
theorem d_MD_goThrough_4 : decode b_MD_goThrough 4 = .ok (.aload_n 0, 1) := by decide +kernel
theorem d_MD_goThrough_5 : decode b_MD_goThrough 5 = .ok (.getfield 20, 3) := by decide +kernel
theorem d_MD_goThrough_8 : decode b_MD_goThrough 8 = .ok (.iconst 0, 1) := by decide +kernel
theorem d_MD_goThrough_9 : decode b_MD_goThrough 9 = .ok (.iconst (-1), 1) := by decide +kernel
theorem d_MD_goThrough_10 : decode b_MD_goThrough 10 = .ok (.iastore, 1) := by decide +kernel
theorem d_MD_goThrough_11 : decode b_MD_goThrough 11 = .ok (.iload_n 3, 1) := by decide +kernel
theorem d_MD_goThrough_12 : decode b_MD_goThrough 12 = .ok (.ifCond .lt 113, 3) := by decide +kernel
theorem d_MD_goThrough_15 : decode b_MD_goThrough 15 = .ok (.iload_n 2, 1) := by decide +kernel
theorem d_MD_goThrough_16 : decode b_MD_goThrough 16 = .ok (.iload_n 1, 1) := by decide +kernel
theorem d_MD_goThrough_17 : decode b_MD_goThrough 17 = .ok (.iconst 1, 1) := by decide +kernel
theorem d_MD_goThrough_18 : decode b_MD_goThrough 18 = .ok (.iadd, 1) := by decide +kernel
theorem d_MD_goThrough_19 : decode b_MD_goThrough 19 = .ok (.if_icmp .eq 106, 3) := by decide +kernel
theorem d_MD_goThrough_22 : decode b_MD_goThrough 22 = .ok (.aload_n 0, 1) := by decide +kernel
theorem d_MD_goThrough_23 : decode b_MD_goThrough 23 = .ok (.getfield 20, 3) := by decide +kernel
theorem d_MD_goThrough_26 : decode b_MD_goThrough 26 = .ok (.iload_n 3, 1) := by decide +kernel
theorem d_MD_goThrough_27 : decode b_MD_goThrough 27 = .ok (.dup2, 1) := by decide +kernel
theorem d_MD_goThrough_28 : decode b_MD_goThrough 28 = .ok (.iaload, 1) := by decide +kernel
theorem d_MD_goThrough_29 : decode b_MD_goThrough 29 = .ok (.iconst 1, 1) := by decide +kernel
theorem d_MD_goThrough_30 : decode b_MD_goThrough 30 = .ok (.iadd, 1) := by decide +kernel
theorem d_MD_goThrough_31 : decode b_MD_goThrough 31 = .ok (.iastore, 1) := by decide +kernel
theorem d_MD_goThrough_32 : decode b_MD_goThrough 32 = .ok (.aload_n 0, 1) := by decide +kernel
theorem d_MD_goThrough_33 : decode b_MD_goThrough 33 = .ok (.getfield 20, 3) := by decide +kernel
theorem d_MD_goThrough_36 : decode b_MD_goThrough 36 = .ok (.iload_n 3, 1) := by decide +kernel
theorem d_MD_goThrough_37 : decode b_MD_goThrough 37 = .ok (.iaload, 1) := by decide +kernel
theorem d_MD_goThrough_38 : decode b_MD_goThrough 38 = .ok (.aload_n 0, 1) := by decide +kernel
theorem d_MD_goThrough_39 : decode b_MD_goThrough 39 = .ok (.getfield 46, 3) := by decide +kernel
theorem d_MD_goThrough_42 : decode b_MD_goThrough 42 = .ok (.if_icmp .ne 9, 3) := by decide +kernel
theorem d_MD_goThrough_45 : decode b_MD_goThrough 45 = .ok (.iinc 3 (-1), 3) := by decide +kernel
theorem d_MD_goThrough_48 : decode b_MD_goThrough 48 = .ok (.goto (-37), 3) := by decide +kernel
theorem d_MD_goThrough_51 : decode b_MD_goThrough 51 = .ok (.aload_n 0, 1) := by decide +kernel
theorem d_MD_goThrough_52 : decode b_MD_goThrough 52 = .ok (.iload_n 3, 1) := by decide +kernel
theorem d_MD_goThrough_53 : decode b_MD_goThrough 53 = .ok (.invokevirtual 95, 3) := by decide +kernel
theorem d_MD_goThrough_56 : decode b_MD_goThrough 56 = .ok (.ifCond .eq (-45), 3) := by decide +kernel
theorem d_MD_goThrough_59 : decode b_MD_goThrough 59 = .ok (.iload_n 3, 1) := by decide +kernel
theorem d_MD_goThrough_60 : decode b_MD_goThrough 60 = .ok (.iconst 1, 1) := by decide +kernel
theorem d_MD_goThrough_61 : decode b_MD_goThrough 61 = .ok (.iadd, 1) := by decide +kernel
theorem d_MD_goThrough_62 : decode b_MD_goThrough 62 = .ok (.aload_n 0, 1) := by decide +kernel
