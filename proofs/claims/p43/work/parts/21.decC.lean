theorem dX0_init_0 : decode cX0_init 0 = .ok (.aload_n 0, 1) := by decide +kernel
theorem dX0_init_1 : decode cX0_init 1 = .ok (.invokespecial 3, 3) := by decide +kernel
theorem dX0_init_4 : decode cX0_init 4 = .ok (.aload_n 0, 1) := by decide +kernel
theorem dX0_init_5 : decode cX0_init 5 = .ok (.iload_n 1, 1) := by decide +kernel
theorem dX0_init_6 : decode cX0_init 6 = .ok (.putfield 9, 3) := by decide +kernel
theorem dX0_init_9 : decode cX0_init 9 = .ok (.aload_n 0, 1) := by decide +kernel
theorem dX0_init_10 : decode cX0_init 10 = .ok (.iload_n 2, 1) := by decide +kernel
theorem dX0_init_11 : decode cX0_init 11 = .ok (.putfield 15, 3) := by decide +kernel
theorem dX0_init_14 : decode cX0_init 14 = .ok (.aload_n 0, 1) := by decide +kernel
theorem dX0_init_15 : decode cX0_init 15 = .ok (.iload_n 3, 1) := by decide +kernel
theorem dX0_init_16 : decode cX0_init 16 = .ok (.putfield 18, 3) := by decide +kernel
theorem dX0_init_19 : decode cX0_init 19 = .ok (.aload_n 0, 1) := by decide +kernel
theorem dX0_init_20 : decode cX0_init 20 = .ok (.iload 4, 2) := by decide +kernel
theorem dX0_init_22 : decode cX0_init 22 = .ok (.putfield 21, 3) := by decide +kernel
theorem dX0_init_25 : decode cX0_init 25 = .ok (.aload_n 0, 1) := by decide +kernel
theorem dX0_init_26 : decode cX0_init 26 = .ok (.iload 5, 2) := by decide +kernel
theorem dX0_init_28 : decode cX0_init 28 = .ok (.putfield 24, 3) := by decide +kernel
theorem dX0_init_31 : decode cX0_init 31 = .ok (.return_, 1) := by decide +kernel
theorem dX0_rank_0 : decode cX0_rank 0 = .ok (.aload_n 0, 1) := by decide +kernel
theorem dX0_rank_1 : decode cX0_rank 1 = .ok (.getfield 27, 3) := by decide +kernel
theorem dX0_rank_4 : decode cX0_rank 4 = .ok (.iconst 4, 1) := by decide +kernel
theorem dX0_rank_5 : decode cX0_rank 5 = .ok (.imul, 1) := by decide +kernel
theorem dX0_rank_6 : decode cX0_rank 6 = .ok (.aload_n 0, 1) := by decide +kernel
theorem dX0_rank_7 : decode cX0_rank 7 = .ok (.getfield 30, 3) := by decide +kernel
theorem dX0_rank_10 : decode cX0_rank 10 = .ok (.iadd, 1) := by decide +kernel
theorem dX0_rank_11 : decode cX0_rank 11 = .ok (.ireturn, 1) := by decide +kernel
theorem dX1_init_0 : decode cX1_init 0 = .ok (.aload_n 0, 1) := by decide +kernel
theorem dX1_init_1 : decode cX1_init 1 = .ok (.invokespecial 3, 3) := by decide +kernel
theorem dX1_init_4 : decode cX1_init 4 = .ok (.aload_n 0, 1) := by decide +kernel
theorem dX1_init_5 : decode cX1_init 5 = .ok (.bipush 12, 2) := by decide +kernel
theorem dX1_init_7 : decode cX1_init 7 = .ok (.newarray .int, 2) := by decide +kernel
theorem dX1_init_9 : decode cX1_init 9 = .ok (.putfield 9, 3) := by decide +kernel
theorem dX1_init_12 : decode cX1_init 12 = .ok (.aload_n 0, 1) := by decide +kernel
theorem dX1_init_13 : decode cX1_init 13 = .ok (.aload_n 1, 1) := by decide +kernel
theorem dX1_init_14 : decode cX1_init 14 = .ok (.putfield 15, 3) := by decide +kernel
theorem dX1_init_17 : decode cX1_init 17 = .ok (.return_, 1) := by decide +kernel
theorem dX1_put_0 : decode cX1_put 0 = .ok (.aload_n 0, 1) := by decide +kernel
theorem dX1_put_1 : decode cX1_put 1 = .ok (.getfield 19, 3) := by decide +kernel
theorem dX1_put_4 : decode cX1_put 4 = .ok (.aload_n 0, 1) := by decide +kernel
theorem dX1_put_5 : decode cX1_put 5 = .ok (.getfield 9, 3) := by decide +kernel
theorem dX1_put_8 : decode cX1_put 8 = .ok (.arraylength, 1) := by decide +kernel
theorem dX1_put_9 : decode cX1_put 9 = .ok (.if_icmp .ge 23, 3) := by decide +kernel
theorem dX1_put_12 : decode cX1_put 12 = .ok (.aload_n 0, 1) := by decide +kernel
theorem dX1_put_13 : decode cX1_put 13 = .ok (.getfield 9, 3) := by decide +kernel
theorem dX1_put_16 : decode cX1_put 16 = .ok (.aload_n 0, 1) := by decide +kernel
theorem dX1_put_17 : decode cX1_put 17 = .ok (.getfield 19, 3) := by decide +kernel
theorem dX1_put_20 : decode cX1_put 20 = .ok (.iload_n 1, 1) := by decide +kernel
theorem dX1_put_21 : decode cX1_put 21 = .ok (.iastore, 1) := by decide +kernel
theorem dX1_put_22 : decode cX1_put 22 = .ok (.aload_n 0, 1) := by decide +kernel
theorem dX1_put_23 : decode cX1_put 23 = .ok (.dup, 1) := by decide +kernel
theorem dX1_put_24 : decode cX1_put 24 = .ok (.getfield 19, 3) := by decide +kernel
theorem dX1_put_27 : decode cX1_put 27 = .ok (.iconst 1, 1) := by decide +kernel
theorem dX1_put_28 : decode cX1_put 28 = .ok (.iadd, 1) := by decide +kernel
theorem dX1_put_29 : decode cX1_put 29 = .ok (.putfield 19, 3) := by decide +kernel
theorem dX1_put_32 : decode cX1_put 32 = .ok (.aload_n 0, 1) := by decide +kernel
theorem dX1_put_33 : decode cX1_put 33 = .ok (.getfield 19, 3) := by decide +kernel
theorem dX1_put_36 : decode cX1_put 36 = .ok (.ireturn, 1) := by decide +kernel
theorem dX1_take_0 : decode cX1_take 0 = .ok (.aload_n 0, 1) := by decide +kernel
theorem dX1_take_1 : decode cX1_take 1 = .ok (.getfield 9, 3) := by decide +kernel
theorem dX1_take_4 : decode cX1_take 4 = .ok (.aload_n 0, 1) := by decide +kernel
theorem dX1_take_5 : decode cX1_take 5 = .ok (.getfield 19, 3) := by decide +kernel
theorem dX1_take_8 : decode cX1_take 8 = .ok (.invokestatic 23, 3) := by decide +kernel
theorem dX1_take_11 : decode cX1_take 11 = .ok (.astore_n 1, 1) := by decide +kernel
theorem dX1_take_12 : decode cX1_take 12 = .ok (.aload_n 0, 1) := by decide +kernel
theorem dX1_take_13 : decode cX1_take 13 = .ok (.iconst 0, 1) := by decide +kernel
theorem dX1_take_14 : decode cX1_take 14 = .ok (.putfield 19, 3) := by decide +kernel
theorem dX1_take_17 : decode cX1_take 17 = .ok (.aload_n 1, 1) := by decide +kernel
theorem dX1_take_18 : decode cX1_take 18 = .ok (.areturn, 1) := by decide +kernel
theorem dX1_fits_0 : decode cX1_fits 0 = .ok (.iconst 0, 1) := by decide +kernel
theorem dX1_fits_1 : decode cX1_fits 1 = .ok (.istore_n 2, 1) := by decide +kernel
theorem dX1_fits_2 : decode cX1_fits 2 = .ok (.iconst 0, 1) := by decide +kernel
theorem dX1_fits_3 : decode cX1_fits 3 = .ok (.istore_n 3, 1) := by decide +kernel
theorem dX1_fits_4 : decode cX1_fits 4 = .ok (.iload_n 3, 1) := by decide +kernel
theorem dX1_fits_5 : decode cX1_fits 5 = .ok (.aload_n 0, 1) := by decide +kernel
theorem dX1_fits_6 : decode cX1_fits 6 = .ok (.getfield 19, 3) := by decide +kernel
theorem dX1_fits_9 : decode cX1_fits 9 = .ok (.if_icmp .ge 87, 3) := by decide +kernel
theorem dX1_fits_12 : decode cX1_fits 12 = .ok (.aload_n 0, 1) := by decide +kernel
theorem dX1_fits_13 : decode cX1_fits 13 = .ok (.getfield 9, 3) := by decide +kernel
theorem dX1_fits_16 : decode cX1_fits 16 = .ok (.iload_n 3, 1) := by decide +kernel
theorem dX1_fits_17 : decode cX1_fits 17 = .ok (.iaload, 1) := by decide +kernel
theorem dX1_fits_18 : decode cX1_fits 18 = .ok (.sipush 1000, 3) := by decide +kernel
theorem dX1_fits_21 : decode cX1_fits 21 = .ok (.idiv, 1) := by decide +kernel
theorem dX1_fits_22 : decode cX1_fits 22 = .ok (.istore 4, 2) := by decide +kernel
theorem dX1_fits_24 : decode cX1_fits 24 = .ok (.iload_n 2, 1) := by decide +kernel
theorem dX1_fits_25 : decode cX1_fits 25 = .ok (.iload 4, 2) := by decide +kernel
theorem dX1_fits_27 : decode cX1_fits 27 = .ok (.ishr, 1) := by decide +kernel
theorem dX1_fits_28 : decode cX1_fits 28 = .ok (.iconst 1, 1) := by decide +kernel
theorem dX1_fits_29 : decode cX1_fits 29 = .ok (.iand, 1) := by decide +kernel
theorem dX1_fits_30 : decode cX1_fits 30 = .ok (.iconst 1, 1) := by decide +kernel
theorem dX1_fits_31 : decode cX1_fits 31 = .ok (.if_icmp .ne 7, 3) := by decide +kernel
theorem dX1_fits_34 : decode cX1_fits 34 = .ok (.iconst 1, 1) := by decide +kernel
theorem dX1_fits_35 : decode cX1_fits 35 = .ok (.goto 4, 3) := by decide +kernel
theorem dX1_fits_38 : decode cX1_fits 38 = .ok (.iconst 0, 1) := by decide +kernel
theorem dX1_fits_39 : decode cX1_fits 39 = .ok (.istore 5, 2) := by decide +kernel
theorem dX1_fits_41 : decode cX1_fits 41 = .ok (.aload_n 0, 1) := by decide +kernel
theorem dX1_fits_42 : decode cX1_fits 42 = .ok (.getfield 15, 3) := by decide +kernel
theorem dX1_fits_45 : decode cX1_fits 45 = .ok (.iload_n 1, 1) := by decide +kernel
theorem dX1_fits_46 : decode cX1_fits 46 = .ok (.iload 4, 2) := by decide +kernel
theorem dX1_fits_48 : decode cX1_fits 48 = .ok (.invokevirtual 29, 3) := by decide +kernel
theorem dX1_fits_51 : decode cX1_fits 51 = .ok (.ifCond .eq 20, 3) := by decide +kernel
theorem dX1_fits_54 : decode cX1_fits 54 = .ok (.iload 5, 2) := by decide +kernel
theorem dX1_fits_56 : decode cX1_fits 56 = .ok (.ifCond .eq 17, 3) := by decide +kernel
theorem dX1_fits_59 : decode cX1_fits 59 = .ok (.aload_n 0, 1) := by decide +kernel
theorem dX1_fits_60 : decode cX1_fits 60 = .ok (.getfield 15, 3) := by decide +kernel
theorem dX1_fits_63 : decode cX1_fits 63 = .ok (.iload 4, 2) := by decide +kernel
theorem dX1_fits_65 : decode cX1_fits 65 = .ok (.invokevirtual 35, 3) := by decide +kernel
theorem dX1_fits_68 : decode cX1_fits 68 = .ok (.ifCond .eq 5, 3) := by decide +kernel
theorem dX1_fits_71 : decode cX1_fits 71 = .ok (.iconst 0, 1) := by decide +kernel
theorem dX1_fits_72 : decode cX1_fits 72 = .ok (.ireturn, 1) := by decide +kernel
theorem dX1_fits_73 : decode cX1_fits 73 = .ok (.aload_n 0, 1) := by decide +kernel
theorem dX1_fits_74 : decode cX1_fits 74 = .ok (.iload_n 3, 1) := by decide +kernel
theorem dX1_fits_75 : decode cX1_fits 75 = .ok (.invokevirtual 39, 3) := by decide +kernel
theorem dX1_fits_78 : decode cX1_fits 78 = .ok (.ifCond .eq 5, 3) := by decide +kernel
theorem dX1_fits_81 : decode cX1_fits 81 = .ok (.iconst 0, 1) := by decide +kernel
theorem dX1_fits_82 : decode cX1_fits 82 = .ok (.ireturn, 1) := by decide +kernel
theorem dX1_fits_83 : decode cX1_fits 83 = .ok (.iload_n 2, 1) := by decide +kernel
theorem dX1_fits_84 : decode cX1_fits 84 = .ok (.iconst 1, 1) := by decide +kernel
theorem dX1_fits_85 : decode cX1_fits 85 = .ok (.iload 4, 2) := by decide +kernel
theorem dX1_fits_87 : decode cX1_fits 87 = .ok (.ishl, 1) := by decide +kernel
theorem dX1_fits_88 : decode cX1_fits 88 = .ok (.ior, 1) := by decide +kernel
theorem dX1_fits_89 : decode cX1_fits 89 = .ok (.istore_n 2, 1) := by decide +kernel
theorem dX1_fits_90 : decode cX1_fits 90 = .ok (.iinc 3 1, 3) := by decide +kernel
theorem dX1_fits_93 : decode cX1_fits 93 = .ok (.goto (-89), 3) := by decide +kernel
theorem dX1_fits_96 : decode cX1_fits 96 = .ok (.aload_n 0, 1) := by decide +kernel
theorem dX1_fits_97 : decode cX1_fits 97 = .ok (.getfield 15, 3) := by decide +kernel
theorem dX1_fits_100 : decode cX1_fits 100 = .ok (.iload_n 1, 1) := by decide +kernel
theorem dX1_fits_101 : decode cX1_fits 101 = .ok (.invokevirtual 42, 3) := by decide +kernel
theorem dX1_fits_104 : decode cX1_fits 104 = .ok (.iload_n 2, 1) := by decide +kernel
theorem dX1_fits_105 : decode cX1_fits 105 = .ok (.iconst (-1), 1) := by decide +kernel
theorem dX1_fits_106 : decode cX1_fits 106 = .ok (.ixor, 1) := by decide +kernel
theorem dX1_fits_107 : decode cX1_fits 107 = .ok (.iand, 1) := by decide +kernel
theorem dX1_fits_108 : decode cX1_fits 108 = .ok (.ifCond .ne 7, 3) := by decide +kernel
theorem dX1_fits_111 : decode cX1_fits 111 = .ok (.iconst 1, 1) := by decide +kernel
theorem dX1_fits_112 : decode cX1_fits 112 = .ok (.goto 4, 3) := by decide +kernel
theorem dX1_fits_115 : decode cX1_fits 115 = .ok (.iconst 0, 1) := by decide +kernel
theorem dX1_fits_116 : decode cX1_fits 116 = .ok (.ireturn, 1) := by decide +kernel
theorem dX1_isMatchedBefore_0 : decode cX1_isMatchedBefore 0 = .ok (.aload_n 0, 1) := by decide +kernel
theorem dX1_isMatchedBefore_1 : decode cX1_isMatchedBefore 1 = .ok (.getfield 9, 3) := by decide +kernel
theorem dX1_isMatchedBefore_4 : decode cX1_isMatchedBefore 4 = .ok (.iload_n 1, 1) := by decide +kernel
theorem dX1_isMatchedBefore_5 : decode cX1_isMatchedBefore 5 = .ok (.iaload, 1) := by decide +kernel
theorem dX1_isMatchedBefore_6 : decode cX1_isMatchedBefore 6 = .ok (.sipush 1000, 3) := by decide +kernel
theorem dX1_isMatchedBefore_9 : decode cX1_isMatchedBefore 9 = .ok (.idiv, 1) := by decide +kernel
theorem dX1_isMatchedBefore_10 : decode cX1_isMatchedBefore 10 = .ok (.istore_n 2, 1) := by decide +kernel
theorem dX1_isMatchedBefore_11 : decode cX1_isMatchedBefore 11 = .ok (.iload_n 2, 1) := by decide +kernel
theorem dX1_isMatchedBefore_12 : decode cX1_isMatchedBefore 12 = .ok (.sipush 1000, 3) := by decide +kernel
theorem dX1_isMatchedBefore_15 : decode cX1_isMatchedBefore 15 = .ok (.imul, 1) := by decide +kernel
theorem dX1_isMatchedBefore_16 : decode cX1_isMatchedBefore 16 = .ok (.aload_n 0, 1) := by decide +kernel
theorem dX1_isMatchedBefore_17 : decode cX1_isMatchedBefore 17 = .ok (.getfield 15, 3) := by decide +kernel
theorem dX1_isMatchedBefore_20 : decode cX1_isMatchedBefore 20 = .ok (.iload_n 2, 1) := by decide +kernel
theorem dX1_isMatchedBefore_21 : decode cX1_isMatchedBefore 21 = .ok (.aload_n 0, 1) := by decide +kernel
theorem dX1_isMatchedBefore_22 : decode cX1_isMatchedBefore 22 = .ok (.getfield 9, 3) := by decide +kernel
theorem dX1_isMatchedBefore_25 : decode cX1_isMatchedBefore 25 = .ok (.iload_n 1, 1) := by decide +kernel
theorem dX1_isMatchedBefore_26 : decode cX1_isMatchedBefore 26 = .ok (.iaload, 1) := by decide +kernel
theorem dX1_isMatchedBefore_27 : decode cX1_isMatchedBefore 27 = .ok (.sipush 1000, 3) := by decide +kernel
theorem dX1_isMatchedBefore_30 : decode cX1_isMatchedBefore 30 = .ok (.irem, 1) := by decide +kernel
theorem dX1_isMatchedBefore_31 : decode cX1_isMatchedBefore 31 = .ok (.invokevirtual 46, 3) := by decide +kernel
theorem dX1_isMatchedBefore_34 : decode cX1_isMatchedBefore 34 = .ok (.iadd, 1) := by decide +kernel
theorem dX1_isMatchedBefore_35 : decode cX1_isMatchedBefore 35 = .ok (.istore_n 3, 1) := by decide +kernel
theorem dX1_isMatchedBefore_36 : decode cX1_isMatchedBefore 36 = .ok (.iload_n 2, 1) := by decide +kernel
theorem dX1_isMatchedBefore_37 : decode cX1_isMatchedBefore 37 = .ok (.sipush 1000, 3) := by decide +kernel
theorem dX1_isMatchedBefore_40 : decode cX1_isMatchedBefore 40 = .ok (.imul, 1) := by decide +kernel
theorem dX1_isMatchedBefore_41 : decode cX1_isMatchedBefore 41 = .ok (.aload_n 0, 1) := by decide +kernel
theorem dX1_isMatchedBefore_42 : decode cX1_isMatchedBefore 42 = .ok (.getfield 15, 3) := by decide +kernel
theorem dX1_isMatchedBefore_45 : decode cX1_isMatchedBefore 45 = .ok (.iload_n 2, 1) := by decide +kernel
theorem dX1_isMatchedBefore_46 : decode cX1_isMatchedBefore 46 = .ok (.aload_n 0, 1) := by decide +kernel
theorem dX1_isMatchedBefore_47 : decode cX1_isMatchedBefore 47 = .ok (.getfield 9, 3) := by decide +kernel
theorem dX1_isMatchedBefore_50 : decode cX1_isMatchedBefore 50 = .ok (.iload_n 1, 1) := by decide +kernel
theorem dX1_isMatchedBefore_51 : decode cX1_isMatchedBefore 51 = .ok (.iaload, 1) := by decide +kernel
theorem dX1_isMatchedBefore_52 : decode cX1_isMatchedBefore 52 = .ok (.sipush 1000, 3) := by decide +kernel
theorem dX1_isMatchedBefore_55 : decode cX1_isMatchedBefore 55 = .ok (.irem, 1) := by decide +kernel
theorem dX1_isMatchedBefore_56 : decode cX1_isMatchedBefore 56 = .ok (.invokevirtual 50, 3) := by decide +kernel
theorem dX1_isMatchedBefore_59 : decode cX1_isMatchedBefore 59 = .ok (.iadd, 1) := by decide +kernel
theorem dX1_isMatchedBefore_60 : decode cX1_isMatchedBefore 60 = .ok (.istore 4, 2) := by decide +kernel
theorem dX1_isMatchedBefore_62 : decode cX1_isMatchedBefore 62 = .ok (.iconst 0, 1) := by decide +kernel
theorem dX1_isMatchedBefore_63 : decode cX1_isMatchedBefore 63 = .ok (.istore 5, 2) := by decide +kernel
theorem dX1_isMatchedBefore_65 : decode cX1_isMatchedBefore 65 = .ok (.iload 5, 2) := by decide +kernel
theorem dX1_isMatchedBefore_67 : decode cX1_isMatchedBefore 67 = .ok (.iload_n 1, 1) := by decide +kernel
theorem dX1_isMatchedBefore_68 : decode cX1_isMatchedBefore 68 = .ok (.if_icmp .ge 34, 3) := by decide +kernel
theorem dX1_isMatchedBefore_71 : decode cX1_isMatchedBefore 71 = .ok (.aload_n 0, 1) := by decide +kernel
theorem dX1_isMatchedBefore_72 : decode cX1_isMatchedBefore 72 = .ok (.getfield 9, 3) := by decide +kernel
theorem dX1_isMatchedBefore_75 : decode cX1_isMatchedBefore 75 = .ok (.iload 5, 2) := by decide +kernel
theorem dX1_isMatchedBefore_77 : decode cX1_isMatchedBefore 77 = .ok (.iaload, 1) := by decide +kernel
theorem dX1_isMatchedBefore_78 : decode cX1_isMatchedBefore 78 = .ok (.iload_n 3, 1) := by decide +kernel
theorem dX1_isMatchedBefore_79 : decode cX1_isMatchedBefore 79 = .ok (.if_icmp .lt 17, 3) := by decide +kernel
theorem dX1_isMatchedBefore_82 : decode cX1_isMatchedBefore 82 = .ok (.aload_n 0, 1) := by decide +kernel
theorem dX1_isMatchedBefore_83 : decode cX1_isMatchedBefore 83 = .ok (.getfield 9, 3) := by decide +kernel
theorem dX1_isMatchedBefore_86 : decode cX1_isMatchedBefore 86 = .ok (.iload 5, 2) := by decide +kernel
theorem dX1_isMatchedBefore_88 : decode cX1_isMatchedBefore 88 = .ok (.iaload, 1) := by decide +kernel
theorem dX1_isMatchedBefore_89 : decode cX1_isMatchedBefore 89 = .ok (.iload 4, 2) := by decide +kernel
theorem dX1_isMatchedBefore_91 : decode cX1_isMatchedBefore 91 = .ok (.if_icmp .gt 5, 3) := by decide +kernel
theorem dX1_isMatchedBefore_94 : decode cX1_isMatchedBefore 94 = .ok (.iconst 1, 1) := by decide +kernel
theorem dX1_isMatchedBefore_95 : decode cX1_isMatchedBefore 95 = .ok (.ireturn, 1) := by decide +kernel
theorem dX1_isMatchedBefore_96 : decode cX1_isMatchedBefore 96 = .ok (.iinc 5 1, 3) := by decide +kernel
theorem dX1_isMatchedBefore_99 : decode cX1_isMatchedBefore 99 = .ok (.goto (-34), 3) := by decide +kernel
theorem dX1_isMatchedBefore_102 : decode cX1_isMatchedBefore 102 = .ok (.iconst 0, 1) := by decide +kernel
theorem dX1_isMatchedBefore_103 : decode cX1_isMatchedBefore 103 = .ok (.ireturn, 1) := by decide +kernel
theorem dX2_init_0 : decode cX2_init 0 = .ok (.aload_n 0, 1) := by decide +kernel
theorem dX2_init_1 : decode cX2_init 1 = .ok (.invokespecial 3, 3) := by decide +kernel
theorem dX2_init_4 : decode cX2_init 4 = .ok (.aload_n 0, 1) := by decide +kernel
theorem dX2_init_5 : decode cX2_init 5 = .ok (.bipush 15, 2) := by decide +kernel
theorem dX2_init_7 : decode cX2_init 7 = .ok (.newarray .int, 2) := by decide +kernel
theorem dX2_init_9 : decode cX2_init 9 = .ok (.putfield 9, 3) := by decide +kernel
theorem dX2_init_12 : decode cX2_init 12 = .ok (.aload_n 0, 1) := by decide +kernel
theorem dX2_init_13 : decode cX2_init 13 = .ok (.bipush 15, 2) := by decide +kernel
theorem dX2_init_15 : decode cX2_init 15 = .ok (.newarray .int, 2) := by decide +kernel
theorem dX2_init_17 : decode cX2_init 17 = .ok (.putfield 15, 3) := by decide +kernel
theorem dX2_init_20 : decode cX2_init 20 = .ok (.aload_n 0, 1) := by decide +kernel
theorem dX2_init_21 : decode cX2_init 21 = .ok (.bipush 15, 2) := by decide +kernel
theorem dX2_init_23 : decode cX2_init 23 = .ok (.newarray .int, 2) := by decide +kernel
theorem dX2_init_25 : decode cX2_init 25 = .ok (.putfield 18, 3) := by decide +kernel
theorem dX2_init_28 : decode cX2_init 28 = .ok (.aload_n 0, 1) := by decide +kernel
theorem dX2_init_29 : decode cX2_init 29 = .ok (.bipush 8, 2) := by decide +kernel
theorem dX2_init_31 : decode cX2_init 31 = .ok (.newarray .long, 2) := by decide +kernel
theorem dX2_init_33 : decode cX2_init 33 = .ok (.putfield 21, 3) := by decide +kernel
theorem dX2_init_36 : decode cX2_init 36 = .ok (.aload_n 0, 1) := by decide +kernel
theorem dX2_init_37 : decode cX2_init 37 = .ok (.aload_n 1, 1) := by decide +kernel
theorem dX2_init_38 : decode cX2_init 38 = .ok (.putfield 25, 3) := by decide +kernel
theorem dX2_init_41 : decode cX2_init 41 = .ok (.return_, 1) := by decide +kernel
theorem dX2_clear_0 : decode cX2_clear 0 = .ok (.aload_n 0, 1) := by decide +kernel
theorem dX2_clear_1 : decode cX2_clear 1 = .ok (.iconst 0, 1) := by decide +kernel
theorem dX2_clear_2 : decode cX2_clear 2 = .ok (.putfield 29, 3) := by decide +kernel
theorem dX2_clear_5 : decode cX2_clear 5 = .ok (.aload_n 0, 1) := by decide +kernel
theorem dX2_clear_6 : decode cX2_clear 6 = .ok (.iconst 0, 1) := by decide +kernel
theorem dX2_clear_7 : decode cX2_clear 7 = .ok (.putfield 33, 3) := by decide +kernel
theorem dX2_clear_10 : decode cX2_clear 10 = .ok (.return_, 1) := by decide +kernel
theorem dX2_putRange_0 : decode cX2_putRange 0 = .ok (.aload_n 0, 1) := by decide +kernel
theorem dX2_putRange_1 : decode cX2_putRange 1 = .ok (.iconst 0, 1) := by decide +kernel
theorem dX2_putRange_2 : decode cX2_putRange 2 = .ok (.iload_n 1, 1) := by decide +kernel
theorem dX2_putRange_3 : decode cX2_putRange 3 = .ok (.sipush 1000, 3) := by decide +kernel
theorem dX2_putRange_6 : decode cX2_putRange 6 = .ok (.imul, 1) := by decide +kernel
theorem dX2_putRange_7 : decode cX2_putRange 7 = .ok (.iload_n 2, 1) := by decide +kernel
theorem dX2_putRange_8 : decode cX2_putRange 8 = .ok (.iadd, 1) := by decide +kernel
theorem dX2_putRange_9 : decode cX2_putRange 9 = .ok (.iload_n 1, 1) := by decide +kernel
theorem dX2_putRange_10 : decode cX2_putRange 10 = .ok (.sipush 1000, 3) := by decide +kernel
theorem dX2_putRange_13 : decode cX2_putRange 13 = .ok (.imul, 1) := by decide +kernel
theorem dX2_putRange_14 : decode cX2_putRange 14 = .ok (.iload_n 3, 1) := by decide +kernel
theorem dX2_putRange_15 : decode cX2_putRange 15 = .ok (.iadd, 1) := by decide +kernel
theorem dX2_putRange_16 : decode cX2_putRange 16 = .ok (.iconst 1, 1) := by decide +kernel
theorem dX2_putRange_17 : decode cX2_putRange 17 = .ok (.invokevirtual 36, 3) := by decide +kernel
theorem dX2_putRange_20 : decode cX2_putRange 20 = .ok (.ireturn, 1) := by decide +kernel
theorem dX2_putClass_0 : decode cX2_putClass 0 = .ok (.aload_n 0, 1) := by decide +kernel
theorem dX2_putClass_1 : decode cX2_putClass 1 = .ok (.iconst 1, 1) := by decide +kernel
theorem dX2_putClass_2 : decode cX2_putClass 2 = .ok (.iload_n 1, 1) := by decide +kernel
theorem dX2_putClass_3 : decode cX2_putClass 3 = .ok (.iload_n 1, 1) := by decide +kernel
theorem dX2_putClass_4 : decode cX2_putClass 4 = .ok (.iconst 1, 1) := by decide +kernel
theorem dX2_putClass_5 : decode cX2_putClass 5 = .ok (.invokevirtual 36, 3) := by decide +kernel
theorem dX2_putClass_8 : decode cX2_putClass 8 = .ok (.ireturn, 1) := by decide +kernel
theorem dX2_putCombined_0 : decode cX2_putCombined 0 = .ok (.aload_n 0, 1) := by decide +kernel
theorem dX2_putCombined_1 : decode cX2_putCombined 1 = .ok (.iload_n 1, 1) := by decide +kernel
theorem dX2_putCombined_2 : decode cX2_putCombined 2 = .ok (.ifCond .eq 7, 3) := by decide +kernel
theorem dX2_putCombined_5 : decode cX2_putCombined 5 = .ok (.iconst 2, 1) := by decide +kernel
theorem dX2_putCombined_6 : decode cX2_putCombined 6 = .ok (.goto 4, 3) := by decide +kernel
theorem dX2_putCombined_9 : decode cX2_putCombined 9 = .ok (.iconst 3, 1) := by decide +kernel
theorem dX2_putCombined_10 : decode cX2_putCombined 10 = .ok (.iconst 0, 1) := by decide +kernel
theorem dX2_putCombined_11 : decode cX2_putCombined 11 = .ok (.iconst 0, 1) := by decide +kernel
theorem dX2_putCombined_12 : decode cX2_putCombined 12 = .ok (.iconst (-1), 1) := by decide +kernel
theorem dX2_putCombined_13 : decode cX2_putCombined 13 = .ok (.invokevirtual 36, 3) := by decide +kernel
theorem dX2_putCombined_16 : decode cX2_putCombined 16 = .ok (.ireturn, 1) := by decide +kernel
theorem dX2_putNot_0 : decode cX2_putNot 0 = .ok (.aload_n 0, 1) := by decide +kernel
theorem dX2_putNot_1 : decode cX2_putNot 1 = .ok (.iconst 4, 1) := by decide +kernel
theorem dX2_putNot_2 : decode cX2_putNot 2 = .ok (.iconst 0, 1) := by decide +kernel
theorem dX2_putNot_3 : decode cX2_putNot 3 = .ok (.iconst 0, 1) := by decide +kernel
theorem dX2_putNot_4 : decode cX2_putNot 4 = .ok (.iconst 0, 1) := by decide +kernel
theorem dX2_putNot_5 : decode cX2_putNot 5 = .ok (.invokevirtual 36, 3) := by decide +kernel
theorem dX2_putNot_8 : decode cX2_putNot 8 = .ok (.ireturn, 1) := by decide +kernel
theorem dX2_put_0 : decode cX2_put 0 = .ok (.aload_n 0, 1) := by decide +kernel
theorem dX2_put_1 : decode cX2_put 1 = .ok (.getfield 29, 3) := by decide +kernel
theorem dX2_put_4 : decode cX2_put 4 = .ok (.bipush 15, 2) := by decide +kernel
theorem dX2_put_6 : decode cX2_put 6 = .ok (.if_icmp .ge 54, 3) := by decide +kernel
theorem dX2_put_9 : decode cX2_put 9 = .ok (.aload_n 0, 1) := by decide +kernel
theorem dX2_put_10 : decode cX2_put 10 = .ok (.getfield 9, 3) := by decide +kernel
theorem dX2_put_13 : decode cX2_put 13 = .ok (.aload_n 0, 1) := by decide +kernel
theorem dX2_put_14 : decode cX2_put 14 = .ok (.getfield 29, 3) := by decide +kernel
theorem dX2_put_17 : decode cX2_put 17 = .ok (.iload_n 1, 1) := by decide +kernel
theorem dX2_put_18 : decode cX2_put 18 = .ok (.iastore, 1) := by decide +kernel
theorem dX2_put_19 : decode cX2_put 19 = .ok (.aload_n 0, 1) := by decide +kernel
theorem dX2_put_20 : decode cX2_put 20 = .ok (.getfield 15, 3) := by decide +kernel
theorem dX2_put_23 : decode cX2_put 23 = .ok (.aload_n 0, 1) := by decide +kernel
theorem dX2_put_24 : decode cX2_put 24 = .ok (.getfield 29, 3) := by decide +kernel
theorem dX2_put_27 : decode cX2_put 27 = .ok (.iload_n 2, 1) := by decide +kernel
theorem dX2_put_28 : decode cX2_put 28 = .ok (.iastore, 1) := by decide +kernel
theorem dX2_put_29 : decode cX2_put 29 = .ok (.aload_n 0, 1) := by decide +kernel
theorem dX2_put_30 : decode cX2_put 30 = .ok (.getfield 18, 3) := by decide +kernel
theorem dX2_put_33 : decode cX2_put 33 = .ok (.aload_n 0, 1) := by decide +kernel
theorem dX2_put_34 : decode cX2_put 34 = .ok (.getfield 29, 3) := by decide +kernel
theorem dX2_put_37 : decode cX2_put 37 = .ok (.iload_n 3, 1) := by decide +kernel
theorem dX2_put_38 : decode cX2_put 38 = .ok (.iastore, 1) := by decide +kernel
theorem dX2_put_39 : decode cX2_put 39 = .ok (.aload_n 0, 1) := by decide +kernel
theorem dX2_put_40 : decode cX2_put 40 = .ok (.dup, 1) := by decide +kernel
theorem dX2_put_41 : decode cX2_put 41 = .ok (.getfield 29, 3) := by decide +kernel
theorem dX2_put_44 : decode cX2_put 44 = .ok (.iconst 1, 1) := by decide +kernel
theorem dX2_put_45 : decode cX2_put 45 = .ok (.iadd, 1) := by decide +kernel
theorem dX2_put_46 : decode cX2_put 46 = .ok (.putfield 29, 3) := by decide +kernel
theorem dX2_put_49 : decode cX2_put 49 = .ok (.aload_n 0, 1) := by decide +kernel
theorem dX2_put_50 : decode cX2_put 50 = .ok (.dup, 1) := by decide +kernel
theorem dX2_put_51 : decode cX2_put 51 = .ok (.getfield 33, 3) := by decide +kernel
theorem dX2_put_54 : decode cX2_put 54 = .ok (.iload 4, 2) := by decide +kernel
theorem dX2_put_56 : decode cX2_put 56 = .ok (.iadd, 1) := by decide +kernel
theorem dX2_put_57 : decode cX2_put 57 = .ok (.putfield 33, 3) := by decide +kernel
theorem dX2_put_60 : decode cX2_put 60 = .ok (.aload_n 0, 1) := by decide +kernel
theorem dX2_put_61 : decode cX2_put 61 = .ok (.getfield 33, 3) := by decide +kernel
theorem dX2_put_64 : decode cX2_put 64 = .ok (.ireturn, 1) := by decide +kernel
theorem dX2_applies_0 : decode cX2_applies 0 = .ok (.iconst 0, 1) := by decide +kernel
theorem dX2_applies_1 : decode cX2_applies 1 = .ok (.istore_n 3, 1) := by decide +kernel
theorem dX2_applies_2 : decode cX2_applies 2 = .ok (.iconst 0, 1) := by decide +kernel
theorem dX2_applies_3 : decode cX2_applies 3 = .ok (.istore 4, 2) := by decide +kernel
theorem dX2_applies_5 : decode cX2_applies 5 = .ok (.iload 4, 2) := by decide +kernel
theorem dX2_applies_7 : decode cX2_applies 7 = .ok (.aload_n 0, 1) := by decide +kernel
theorem dX2_applies_8 : decode cX2_applies 8 = .ok (.getfield 29, 3) := by decide +kernel
theorem dX2_applies_11 : decode cX2_applies 11 = .ok (.if_icmp .ge 165, 3) := by decide +kernel
theorem dX2_applies_14 : decode cX2_applies 14 = .ok (.iload_n 3, 1) := by decide +kernel
theorem dX2_applies_15 : decode cX2_applies 15 = .ok (.iconst 1, 1) := by decide +kernel
theorem dX2_applies_16 : decode cX2_applies 16 = .ok (.iand, 1) := by decide +kernel
theorem dX2_applies_17 : decode cX2_applies 17 = .ok (.istore 5, 2) := by decide +kernel
theorem dX2_applies_19 : decode cX2_applies 19 = .ok (.aload_n 0, 1) := by decide +kernel
theorem dX2_applies_20 : decode cX2_applies 20 = .ok (.getfield 9, 3) := by decide +kernel
theorem dX2_applies_23 : decode cX2_applies 23 = .ok (.iload 4, 2) := by decide +kernel
theorem dX2_applies_25 : decode cX2_applies 25 = .ok (.iaload, 1) := by decide +kernel
theorem dX2_applies_26 : decode cX2_applies 26 = .ok (.tableswitch 140 0 3 #[30, 77, 117, 130], 30) := by decide +kernel
theorem dX2_applies_56 : decode cX2_applies 56 = .ok (.aload_n 1, 1) := by decide +kernel
theorem dX2_applies_57 : decode cX2_applies 57 = .ok (.iload_n 2, 1) := by decide +kernel
theorem dX2_applies_58 : decode cX2_applies 58 = .ok (.aload_n 0, 1) := by decide +kernel
theorem dX2_applies_59 : decode cX2_applies 59 = .ok (.getfield 15, 3) := by decide +kernel
theorem dX2_applies_62 : decode cX2_applies 62 = .ok (.iload 4, 2) := by decide +kernel
theorem dX2_applies_64 : decode cX2_applies 64 = .ok (.iaload, 1) := by decide +kernel
theorem dX2_applies_65 : decode cX2_applies 65 = .ok (.aload_n 0, 1) := by decide +kernel
theorem dX2_applies_66 : decode cX2_applies 66 = .ok (.getfield 18, 3) := by decide +kernel
theorem dX2_applies_69 : decode cX2_applies 69 = .ok (.iload 4, 2) := by decide +kernel
theorem dX2_applies_71 : decode cX2_applies 71 = .ok (.iaload, 1) := by decide +kernel
theorem dX2_applies_72 : decode cX2_applies 72 = .ok (.invokevirtual 40, 3) := by decide +kernel
theorem dX2_applies_75 : decode cX2_applies 75 = .ok (.ifCond .le 7, 3) := by decide +kernel
theorem dX2_applies_78 : decode cX2_applies 78 = .ok (.iconst 1, 1) := by decide +kernel
theorem dX2_applies_79 : decode cX2_applies 79 = .ok (.goto 4, 3) := by decide +kernel
theorem dX2_applies_82 : decode cX2_applies 82 = .ok (.iconst 0, 1) := by decide +kernel
theorem dX2_applies_83 : decode cX2_applies 83 = .ok (.istore 6, 2) := by decide +kernel
theorem dX2_applies_85 : decode cX2_applies 85 = .ok (.iload_n 3, 1) := by decide +kernel
theorem dX2_applies_86 : decode cX2_applies 86 = .ok (.iconst 1, 1) := by decide +kernel
theorem dX2_applies_87 : decode cX2_applies 87 = .ok (.ishl, 1) := by decide +kernel
theorem dX2_applies_88 : decode cX2_applies 88 = .ok (.iload 6, 2) := by decide +kernel
theorem dX2_applies_90 : decode cX2_applies 90 = .ok (.ifCond .eq 7, 3) := by decide +kernel
theorem dX2_applies_93 : decode cX2_applies 93 = .ok (.iconst 1, 1) := by decide +kernel
theorem dX2_applies_94 : decode cX2_applies 94 = .ok (.goto 4, 3) := by decide +kernel
theorem dX2_applies_97 : decode cX2_applies 97 = .ok (.iconst 0, 1) := by decide +kernel
theorem dX2_applies_98 : decode cX2_applies 98 = .ok (.ior, 1) := by decide +kernel
theorem dX2_applies_99 : decode cX2_applies 99 = .ok (.istore_n 3, 1) := by decide +kernel
theorem dX2_applies_100 : decode cX2_applies 100 = .ok (.goto 70, 3) := by decide +kernel
theorem dX2_applies_103 : decode cX2_applies 103 = .ok (.aload_n 0, 1) := by decide +kernel
theorem dX2_applies_104 : decode cX2_applies 104 = .ok (.getfield 25, 3) := by decide +kernel
theorem dX2_applies_107 : decode cX2_applies 107 = .ok (.aload_n 1, 1) := by decide +kernel
theorem dX2_applies_108 : decode cX2_applies 108 = .ok (.getfield 46, 3) := by decide +kernel
theorem dX2_applies_111 : decode cX2_applies 111 = .ok (.iload_n 2, 1) := by decide +kernel
theorem dX2_applies_112 : decode cX2_applies 112 = .ok (.iaload, 1) := by decide +kernel
theorem dX2_applies_113 : decode cX2_applies 113 = .ok (.aload_n 0, 1) := by decide +kernel
theorem dX2_applies_114 : decode cX2_applies 114 = .ok (.getfield 15, 3) := by decide +kernel
theorem dX2_applies_117 : decode cX2_applies 117 = .ok (.iload 4, 2) := by decide +kernel
theorem dX2_applies_119 : decode cX2_applies 119 = .ok (.iaload, 1) := by decide +kernel
theorem dX2_applies_120 : decode cX2_applies 120 = .ok (.invokevirtual 49, 3) := by decide +kernel
theorem dX2_applies_123 : decode cX2_applies 123 = .ok (.istore 7, 2) := by decide +kernel
theorem dX2_applies_125 : decode cX2_applies 125 = .ok (.iload_n 3, 1) := by decide +kernel
theorem dX2_applies_126 : decode cX2_applies 126 = .ok (.iconst 1, 1) := by decide +kernel
theorem dX2_applies_127 : decode cX2_applies 127 = .ok (.ishl, 1) := by decide +kernel
theorem dX2_applies_128 : decode cX2_applies 128 = .ok (.iload 7, 2) := by decide +kernel
theorem dX2_applies_130 : decode cX2_applies 130 = .ok (.ifCond .eq 7, 3) := by decide +kernel
theorem dX2_applies_133 : decode cX2_applies 133 = .ok (.iconst 1, 1) := by decide +kernel
theorem dX2_applies_134 : decode cX2_applies 134 = .ok (.goto 4, 3) := by decide +kernel
theorem dX2_applies_137 : decode cX2_applies 137 = .ok (.iconst 0, 1) := by decide +kernel
theorem dX2_applies_138 : decode cX2_applies 138 = .ok (.ior, 1) := by decide +kernel
theorem dX2_applies_139 : decode cX2_applies 139 = .ok (.istore_n 3, 1) := by decide +kernel
theorem dX2_applies_140 : decode cX2_applies 140 = .ok (.goto 30, 3) := by decide +kernel
theorem dX2_applies_143 : decode cX2_applies 143 = .ok (.iload_n 3, 1) := by decide +kernel
theorem dX2_applies_144 : decode cX2_applies 144 = .ok (.iconst 1, 1) := by decide +kernel
theorem dX2_applies_145 : decode cX2_applies 145 = .ok (.ishr, 1) := by decide +kernel
theorem dX2_applies_146 : decode cX2_applies 146 = .ok (.bipush (-2), 2) := by decide +kernel
theorem dX2_applies_148 : decode cX2_applies 148 = .ok (.iload 5, 2) := by decide +kernel
theorem dX2_applies_150 : decode cX2_applies 150 = .ok (.ior, 1) := by decide +kernel
theorem dX2_applies_151 : decode cX2_applies 151 = .ok (.iand, 1) := by decide +kernel
theorem dX2_applies_152 : decode cX2_applies 152 = .ok (.istore_n 3, 1) := by decide +kernel
theorem dX2_applies_153 : decode cX2_applies 153 = .ok (.goto 17, 3) := by decide +kernel
theorem dX2_applies_156 : decode cX2_applies 156 = .ok (.iload_n 3, 1) := by decide +kernel
theorem dX2_applies_157 : decode cX2_applies 157 = .ok (.iconst 1, 1) := by decide +kernel
theorem dX2_applies_158 : decode cX2_applies 158 = .ok (.ishr, 1) := by decide +kernel
theorem dX2_applies_159 : decode cX2_applies 159 = .ok (.iload 5, 2) := by decide +kernel
theorem dX2_applies_161 : decode cX2_applies 161 = .ok (.ior, 1) := by decide +kernel
theorem dX2_applies_162 : decode cX2_applies 162 = .ok (.istore_n 3, 1) := by decide +kernel
theorem dX2_applies_163 : decode cX2_applies 163 = .ok (.goto 7, 3) := by decide +kernel
theorem dX2_applies_166 : decode cX2_applies 166 = .ok (.iload_n 3, 1) := by decide +kernel
theorem dX2_applies_167 : decode cX2_applies 167 = .ok (.iconst 1, 1) := by decide +kernel
theorem dX2_applies_168 : decode cX2_applies 168 = .ok (.ixor, 1) := by decide +kernel
theorem dX2_applies_169 : decode cX2_applies 169 = .ok (.istore_n 3, 1) := by decide +kernel
theorem dX2_applies_170 : decode cX2_applies 170 = .ok (.iinc 4 1, 3) := by decide +kernel
theorem dX2_applies_173 : decode cX2_applies 173 = .ok (.goto (-168), 3) := by decide +kernel
theorem dX2_applies_176 : decode cX2_applies 176 = .ok (.iload_n 3, 1) := by decide +kernel
theorem dX2_applies_177 : decode cX2_applies 177 = .ok (.iconst 1, 1) := by decide +kernel
theorem dX2_applies_178 : decode cX2_applies 178 = .ok (.iand, 1) := by decide +kernel
theorem dX2_applies_179 : decode cX2_applies 179 = .ok (.iconst 1, 1) := by decide +kernel
theorem dX2_applies_180 : decode cX2_applies 180 = .ok (.if_icmp .ne 7, 3) := by decide +kernel
theorem dX2_applies_183 : decode cX2_applies 183 = .ok (.iconst 1, 1) := by decide +kernel
theorem dX2_applies_184 : decode cX2_applies 184 = .ok (.goto 4, 3) := by decide +kernel
theorem dX2_applies_187 : decode cX2_applies 187 = .ok (.iconst 0, 1) := by decide +kernel
theorem dX2_applies_188 : decode cX2_applies 188 = .ok (.ireturn, 1) := by decide +kernel
theorem dX2_appliesTo_0 : decode cX2_appliesTo 0 = .ok (.iconst 0, 1) := by decide +kernel
theorem dX2_appliesTo_1 : decode cX2_appliesTo 1 = .ok (.istore_n 2, 1) := by decide +kernel
theorem dX2_appliesTo_2 : decode cX2_appliesTo 2 = .ok (.iconst 0, 1) := by decide +kernel
theorem dX2_appliesTo_3 : decode cX2_appliesTo 3 = .ok (.istore_n 3, 1) := by decide +kernel
theorem dX2_appliesTo_4 : decode cX2_appliesTo 4 = .ok (.iload_n 3, 1) := by decide +kernel
theorem dX2_appliesTo_5 : decode cX2_appliesTo 5 = .ok (.aload_n 0, 1) := by decide +kernel
theorem dX2_appliesTo_6 : decode cX2_appliesTo 6 = .ok (.getfield 29, 3) := by decide +kernel
theorem dX2_appliesTo_9 : decode cX2_appliesTo 9 = .ok (.if_icmp .ge 177, 3) := by decide +kernel
theorem dX2_appliesTo_12 : decode cX2_appliesTo 12 = .ok (.aload_n 0, 1) := by decide +kernel
theorem dX2_appliesTo_13 : decode cX2_appliesTo 13 = .ok (.getfield 9, 3) := by decide +kernel
theorem dX2_appliesTo_16 : decode cX2_appliesTo 16 = .ok (.iload_n 3, 1) := by decide +kernel
theorem dX2_appliesTo_17 : decode cX2_appliesTo 17 = .ok (.iaload, 1) := by decide +kernel
theorem dX2_appliesTo_18 : decode cX2_appliesTo 18 = .ok (.ifCond .eq 13, 3) := by decide +kernel
theorem dX2_appliesTo_21 : decode cX2_appliesTo 21 = .ok (.aload_n 0, 1) := by decide +kernel
theorem dX2_appliesTo_22 : decode cX2_appliesTo 22 = .ok (.getfield 9, 3) := by decide +kernel
theorem dX2_appliesTo_25 : decode cX2_appliesTo 25 = .ok (.iload_n 3, 1) := by decide +kernel
theorem dX2_appliesTo_26 : decode cX2_appliesTo 26 = .ok (.iaload, 1) := by decide +kernel
theorem dX2_appliesTo_27 : decode cX2_appliesTo 27 = .ok (.iconst 1, 1) := by decide +kernel
theorem dX2_appliesTo_28 : decode cX2_appliesTo 28 = .ok (.if_icmp .ne 7, 3) := by decide +kernel
theorem dX2_appliesTo_31 : decode cX2_appliesTo 31 = .ok (.iconst 1, 1) := by decide +kernel
theorem dX2_appliesTo_32 : decode cX2_appliesTo 32 = .ok (.goto 4, 3) := by decide +kernel
theorem dX2_appliesTo_35 : decode cX2_appliesTo 35 = .ok (.iconst 0, 1) := by decide +kernel
theorem dX2_appliesTo_36 : decode cX2_appliesTo 36 = .ok (.istore 4, 2) := by decide +kernel
theorem dX2_appliesTo_38 : decode cX2_appliesTo 38 = .ok (.iload 4, 2) := by decide +kernel
theorem dX2_appliesTo_40 : decode cX2_appliesTo 40 = .ok (.ifCond .eq 27, 3) := by decide +kernel
theorem dX2_appliesTo_43 : decode cX2_appliesTo 43 = .ok (.iload_n 2, 1) := by decide +kernel
theorem dX2_appliesTo_44 : decode cX2_appliesTo 44 = .ok (.bipush 8, 2) := by decide +kernel
theorem dX2_appliesTo_46 : decode cX2_appliesTo 46 = .ok (.if_icmp .ge 21, 3) := by decide +kernel
theorem dX2_appliesTo_49 : decode cX2_appliesTo 49 = .ok (.aload_n 0, 1) := by decide +kernel
theorem dX2_appliesTo_50 : decode cX2_appliesTo 50 = .ok (.getfield 21, 3) := by decide +kernel
theorem dX2_appliesTo_53 : decode cX2_appliesTo 53 = .ok (.iload_n 2, 1) := by decide +kernel
theorem dX2_appliesTo_54 : decode cX2_appliesTo 54 = .ok (.aload_n 0, 1) := by decide +kernel
theorem dX2_appliesTo_55 : decode cX2_appliesTo 55 = .ok (.aload_n 1, 1) := by decide +kernel
theorem dX2_appliesTo_56 : decode cX2_appliesTo 56 = .ok (.iload_n 3, 1) := by decide +kernel
theorem dX2_appliesTo_57 : decode cX2_appliesTo 57 = .ok (.invokevirtual 55, 3) := by decide +kernel
theorem dX2_appliesTo_60 : decode cX2_appliesTo 60 = .ok (.lastore, 1) := by decide +kernel
theorem dX2_appliesTo_61 : decode cX2_appliesTo 61 = .ok (.iinc 2 1, 3) := by decide +kernel
theorem dX2_appliesTo_64 : decode cX2_appliesTo 64 = .ok (.goto 116, 3) := by decide +kernel
theorem dX2_appliesTo_67 : decode cX2_appliesTo 67 = .ok (.aload_n 0, 1) := by decide +kernel
theorem dX2_appliesTo_68 : decode cX2_appliesTo 68 = .ok (.getfield 9, 3) := by decide +kernel
theorem dX2_appliesTo_71 : decode cX2_appliesTo 71 = .ok (.iload_n 3, 1) := by decide +kernel
theorem dX2_appliesTo_72 : decode cX2_appliesTo 72 = .ok (.iaload, 1) := by decide +kernel
theorem dX2_appliesTo_73 : decode cX2_appliesTo 73 = .ok (.iconst 4, 1) := by decide +kernel
theorem dX2_appliesTo_74 : decode cX2_appliesTo 74 = .ok (.if_icmp .ne 35, 3) := by decide +kernel
theorem dX2_appliesTo_77 : decode cX2_appliesTo 77 = .ok (.iload_n 2, 1) := by decide +kernel
theorem dX2_appliesTo_78 : decode cX2_appliesTo 78 = .ok (.ifCond .le 31, 3) := by decide +kernel
theorem dX2_appliesTo_81 : decode cX2_appliesTo 81 = .ok (.aload_n 0, 1) := by decide +kernel
theorem dX2_appliesTo_82 : decode cX2_appliesTo 82 = .ok (.getfield 21, 3) := by decide +kernel
theorem dX2_appliesTo_85 : decode cX2_appliesTo 85 = .ok (.iload_n 2, 1) := by decide +kernel
theorem dX2_appliesTo_86 : decode cX2_appliesTo 86 = .ok (.iconst 1, 1) := by decide +kernel
theorem dX2_appliesTo_87 : decode cX2_appliesTo 87 = .ok (.isub, 1) := by decide +kernel
theorem dX2_appliesTo_88 : decode cX2_appliesTo 88 = .ok (.aload_n 1, 1) := by decide +kernel
theorem dX2_appliesTo_89 : decode cX2_appliesTo 89 = .ok (.invokevirtual 59, 3) := by decide +kernel
theorem dX2_appliesTo_92 : decode cX2_appliesTo 92 = .ok (.aload_n 0, 1) := by decide +kernel
theorem dX2_appliesTo_93 : decode cX2_appliesTo 93 = .ok (.getfield 21, 3) := by decide +kernel
theorem dX2_appliesTo_96 : decode cX2_appliesTo 96 = .ok (.iload_n 2, 1) := by decide +kernel
theorem dX2_appliesTo_97 : decode cX2_appliesTo 97 = .ok (.iconst 1, 1) := by decide +kernel
theorem dX2_appliesTo_98 : decode cX2_appliesTo 98 = .ok (.isub, 1) := by decide +kernel
theorem dX2_appliesTo_99 : decode cX2_appliesTo 99 = .ok (.laload, 1) := by decide +kernel
theorem dX2_appliesTo_100 : decode cX2_appliesTo 100 = .ok (.ldc2_w 63, 3) := by decide +kernel
theorem dX2_appliesTo_103 : decode cX2_appliesTo 103 = .ok (.lxor, 1) := by decide +kernel
theorem dX2_appliesTo_104 : decode cX2_appliesTo 104 = .ok (.land, 1) := by decide +kernel
theorem dX2_appliesTo_105 : decode cX2_appliesTo 105 = .ok (.lastore, 1) := by decide +kernel
theorem dX2_appliesTo_106 : decode cX2_appliesTo 106 = .ok (.goto 74, 3) := by decide +kernel
theorem dX2_appliesTo_109 : decode cX2_appliesTo 109 = .ok (.iload_n 2, 1) := by decide +kernel
theorem dX2_appliesTo_110 : decode cX2_appliesTo 110 = .ok (.iconst 1, 1) := by decide +kernel
theorem dX2_appliesTo_111 : decode cX2_appliesTo 111 = .ok (.if_icmp .le 69, 3) := by decide +kernel
theorem dX2_appliesTo_114 : decode cX2_appliesTo 114 = .ok (.iinc 2 (-1), 3) := by decide +kernel
theorem dX2_appliesTo_117 : decode cX2_appliesTo 117 = .ok (.aload_n 0, 1) := by decide +kernel
theorem dX2_appliesTo_118 : decode cX2_appliesTo 118 = .ok (.getfield 9, 3) := by decide +kernel
theorem dX2_appliesTo_121 : decode cX2_appliesTo 121 = .ok (.iload_n 3, 1) := by decide +kernel
theorem dX2_appliesTo_122 : decode cX2_appliesTo 122 = .ok (.iaload, 1) := by decide +kernel
theorem dX2_appliesTo_123 : decode cX2_appliesTo 123 = .ok (.iconst 2, 1) := by decide +kernel
theorem dX2_appliesTo_124 : decode cX2_appliesTo 124 = .ok (.if_icmp .ne 7, 3) := by decide +kernel
theorem dX2_appliesTo_127 : decode cX2_appliesTo 127 = .ok (.iconst 1, 1) := by decide +kernel
theorem dX2_appliesTo_128 : decode cX2_appliesTo 128 = .ok (.goto 4, 3) := by decide +kernel
theorem dX2_appliesTo_131 : decode cX2_appliesTo 131 = .ok (.iconst 0, 1) := by decide +kernel
theorem dX2_appliesTo_132 : decode cX2_appliesTo 132 = .ok (.istore 5, 2) := by decide +kernel
theorem dX2_appliesTo_134 : decode cX2_appliesTo 134 = .ok (.aload_n 0, 1) := by decide +kernel
theorem dX2_appliesTo_135 : decode cX2_appliesTo 135 = .ok (.getfield 21, 3) := by decide +kernel
theorem dX2_appliesTo_138 : decode cX2_appliesTo 138 = .ok (.iload_n 2, 1) := by decide +kernel
theorem dX2_appliesTo_139 : decode cX2_appliesTo 139 = .ok (.iconst 1, 1) := by decide +kernel
theorem dX2_appliesTo_140 : decode cX2_appliesTo 140 = .ok (.isub, 1) := by decide +kernel
theorem dX2_appliesTo_141 : decode cX2_appliesTo 141 = .ok (.iload 5, 2) := by decide +kernel
theorem dX2_appliesTo_143 : decode cX2_appliesTo 143 = .ok (.ifCond .eq 21, 3) := by decide +kernel
theorem dX2_appliesTo_146 : decode cX2_appliesTo 146 = .ok (.aload_n 0, 1) := by decide +kernel
theorem dX2_appliesTo_147 : decode cX2_appliesTo 147 = .ok (.getfield 21, 3) := by decide +kernel
theorem dX2_appliesTo_150 : decode cX2_appliesTo 150 = .ok (.iload_n 2, 1) := by decide +kernel
theorem dX2_appliesTo_151 : decode cX2_appliesTo 151 = .ok (.iconst 1, 1) := by decide +kernel
theorem dX2_appliesTo_152 : decode cX2_appliesTo 152 = .ok (.isub, 1) := by decide +kernel
theorem dX2_appliesTo_153 : decode cX2_appliesTo 153 = .ok (.laload, 1) := by decide +kernel
theorem dX2_appliesTo_154 : decode cX2_appliesTo 154 = .ok (.aload_n 0, 1) := by decide +kernel
theorem dX2_appliesTo_155 : decode cX2_appliesTo 155 = .ok (.getfield 21, 3) := by decide +kernel
theorem dX2_appliesTo_158 : decode cX2_appliesTo 158 = .ok (.iload_n 2, 1) := by decide +kernel
theorem dX2_appliesTo_159 : decode cX2_appliesTo 159 = .ok (.laload, 1) := by decide +kernel
theorem dX2_appliesTo_160 : decode cX2_appliesTo 160 = .ok (.land, 1) := by decide +kernel
theorem dX2_appliesTo_161 : decode cX2_appliesTo 161 = .ok (.goto 18, 3) := by decide +kernel
theorem dX2_appliesTo_164 : decode cX2_appliesTo 164 = .ok (.aload_n 0, 1) := by decide +kernel
theorem dX2_appliesTo_165 : decode cX2_appliesTo 165 = .ok (.getfield 21, 3) := by decide +kernel
theorem dX2_appliesTo_168 : decode cX2_appliesTo 168 = .ok (.iload_n 2, 1) := by decide +kernel
theorem dX2_appliesTo_169 : decode cX2_appliesTo 169 = .ok (.iconst 1, 1) := by decide +kernel
theorem dX2_appliesTo_170 : decode cX2_appliesTo 170 = .ok (.isub, 1) := by decide +kernel
theorem dX2_appliesTo_171 : decode cX2_appliesTo 171 = .ok (.laload, 1) := by decide +kernel
theorem dX2_appliesTo_172 : decode cX2_appliesTo 172 = .ok (.aload_n 0, 1) := by decide +kernel
theorem dX2_appliesTo_173 : decode cX2_appliesTo 173 = .ok (.getfield 21, 3) := by decide +kernel
theorem dX2_appliesTo_176 : decode cX2_appliesTo 176 = .ok (.iload_n 2, 1) := by decide +kernel
theorem dX2_appliesTo_177 : decode cX2_appliesTo 177 = .ok (.laload, 1) := by decide +kernel
theorem dX2_appliesTo_178 : decode cX2_appliesTo 178 = .ok (.lor, 1) := by decide +kernel
theorem dX2_appliesTo_179 : decode cX2_appliesTo 179 = .ok (.lastore, 1) := by decide +kernel
theorem dX2_appliesTo_180 : decode cX2_appliesTo 180 = .ok (.iinc 3 1, 3) := by decide +kernel
theorem dX2_appliesTo_183 : decode cX2_appliesTo 183 = .ok (.goto (-179), 3) := by decide +kernel
theorem dX2_appliesTo_186 : decode cX2_appliesTo 186 = .ok (.iload_n 2, 1) := by decide +kernel
theorem dX2_appliesTo_187 : decode cX2_appliesTo 187 = .ok (.ifCond .le 14, 3) := by decide +kernel
theorem dX2_appliesTo_190 : decode cX2_appliesTo 190 = .ok (.aload_n 0, 1) := by decide +kernel
theorem dX2_appliesTo_191 : decode cX2_appliesTo 191 = .ok (.getfield 21, 3) := by decide +kernel
theorem dX2_appliesTo_194 : decode cX2_appliesTo 194 = .ok (.iload_n 2, 1) := by decide +kernel
theorem dX2_appliesTo_195 : decode cX2_appliesTo 195 = .ok (.iconst 1, 1) := by decide +kernel
theorem dX2_appliesTo_196 : decode cX2_appliesTo 196 = .ok (.isub, 1) := by decide +kernel
theorem dX2_appliesTo_197 : decode cX2_appliesTo 197 = .ok (.laload, 1) := by decide +kernel
theorem dX2_appliesTo_198 : decode cX2_appliesTo 198 = .ok (.goto 4, 3) := by decide +kernel
theorem dX2_appliesTo_201 : decode cX2_appliesTo 201 = .ok (.lconst 0, 1) := by decide +kernel
theorem dX2_appliesTo_202 : decode cX2_appliesTo 202 = .ok (.lreturn, 1) := by decide +kernel
theorem dX2_setOf_0 : decode cX2_setOf 0 = .ok (.aload_n 0, 1) := by decide +kernel
theorem dX2_setOf_1 : decode cX2_setOf 1 = .ok (.getfield 9, 3) := by decide +kernel
theorem dX2_setOf_4 : decode cX2_setOf 4 = .ok (.iload_n 2, 1) := by decide +kernel
theorem dX2_setOf_5 : decode cX2_setOf 5 = .ok (.iaload, 1) := by decide +kernel
theorem dX2_setOf_6 : decode cX2_setOf 6 = .ok (.ifCond .ne 20, 3) := by decide +kernel
theorem dX2_setOf_9 : decode cX2_setOf 9 = .ok (.aload_n 1, 1) := by decide +kernel
theorem dX2_setOf_10 : decode cX2_setOf 10 = .ok (.aload_n 0, 1) := by decide +kernel
theorem dX2_setOf_11 : decode cX2_setOf 11 = .ok (.getfield 15, 3) := by decide +kernel
theorem dX2_setOf_14 : decode cX2_setOf 14 = .ok (.iload_n 2, 1) := by decide +kernel
theorem dX2_setOf_15 : decode cX2_setOf 15 = .ok (.iaload, 1) := by decide +kernel
theorem dX2_setOf_16 : decode cX2_setOf 16 = .ok (.aload_n 0, 1) := by decide +kernel
theorem dX2_setOf_17 : decode cX2_setOf 17 = .ok (.getfield 18, 3) := by decide +kernel
theorem dX2_setOf_20 : decode cX2_setOf 20 = .ok (.iload_n 2, 1) := by decide +kernel
theorem dX2_setOf_21 : decode cX2_setOf 21 = .ok (.iaload, 1) := by decide +kernel
theorem dX2_setOf_22 : decode cX2_setOf 22 = .ok (.invokevirtual 65, 3) := by decide +kernel
theorem dX2_setOf_25 : decode cX2_setOf 25 = .ok (.lreturn, 1) := by decide +kernel
theorem dX2_setOf_26 : decode cX2_setOf 26 = .ok (.lconst 0, 1) := by decide +kernel
theorem dX2_setOf_27 : decode cX2_setOf 27 = .ok (.lstore_n 3, 1) := by decide +kernel
theorem dX2_setOf_28 : decode cX2_setOf 28 = .ok (.iconst 0, 1) := by decide +kernel
theorem dX2_setOf_29 : decode cX2_setOf 29 = .ok (.istore 5, 2) := by decide +kernel
theorem dX2_setOf_31 : decode cX2_setOf 31 = .ok (.iload 5, 2) := by decide +kernel
theorem dX2_setOf_33 : decode cX2_setOf 33 = .ok (.bipush 48, 2) := by decide +kernel
theorem dX2_setOf_35 : decode cX2_setOf 35 = .ok (.if_icmp .ge 48, 3) := by decide +kernel
theorem dX2_setOf_38 : decode cX2_setOf 38 = .ok (.aload_n 1, 1) := by decide +kernel
theorem dX2_setOf_39 : decode cX2_setOf 39 = .ok (.iload 5, 2) := by decide +kernel
theorem dX2_setOf_41 : decode cX2_setOf 41 = .ok (.invokevirtual 69, 3) := by decide +kernel
theorem dX2_setOf_44 : decode cX2_setOf 44 = .ok (.ifCond .eq 33, 3) := by decide +kernel
theorem dX2_setOf_47 : decode cX2_setOf 47 = .ok (.aload_n 0, 1) := by decide +kernel
theorem dX2_setOf_48 : decode cX2_setOf 48 = .ok (.getfield 25, 3) := by decide +kernel
theorem dX2_setOf_51 : decode cX2_setOf 51 = .ok (.aload_n 1, 1) := by decide +kernel
theorem dX2_setOf_52 : decode cX2_setOf 52 = .ok (.getfield 46, 3) := by decide +kernel
theorem dX2_setOf_55 : decode cX2_setOf 55 = .ok (.iload 5, 2) := by decide +kernel
theorem dX2_setOf_57 : decode cX2_setOf 57 = .ok (.iaload, 1) := by decide +kernel
theorem dX2_setOf_58 : decode cX2_setOf 58 = .ok (.aload_n 0, 1) := by decide +kernel
theorem dX2_setOf_59 : decode cX2_setOf 59 = .ok (.getfield 15, 3) := by decide +kernel
theorem dX2_setOf_62 : decode cX2_setOf 62 = .ok (.iload_n 2, 1) := by decide +kernel
theorem dX2_setOf_63 : decode cX2_setOf 63 = .ok (.iaload, 1) := by decide +kernel
theorem dX2_setOf_64 : decode cX2_setOf 64 = .ok (.invokevirtual 49, 3) := by decide +kernel
theorem dX2_setOf_67 : decode cX2_setOf 67 = .ok (.ifCond .eq 10, 3) := by decide +kernel
theorem dX2_setOf_70 : decode cX2_setOf 70 = .ok (.lload_n 3, 1) := by decide +kernel
theorem dX2_setOf_71 : decode cX2_setOf 71 = .ok (.lconst 1, 1) := by decide +kernel
theorem dX2_setOf_72 : decode cX2_setOf 72 = .ok (.iload 5, 2) := by decide +kernel
theorem dX2_setOf_74 : decode cX2_setOf 74 = .ok (.lshl, 1) := by decide +kernel
theorem dX2_setOf_75 : decode cX2_setOf 75 = .ok (.lor, 1) := by decide +kernel
theorem dX2_setOf_76 : decode cX2_setOf 76 = .ok (.lstore_n 3, 1) := by decide +kernel
theorem dX2_setOf_77 : decode cX2_setOf 77 = .ok (.iinc 5 1, 3) := by decide +kernel
theorem dX2_setOf_80 : decode cX2_setOf 80 = .ok (.goto (-49), 3) := by decide +kernel
theorem dX2_setOf_83 : decode cX2_setOf 83 = .ok (.lload_n 3, 1) := by decide +kernel
theorem dX2_setOf_84 : decode cX2_setOf 84 = .ok (.lreturn, 1) := by decide +kernel
theorem dX3_init_0 : decode cX3_init 0 = .ok (.aload_n 0, 1) := by decide +kernel
theorem dX3_init_1 : decode cX3_init 1 = .ok (.invokespecial 3, 3) := by decide +kernel
theorem dX3_init_4 : decode cX3_init 4 = .ok (.aload_n 0, 1) := by decide +kernel
theorem dX3_init_5 : decode cX3_init 5 = .ok (.sipush 192, 3) := by decide +kernel
theorem dX3_init_8 : decode cX3_init 8 = .ok (.newarray .int, 2) := by decide +kernel
theorem dX3_init_10 : decode cX3_init 10 = .ok (.putfield 9, 3) := by decide +kernel
theorem dX3_init_13 : decode cX3_init 13 = .ok (.aload_n 0, 1) := by decide +kernel
theorem dX3_init_14 : decode cX3_init 14 = .ok (.iconst 4, 1) := by decide +kernel
theorem dX3_init_15 : decode cX3_init 15 = .ok (.newarray .long, 2) := by decide +kernel
theorem dX3_init_17 : decode cX3_init 17 = .ok (.putfield 15, 3) := by decide +kernel
theorem dX3_init_20 : decode cX3_init 20 = .ok (.aload_n 0, 1) := by decide +kernel
theorem dX3_init_21 : decode cX3_init 21 = .ok (.sipush 192, 3) := by decide +kernel
theorem dX3_init_24 : decode cX3_init 24 = .ok (.newarray .int, 2) := by decide +kernel
theorem dX3_init_26 : decode cX3_init 26 = .ok (.putfield 19, 3) := by decide +kernel
theorem dX3_init_29 : decode cX3_init 29 = .ok (.aload_n 0, 1) := by decide +kernel
theorem dX3_init_30 : decode cX3_init 30 = .ok (.aload_n 1, 1) := by decide +kernel
theorem dX3_init_31 : decode cX3_init 31 = .ok (.putfield 22, 3) := by decide +kernel
theorem dX3_init_34 : decode cX3_init 34 = .ok (.aload_n 0, 1) := by decide +kernel
theorem dX3_init_35 : decode cX3_init 35 = .ok (.aload_n 2, 1) := by decide +kernel
theorem dX3_init_36 : decode cX3_init 36 = .ok (.putfield 26, 3) := by decide +kernel
theorem dX3_init_39 : decode cX3_init 39 = .ok (.return_, 1) := by decide +kernel
theorem dX3_byIndex_0 : decode cX3_byIndex 0 = .ok (.aload_n 0, 1) := by decide +kernel
theorem dX3_byIndex_1 : decode cX3_byIndex 1 = .ok (.getfield 22, 3) := by decide +kernel
theorem dX3_byIndex_4 : decode cX3_byIndex 4 = .ok (.iload_n 1, 1) := by decide +kernel
theorem dX3_byIndex_5 : decode cX3_byIndex 5 = .ok (.aaload, 1) := by decide +kernel
theorem dX3_byIndex_6 : decode cX3_byIndex 6 = .ok (.getfield 30, 3) := by decide +kernel
theorem dX3_byIndex_9 : decode cX3_byIndex 9 = .ok (.astore 4, 2) := by decide +kernel
theorem dX3_byIndex_11 : decode cX3_byIndex 11 = .ok (.aload_n 0, 1) := by decide +kernel
theorem dX3_byIndex_12 : decode cX3_byIndex 12 = .ok (.aload_n 0, 1) := by decide +kernel
theorem dX3_byIndex_13 : decode cX3_byIndex 13 = .ok (.getfield 22, 3) := by decide +kernel
theorem dX3_byIndex_16 : decode cX3_byIndex 16 = .ok (.iload_n 1, 1) := by decide +kernel
theorem dX3_byIndex_17 : decode cX3_byIndex 17 = .ok (.aaload, 1) := by decide +kernel
theorem dX3_byIndex_18 : decode cX3_byIndex 18 = .ok (.getfield 36, 3) := by decide +kernel
theorem dX3_byIndex_21 : decode cX3_byIndex 21 = .ok (.putfield 40, 3) := by decide +kernel
theorem dX3_byIndex_24 : decode cX3_byIndex 24 = .ok (.aload_n 0, 1) := by decide +kernel
theorem dX3_byIndex_25 : decode cX3_byIndex 25 = .ok (.iconst 0, 1) := by decide +kernel
theorem dX3_byIndex_26 : decode cX3_byIndex 26 = .ok (.putfield 41, 3) := by decide +kernel
theorem dX3_byIndex_29 : decode cX3_byIndex 29 = .ok (.aload_n 0, 1) := by decide +kernel
theorem dX3_byIndex_30 : decode cX3_byIndex 30 = .ok (.getfield 26, 3) := by decide +kernel
theorem dX3_byIndex_33 : decode cX3_byIndex 33 = .ok (.aload 4, 2) := by decide +kernel
theorem dX3_byIndex_35 : decode cX3_byIndex 35 = .ok (.invokevirtual 44, 3) := by decide +kernel
theorem dX3_byIndex_38 : decode cX3_byIndex 38 = .ok (.lstore 5, 2) := by decide +kernel
theorem dX3_byIndex_40 : decode cX3_byIndex 40 = .ok (.iconst 0, 1) := by decide +kernel
theorem dX3_byIndex_41 : decode cX3_byIndex 41 = .ok (.istore 7, 2) := by decide +kernel
theorem dX3_byIndex_43 : decode cX3_byIndex 43 = .ok (.iload 7, 2) := by decide +kernel
theorem dX3_byIndex_45 : decode cX3_byIndex 45 = .ok (.bipush 48, 2) := by decide +kernel
theorem dX3_byIndex_47 : decode cX3_byIndex 47 = .ok (.if_icmp .ge 71, 3) := by decide +kernel
theorem dX3_byIndex_50 : decode cX3_byIndex 50 = .ok (.lload 5, 2) := by decide +kernel
theorem dX3_byIndex_52 : decode cX3_byIndex 52 = .ok (.iload 7, 2) := by decide +kernel
theorem dX3_byIndex_54 : decode cX3_byIndex 54 = .ok (.lshr, 1) := by decide +kernel
theorem dX3_byIndex_55 : decode cX3_byIndex 55 = .ok (.lconst 1, 1) := by decide +kernel
theorem dX3_byIndex_56 : decode cX3_byIndex 56 = .ok (.land, 1) := by decide +kernel
theorem dX3_byIndex_57 : decode cX3_byIndex 57 = .ok (.lconst 1, 1) := by decide +kernel
theorem dX3_byIndex_58 : decode cX3_byIndex 58 = .ok (.lcmp, 1) := by decide +kernel
theorem dX3_byIndex_59 : decode cX3_byIndex 59 = .ok (.ifCond .ne 19, 3) := by decide +kernel
theorem dX3_byIndex_62 : decode cX3_byIndex 62 = .ok (.aload 4, 2) := by decide +kernel
theorem dX3_byIndex_64 : decode cX3_byIndex 64 = .ok (.iload 7, 2) := by decide +kernel
theorem dX3_byIndex_66 : decode cX3_byIndex 66 = .ok (.iload_n 2, 1) := by decide +kernel
theorem dX3_byIndex_67 : decode cX3_byIndex 67 = .ok (.iload_n 3, 1) := by decide +kernel
theorem dX3_byIndex_68 : decode cX3_byIndex 68 = .ok (.invokestatic 50, 3) := by decide +kernel
theorem dX3_byIndex_71 : decode cX3_byIndex 71 = .ok (.ifCond .eq 7, 3) := by decide +kernel
theorem dX3_byIndex_74 : decode cX3_byIndex 74 = .ok (.iconst 1, 1) := by decide +kernel
theorem dX3_byIndex_75 : decode cX3_byIndex 75 = .ok (.goto 4, 3) := by decide +kernel
theorem dX3_byIndex_78 : decode cX3_byIndex 78 = .ok (.iconst 0, 1) := by decide +kernel
theorem dX3_byIndex_79 : decode cX3_byIndex 79 = .ok (.istore 8, 2) := by decide +kernel
theorem dX3_byIndex_81 : decode cX3_byIndex 81 = .ok (.iload 8, 2) := by decide +kernel
theorem dX3_byIndex_83 : decode cX3_byIndex 83 = .ok (.ifCond .eq 29, 3) := by decide +kernel
theorem dX3_byIndex_86 : decode cX3_byIndex 86 = .ok (.aload 4, 2) := by decide +kernel
theorem dX3_byIndex_88 : decode cX3_byIndex 88 = .ok (.aload_n 0, 1) := by decide +kernel
theorem dX3_byIndex_89 : decode cX3_byIndex 89 = .ok (.getfield 40, 3) := by decide +kernel
theorem dX3_byIndex_92 : decode cX3_byIndex 92 = .ok (.iload 7, 2) := by decide +kernel
theorem dX3_byIndex_94 : decode cX3_byIndex 94 = .ok (.iconst 0, 1) := by decide +kernel
theorem dX3_byIndex_95 : decode cX3_byIndex 95 = .ok (.invokevirtual 54, 3) := by decide +kernel
theorem dX3_byIndex_98 : decode cX3_byIndex 98 = .ok (.ifCond .eq 14, 3) := by decide +kernel
theorem dX3_byIndex_101 : decode cX3_byIndex 101 = .ok (.aload_n 0, 1) := by decide +kernel
theorem dX3_byIndex_102 : decode cX3_byIndex 102 = .ok (.iload_n 1, 1) := by decide +kernel
theorem dX3_byIndex_103 : decode cX3_byIndex 103 = .ok (.bipush 100, 2) := by decide +kernel
theorem dX3_byIndex_105 : decode cX3_byIndex 105 = .ok (.imul, 1) := by decide +kernel
theorem dX3_byIndex_106 : decode cX3_byIndex 106 = .ok (.iload 7, 2) := by decide +kernel
theorem dX3_byIndex_108 : decode cX3_byIndex 108 = .ok (.iadd, 1) := by decide +kernel
theorem dX3_byIndex_109 : decode cX3_byIndex 109 = .ok (.invokevirtual 60, 3) := by decide +kernel
theorem dX3_byIndex_112 : decode cX3_byIndex 112 = .ok (.iinc 7 1, 3) := by decide +kernel
theorem dX3_byIndex_115 : decode cX3_byIndex 115 = .ok (.goto (-72), 3) := by decide +kernel
theorem dX3_byIndex_118 : decode cX3_byIndex 118 = .ok (.aload_n 0, 1) := by decide +kernel
theorem dX3_byIndex_119 : decode cX3_byIndex 119 = .ok (.getfield 41, 3) := by decide +kernel
theorem dX3_byIndex_122 : decode cX3_byIndex 122 = .ok (.ireturn, 1) := by decide +kernel
theorem dX3_isInScope_0 : decode cX3_isInScope 0 = .ok (.iload_n 3, 1) := by decide +kernel
theorem dX3_isInScope_1 : decode cX3_isInScope 1 = .ok (.ifCond .ne 14, 3) := by decide +kernel
theorem dX3_isInScope_4 : decode cX3_isInScope 4 = .ok (.iload_n 1, 1) := by decide +kernel
theorem dX3_isInScope_5 : decode cX3_isInScope 5 = .ok (.iload_n 2, 1) := by decide +kernel
theorem dX3_isInScope_6 : decode cX3_isInScope 6 = .ok (.if_icmp .ne 7, 3) := by decide +kernel
theorem dX3_isInScope_9 : decode cX3_isInScope 9 = .ok (.iconst 1, 1) := by decide +kernel
theorem dX3_isInScope_10 : decode cX3_isInScope 10 = .ok (.goto 4, 3) := by decide +kernel
theorem dX3_isInScope_13 : decode cX3_isInScope 13 = .ok (.iconst 0, 1) := by decide +kernel
theorem dX3_isInScope_14 : decode cX3_isInScope 14 = .ok (.ireturn, 1) := by decide +kernel
theorem dX3_isInScope_15 : decode cX3_isInScope 15 = .ok (.iload_n 3, 1) := by decide +kernel
theorem dX3_isInScope_16 : decode cX3_isInScope 16 = .ok (.iconst 1, 1) := by decide +kernel
theorem dX3_isInScope_17 : decode cX3_isInScope 17 = .ok (.if_icmp .ne 20, 3) := by decide +kernel
theorem dX3_isInScope_20 : decode cX3_isInScope 20 = .ok (.aload_n 0, 1) := by decide +kernel
theorem dX3_isInScope_21 : decode cX3_isInScope 21 = .ok (.iload_n 1, 1) := by decide +kernel
theorem dX3_isInScope_22 : decode cX3_isInScope 22 = .ok (.invokevirtual 64, 3) := by decide +kernel
theorem dX3_isInScope_25 : decode cX3_isInScope 25 = .ok (.iload_n 2, 1) := by decide +kernel
theorem dX3_isInScope_26 : decode cX3_isInScope 26 = .ok (.if_icmp .ne 7, 3) := by decide +kernel
theorem dX3_isInScope_29 : decode cX3_isInScope 29 = .ok (.iconst 1, 1) := by decide +kernel
theorem dX3_isInScope_30 : decode cX3_isInScope 30 = .ok (.goto 13, 3) := by decide +kernel
theorem dX3_isInScope_33 : decode cX3_isInScope 33 = .ok (.iconst 0, 1) := by decide +kernel
theorem dX3_isInScope_34 : decode cX3_isInScope 34 = .ok (.goto 9, 3) := by decide +kernel
theorem dX3_isInScope_37 : decode cX3_isInScope 37 = .ok (.aload_n 0, 1) := by decide +kernel
theorem dX3_isInScope_38 : decode cX3_isInScope 38 = .ok (.iload_n 1, 1) := by decide +kernel
theorem dX3_isInScope_39 : decode cX3_isInScope 39 = .ok (.iload_n 2, 1) := by decide +kernel
theorem dX3_isInScope_40 : decode cX3_isInScope 40 = .ok (.invokevirtual 68, 3) := by decide +kernel
theorem dX3_isInScope_43 : decode cX3_isInScope 43 = .ok (.ireturn, 1) := by decide +kernel
theorem dX3_byWalk_0 : decode cX3_byWalk 0 = .ok (.aload_n 0, 1) := by decide +kernel
theorem dX3_byWalk_1 : decode cX3_byWalk 1 = .ok (.getfield 22, 3) := by decide +kernel
theorem dX3_byWalk_4 : decode cX3_byWalk 4 = .ok (.iload_n 1, 1) := by decide +kernel
theorem dX3_byWalk_5 : decode cX3_byWalk 5 = .ok (.aaload, 1) := by decide +kernel
theorem dX3_byWalk_6 : decode cX3_byWalk 6 = .ok (.getfield 30, 3) := by decide +kernel
theorem dX3_byWalk_9 : decode cX3_byWalk 9 = .ok (.astore 4, 2) := by decide +kernel
theorem dX3_byWalk_11 : decode cX3_byWalk 11 = .ok (.iload_n 3, 1) := by decide +kernel
theorem dX3_byWalk_12 : decode cX3_byWalk 12 = .ok (.iconst 1, 1) := by decide +kernel
theorem dX3_byWalk_13 : decode cX3_byWalk 13 = .ok (.if_icmp .ne 12, 3) := by decide +kernel
theorem dX3_byWalk_16 : decode cX3_byWalk 16 = .ok (.aload 4, 2) := by decide +kernel
theorem dX3_byWalk_18 : decode cX3_byWalk 18 = .ok (.iload_n 2, 1) := by decide +kernel
theorem dX3_byWalk_19 : decode cX3_byWalk 19 = .ok (.invokevirtual 72, 3) := by decide +kernel
theorem dX3_byWalk_22 : decode cX3_byWalk 22 = .ok (.goto 6, 3) := by decide +kernel
theorem dX3_byWalk_25 : decode cX3_byWalk 25 = .ok (.lconst 1, 1) := by decide +kernel
theorem dX3_byWalk_26 : decode cX3_byWalk 26 = .ok (.iload_n 2, 1) := by decide +kernel
theorem dX3_byWalk_27 : decode cX3_byWalk 27 = .ok (.lshl, 1) := by decide +kernel
theorem dX3_byWalk_28 : decode cX3_byWalk 28 = .ok (.lstore 5, 2) := by decide +kernel
theorem dX3_byWalk_30 : decode cX3_byWalk 30 = .ok (.iconst 0, 1) := by decide +kernel
theorem dX3_byWalk_31 : decode cX3_byWalk 31 = .ok (.istore 7, 2) := by decide +kernel
theorem dX3_byWalk_33 : decode cX3_byWalk 33 = .ok (.iconst 0, 1) := by decide +kernel
theorem dX3_byWalk_34 : decode cX3_byWalk 34 = .ok (.istore 8, 2) := by decide +kernel
theorem dX3_byWalk_36 : decode cX3_byWalk 36 = .ok (.iload 8, 2) := by decide +kernel
theorem dX3_byWalk_38 : decode cX3_byWalk 38 = .ok (.bipush 48, 2) := by decide +kernel
theorem dX3_byWalk_40 : decode cX3_byWalk 40 = .ok (.if_icmp .ge 86, 3) := by decide +kernel
theorem dX3_byWalk_43 : decode cX3_byWalk 43 = .ok (.lload 5, 2) := by decide +kernel
theorem dX3_byWalk_45 : decode cX3_byWalk 45 = .ok (.lconst 0, 1) := by decide +kernel
theorem dX3_byWalk_46 : decode cX3_byWalk 46 = .ok (.lcmp, 1) := by decide +kernel
theorem dX3_byWalk_47 : decode cX3_byWalk 47 = .ok (.ifCond .eq 79, 3) := by decide +kernel
theorem dX3_byWalk_50 : decode cX3_byWalk 50 = .ok (.lload 5, 2) := by decide +kernel
theorem dX3_byWalk_52 : decode cX3_byWalk 52 = .ok (.invokestatic 76, 3) := by decide +kernel
theorem dX3_byWalk_55 : decode cX3_byWalk 55 = .ok (.istore 9, 2) := by decide +kernel
theorem dX3_byWalk_57 : decode cX3_byWalk 57 = .ok (.lload 5, 2) := by decide +kernel
theorem dX3_byWalk_59 : decode cX3_byWalk 59 = .ok (.lload 5, 2) := by decide +kernel
theorem dX3_byWalk_61 : decode cX3_byWalk 61 = .ok (.lconst 1, 1) := by decide +kernel
theorem dX3_byWalk_62 : decode cX3_byWalk 62 = .ok (.lsub, 1) := by decide +kernel
theorem dX3_byWalk_63 : decode cX3_byWalk 63 = .ok (.land, 1) := by decide +kernel
theorem dX3_byWalk_64 : decode cX3_byWalk 64 = .ok (.lstore 5, 2) := by decide +kernel
theorem dX3_byWalk_66 : decode cX3_byWalk 66 = .ok (.aload_n 0, 1) := by decide +kernel
theorem dX3_byWalk_67 : decode cX3_byWalk 67 = .ok (.getfield 26, 3) := by decide +kernel
theorem dX3_byWalk_70 : decode cX3_byWalk 70 = .ok (.aload 4, 2) := by decide +kernel
theorem dX3_byWalk_72 : decode cX3_byWalk 72 = .ok (.iload 9, 2) := by decide +kernel
theorem dX3_byWalk_74 : decode cX3_byWalk 74 = .ok (.invokevirtual 82, 3) := by decide +kernel
theorem dX3_byWalk_77 : decode cX3_byWalk 77 = .ok (.ifCond .eq 26, 3) := by decide +kernel
theorem dX3_byWalk_80 : decode cX3_byWalk 80 = .ok (.aload 4, 2) := by decide +kernel
theorem dX3_byWalk_82 : decode cX3_byWalk 82 = .ok (.aload_n 0, 1) := by decide +kernel
theorem dX3_byWalk_83 : decode cX3_byWalk 83 = .ok (.getfield 22, 3) := by decide +kernel
theorem dX3_byWalk_86 : decode cX3_byWalk 86 = .ok (.iload_n 1, 1) := by decide +kernel
theorem dX3_byWalk_87 : decode cX3_byWalk 87 = .ok (.aaload, 1) := by decide +kernel
theorem dX3_byWalk_88 : decode cX3_byWalk 88 = .ok (.getfield 36, 3) := by decide +kernel
theorem dX3_byWalk_91 : decode cX3_byWalk 91 = .ok (.iload 9, 2) := by decide +kernel
theorem dX3_byWalk_93 : decode cX3_byWalk 93 = .ok (.iconst 0, 1) := by decide +kernel
theorem dX3_byWalk_94 : decode cX3_byWalk 94 = .ok (.invokevirtual 54, 3) := by decide +kernel
theorem dX3_byWalk_97 : decode cX3_byWalk 97 = .ok (.ifCond .eq 6, 3) := by decide +kernel
theorem dX3_byWalk_100 : decode cX3_byWalk 100 = .ok (.iinc 7 1, 3) := by decide +kernel
theorem dX3_byWalk_103 : decode cX3_byWalk 103 = .ok (.iload_n 3, 1) := by decide +kernel
theorem dX3_byWalk_104 : decode cX3_byWalk 104 = .ok (.iconst 2, 1) := by decide +kernel
theorem dX3_byWalk_105 : decode cX3_byWalk 105 = .ok (.if_icmp .ne 15, 3) := by decide +kernel
theorem dX3_byWalk_108 : decode cX3_byWalk 108 = .ok (.lload 5, 2) := by decide +kernel
theorem dX3_byWalk_110 : decode cX3_byWalk 110 = .ok (.aload 4, 2) := by decide +kernel
theorem dX3_byWalk_112 : decode cX3_byWalk 112 = .ok (.iload 9, 2) := by decide +kernel
theorem dX3_byWalk_114 : decode cX3_byWalk 114 = .ok (.invokevirtual 72, 3) := by decide +kernel
theorem dX3_byWalk_117 : decode cX3_byWalk 117 = .ok (.lor, 1) := by decide +kernel
theorem dX3_byWalk_118 : decode cX3_byWalk 118 = .ok (.lstore 5, 2) := by decide +kernel
theorem dX3_byWalk_120 : decode cX3_byWalk 120 = .ok (.iinc 8 1, 3) := by decide +kernel
theorem dX3_byWalk_123 : decode cX3_byWalk 123 = .ok (.goto (-87), 3) := by decide +kernel
theorem dX3_byWalk_126 : decode cX3_byWalk 126 = .ok (.iload 7, 2) := by decide +kernel
theorem dX3_byWalk_128 : decode cX3_byWalk 128 = .ok (.ireturn, 1) := by decide +kernel
theorem dX3_byLinks_0 : decode cX3_byLinks 0 = .ok (.aload_n 0, 1) := by decide +kernel
theorem dX3_byLinks_1 : decode cX3_byLinks 1 = .ok (.aload_n 0, 1) := by decide +kernel
theorem dX3_byLinks_2 : decode cX3_byLinks 2 = .ok (.getfield 22, 3) := by decide +kernel
theorem dX3_byLinks_5 : decode cX3_byLinks 5 = .ok (.iload_n 1, 1) := by decide +kernel
theorem dX3_byLinks_6 : decode cX3_byLinks 6 = .ok (.aaload, 1) := by decide +kernel
theorem dX3_byLinks_7 : decode cX3_byLinks 7 = .ok (.getfield 36, 3) := by decide +kernel
theorem dX3_byLinks_10 : decode cX3_byLinks 10 = .ok (.putfield 40, 3) := by decide +kernel
theorem dX3_byLinks_13 : decode cX3_byLinks 13 = .ok (.aload_n 0, 1) := by decide +kernel
theorem dX3_byLinks_14 : decode cX3_byLinks 14 = .ok (.iconst 0, 1) := by decide +kernel
theorem dX3_byLinks_15 : decode cX3_byLinks 15 = .ok (.putfield 41, 3) := by decide +kernel
theorem dX3_byLinks_18 : decode cX3_byLinks 18 = .ok (.aload_n 0, 1) := by decide +kernel
theorem dX3_byLinks_19 : decode cX3_byLinks 19 = .ok (.iconst 0, 1) := by decide +kernel
theorem dX3_byLinks_20 : decode cX3_byLinks 20 = .ok (.putfield 86, 3) := by decide +kernel
theorem dX3_byLinks_23 : decode cX3_byLinks 23 = .ok (.aload_n 0, 1) := by decide +kernel
theorem dX3_byLinks_24 : decode cX3_byLinks 24 = .ok (.getfield 15, 3) := by decide +kernel
theorem dX3_byLinks_27 : decode cX3_byLinks 27 = .ok (.lconst 0, 1) := by decide +kernel
theorem dX3_byLinks_28 : decode cX3_byLinks 28 = .ok (.invokestatic 89, 3) := by decide +kernel
theorem dX3_byLinks_31 : decode cX3_byLinks 31 = .ok (.aload_n 0, 1) := by decide +kernel
theorem dX3_byLinks_32 : decode cX3_byLinks 32 = .ok (.iload_n 1, 1) := by decide +kernel
theorem dX3_byLinks_33 : decode cX3_byLinks 33 = .ok (.bipush 100, 2) := by decide +kernel
theorem dX3_byLinks_35 : decode cX3_byLinks 35 = .ok (.imul, 1) := by decide +kernel
theorem dX3_byLinks_36 : decode cX3_byLinks 36 = .ok (.iload_n 2, 1) := by decide +kernel
theorem dX3_byLinks_37 : decode cX3_byLinks 37 = .ok (.iadd, 1) := by decide +kernel
theorem dX3_byLinks_38 : decode cX3_byLinks 38 = .ok (.invokevirtual 95, 3) := by decide +kernel
theorem dX3_byLinks_41 : decode cX3_byLinks 41 = .ok (.istore 4, 2) := by decide +kernel
theorem dX3_byLinks_43 : decode cX3_byLinks 43 = .ok (.iload 4, 2) := by decide +kernel
theorem dX3_byLinks_45 : decode cX3_byLinks 45 = .ok (.iconst (-1), 1) := by decide +kernel
theorem dX3_byLinks_46 : decode cX3_byLinks 46 = .ok (.if_icmp .eq 14, 3) := by decide +kernel
theorem dX3_byLinks_49 : decode cX3_byLinks 49 = .ok (.iload_n 3, 1) := by decide +kernel
theorem dX3_byLinks_50 : decode cX3_byLinks 50 = .ok (.iconst 1, 1) := by decide +kernel
theorem dX3_byLinks_51 : decode cX3_byLinks 51 = .ok (.if_icmp .eq 9, 3) := by decide +kernel
theorem dX3_byLinks_54 : decode cX3_byLinks 54 = .ok (.aload_n 0, 1) := by decide +kernel
theorem dX3_byLinks_55 : decode cX3_byLinks 55 = .ok (.iload 4, 2) := by decide +kernel
theorem dX3_byLinks_57 : decode cX3_byLinks 57 = .ok (.invokevirtual 98, 3) := by decide +kernel
theorem dX3_byLinks_60 : decode cX3_byLinks 60 = .ok (.iload 4, 2) := by decide +kernel
theorem dX3_byLinks_62 : decode cX3_byLinks 62 = .ok (.iconst (-1), 1) := by decide +kernel
theorem dX3_byLinks_63 : decode cX3_byLinks 63 = .ok (.if_icmp .eq 13, 3) := by decide +kernel
theorem dX3_byLinks_66 : decode cX3_byLinks 66 = .ok (.iload_n 3, 1) := by decide +kernel
theorem dX3_byLinks_67 : decode cX3_byLinks 67 = .ok (.ifCond .eq 9, 3) := by decide +kernel
theorem dX3_byLinks_70 : decode cX3_byLinks 70 = .ok (.aload_n 0, 1) := by decide +kernel
theorem dX3_byLinks_71 : decode cX3_byLinks 71 = .ok (.iload 4, 2) := by decide +kernel
theorem dX3_byLinks_73 : decode cX3_byLinks 73 = .ok (.invokevirtual 101, 3) := by decide +kernel
theorem dX3_byLinks_76 : decode cX3_byLinks 76 = .ok (.iconst 0, 1) := by decide +kernel
theorem dX3_byLinks_77 : decode cX3_byLinks 77 = .ok (.istore 5, 2) := by decide +kernel
theorem dX3_byLinks_79 : decode cX3_byLinks 79 = .ok (.iload 5, 2) := by decide +kernel
theorem dX3_byLinks_81 : decode cX3_byLinks 81 = .ok (.sipush 192, 3) := by decide +kernel
theorem dX3_byLinks_84 : decode cX3_byLinks 84 = .ok (.if_icmp .ge 64, 3) := by decide +kernel
theorem dX3_byLinks_87 : decode cX3_byLinks 87 = .ok (.aload_n 0, 1) := by decide +kernel
theorem dX3_byLinks_88 : decode cX3_byLinks 88 = .ok (.getfield 86, 3) := by decide +kernel
theorem dX3_byLinks_91 : decode cX3_byLinks 91 = .ok (.ifCond .le 57, 3) := by decide +kernel
theorem dX3_byLinks_94 : decode cX3_byLinks 94 = .ok (.aload_n 0, 1) := by decide +kernel
theorem dX3_byLinks_95 : decode cX3_byLinks 95 = .ok (.dup, 1) := by decide +kernel
theorem dX3_byLinks_96 : decode cX3_byLinks 96 = .ok (.getfield 86, 3) := by decide +kernel
theorem dX3_byLinks_99 : decode cX3_byLinks 99 = .ok (.iconst 1, 1) := by decide +kernel
theorem dX3_byLinks_100 : decode cX3_byLinks 100 = .ok (.isub, 1) := by decide +kernel
theorem dX3_byLinks_101 : decode cX3_byLinks 101 = .ok (.putfield 86, 3) := by decide +kernel
theorem dX3_byLinks_104 : decode cX3_byLinks 104 = .ok (.aload_n 0, 1) := by decide +kernel
theorem dX3_byLinks_105 : decode cX3_byLinks 105 = .ok (.aload_n 0, 1) := by decide +kernel
theorem dX3_byLinks_106 : decode cX3_byLinks 106 = .ok (.getfield 19, 3) := by decide +kernel
theorem dX3_byLinks_109 : decode cX3_byLinks 109 = .ok (.aload_n 0, 1) := by decide +kernel
theorem dX3_byLinks_110 : decode cX3_byLinks 110 = .ok (.getfield 86, 3) := by decide +kernel
theorem dX3_byLinks_113 : decode cX3_byLinks 113 = .ok (.iaload, 1) := by decide +kernel
theorem dX3_byLinks_114 : decode cX3_byLinks 114 = .ok (.invokevirtual 95, 3) := by decide +kernel
theorem dX3_byLinks_117 : decode cX3_byLinks 117 = .ok (.istore 4, 2) := by decide +kernel
theorem dX3_byLinks_119 : decode cX3_byLinks 119 = .ok (.iload 4, 2) := by decide +kernel
theorem dX3_byLinks_121 : decode cX3_byLinks 121 = .ok (.iconst (-1), 1) := by decide +kernel
theorem dX3_byLinks_122 : decode cX3_byLinks 122 = .ok (.if_icmp .eq 20, 3) := by decide +kernel
theorem dX3_byLinks_125 : decode cX3_byLinks 125 = .ok (.aload_n 0, 1) := by decide +kernel
theorem dX3_byLinks_126 : decode cX3_byLinks 126 = .ok (.iload 4, 2) := by decide +kernel
theorem dX3_byLinks_128 : decode cX3_byLinks 128 = .ok (.invokevirtual 98, 3) := by decide +kernel
theorem dX3_byLinks_131 : decode cX3_byLinks 131 = .ok (.iload_n 3, 1) := by decide +kernel
theorem dX3_byLinks_132 : decode cX3_byLinks 132 = .ok (.iconst 2, 1) := by decide +kernel
theorem dX3_byLinks_133 : decode cX3_byLinks 133 = .ok (.if_icmp .ne 9, 3) := by decide +kernel
theorem dX3_byLinks_136 : decode cX3_byLinks 136 = .ok (.aload_n 0, 1) := by decide +kernel
theorem dX3_byLinks_137 : decode cX3_byLinks 137 = .ok (.iload 4, 2) := by decide +kernel
theorem dX3_byLinks_139 : decode cX3_byLinks 139 = .ok (.invokevirtual 101, 3) := by decide +kernel
theorem dX3_byLinks_142 : decode cX3_byLinks 142 = .ok (.iinc 5 1, 3) := by decide +kernel
theorem dX3_byLinks_145 : decode cX3_byLinks 145 = .ok (.goto (-66), 3) := by decide +kernel
theorem dX3_byLinks_148 : decode cX3_byLinks 148 = .ok (.aload_n 0, 1) := by decide +kernel
theorem dX3_byLinks_149 : decode cX3_byLinks 149 = .ok (.getfield 41, 3) := by decide +kernel
theorem dX3_byLinks_152 : decode cX3_byLinks 152 = .ok (.ireturn, 1) := by decide +kernel
theorem dX3_arriveFrom_0 : decode cX3_arriveFrom 0 = .ok (.iload_n 1, 1) := by decide +kernel
theorem dX3_arriveFrom_1 : decode cX3_arriveFrom 1 = .ok (.istore_n 2, 1) := by decide +kernel
theorem dX3_arriveFrom_2 : decode cX3_arriveFrom 2 = .ok (.iconst 0, 1) := by decide +kernel
theorem dX3_arriveFrom_3 : decode cX3_arriveFrom 3 = .ok (.istore_n 3, 1) := by decide +kernel
theorem dX3_arriveFrom_4 : decode cX3_arriveFrom 4 = .ok (.iload_n 3, 1) := by decide +kernel
theorem dX3_arriveFrom_5 : decode cX3_arriveFrom 5 = .ok (.sipush 192, 3) := by decide +kernel
theorem dX3_arriveFrom_8 : decode cX3_arriveFrom 8 = .ok (.if_icmp .gt 128, 3) := by decide +kernel
theorem dX3_arriveFrom_11 : decode cX3_arriveFrom 11 = .ok (.iload_n 2, 1) := by decide +kernel
theorem dX3_arriveFrom_12 : decode cX3_arriveFrom 12 = .ok (.bipush 100, 2) := by decide +kernel
theorem dX3_arriveFrom_14 : decode cX3_arriveFrom 14 = .ok (.idiv, 1) := by decide +kernel
theorem dX3_arriveFrom_15 : decode cX3_arriveFrom 15 = .ok (.istore 4, 2) := by decide +kernel
theorem dX3_arriveFrom_17 : decode cX3_arriveFrom 17 = .ok (.iload_n 2, 1) := by decide +kernel
theorem dX3_arriveFrom_18 : decode cX3_arriveFrom 18 = .ok (.bipush 100, 2) := by decide +kernel
theorem dX3_arriveFrom_20 : decode cX3_arriveFrom 20 = .ok (.irem, 1) := by decide +kernel
theorem dX3_arriveFrom_21 : decode cX3_arriveFrom 21 = .ok (.istore 5, 2) := by decide +kernel
theorem dX3_arriveFrom_23 : decode cX3_arriveFrom 23 = .ok (.aload_n 0, 1) := by decide +kernel
theorem dX3_arriveFrom_24 : decode cX3_arriveFrom 24 = .ok (.getfield 22, 3) := by decide +kernel
theorem dX3_arriveFrom_27 : decode cX3_arriveFrom 27 = .ok (.iload 4, 2) := by decide +kernel
theorem dX3_arriveFrom_29 : decode cX3_arriveFrom 29 = .ok (.aaload, 1) := by decide +kernel
theorem dX3_arriveFrom_30 : decode cX3_arriveFrom 30 = .ok (.getfield 30, 3) := by decide +kernel
theorem dX3_arriveFrom_33 : decode cX3_arriveFrom 33 = .ok (.iload 5, 2) := by decide +kernel
theorem dX3_arriveFrom_35 : decode cX3_arriveFrom 35 = .ok (.invokevirtual 104, 3) := by decide +kernel
theorem dX3_arriveFrom_38 : decode cX3_arriveFrom 38 = .ok (.ifCond .eq 20, 3) := by decide +kernel
theorem dX3_arriveFrom_41 : decode cX3_arriveFrom 41 = .ok (.aload_n 0, 1) := by decide +kernel
theorem dX3_arriveFrom_42 : decode cX3_arriveFrom 42 = .ok (.getfield 15, 3) := by decide +kernel
theorem dX3_arriveFrom_45 : decode cX3_arriveFrom 45 = .ok (.iload 4, 2) := by decide +kernel
theorem dX3_arriveFrom_47 : decode cX3_arriveFrom 47 = .ok (.laload, 1) := by decide +kernel
theorem dX3_arriveFrom_48 : decode cX3_arriveFrom 48 = .ok (.iload 5, 2) := by decide +kernel
theorem dX3_arriveFrom_50 : decode cX3_arriveFrom 50 = .ok (.lshr, 1) := by decide +kernel
theorem dX3_arriveFrom_51 : decode cX3_arriveFrom 51 = .ok (.lconst 1, 1) := by decide +kernel
theorem dX3_arriveFrom_52 : decode cX3_arriveFrom 52 = .ok (.land, 1) := by decide +kernel
theorem dX3_arriveFrom_53 : decode cX3_arriveFrom 53 = .ok (.lconst 1, 1) := by decide +kernel
theorem dX3_arriveFrom_54 : decode cX3_arriveFrom 54 = .ok (.lcmp, 1) := by decide +kernel
theorem dX3_arriveFrom_55 : decode cX3_arriveFrom 55 = .ok (.ifCond .ne 5, 3) := by decide +kernel
theorem dX3_arriveFrom_58 : decode cX3_arriveFrom 58 = .ok (.iconst (-1), 1) := by decide +kernel
theorem dX3_arriveFrom_59 : decode cX3_arriveFrom 59 = .ok (.ireturn, 1) := by decide +kernel
theorem dX3_arriveFrom_60 : decode cX3_arriveFrom 60 = .ok (.aload_n 0, 1) := by decide +kernel
theorem dX3_arriveFrom_61 : decode cX3_arriveFrom 61 = .ok (.getfield 15, 3) := by decide +kernel
theorem dX3_arriveFrom_64 : decode cX3_arriveFrom 64 = .ok (.iload 4, 2) := by decide +kernel
theorem dX3_arriveFrom_66 : decode cX3_arriveFrom 66 = .ok (.dup2, 1) := by decide +kernel
theorem dX3_arriveFrom_67 : decode cX3_arriveFrom 67 = .ok (.laload, 1) := by decide +kernel
theorem dX3_arriveFrom_68 : decode cX3_arriveFrom 68 = .ok (.lconst 1, 1) := by decide +kernel
theorem dX3_arriveFrom_69 : decode cX3_arriveFrom 69 = .ok (.iload 5, 2) := by decide +kernel
theorem dX3_arriveFrom_71 : decode cX3_arriveFrom 71 = .ok (.lshl, 1) := by decide +kernel
theorem dX3_arriveFrom_72 : decode cX3_arriveFrom 72 = .ok (.lor, 1) := by decide +kernel
theorem dX3_arriveFrom_73 : decode cX3_arriveFrom 73 = .ok (.lastore, 1) := by decide +kernel
theorem dX3_arriveFrom_74 : decode cX3_arriveFrom 74 = .ok (.aload_n 0, 1) := by decide +kernel
theorem dX3_arriveFrom_75 : decode cX3_arriveFrom 75 = .ok (.getfield 22, 3) := by decide +kernel
theorem dX3_arriveFrom_78 : decode cX3_arriveFrom 78 = .ok (.iload 4, 2) := by decide +kernel
theorem dX3_arriveFrom_80 : decode cX3_arriveFrom 80 = .ok (.aaload, 1) := by decide +kernel
theorem dX3_arriveFrom_81 : decode cX3_arriveFrom 81 = .ok (.getfield 30, 3) := by decide +kernel
theorem dX3_arriveFrom_84 : decode cX3_arriveFrom 84 = .ok (.getfield 108, 3) := by decide +kernel
theorem dX3_arriveFrom_87 : decode cX3_arriveFrom 87 = .ok (.iload 5, 2) := by decide +kernel
theorem dX3_arriveFrom_89 : decode cX3_arriveFrom 89 = .ok (.iaload, 1) := by decide +kernel
theorem dX3_arriveFrom_90 : decode cX3_arriveFrom 90 = .ok (.istore 6, 2) := by decide +kernel
theorem dX3_arriveFrom_92 : decode cX3_arriveFrom 92 = .ok (.iload 6, 2) := by decide +kernel
theorem dX3_arriveFrom_94 : decode cX3_arriveFrom 94 = .ok (.iconst (-1), 1) := by decide +kernel
theorem dX3_arriveFrom_95 : decode cX3_arriveFrom 95 = .ok (.if_icmp .ne 5, 3) := by decide +kernel
theorem dX3_arriveFrom_98 : decode cX3_arriveFrom 98 = .ok (.iload_n 2, 1) := by decide +kernel
theorem dX3_arriveFrom_99 : decode cX3_arriveFrom 99 = .ok (.ireturn, 1) := by decide +kernel
theorem dX3_arriveFrom_100 : decode cX3_arriveFrom 100 = .ok (.iload 6, 2) := by decide +kernel
theorem dX3_arriveFrom_102 : decode cX3_arriveFrom 102 = .ok (.bipush 100, 2) := by decide +kernel
theorem dX3_arriveFrom_104 : decode cX3_arriveFrom 104 = .ok (.if_icmp .lt 17, 3) := by decide +kernel
theorem dX3_arriveFrom_107 : decode cX3_arriveFrom 107 = .ok (.iload 6, 2) := by decide +kernel
theorem dX3_arriveFrom_109 : decode cX3_arriveFrom 109 = .ok (.bipush 100, 2) := by decide +kernel
theorem dX3_arriveFrom_111 : decode cX3_arriveFrom 111 = .ok (.isub, 1) := by decide +kernel
theorem dX3_arriveFrom_112 : decode cX3_arriveFrom 112 = .ok (.bipush 100, 2) := by decide +kernel
theorem dX3_arriveFrom_114 : decode cX3_arriveFrom 114 = .ok (.imul, 1) := by decide +kernel
theorem dX3_arriveFrom_115 : decode cX3_arriveFrom 115 = .ok (.iload 5, 2) := by decide +kernel
theorem dX3_arriveFrom_117 : decode cX3_arriveFrom 117 = .ok (.iadd, 1) := by decide +kernel
theorem dX3_arriveFrom_118 : decode cX3_arriveFrom 118 = .ok (.goto 11, 3) := by decide +kernel
theorem dX3_arriveFrom_121 : decode cX3_arriveFrom 121 = .ok (.iload 4, 2) := by decide +kernel
theorem dX3_arriveFrom_123 : decode cX3_arriveFrom 123 = .ok (.bipush 100, 2) := by decide +kernel
theorem dX3_arriveFrom_125 : decode cX3_arriveFrom 125 = .ok (.imul, 1) := by decide +kernel
theorem dX3_arriveFrom_126 : decode cX3_arriveFrom 126 = .ok (.iload 6, 2) := by decide +kernel
theorem dX3_arriveFrom_128 : decode cX3_arriveFrom 128 = .ok (.iadd, 1) := by decide +kernel
theorem dX3_arriveFrom_129 : decode cX3_arriveFrom 129 = .ok (.istore_n 2, 1) := by decide +kernel
theorem dX3_arriveFrom_130 : decode cX3_arriveFrom 130 = .ok (.iinc 3 1, 3) := by decide +kernel
theorem dX3_arriveFrom_133 : decode cX3_arriveFrom 133 = .ok (.goto (-129), 3) := by decide +kernel
theorem dX3_arriveFrom_136 : decode cX3_arriveFrom 136 = .ok (.iconst (-1), 1) := by decide +kernel
theorem dX3_arriveFrom_137 : decode cX3_arriveFrom 137 = .ok (.ireturn, 1) := by decide +kernel
theorem dX3_lookAt_0 : decode cX3_lookAt 0 = .ok (.aload_n 0, 1) := by decide +kernel
theorem dX3_lookAt_1 : decode cX3_lookAt 1 = .ok (.getfield 22, 3) := by decide +kernel
theorem dX3_lookAt_4 : decode cX3_lookAt 4 = .ok (.iload_n 1, 1) := by decide +kernel
theorem dX3_lookAt_5 : decode cX3_lookAt 5 = .ok (.bipush 100, 2) := by decide +kernel
theorem dX3_lookAt_7 : decode cX3_lookAt 7 = .ok (.idiv, 1) := by decide +kernel
theorem dX3_lookAt_8 : decode cX3_lookAt 8 = .ok (.aaload, 1) := by decide +kernel
theorem dX3_lookAt_9 : decode cX3_lookAt 9 = .ok (.getfield 30, 3) := by decide +kernel
theorem dX3_lookAt_12 : decode cX3_lookAt 12 = .ok (.astore_n 2, 1) := by decide +kernel
theorem dX3_lookAt_13 : decode cX3_lookAt 13 = .ok (.iload_n 1, 1) := by decide +kernel
theorem dX3_lookAt_14 : decode cX3_lookAt 14 = .ok (.bipush 100, 2) := by decide +kernel
theorem dX3_lookAt_16 : decode cX3_lookAt 16 = .ok (.irem, 1) := by decide +kernel
theorem dX3_lookAt_17 : decode cX3_lookAt 17 = .ok (.istore_n 3, 1) := by decide +kernel
theorem dX3_lookAt_18 : decode cX3_lookAt 18 = .ok (.aload_n 0, 1) := by decide +kernel
theorem dX3_lookAt_19 : decode cX3_lookAt 19 = .ok (.getfield 26, 3) := by decide +kernel
theorem dX3_lookAt_22 : decode cX3_lookAt 22 = .ok (.aload_n 2, 1) := by decide +kernel
theorem dX3_lookAt_23 : decode cX3_lookAt 23 = .ok (.iload_n 3, 1) := by decide +kernel
theorem dX3_lookAt_24 : decode cX3_lookAt 24 = .ok (.invokevirtual 82, 3) := by decide +kernel
theorem dX3_lookAt_27 : decode cX3_lookAt 27 = .ok (.ifCond .eq 21, 3) := by decide +kernel
theorem dX3_lookAt_30 : decode cX3_lookAt 30 = .ok (.aload_n 2, 1) := by decide +kernel
theorem dX3_lookAt_31 : decode cX3_lookAt 31 = .ok (.aload_n 0, 1) := by decide +kernel
theorem dX3_lookAt_32 : decode cX3_lookAt 32 = .ok (.getfield 40, 3) := by decide +kernel
theorem dX3_lookAt_35 : decode cX3_lookAt 35 = .ok (.iload_n 3, 1) := by decide +kernel
theorem dX3_lookAt_36 : decode cX3_lookAt 36 = .ok (.iconst 0, 1) := by decide +kernel
theorem dX3_lookAt_37 : decode cX3_lookAt 37 = .ok (.invokevirtual 54, 3) := by decide +kernel
theorem dX3_lookAt_40 : decode cX3_lookAt 40 = .ok (.ifCond .eq 8, 3) := by decide +kernel
theorem dX3_lookAt_43 : decode cX3_lookAt 43 = .ok (.aload_n 0, 1) := by decide +kernel
theorem dX3_lookAt_44 : decode cX3_lookAt 44 = .ok (.iload_n 1, 1) := by decide +kernel
theorem dX3_lookAt_45 : decode cX3_lookAt 45 = .ok (.invokevirtual 60, 3) := by decide +kernel
theorem dX3_lookAt_48 : decode cX3_lookAt 48 = .ok (.return_, 1) := by decide +kernel
theorem dX3_awaitChildrenOf_0 : decode cX3_awaitChildrenOf 0 = .ok (.aload_n 0, 1) := by decide +kernel
theorem dX3_awaitChildrenOf_1 : decode cX3_awaitChildrenOf 1 = .ok (.getfield 22, 3) := by decide +kernel
theorem dX3_awaitChildrenOf_4 : decode cX3_awaitChildrenOf 4 = .ok (.iload_n 1, 1) := by decide +kernel
theorem dX3_awaitChildrenOf_5 : decode cX3_awaitChildrenOf 5 = .ok (.bipush 100, 2) := by decide +kernel
theorem dX3_awaitChildrenOf_7 : decode cX3_awaitChildrenOf 7 = .ok (.idiv, 1) := by decide +kernel
theorem dX3_awaitChildrenOf_8 : decode cX3_awaitChildrenOf 8 = .ok (.aaload, 1) := by decide +kernel
theorem dX3_awaitChildrenOf_9 : decode cX3_awaitChildrenOf 9 = .ok (.getfield 30, 3) := by decide +kernel
theorem dX3_awaitChildrenOf_12 : decode cX3_awaitChildrenOf 12 = .ok (.iload_n 1, 1) := by decide +kernel
theorem dX3_awaitChildrenOf_13 : decode cX3_awaitChildrenOf 13 = .ok (.bipush 100, 2) := by decide +kernel
theorem dX3_awaitChildrenOf_15 : decode cX3_awaitChildrenOf 15 = .ok (.irem, 1) := by decide +kernel
theorem dX3_awaitChildrenOf_16 : decode cX3_awaitChildrenOf 16 = .ok (.invokevirtual 111, 3) := by decide +kernel
theorem dX3_awaitChildrenOf_19 : decode cX3_awaitChildrenOf 19 = .ok (.astore_n 2, 1) := by decide +kernel
theorem dX3_awaitChildrenOf_20 : decode cX3_awaitChildrenOf 20 = .ok (.aload_n 2, 1) := by decide +kernel
theorem dX3_awaitChildrenOf_21 : decode cX3_awaitChildrenOf 21 = .ok (.getfield 115, 3) := by decide +kernel
theorem dX3_awaitChildrenOf_24 : decode cX3_awaitChildrenOf 24 = .ok (.iconst 1, 1) := by decide +kernel
theorem dX3_awaitChildrenOf_25 : decode cX3_awaitChildrenOf 25 = .ok (.isub, 1) := by decide +kernel
theorem dX3_awaitChildrenOf_26 : decode cX3_awaitChildrenOf 26 = .ok (.istore_n 3, 1) := by decide +kernel
theorem dX3_awaitChildrenOf_27 : decode cX3_awaitChildrenOf 27 = .ok (.iload_n 3, 1) := by decide +kernel
theorem dX3_awaitChildrenOf_28 : decode cX3_awaitChildrenOf 28 = .ok (.ifCond .lt 56, 3) := by decide +kernel
theorem dX3_awaitChildrenOf_31 : decode cX3_awaitChildrenOf 31 = .ok (.aload_n 0, 1) := by decide +kernel
theorem dX3_awaitChildrenOf_32 : decode cX3_awaitChildrenOf 32 = .ok (.getfield 86, 3) := by decide +kernel
theorem dX3_awaitChildrenOf_35 : decode cX3_awaitChildrenOf 35 = .ok (.aload_n 0, 1) := by decide +kernel
theorem dX3_awaitChildrenOf_36 : decode cX3_awaitChildrenOf 36 = .ok (.getfield 19, 3) := by decide +kernel
theorem dX3_awaitChildrenOf_39 : decode cX3_awaitChildrenOf 39 = .ok (.arraylength, 1) := by decide +kernel
theorem dX3_awaitChildrenOf_40 : decode cX3_awaitChildrenOf 40 = .ok (.if_icmp .ge 38, 3) := by decide +kernel
theorem dX3_awaitChildrenOf_43 : decode cX3_awaitChildrenOf 43 = .ok (.aload_n 0, 1) := by decide +kernel
theorem dX3_awaitChildrenOf_44 : decode cX3_awaitChildrenOf 44 = .ok (.getfield 19, 3) := by decide +kernel
theorem dX3_awaitChildrenOf_47 : decode cX3_awaitChildrenOf 47 = .ok (.aload_n 0, 1) := by decide +kernel
theorem dX3_awaitChildrenOf_48 : decode cX3_awaitChildrenOf 48 = .ok (.getfield 86, 3) := by decide +kernel
theorem dX3_awaitChildrenOf_51 : decode cX3_awaitChildrenOf 51 = .ok (.iload_n 1, 1) := by decide +kernel
theorem dX3_awaitChildrenOf_52 : decode cX3_awaitChildrenOf 52 = .ok (.bipush 100, 2) := by decide +kernel
theorem dX3_awaitChildrenOf_54 : decode cX3_awaitChildrenOf 54 = .ok (.idiv, 1) := by decide +kernel
theorem dX3_awaitChildrenOf_55 : decode cX3_awaitChildrenOf 55 = .ok (.bipush 100, 2) := by decide +kernel
theorem dX3_awaitChildrenOf_57 : decode cX3_awaitChildrenOf 57 = .ok (.imul, 1) := by decide +kernel
theorem dX3_awaitChildrenOf_58 : decode cX3_awaitChildrenOf 58 = .ok (.aload_n 2, 1) := by decide +kernel
theorem dX3_awaitChildrenOf_59 : decode cX3_awaitChildrenOf 59 = .ok (.iload_n 3, 1) := by decide +kernel
theorem dX3_awaitChildrenOf_60 : decode cX3_awaitChildrenOf 60 = .ok (.invokevirtual 120, 3) := by decide +kernel
theorem dX3_awaitChildrenOf_63 : decode cX3_awaitChildrenOf 63 = .ok (.bipush 48, 2) := by decide +kernel
theorem dX3_awaitChildrenOf_65 : decode cX3_awaitChildrenOf 65 = .ok (.irem, 1) := by decide +kernel
theorem dX3_awaitChildrenOf_66 : decode cX3_awaitChildrenOf 66 = .ok (.iadd, 1) := by decide +kernel
theorem dX3_awaitChildrenOf_67 : decode cX3_awaitChildrenOf 67 = .ok (.iastore, 1) := by decide +kernel
theorem dX3_awaitChildrenOf_68 : decode cX3_awaitChildrenOf 68 = .ok (.aload_n 0, 1) := by decide +kernel
theorem dX3_awaitChildrenOf_69 : decode cX3_awaitChildrenOf 69 = .ok (.dup, 1) := by decide +kernel
theorem dX3_awaitChildrenOf_70 : decode cX3_awaitChildrenOf 70 = .ok (.getfield 86, 3) := by decide +kernel
theorem dX3_awaitChildrenOf_73 : decode cX3_awaitChildrenOf 73 = .ok (.iconst 1, 1) := by decide +kernel
theorem dX3_awaitChildrenOf_74 : decode cX3_awaitChildrenOf 74 = .ok (.iadd, 1) := by decide +kernel
theorem dX3_awaitChildrenOf_75 : decode cX3_awaitChildrenOf 75 = .ok (.putfield 86, 3) := by decide +kernel
theorem dX3_awaitChildrenOf_78 : decode cX3_awaitChildrenOf 78 = .ok (.iinc 3 (-1), 3) := by decide +kernel
theorem dX3_awaitChildrenOf_81 : decode cX3_awaitChildrenOf 81 = .ok (.goto (-54), 3) := by decide +kernel
theorem dX3_awaitChildrenOf_84 : decode cX3_awaitChildrenOf 84 = .ok (.return_, 1) := by decide +kernel
theorem dX3_keep_0 : decode cX3_keep 0 = .ok (.aload_n 0, 1) := by decide +kernel
theorem dX3_keep_1 : decode cX3_keep 1 = .ok (.getfield 41, 3) := by decide +kernel
theorem dX3_keep_4 : decode cX3_keep 4 = .ok (.aload_n 0, 1) := by decide +kernel
theorem dX3_keep_5 : decode cX3_keep 5 = .ok (.getfield 9, 3) := by decide +kernel
theorem dX3_keep_8 : decode cX3_keep 8 = .ok (.arraylength, 1) := by decide +kernel
theorem dX3_keep_9 : decode cX3_keep 9 = .ok (.if_icmp .ge 23, 3) := by decide +kernel
theorem dX3_keep_12 : decode cX3_keep 12 = .ok (.aload_n 0, 1) := by decide +kernel
theorem dX3_keep_13 : decode cX3_keep 13 = .ok (.getfield 9, 3) := by decide +kernel
theorem dX3_keep_16 : decode cX3_keep 16 = .ok (.aload_n 0, 1) := by decide +kernel
theorem dX3_keep_17 : decode cX3_keep 17 = .ok (.getfield 41, 3) := by decide +kernel
theorem dX3_keep_20 : decode cX3_keep 20 = .ok (.iload_n 1, 1) := by decide +kernel
theorem dX3_keep_21 : decode cX3_keep 21 = .ok (.iastore, 1) := by decide +kernel
theorem dX3_keep_22 : decode cX3_keep 22 = .ok (.aload_n 0, 1) := by decide +kernel
theorem dX3_keep_23 : decode cX3_keep 23 = .ok (.dup, 1) := by decide +kernel
theorem dX3_keep_24 : decode cX3_keep 24 = .ok (.getfield 41, 3) := by decide +kernel
theorem dX3_keep_27 : decode cX3_keep 27 = .ok (.iconst 1, 1) := by decide +kernel
theorem dX3_keep_28 : decode cX3_keep 28 = .ok (.iadd, 1) := by decide +kernel
theorem dX3_keep_29 : decode cX3_keep 29 = .ok (.putfield 41, 3) := by decide +kernel
theorem dX3_keep_32 : decode cX3_keep 32 = .ok (.return_, 1) := by decide +kernel
theorem dX4_init_0 : decode cX4_init 0 = .ok (.aload_n 0, 1) := by decide +kernel
theorem dX4_init_1 : decode cX4_init 1 = .ok (.invokespecial 3, 3) := by decide +kernel
theorem dX4_init_4 : decode cX4_init 4 = .ok (.aload_n 0, 1) := by decide +kernel
theorem dX4_init_5 : decode cX4_init 5 = .ok (.bipush 16, 2) := by decide +kernel
theorem dX4_init_7 : decode cX4_init 7 = .ok (.newarray .int, 2) := by decide +kernel
theorem dX4_init_9 : decode cX4_init 9 = .ok (.putfield 9, 3) := by decide +kernel
theorem dX4_init_12 : decode cX4_init 12 = .ok (.aload_n 0, 1) := by decide +kernel
theorem dX4_init_13 : decode cX4_init 13 = .ok (.iload_n 1, 1) := by decide +kernel
theorem dX4_init_14 : decode cX4_init 14 = .ok (.putfield 15, 3) := by decide +kernel
theorem dX4_init_17 : decode cX4_init 17 = .ok (.aload_n 0, 1) := by decide +kernel
theorem dX4_init_18 : decode cX4_init 18 = .ok (.aload_n 2, 1) := by decide +kernel
theorem dX4_init_19 : decode cX4_init 19 = .ok (.putfield 19, 3) := by decide +kernel
theorem dX4_init_22 : decode cX4_init 22 = .ok (.return_, 1) := by decide +kernel
theorem dX4_toldOf_0 : decode cX4_toldOf 0 = .ok (.aload_n 0, 1) := by decide +kernel
theorem dX4_toldOf_1 : decode cX4_toldOf 1 = .ok (.getfield 9, 3) := by decide +kernel
theorem dX4_toldOf_4 : decode cX4_toldOf 4 = .ok (.iload_n 1, 1) := by decide +kernel
theorem dX4_toldOf_5 : decode cX4_toldOf 5 = .ok (.iconst 4, 1) := by decide +kernel
theorem dX4_toldOf_6 : decode cX4_toldOf 6 = .ok (.imul, 1) := by decide +kernel
theorem dX4_toldOf_7 : decode cX4_toldOf 7 = .ok (.iload_n 2, 1) := by decide +kernel
theorem dX4_toldOf_8 : decode cX4_toldOf 8 = .ok (.iadd, 1) := by decide +kernel
theorem dX4_toldOf_9 : decode cX4_toldOf 9 = .ok (.iaload, 1) := by decide +kernel
theorem dX4_toldOf_10 : decode cX4_toldOf 10 = .ok (.ireturn, 1) := by decide +kernel
theorem dX4_isToldThatKnows_0 : decode cX4_isToldThatKnows 0 = .ok (.aload_n 0, 1) := by decide +kernel
theorem dX4_isToldThatKnows_1 : decode cX4_isToldThatKnows 1 = .ok (.iload_n 1, 1) := by decide +kernel
theorem dX4_isToldThatKnows_2 : decode cX4_isToldThatKnows 2 = .ok (.aload_n 2, 1) := by decide +kernel
theorem dX4_isToldThatKnows_3 : decode cX4_isToldThatKnows 3 = .ok (.getfield 23, 3) := by decide +kernel
theorem dX4_isToldThatKnows_6 : decode cX4_isToldThatKnows 6 = .ok (.invokevirtual 28, 3) := by decide +kernel
theorem dX4_isToldThatKnows_9 : decode cX4_isToldThatKnows 9 = .ok (.aload_n 2, 1) := by decide +kernel
theorem dX4_isToldThatKnows_10 : decode cX4_isToldThatKnows 10 = .ok (.getfield 32, 3) := by decide +kernel
theorem dX4_isToldThatKnows_13 : decode cX4_isToldThatKnows 13 = .ok (.if_icmp .le 7, 3) := by decide +kernel
theorem dX4_isToldThatKnows_16 : decode cX4_isToldThatKnows 16 = .ok (.iconst 1, 1) := by decide +kernel
theorem dX4_isToldThatKnows_17 : decode cX4_isToldThatKnows 17 = .ok (.goto 4, 3) := by decide +kernel
theorem dX4_isToldThatKnows_20 : decode cX4_isToldThatKnows 20 = .ok (.iconst 0, 1) := by decide +kernel
theorem dX4_isToldThatKnows_21 : decode cX4_isToldThatKnows 21 = .ok (.ireturn, 1) := by decide +kernel
theorem dX4_hasGot_0 : decode cX4_hasGot 0 = .ok (.aload_n 0, 1) := by decide +kernel
theorem dX4_hasGot_1 : decode cX4_hasGot 1 = .ok (.aload_n 0, 1) := by decide +kernel
theorem dX4_hasGot_2 : decode cX4_hasGot 2 = .ok (.getfield 15, 3) := by decide +kernel
theorem dX4_hasGot_5 : decode cX4_hasGot 5 = .ok (.aload_n 1, 1) := by decide +kernel
theorem dX4_hasGot_6 : decode cX4_hasGot 6 = .ok (.invokevirtual 33, 3) := by decide +kernel
theorem dX4_hasGot_9 : decode cX4_hasGot 9 = .ok (.ireturn, 1) := by decide +kernel
theorem dX4_sign_0 : decode cX4_sign 0 = .ok (.aload_n 1, 1) := by decide +kernel
theorem dX4_sign_1 : decode cX4_sign 1 = .ok (.aload_n 0, 1) := by decide +kernel
theorem dX4_sign_2 : decode cX4_sign 2 = .ok (.getfield 15, 3) := by decide +kernel
theorem dX4_sign_5 : decode cX4_sign 5 = .ok (.putfield 23, 3) := by decide +kernel
theorem dX4_sign_8 : decode cX4_sign 8 = .ok (.aload_n 1, 1) := by decide +kernel
theorem dX4_sign_9 : decode cX4_sign 9 = .ok (.aload_n 0, 1) := by decide +kernel
theorem dX4_sign_10 : decode cX4_sign 10 = .ok (.aload_n 0, 1) := by decide +kernel
theorem dX4_sign_11 : decode cX4_sign 11 = .ok (.getfield 15, 3) := by decide +kernel
theorem dX4_sign_14 : decode cX4_sign 14 = .ok (.aload_n 0, 1) := by decide +kernel
theorem dX4_sign_15 : decode cX4_sign 15 = .ok (.getfield 15, 3) := by decide +kernel
theorem dX4_sign_18 : decode cX4_sign 18 = .ok (.invokevirtual 28, 3) := by decide +kernel
theorem dX4_sign_21 : decode cX4_sign 21 = .ok (.putfield 32, 3) := by decide +kernel
theorem dX4_sign_24 : decode cX4_sign 24 = .ok (.aload_n 1, 1) := by decide +kernel
theorem dX4_sign_25 : decode cX4_sign 25 = .ok (.aload_n 0, 1) := by decide +kernel
theorem dX4_sign_26 : decode cX4_sign 26 = .ok (.getfield 37, 3) := by decide +kernel
theorem dX4_sign_29 : decode cX4_sign 29 = .ok (.iconst 1, 1) := by decide +kernel
theorem dX4_sign_30 : decode cX4_sign 30 = .ok (.iadd, 1) := by decide +kernel
theorem dX4_sign_31 : decode cX4_sign 31 = .ok (.putfield 40, 3) := by decide +kernel
theorem dX4_sign_34 : decode cX4_sign 34 = .ok (.aload_n 0, 1) := by decide +kernel
theorem dX4_sign_35 : decode cX4_sign 35 = .ok (.aload_n 1, 1) := by decide +kernel
theorem dX4_sign_36 : decode cX4_sign 36 = .ok (.invokevirtual 43, 3) := by decide +kernel
theorem dX4_sign_39 : decode cX4_sign 39 = .ok (.return_, 1) := by decide +kernel
theorem dX4_learn_0 : decode cX4_learn 0 = .ok (.aload_n 0, 1) := by decide +kernel
theorem dX4_learn_1 : decode cX4_learn 1 = .ok (.getfield 9, 3) := by decide +kernel
theorem dX4_learn_4 : decode cX4_learn 4 = .ok (.aload_n 0, 1) := by decide +kernel
theorem dX4_learn_5 : decode cX4_learn 5 = .ok (.getfield 15, 3) := by decide +kernel
theorem dX4_learn_8 : decode cX4_learn 8 = .ok (.iconst 4, 1) := by decide +kernel
theorem dX4_learn_9 : decode cX4_learn 9 = .ok (.imul, 1) := by decide +kernel
theorem dX4_learn_10 : decode cX4_learn 10 = .ok (.aload_n 1, 1) := by decide +kernel
theorem dX4_learn_11 : decode cX4_learn 11 = .ok (.getfield 23, 3) := by decide +kernel
theorem dX4_learn_14 : decode cX4_learn 14 = .ok (.iadd, 1) := by decide +kernel
theorem dX4_learn_15 : decode cX4_learn 15 = .ok (.aload_n 1, 1) := by decide +kernel
theorem dX4_learn_16 : decode cX4_learn 16 = .ok (.getfield 32, 3) := by decide +kernel
theorem dX4_learn_19 : decode cX4_learn 19 = .ok (.iconst 1, 1) := by decide +kernel
theorem dX4_learn_20 : decode cX4_learn 20 = .ok (.iadd, 1) := by decide +kernel
theorem dX4_learn_21 : decode cX4_learn 21 = .ok (.iastore, 1) := by decide +kernel
theorem dX4_learn_22 : decode cX4_learn 22 = .ok (.aload_n 0, 1) := by decide +kernel
theorem dX4_learn_23 : decode cX4_learn 23 = .ok (.aload_n 0, 1) := by decide +kernel
theorem dX4_learn_24 : decode cX4_learn 24 = .ok (.getfield 37, 3) := by decide +kernel
theorem dX4_learn_27 : decode cX4_learn 27 = .ok (.aload_n 1, 1) := by decide +kernel
theorem dX4_learn_28 : decode cX4_learn 28 = .ok (.getfield 40, 3) := by decide +kernel
theorem dX4_learn_31 : decode cX4_learn 31 = .ok (.invokestatic 47, 3) := by decide +kernel
theorem dX4_learn_34 : decode cX4_learn 34 = .ok (.putfield 37, 3) := by decide +kernel
theorem dX4_learn_37 : decode cX4_learn 37 = .ok (.return_, 1) := by decide +kernel
theorem dX4_talkTo_0 : decode cX4_talkTo 0 = .ok (.iconst 0, 1) := by decide +kernel
theorem dX4_talkTo_1 : decode cX4_talkTo 1 = .ok (.istore_n 2, 1) := by decide +kernel
theorem dX4_talkTo_2 : decode cX4_talkTo 2 = .ok (.iload_n 2, 1) := by decide +kernel
theorem dX4_talkTo_3 : decode cX4_talkTo 3 = .ok (.aload_n 0, 1) := by decide +kernel
theorem dX4_talkTo_4 : decode cX4_talkTo 4 = .ok (.getfield 9, 3) := by decide +kernel
theorem dX4_talkTo_7 : decode cX4_talkTo 7 = .ok (.arraylength, 1) := by decide +kernel
theorem dX4_talkTo_8 : decode cX4_talkTo 8 = .ok (.if_icmp .ge 39, 3) := by decide +kernel
theorem dX4_talkTo_11 : decode cX4_talkTo 11 = .ok (.aload_n 0, 1) := by decide +kernel
theorem dX4_talkTo_12 : decode cX4_talkTo 12 = .ok (.getfield 9, 3) := by decide +kernel
theorem dX4_talkTo_15 : decode cX4_talkTo 15 = .ok (.iload_n 2, 1) := by decide +kernel
theorem dX4_talkTo_16 : decode cX4_talkTo 16 = .ok (.iaload, 1) := by decide +kernel
theorem dX4_talkTo_17 : decode cX4_talkTo 17 = .ok (.aload_n 1, 1) := by decide +kernel
theorem dX4_talkTo_18 : decode cX4_talkTo 18 = .ok (.getfield 9, 3) := by decide +kernel
theorem dX4_talkTo_21 : decode cX4_talkTo 21 = .ok (.iload_n 2, 1) := by decide +kernel
theorem dX4_talkTo_22 : decode cX4_talkTo 22 = .ok (.iaload, 1) := by decide +kernel
theorem dX4_talkTo_23 : decode cX4_talkTo 23 = .ok (.invokestatic 47, 3) := by decide +kernel
theorem dX4_talkTo_26 : decode cX4_talkTo 26 = .ok (.istore_n 3, 1) := by decide +kernel
theorem dX4_talkTo_27 : decode cX4_talkTo 27 = .ok (.aload_n 0, 1) := by decide +kernel
theorem dX4_talkTo_28 : decode cX4_talkTo 28 = .ok (.getfield 9, 3) := by decide +kernel
theorem dX4_talkTo_31 : decode cX4_talkTo 31 = .ok (.iload_n 2, 1) := by decide +kernel
theorem dX4_talkTo_32 : decode cX4_talkTo 32 = .ok (.iload_n 3, 1) := by decide +kernel
theorem dX4_talkTo_33 : decode cX4_talkTo 33 = .ok (.iastore, 1) := by decide +kernel
theorem dX4_talkTo_34 : decode cX4_talkTo 34 = .ok (.aload_n 1, 1) := by decide +kernel
theorem dX4_talkTo_35 : decode cX4_talkTo 35 = .ok (.getfield 9, 3) := by decide +kernel
theorem dX4_talkTo_38 : decode cX4_talkTo 38 = .ok (.iload_n 2, 1) := by decide +kernel
theorem dX4_talkTo_39 : decode cX4_talkTo 39 = .ok (.iload_n 3, 1) := by decide +kernel
theorem dX4_talkTo_40 : decode cX4_talkTo 40 = .ok (.iastore, 1) := by decide +kernel
theorem dX4_talkTo_41 : decode cX4_talkTo 41 = .ok (.iinc 2 1, 3) := by decide +kernel
theorem dX4_talkTo_44 : decode cX4_talkTo 44 = .ok (.goto (-42), 3) := by decide +kernel
theorem dX4_talkTo_47 : decode cX4_talkTo 47 = .ok (.return_, 1) := by decide +kernel
theorem dX4_marked_0 : decode cX4_marked 0 = .ok (.aload_n 0, 1) := by decide +kernel
theorem dX4_marked_1 : decode cX4_marked 1 = .ok (.getfield 19, 3) := by decide +kernel
theorem dX4_marked_4 : decode cX4_marked 4 = .ok (.invokevirtual 52, 3) := by decide +kernel
theorem dX4_marked_7 : decode cX4_marked 7 = .ok (.aload_n 0, 1) := by decide +kernel
theorem dX4_marked_8 : decode cX4_marked 8 = .ok (.getfield 58, 3) := by decide +kernel
theorem dX4_marked_11 : decode cX4_marked 11 = .ok (.ldc2_w 62, 3) := by decide +kernel
theorem dX4_marked_14 : decode cX4_marked 14 = .ok (.lxor, 1) := by decide +kernel
theorem dX4_marked_15 : decode cX4_marked 15 = .ok (.land, 1) := by decide +kernel
theorem dX4_marked_16 : decode cX4_marked 16 = .ok (.lreturn, 1) := by decide +kernel
theorem dX5_init_0 : decode cX5_init 0 = .ok (.aload_n 0, 1) := by decide +kernel
theorem dX5_init_1 : decode cX5_init 1 = .ok (.invokespecial 3, 3) := by decide +kernel
theorem dX5_init_4 : decode cX5_init 4 = .ok (.aload_n 0, 1) := by decide +kernel
theorem dX5_init_5 : decode cX5_init 5 = .ok (.iload_n 1, 1) := by decide +kernel
theorem dX5_init_6 : decode cX5_init 6 = .ok (.iconst 0, 1) := by decide +kernel
theorem dX5_init_7 : decode cX5_init 7 = .ok (.invokestatic 9, 3) := by decide +kernel
theorem dX5_init_10 : decode cX5_init 10 = .ok (.newarray .int, 2) := by decide +kernel
theorem dX5_init_12 : decode cX5_init 12 = .ok (.putfield 15, 3) := by decide +kernel
theorem dX5_init_15 : decode cX5_init 15 = .ok (.return_, 1) := by decide +kernel
theorem dX5_clear_0 : decode cX5_clear 0 = .ok (.aload_n 0, 1) := by decide +kernel
theorem dX5_clear_1 : decode cX5_clear 1 = .ok (.iconst 0, 1) := by decide +kernel
theorem dX5_clear_2 : decode cX5_clear 2 = .ok (.putfield 21, 3) := by decide +kernel
theorem dX5_clear_5 : decode cX5_clear 5 = .ok (.return_, 1) := by decide +kernel
theorem dX5_indexOf_0 : decode cX5_indexOf 0 = .ok (.iconst 0, 1) := by decide +kernel
theorem dX5_indexOf_1 : decode cX5_indexOf 1 = .ok (.istore_n 2, 1) := by decide +kernel
theorem dX5_indexOf_2 : decode cX5_indexOf 2 = .ok (.sipush 512, 3) := by decide +kernel
theorem dX5_indexOf_5 : decode cX5_indexOf 5 = .ok (.istore_n 3, 1) := by decide +kernel
theorem dX5_indexOf_6 : decode cX5_indexOf 6 = .ok (.iload_n 3, 1) := by decide +kernel
theorem dX5_indexOf_7 : decode cX5_indexOf 7 = .ok (.ifCond .le 38, 3) := by decide +kernel
theorem dX5_indexOf_10 : decode cX5_indexOf 10 = .ok (.iload_n 2, 1) := by decide +kernel
theorem dX5_indexOf_11 : decode cX5_indexOf 11 = .ok (.iload_n 3, 1) := by decide +kernel
theorem dX5_indexOf_12 : decode cX5_indexOf 12 = .ok (.iadd, 1) := by decide +kernel
theorem dX5_indexOf_13 : decode cX5_indexOf 13 = .ok (.aload_n 0, 1) := by decide +kernel
theorem dX5_indexOf_14 : decode cX5_indexOf 14 = .ok (.getfield 21, 3) := by decide +kernel
theorem dX5_indexOf_17 : decode cX5_indexOf 17 = .ok (.if_icmp .gt 21, 3) := by decide +kernel
theorem dX5_indexOf_20 : decode cX5_indexOf 20 = .ok (.aload_n 0, 1) := by decide +kernel
theorem dX5_indexOf_21 : decode cX5_indexOf 21 = .ok (.getfield 15, 3) := by decide +kernel
theorem dX5_indexOf_24 : decode cX5_indexOf 24 = .ok (.iload_n 2, 1) := by decide +kernel
theorem dX5_indexOf_25 : decode cX5_indexOf 25 = .ok (.iload_n 3, 1) := by decide +kernel
theorem dX5_indexOf_26 : decode cX5_indexOf 26 = .ok (.iadd, 1) := by decide +kernel
theorem dX5_indexOf_27 : decode cX5_indexOf 27 = .ok (.iconst 1, 1) := by decide +kernel
theorem dX5_indexOf_28 : decode cX5_indexOf 28 = .ok (.isub, 1) := by decide +kernel
theorem dX5_indexOf_29 : decode cX5_indexOf 29 = .ok (.iaload, 1) := by decide +kernel
theorem dX5_indexOf_30 : decode cX5_indexOf 30 = .ok (.iload_n 1, 1) := by decide +kernel
theorem dX5_indexOf_31 : decode cX5_indexOf 31 = .ok (.if_icmp .ge 7, 3) := by decide +kernel
theorem dX5_indexOf_34 : decode cX5_indexOf 34 = .ok (.iload_n 2, 1) := by decide +kernel
theorem dX5_indexOf_35 : decode cX5_indexOf 35 = .ok (.iload_n 3, 1) := by decide +kernel
theorem dX5_indexOf_36 : decode cX5_indexOf 36 = .ok (.iadd, 1) := by decide +kernel
theorem dX5_indexOf_37 : decode cX5_indexOf 37 = .ok (.istore_n 2, 1) := by decide +kernel
theorem dX5_indexOf_38 : decode cX5_indexOf 38 = .ok (.iload_n 3, 1) := by decide +kernel
theorem dX5_indexOf_39 : decode cX5_indexOf 39 = .ok (.iconst 2, 1) := by decide +kernel
theorem dX5_indexOf_40 : decode cX5_indexOf 40 = .ok (.idiv, 1) := by decide +kernel
theorem dX5_indexOf_41 : decode cX5_indexOf 41 = .ok (.istore_n 3, 1) := by decide +kernel
theorem dX5_indexOf_42 : decode cX5_indexOf 42 = .ok (.goto (-36), 3) := by decide +kernel
theorem dX5_indexOf_45 : decode cX5_indexOf 45 = .ok (.iload_n 2, 1) := by decide +kernel
theorem dX5_indexOf_46 : decode cX5_indexOf 46 = .ok (.ireturn, 1) := by decide +kernel
theorem dX5_countBetween_0 : decode cX5_countBetween 0 = .ok (.aload_n 0, 1) := by decide +kernel
theorem dX5_countBetween_1 : decode cX5_countBetween 1 = .ok (.iload_n 2, 1) := by decide +kernel
theorem dX5_countBetween_2 : decode cX5_countBetween 2 = .ok (.iconst 1, 1) := by decide +kernel
theorem dX5_countBetween_3 : decode cX5_countBetween 3 = .ok (.iadd, 1) := by decide +kernel
theorem dX5_countBetween_4 : decode cX5_countBetween 4 = .ok (.invokevirtual 25, 3) := by decide +kernel
theorem dX5_countBetween_7 : decode cX5_countBetween 7 = .ok (.aload_n 0, 1) := by decide +kernel
theorem dX5_countBetween_8 : decode cX5_countBetween 8 = .ok (.iload_n 1, 1) := by decide +kernel
theorem dX5_countBetween_9 : decode cX5_countBetween 9 = .ok (.invokevirtual 25, 3) := by decide +kernel
theorem dX5_countBetween_12 : decode cX5_countBetween 12 = .ok (.isub, 1) := by decide +kernel
theorem dX5_countBetween_13 : decode cX5_countBetween 13 = .ok (.ireturn, 1) := by decide +kernel
theorem dX5_at_0 : decode cX5_at 0 = .ok (.iload_n 1, 1) := by decide +kernel
theorem dX5_at_1 : decode cX5_at 1 = .ok (.ifCond .lt 20, 3) := by decide +kernel
theorem dX5_at_4 : decode cX5_at 4 = .ok (.iload_n 1, 1) := by decide +kernel
theorem dX5_at_5 : decode cX5_at 5 = .ok (.aload_n 0, 1) := by decide +kernel
theorem dX5_at_6 : decode cX5_at 6 = .ok (.getfield 21, 3) := by decide +kernel
theorem dX5_at_9 : decode cX5_at 9 = .ok (.if_icmp .ge 12, 3) := by decide +kernel
theorem dX5_at_12 : decode cX5_at 12 = .ok (.aload_n 0, 1) := by decide +kernel
theorem dX5_at_13 : decode cX5_at 13 = .ok (.getfield 15, 3) := by decide +kernel
theorem dX5_at_16 : decode cX5_at 16 = .ok (.iload_n 1, 1) := by decide +kernel
theorem dX5_at_17 : decode cX5_at 17 = .ok (.iaload, 1) := by decide +kernel
theorem dX5_at_18 : decode cX5_at 18 = .ok (.goto 4, 3) := by decide +kernel
theorem dX5_at_21 : decode cX5_at 21 = .ok (.iconst (-1), 1) := by decide +kernel
theorem dX5_at_22 : decode cX5_at 22 = .ok (.ireturn, 1) := by decide +kernel
theorem dX5_put_0 : decode cX5_put 0 = .ok (.aload_n 0, 1) := by decide +kernel
theorem dX5_put_1 : decode cX5_put 1 = .ok (.iload_n 1, 1) := by decide +kernel
theorem dX5_put_2 : decode cX5_put 2 = .ok (.invokevirtual 25, 3) := by decide +kernel
theorem dX5_put_5 : decode cX5_put 5 = .ok (.istore_n 2, 1) := by decide +kernel
theorem dX5_put_6 : decode cX5_put 6 = .ok (.aload_n 0, 1) := by decide +kernel
theorem dX5_put_7 : decode cX5_put 7 = .ok (.getfield 21, 3) := by decide +kernel
theorem dX5_put_10 : decode cX5_put 10 = .ok (.aload_n 0, 1) := by decide +kernel
theorem dX5_put_11 : decode cX5_put 11 = .ok (.getfield 15, 3) := by decide +kernel
theorem dX5_put_14 : decode cX5_put 14 = .ok (.arraylength, 1) := by decide +kernel
theorem dX5_put_15 : decode cX5_put 15 = .ok (.if_icmp .ge 50, 3) := by decide +kernel
theorem dX5_put_18 : decode cX5_put 18 = .ok (.aload_n 0, 1) := by decide +kernel
theorem dX5_put_19 : decode cX5_put 19 = .ok (.iload_n 2, 1) := by decide +kernel
theorem dX5_put_20 : decode cX5_put 20 = .ok (.invokevirtual 29, 3) := by decide +kernel
theorem dX5_put_23 : decode cX5_put 23 = .ok (.iload_n 1, 1) := by decide +kernel
theorem dX5_put_24 : decode cX5_put 24 = .ok (.if_icmp .eq 41, 3) := by decide +kernel
theorem dX5_put_27 : decode cX5_put 27 = .ok (.aload_n 0, 1) := by decide +kernel
theorem dX5_put_28 : decode cX5_put 28 = .ok (.getfield 15, 3) := by decide +kernel
theorem dX5_put_31 : decode cX5_put 31 = .ok (.iload_n 2, 1) := by decide +kernel
theorem dX5_put_32 : decode cX5_put 32 = .ok (.aload_n 0, 1) := by decide +kernel
theorem dX5_put_33 : decode cX5_put 33 = .ok (.getfield 15, 3) := by decide +kernel
theorem dX5_put_36 : decode cX5_put 36 = .ok (.iload_n 2, 1) := by decide +kernel
theorem dX5_put_37 : decode cX5_put 37 = .ok (.iconst 1, 1) := by decide +kernel
theorem dX5_put_38 : decode cX5_put 38 = .ok (.iadd, 1) := by decide +kernel
theorem dX5_put_39 : decode cX5_put 39 = .ok (.aload_n 0, 1) := by decide +kernel
theorem dX5_put_40 : decode cX5_put 40 = .ok (.getfield 21, 3) := by decide +kernel
theorem dX5_put_43 : decode cX5_put 43 = .ok (.iload_n 2, 1) := by decide +kernel
theorem dX5_put_44 : decode cX5_put 44 = .ok (.isub, 1) := by decide +kernel
theorem dX5_put_45 : decode cX5_put 45 = .ok (.invokestatic 32, 3) := by decide +kernel
theorem dX5_put_48 : decode cX5_put 48 = .ok (.aload_n 0, 1) := by decide +kernel
theorem dX5_put_49 : decode cX5_put 49 = .ok (.getfield 15, 3) := by decide +kernel
theorem dX5_put_52 : decode cX5_put 52 = .ok (.iload_n 2, 1) := by decide +kernel
theorem dX5_put_53 : decode cX5_put 53 = .ok (.iload_n 1, 1) := by decide +kernel
theorem dX5_put_54 : decode cX5_put 54 = .ok (.iastore, 1) := by decide +kernel
theorem dX5_put_55 : decode cX5_put 55 = .ok (.aload_n 0, 1) := by decide +kernel
theorem dX5_put_56 : decode cX5_put 56 = .ok (.dup, 1) := by decide +kernel
theorem dX5_put_57 : decode cX5_put 57 = .ok (.getfield 21, 3) := by decide +kernel
theorem dX5_put_60 : decode cX5_put 60 = .ok (.iconst 1, 1) := by decide +kernel
theorem dX5_put_61 : decode cX5_put 61 = .ok (.iadd, 1) := by decide +kernel
theorem dX5_put_62 : decode cX5_put 62 = .ok (.putfield 21, 3) := by decide +kernel
theorem dX5_put_65 : decode cX5_put 65 = .ok (.return_, 1) := by decide +kernel
theorem dX5_dropAt_0 : decode cX5_dropAt 0 = .ok (.iload_n 1, 1) := by decide +kernel
theorem dX5_dropAt_1 : decode cX5_dropAt 1 = .ok (.ifCond .lt 44, 3) := by decide +kernel
theorem dX5_dropAt_4 : decode cX5_dropAt 4 = .ok (.iload_n 1, 1) := by decide +kernel
theorem dX5_dropAt_5 : decode cX5_dropAt 5 = .ok (.aload_n 0, 1) := by decide +kernel
theorem dX5_dropAt_6 : decode cX5_dropAt 6 = .ok (.getfield 21, 3) := by decide +kernel
theorem dX5_dropAt_9 : decode cX5_dropAt 9 = .ok (.if_icmp .ge 36, 3) := by decide +kernel
theorem dX5_dropAt_12 : decode cX5_dropAt 12 = .ok (.aload_n 0, 1) := by decide +kernel
theorem dX5_dropAt_13 : decode cX5_dropAt 13 = .ok (.getfield 15, 3) := by decide +kernel
theorem dX5_dropAt_16 : decode cX5_dropAt 16 = .ok (.iload_n 1, 1) := by decide +kernel
theorem dX5_dropAt_17 : decode cX5_dropAt 17 = .ok (.iconst 1, 1) := by decide +kernel
theorem dX5_dropAt_18 : decode cX5_dropAt 18 = .ok (.iadd, 1) := by decide +kernel
theorem dX5_dropAt_19 : decode cX5_dropAt 19 = .ok (.aload_n 0, 1) := by decide +kernel
theorem dX5_dropAt_20 : decode cX5_dropAt 20 = .ok (.getfield 15, 3) := by decide +kernel
theorem dX5_dropAt_23 : decode cX5_dropAt 23 = .ok (.iload_n 1, 1) := by decide +kernel
theorem dX5_dropAt_24 : decode cX5_dropAt 24 = .ok (.aload_n 0, 1) := by decide +kernel
theorem dX5_dropAt_25 : decode cX5_dropAt 25 = .ok (.getfield 21, 3) := by decide +kernel
theorem dX5_dropAt_28 : decode cX5_dropAt 28 = .ok (.iload_n 1, 1) := by decide +kernel
theorem dX5_dropAt_29 : decode cX5_dropAt 29 = .ok (.isub, 1) := by decide +kernel
theorem dX5_dropAt_30 : decode cX5_dropAt 30 = .ok (.iconst 1, 1) := by decide +kernel
theorem dX5_dropAt_31 : decode cX5_dropAt 31 = .ok (.isub, 1) := by decide +kernel
theorem dX5_dropAt_32 : decode cX5_dropAt 32 = .ok (.invokestatic 32, 3) := by decide +kernel
theorem dX5_dropAt_35 : decode cX5_dropAt 35 = .ok (.aload_n 0, 1) := by decide +kernel
theorem dX5_dropAt_36 : decode cX5_dropAt 36 = .ok (.dup, 1) := by decide +kernel
theorem dX5_dropAt_37 : decode cX5_dropAt 37 = .ok (.getfield 21, 3) := by decide +kernel
theorem dX5_dropAt_40 : decode cX5_dropAt 40 = .ok (.iconst 1, 1) := by decide +kernel
theorem dX5_dropAt_41 : decode cX5_dropAt 41 = .ok (.isub, 1) := by decide +kernel
theorem dX5_dropAt_42 : decode cX5_dropAt 42 = .ok (.putfield 21, 3) := by decide +kernel
theorem dX5_dropAt_45 : decode cX5_dropAt 45 = .ok (.return_, 1) := by decide +kernel
theorem dX6_init_0 : decode cX6_init 0 = .ok (.aload_n 0, 1) := by decide +kernel
theorem dX6_init_1 : decode cX6_init 1 = .ok (.invokespecial 5, 3) := by decide +kernel
theorem dX6_init_4 : decode cX6_init 4 = .ok (.aload_n 0, 1) := by decide +kernel
theorem dX6_init_5 : decode cX6_init 5 = .ok (.sipush 288, 3) := by decide +kernel
theorem dX6_init_8 : decode cX6_init 8 = .ok (.newarray .long, 2) := by decide +kernel
theorem dX6_init_10 : decode cX6_init 10 = .ok (.putfield 11, 3) := by decide +kernel
theorem dX6_init_13 : decode cX6_init 13 = .ok (.aload_n 0, 1) := by decide +kernel
theorem dX6_init_14 : decode cX6_init 14 = .ok (.sipush 288, 3) := by decide +kernel
theorem dX6_init_17 : decode cX6_init 17 = .ok (.newarray .long, 2) := by decide +kernel
theorem dX6_init_19 : decode cX6_init 19 = .ok (.putfield 15, 3) := by decide +kernel
theorem dX6_init_22 : decode cX6_init 22 = .ok (.return_, 1) := by decide +kernel
theorem dX6_slot_0 : decode cX6_slot 0 = .ok (.iload_n 0, 1) := by decide +kernel
theorem dX6_slot_1 : decode cX6_slot 1 = .ok (.iconst 3, 1) := by decide +kernel
theorem dX6_slot_2 : decode cX6_slot 2 = .ok (.imul, 1) := by decide +kernel
theorem dX6_slot_3 : decode cX6_slot 3 = .ok (.iload_n 1, 1) := by decide +kernel
theorem dX6_slot_4 : decode cX6_slot 4 = .ok (.iadd, 1) := by decide +kernel
theorem dX6_slot_5 : decode cX6_slot 5 = .ok (.iconst 2, 1) := by decide +kernel
theorem dX6_slot_6 : decode cX6_slot 6 = .ok (.imul, 1) := by decide +kernel
theorem dX6_slot_7 : decode cX6_slot 7 = .ok (.iload_n 2, 1) := by decide +kernel
theorem dX6_slot_8 : decode cX6_slot 8 = .ok (.iadd, 1) := by decide +kernel
theorem dX6_slot_9 : decode cX6_slot 9 = .ok (.ireturn, 1) := by decide +kernel
theorem dX6_clear_0 : decode cX6_clear 0 = .ok (.aload_n 0, 1) := by decide +kernel
theorem dX6_clear_1 : decode cX6_clear 1 = .ok (.getfield 11, 3) := by decide +kernel
theorem dX6_clear_4 : decode cX6_clear 4 = .ok (.lconst 0, 1) := by decide +kernel
theorem dX6_clear_5 : decode cX6_clear 5 = .ok (.invokestatic 18, 3) := by decide +kernel
theorem dX6_clear_8 : decode cX6_clear 8 = .ok (.aload_n 0, 1) := by decide +kernel
theorem dX6_clear_9 : decode cX6_clear 9 = .ok (.getfield 15, 3) := by decide +kernel
theorem dX6_clear_12 : decode cX6_clear 12 = .ok (.lconst 0, 1) := by decide +kernel
theorem dX6_clear_13 : decode cX6_clear 13 = .ok (.invokestatic 18, 3) := by decide +kernel
theorem dX6_clear_16 : decode cX6_clear 16 = .ok (.return_, 1) := by decide +kernel
theorem dX6_saidOf_0 : decode cX6_saidOf 0 = .ok (.iload_n 2, 1) := by decide +kernel
theorem dX6_saidOf_1 : decode cX6_saidOf 1 = .ok (.invokestatic 24, 3) := by decide +kernel
theorem dX6_saidOf_4 : decode cX6_saidOf 4 = .ok (.lstore_n 3, 1) := by decide +kernel
theorem dX6_saidOf_5 : decode cX6_saidOf 5 = .ok (.aload_n 0, 1) := by decide +kernel
theorem dX6_saidOf_6 : decode cX6_saidOf 6 = .ok (.getfield 15, 3) := by decide +kernel
theorem dX6_saidOf_9 : decode cX6_saidOf 9 = .ok (.iload_n 1, 1) := by decide +kernel
theorem dX6_saidOf_10 : decode cX6_saidOf 10 = .ok (.laload, 1) := by decide +kernel
theorem dX6_saidOf_11 : decode cX6_saidOf 11 = .ok (.lload_n 3, 1) := by decide +kernel
theorem dX6_saidOf_12 : decode cX6_saidOf 12 = .ok (.land, 1) := by decide +kernel
theorem dX6_saidOf_13 : decode cX6_saidOf 13 = .ok (.lconst 0, 1) := by decide +kernel
theorem dX6_saidOf_14 : decode cX6_saidOf 14 = .ok (.lcmp, 1) := by decide +kernel
theorem dX6_saidOf_15 : decode cX6_saidOf 15 = .ok (.ifCond .eq 5, 3) := by decide +kernel
theorem dX6_saidOf_18 : decode cX6_saidOf 18 = .ok (.iconst 2, 1) := by decide +kernel
theorem dX6_saidOf_19 : decode cX6_saidOf 19 = .ok (.ireturn, 1) := by decide +kernel
theorem dX6_saidOf_20 : decode cX6_saidOf 20 = .ok (.aload_n 0, 1) := by decide +kernel
theorem dX6_saidOf_21 : decode cX6_saidOf 21 = .ok (.getfield 11, 3) := by decide +kernel
theorem dX6_saidOf_24 : decode cX6_saidOf 24 = .ok (.iload_n 1, 1) := by decide +kernel
theorem dX6_saidOf_25 : decode cX6_saidOf 25 = .ok (.laload, 1) := by decide +kernel
theorem dX6_saidOf_26 : decode cX6_saidOf 26 = .ok (.lload_n 3, 1) := by decide +kernel
theorem dX6_saidOf_27 : decode cX6_saidOf 27 = .ok (.land, 1) := by decide +kernel
theorem dX6_saidOf_28 : decode cX6_saidOf 28 = .ok (.lconst 0, 1) := by decide +kernel
theorem dX6_saidOf_29 : decode cX6_saidOf 29 = .ok (.lcmp, 1) := by decide +kernel
theorem dX6_saidOf_30 : decode cX6_saidOf 30 = .ok (.ifCond .eq 7, 3) := by decide +kernel
theorem dX6_saidOf_33 : decode cX6_saidOf 33 = .ok (.iconst 1, 1) := by decide +kernel
theorem dX6_saidOf_34 : decode cX6_saidOf 34 = .ok (.goto 4, 3) := by decide +kernel
theorem dX6_saidOf_37 : decode cX6_saidOf 37 = .ok (.iconst 0, 1) := by decide +kernel
theorem dX6_saidOf_38 : decode cX6_saidOf 38 = .ok (.ireturn, 1) := by decide +kernel
theorem dX6_say_0 : decode cX6_say 0 = .ok (.iload_n 2, 1) := by decide +kernel
theorem dX6_say_1 : decode cX6_say 1 = .ok (.invokestatic 24, 3) := by decide +kernel
theorem dX6_say_4 : decode cX6_say 4 = .ok (.lstore 4, 2) := by decide +kernel
theorem dX6_say_6 : decode cX6_say 6 = .ok (.aload_n 0, 1) := by decide +kernel
theorem dX6_say_7 : decode cX6_say 7 = .ok (.getfield 11, 3) := by decide +kernel
theorem dX6_say_10 : decode cX6_say 10 = .ok (.iload_n 1, 1) := by decide +kernel
theorem dX6_say_11 : decode cX6_say 11 = .ok (.dup2, 1) := by decide +kernel
theorem dX6_say_12 : decode cX6_say 12 = .ok (.laload, 1) := by decide +kernel
theorem dX6_say_13 : decode cX6_say 13 = .ok (.lload 4, 2) := by decide +kernel
theorem dX6_say_15 : decode cX6_say 15 = .ok (.ldc2_w 28, 3) := by decide +kernel
theorem dX6_say_18 : decode cX6_say 18 = .ok (.lxor, 1) := by decide +kernel
theorem dX6_say_19 : decode cX6_say 19 = .ok (.land, 1) := by decide +kernel
theorem dX6_say_20 : decode cX6_say 20 = .ok (.lastore, 1) := by decide +kernel
theorem dX6_say_21 : decode cX6_say 21 = .ok (.aload_n 0, 1) := by decide +kernel
theorem dX6_say_22 : decode cX6_say 22 = .ok (.getfield 15, 3) := by decide +kernel
theorem dX6_say_25 : decode cX6_say 25 = .ok (.iload_n 1, 1) := by decide +kernel
theorem dX6_say_26 : decode cX6_say 26 = .ok (.dup2, 1) := by decide +kernel
theorem dX6_say_27 : decode cX6_say 27 = .ok (.laload, 1) := by decide +kernel
theorem dX6_say_28 : decode cX6_say 28 = .ok (.lload 4, 2) := by decide +kernel
theorem dX6_say_30 : decode cX6_say 30 = .ok (.ldc2_w 28, 3) := by decide +kernel
theorem dX6_say_33 : decode cX6_say 33 = .ok (.lxor, 1) := by decide +kernel
theorem dX6_say_34 : decode cX6_say 34 = .ok (.land, 1) := by decide +kernel
theorem dX6_say_35 : decode cX6_say 35 = .ok (.lastore, 1) := by decide +kernel
theorem dX6_say_36 : decode cX6_say 36 = .ok (.iload_n 3, 1) := by decide +kernel
theorem dX6_say_37 : decode cX6_say 37 = .ok (.iconst 1, 1) := by decide +kernel
theorem dX6_say_38 : decode cX6_say 38 = .ok (.if_icmp .ne 17, 3) := by decide +kernel
theorem dX6_say_41 : decode cX6_say 41 = .ok (.aload_n 0, 1) := by decide +kernel
theorem dX6_say_42 : decode cX6_say 42 = .ok (.getfield 11, 3) := by decide +kernel
theorem dX6_say_45 : decode cX6_say 45 = .ok (.iload_n 1, 1) := by decide +kernel
theorem dX6_say_46 : decode cX6_say 46 = .ok (.dup2, 1) := by decide +kernel
theorem dX6_say_47 : decode cX6_say 47 = .ok (.laload, 1) := by decide +kernel
theorem dX6_say_48 : decode cX6_say 48 = .ok (.lload 4, 2) := by decide +kernel
theorem dX6_say_50 : decode cX6_say 50 = .ok (.lor, 1) := by decide +kernel
theorem dX6_say_51 : decode cX6_say 51 = .ok (.lastore, 1) := by decide +kernel
theorem dX6_say_52 : decode cX6_say 52 = .ok (.goto 19, 3) := by decide +kernel
theorem dX6_say_55 : decode cX6_say 55 = .ok (.iload_n 3, 1) := by decide +kernel
theorem dX6_say_56 : decode cX6_say 56 = .ok (.iconst 2, 1) := by decide +kernel
theorem dX6_say_57 : decode cX6_say 57 = .ok (.if_icmp .ne 14, 3) := by decide +kernel
theorem dX6_say_60 : decode cX6_say 60 = .ok (.aload_n 0, 1) := by decide +kernel
theorem dX6_say_61 : decode cX6_say 61 = .ok (.getfield 15, 3) := by decide +kernel
theorem dX6_say_64 : decode cX6_say 64 = .ok (.iload_n 1, 1) := by decide +kernel
theorem dX6_say_65 : decode cX6_say 65 = .ok (.dup2, 1) := by decide +kernel
theorem dX6_say_66 : decode cX6_say 66 = .ok (.laload, 1) := by decide +kernel
theorem dX6_say_67 : decode cX6_say 67 = .ok (.lload 4, 2) := by decide +kernel
theorem dX6_say_69 : decode cX6_say 69 = .ok (.lor, 1) := by decide +kernel
theorem dX6_say_70 : decode cX6_say 70 = .ok (.lastore, 1) := by decide +kernel
theorem dX6_say_71 : decode cX6_say 71 = .ok (.return_, 1) := by decide +kernel
theorem dX6_decide_0 : decode cX6_decide 0 = .ok (.iload_n 1, 1) := by decide +kernel
theorem dX6_decide_1 : decode cX6_decide 1 = .ok (.iload_n 2, 1) := by decide +kernel
theorem dX6_decide_2 : decode cX6_decide 2 = .ok (.iload_n 3, 1) := by decide +kernel
theorem dX6_decide_3 : decode cX6_decide 3 = .ok (.invokestatic 30, 3) := by decide +kernel
theorem dX6_decide_6 : decode cX6_decide 6 = .ok (.istore 7, 2) := by decide +kernel
theorem dX6_decide_8 : decode cX6_decide 8 = .ok (.iload_n 1, 1) := by decide +kernel
theorem dX6_decide_9 : decode cX6_decide 9 = .ok (.iconst 2, 1) := by decide +kernel
theorem dX6_decide_10 : decode cX6_decide 10 = .ok (.iload_n 3, 1) := by decide +kernel
theorem dX6_decide_11 : decode cX6_decide 11 = .ok (.invokestatic 30, 3) := by decide +kernel
theorem dX6_decide_14 : decode cX6_decide 14 = .ok (.istore 8, 2) := by decide +kernel
theorem dX6_decide_16 : decode cX6_decide 16 = .ok (.aload_n 0, 1) := by decide +kernel
theorem dX6_decide_17 : decode cX6_decide 17 = .ok (.getfield 11, 3) := by decide +kernel
theorem dX6_decide_20 : decode cX6_decide 20 = .ok (.iload 7, 2) := by decide +kernel
theorem dX6_decide_22 : decode cX6_decide 22 = .ok (.laload, 1) := by decide +kernel
theorem dX6_decide_23 : decode cX6_decide 23 = .ok (.aload_n 0, 1) := by decide +kernel
theorem dX6_decide_24 : decode cX6_decide 24 = .ok (.getfield 11, 3) := by decide +kernel
theorem dX6_decide_27 : decode cX6_decide 27 = .ok (.iload 8, 2) := by decide +kernel
theorem dX6_decide_29 : decode cX6_decide 29 = .ok (.laload, 1) := by decide +kernel
theorem dX6_decide_30 : decode cX6_decide 30 = .ok (.lor, 1) := by decide +kernel
theorem dX6_decide_31 : decode cX6_decide 31 = .ok (.lstore 9, 2) := by decide +kernel
theorem dX6_decide_33 : decode cX6_decide 33 = .ok (.aload_n 0, 1) := by decide +kernel
theorem dX6_decide_34 : decode cX6_decide 34 = .ok (.getfield 15, 3) := by decide +kernel
theorem dX6_decide_37 : decode cX6_decide 37 = .ok (.iload 7, 2) := by decide +kernel
theorem dX6_decide_39 : decode cX6_decide 39 = .ok (.laload, 1) := by decide +kernel
theorem dX6_decide_40 : decode cX6_decide 40 = .ok (.aload_n 0, 1) := by decide +kernel
theorem dX6_decide_41 : decode cX6_decide 41 = .ok (.getfield 15, 3) := by decide +kernel
theorem dX6_decide_44 : decode cX6_decide 44 = .ok (.iload 8, 2) := by decide +kernel
theorem dX6_decide_46 : decode cX6_decide 46 = .ok (.laload, 1) := by decide +kernel
theorem dX6_decide_47 : decode cX6_decide 47 = .ok (.lor, 1) := by decide +kernel
theorem dX6_decide_48 : decode cX6_decide 48 = .ok (.lstore 11, 2) := by decide +kernel
theorem dX6_decide_50 : decode cX6_decide 50 = .ok (.lconst 1, 1) := by decide +kernel
theorem dX6_decide_51 : decode cX6_decide 51 = .ok (.bipush 48, 2) := by decide +kernel
theorem dX6_decide_53 : decode cX6_decide 53 = .ok (.iload 4, 2) := by decide +kernel
theorem dX6_decide_55 : decode cX6_decide 55 = .ok (.iadd, 1) := by decide +kernel
theorem dX6_decide_56 : decode cX6_decide 56 = .ok (.lshl, 1) := by decide +kernel
theorem dX6_decide_57 : decode cX6_decide 57 = .ok (.lload 9, 2) := by decide +kernel
theorem dX6_decide_59 : decode cX6_decide 59 = .ok (.lload 11, 2) := by decide +kernel
theorem dX6_decide_61 : decode cX6_decide 61 = .ok (.invokestatic 34, 3) := by decide +kernel
theorem dX6_decide_64 : decode cX6_decide 64 = .ok (.istore 13, 2) := by decide +kernel
theorem dX6_decide_66 : decode cX6_decide 66 = .ok (.iload 13, 2) := by decide +kernel
theorem dX6_decide_68 : decode cX6_decide 68 = .ok (.ifCond .ne 14, 3) := by decide +kernel
theorem dX6_decide_71 : decode cX6_decide 71 = .ok (.lload 5, 2) := by decide +kernel
theorem dX6_decide_73 : decode cX6_decide 73 = .ok (.lload 9, 2) := by decide +kernel
theorem dX6_decide_75 : decode cX6_decide 75 = .ok (.lload 11, 2) := by decide +kernel
theorem dX6_decide_77 : decode cX6_decide 77 = .ok (.invokestatic 34, 3) := by decide +kernel
theorem dX6_decide_80 : decode cX6_decide 80 = .ok (.istore 13, 2) := by decide +kernel
theorem dX6_decide_82 : decode cX6_decide 82 = .ok (.iload 13, 2) := by decide +kernel
theorem dX6_decide_84 : decode cX6_decide 84 = .ok (.ifCond .ne 15, 3) := by decide +kernel
theorem dX6_decide_87 : decode cX6_decide 87 = .ok (.ldc2_w 38, 3) := by decide +kernel
theorem dX6_decide_90 : decode cX6_decide 90 = .ok (.lload 9, 2) := by decide +kernel
theorem dX6_decide_92 : decode cX6_decide 92 = .ok (.lload 11, 2) := by decide +kernel
theorem dX6_decide_94 : decode cX6_decide 94 = .ok (.invokestatic 34, 3) := by decide +kernel
theorem dX6_decide_97 : decode cX6_decide 97 = .ok (.istore 13, 2) := by decide +kernel
theorem dX6_decide_99 : decode cX6_decide 99 = .ok (.iload 13, 2) := by decide +kernel
theorem dX6_decide_101 : decode cX6_decide 101 = .ok (.ireturn, 1) := by decide +kernel
theorem dX6_decideFor_0 : decode cX6_decideFor 0 = .ok (.lload 4, 2) := by decide +kernel
theorem dX6_decideFor_2 : decode cX6_decideFor 2 = .ok (.lload_n 0, 1) := by decide +kernel
theorem dX6_decideFor_3 : decode cX6_decideFor 3 = .ok (.land, 1) := by decide +kernel
theorem dX6_decideFor_4 : decode cX6_decideFor 4 = .ok (.lconst 0, 1) := by decide +kernel
theorem dX6_decideFor_5 : decode cX6_decideFor 5 = .ok (.lcmp, 1) := by decide +kernel
theorem dX6_decideFor_6 : decode cX6_decideFor 6 = .ok (.ifCond .eq 5, 3) := by decide +kernel
theorem dX6_decideFor_9 : decode cX6_decideFor 9 = .ok (.iconst 2, 1) := by decide +kernel
theorem dX6_decideFor_10 : decode cX6_decideFor 10 = .ok (.ireturn, 1) := by decide +kernel
theorem dX6_decideFor_11 : decode cX6_decideFor 11 = .ok (.lload_n 2, 1) := by decide +kernel
theorem dX6_decideFor_12 : decode cX6_decideFor 12 = .ok (.lload_n 0, 1) := by decide +kernel
theorem dX6_decideFor_13 : decode cX6_decideFor 13 = .ok (.land, 1) := by decide +kernel
theorem dX6_decideFor_14 : decode cX6_decideFor 14 = .ok (.lconst 0, 1) := by decide +kernel
theorem dX6_decideFor_15 : decode cX6_decideFor 15 = .ok (.lcmp, 1) := by decide +kernel
theorem dX6_decideFor_16 : decode cX6_decideFor 16 = .ok (.ifCond .eq 7, 3) := by decide +kernel
theorem dX6_decideFor_19 : decode cX6_decideFor 19 = .ok (.iconst 1, 1) := by decide +kernel
theorem dX6_decideFor_20 : decode cX6_decideFor 20 = .ok (.goto 4, 3) := by decide +kernel
theorem dX6_decideFor_23 : decode cX6_decideFor 23 = .ok (.iconst 0, 1) := by decide +kernel
theorem dX6_decideFor_24 : decode cX6_decideFor 24 = .ok (.ireturn, 1) := by decide +kernel
theorem dX6_bitOf_0 : decode cX6_bitOf 0 = .ok (.iload_n 0, 1) := by decide +kernel
theorem dX6_bitOf_1 : decode cX6_bitOf 1 = .ok (.iconst (-1), 1) := by decide +kernel
theorem dX6_bitOf_2 : decode cX6_bitOf 2 = .ok (.if_icmp .ne 7, 3) := by decide +kernel
theorem dX6_bitOf_5 : decode cX6_bitOf 5 = .ok (.ldc2_w 38, 3) := by decide +kernel
theorem dX6_bitOf_8 : decode cX6_bitOf 8 = .ok (.lreturn, 1) := by decide +kernel
theorem dX6_bitOf_9 : decode cX6_bitOf 9 = .ok (.iload_n 0, 1) := by decide +kernel
theorem dX6_bitOf_10 : decode cX6_bitOf 10 = .ok (.bipush 100, 2) := by decide +kernel
theorem dX6_bitOf_12 : decode cX6_bitOf 12 = .ok (.if_icmp .lt 12, 3) := by decide +kernel
theorem dX6_bitOf_15 : decode cX6_bitOf 15 = .ok (.lconst 1, 1) := by decide +kernel
theorem dX6_bitOf_16 : decode cX6_bitOf 16 = .ok (.iload_n 0, 1) := by decide +kernel
theorem dX6_bitOf_17 : decode cX6_bitOf 17 = .ok (.bipush 100, 2) := by decide +kernel
theorem dX6_bitOf_19 : decode cX6_bitOf 19 = .ok (.isub, 1) := by decide +kernel
theorem dX6_bitOf_20 : decode cX6_bitOf 20 = .ok (.lshl, 1) := by decide +kernel
theorem dX6_bitOf_21 : decode cX6_bitOf 21 = .ok (.goto 9, 3) := by decide +kernel
theorem dX6_bitOf_24 : decode cX6_bitOf 24 = .ok (.lconst 1, 1) := by decide +kernel
theorem dX6_bitOf_25 : decode cX6_bitOf 25 = .ok (.bipush 48, 2) := by decide +kernel
theorem dX6_bitOf_27 : decode cX6_bitOf 27 = .ok (.iload_n 0, 1) := by decide +kernel
theorem dX6_bitOf_28 : decode cX6_bitOf 28 = .ok (.iadd, 1) := by decide +kernel
theorem dX6_bitOf_29 : decode cX6_bitOf 29 = .ok (.lshl, 1) := by decide +kernel
theorem dX6_bitOf_30 : decode cX6_bitOf 30 = .ok (.lreturn, 1) := by decide +kernel
theorem dX7_init_0 : decode cX7_init 0 = .ok (.aload_n 0, 1) := by decide +kernel
theorem dX7_init_1 : decode cX7_init 1 = .ok (.invokespecial 3, 3) := by decide +kernel
theorem dX7_init_4 : decode cX7_init 4 = .ok (.aload_n 0, 1) := by decide +kernel
theorem dX7_init_5 : decode cX7_init 5 = .ok (.bipush 8, 2) := by decide +kernel
theorem dX7_init_7 : decode cX7_init 7 = .ok (.newarray .int, 2) := by decide +kernel
theorem dX7_init_9 : decode cX7_init 9 = .ok (.putfield 9, 3) := by decide +kernel
theorem dX7_init_12 : decode cX7_init 12 = .ok (.aload_n 0, 1) := by decide +kernel
theorem dX7_init_13 : decode cX7_init 13 = .ok (.bipush 8, 2) := by decide +kernel
theorem dX7_init_15 : decode cX7_init 15 = .ok (.newarray .int, 2) := by decide +kernel
theorem dX7_init_17 : decode cX7_init 17 = .ok (.putfield 15, 3) := by decide +kernel
theorem dX7_init_20 : decode cX7_init 20 = .ok (.aload_n 0, 1) := by decide +kernel
theorem dX7_init_21 : decode cX7_init 21 = .ok (.bipush 8, 2) := by decide +kernel
theorem dX7_init_23 : decode cX7_init 23 = .ok (.newarray .int, 2) := by decide +kernel
theorem dX7_init_25 : decode cX7_init 25 = .ok (.putfield 18, 3) := by decide +kernel
theorem dX7_init_28 : decode cX7_init 28 = .ok (.return_, 1) := by decide +kernel
theorem dX7_newAttribute_0 : decode cX7_newAttribute 0 = .ok (.iconst 1, 1) := by decide +kernel
theorem dX7_newAttribute_1 : decode cX7_newAttribute 1 = .ok (.aload_n 0, 1) := by decide +kernel
theorem dX7_newAttribute_2 : decode cX7_newAttribute 2 = .ok (.getfield 21, 3) := by decide +kernel
theorem dX7_newAttribute_5 : decode cX7_newAttribute 5 = .ok (.ishl, 1) := by decide +kernel
theorem dX7_newAttribute_6 : decode cX7_newAttribute 6 = .ok (.istore_n 3, 1) := by decide +kernel
theorem dX7_newAttribute_7 : decode cX7_newAttribute 7 = .ok (.aload_n 0, 1) := by decide +kernel
theorem dX7_newAttribute_8 : decode cX7_newAttribute 8 = .ok (.dup, 1) := by decide +kernel
theorem dX7_newAttribute_9 : decode cX7_newAttribute 9 = .ok (.getfield 25, 3) := by decide +kernel
theorem dX7_newAttribute_12 : decode cX7_newAttribute 12 = .ok (.iload_n 1, 1) := by decide +kernel
theorem dX7_newAttribute_13 : decode cX7_newAttribute 13 = .ok (.ifCond .eq 7, 3) := by decide +kernel
theorem dX7_newAttribute_16 : decode cX7_newAttribute 16 = .ok (.iload_n 3, 1) := by decide +kernel
theorem dX7_newAttribute_17 : decode cX7_newAttribute 17 = .ok (.goto 4, 3) := by decide +kernel
theorem dX7_newAttribute_20 : decode cX7_newAttribute 20 = .ok (.iconst 0, 1) := by decide +kernel
theorem dX7_newAttribute_21 : decode cX7_newAttribute 21 = .ok (.ior, 1) := by decide +kernel
theorem dX7_newAttribute_22 : decode cX7_newAttribute 22 = .ok (.putfield 25, 3) := by decide +kernel
theorem dX7_newAttribute_25 : decode cX7_newAttribute 25 = .ok (.aload_n 0, 1) := by decide +kernel
theorem dX7_newAttribute_26 : decode cX7_newAttribute 26 = .ok (.dup, 1) := by decide +kernel
theorem dX7_newAttribute_27 : decode cX7_newAttribute 27 = .ok (.getfield 28, 3) := by decide +kernel
theorem dX7_newAttribute_30 : decode cX7_newAttribute 30 = .ok (.iload_n 2, 1) := by decide +kernel
theorem dX7_newAttribute_31 : decode cX7_newAttribute 31 = .ok (.ifCond .eq 7, 3) := by decide +kernel
theorem dX7_newAttribute_34 : decode cX7_newAttribute 34 = .ok (.iload_n 3, 1) := by decide +kernel
theorem dX7_newAttribute_35 : decode cX7_newAttribute 35 = .ok (.goto 4, 3) := by decide +kernel
theorem dX7_newAttribute_38 : decode cX7_newAttribute 38 = .ok (.iconst 0, 1) := by decide +kernel
theorem dX7_newAttribute_39 : decode cX7_newAttribute 39 = .ok (.ior, 1) := by decide +kernel
theorem dX7_newAttribute_40 : decode cX7_newAttribute 40 = .ok (.putfield 28, 3) := by decide +kernel
theorem dX7_newAttribute_43 : decode cX7_newAttribute 43 = .ok (.aload_n 0, 1) := by decide +kernel
theorem dX7_newAttribute_44 : decode cX7_newAttribute 44 = .ok (.dup, 1) := by decide +kernel
theorem dX7_newAttribute_45 : decode cX7_newAttribute 45 = .ok (.getfield 21, 3) := by decide +kernel
theorem dX7_newAttribute_48 : decode cX7_newAttribute 48 = .ok (.dup_x1, 1) := by decide +kernel
theorem dX7_newAttribute_49 : decode cX7_newAttribute 49 = .ok (.iconst 1, 1) := by decide +kernel
theorem dX7_newAttribute_50 : decode cX7_newAttribute 50 = .ok (.iadd, 1) := by decide +kernel
theorem dX7_newAttribute_51 : decode cX7_newAttribute 51 = .ok (.putfield 21, 3) := by decide +kernel
theorem dX7_newAttribute_54 : decode cX7_newAttribute 54 = .ok (.ireturn, 1) := by decide +kernel
theorem dX7_newClass_0 : decode cX7_newClass 0 = .ok (.aload_n 0, 1) := by decide +kernel
theorem dX7_newClass_1 : decode cX7_newClass 1 = .ok (.getfield 31, 3) := by decide +kernel
theorem dX7_newClass_4 : decode cX7_newClass 4 = .ok (.bipush 8, 2) := by decide +kernel
theorem dX7_newClass_6 : decode cX7_newClass 6 = .ok (.if_icmp .lt 5, 3) := by decide +kernel
theorem dX7_newClass_9 : decode cX7_newClass 9 = .ok (.iconst (-1), 1) := by decide +kernel
theorem dX7_newClass_10 : decode cX7_newClass 10 = .ok (.ireturn, 1) := by decide +kernel
theorem dX7_newClass_11 : decode cX7_newClass 11 = .ok (.aload_n 0, 1) := by decide +kernel
theorem dX7_newClass_12 : decode cX7_newClass 12 = .ok (.getfield 9, 3) := by decide +kernel
theorem dX7_newClass_15 : decode cX7_newClass 15 = .ok (.aload_n 0, 1) := by decide +kernel
theorem dX7_newClass_16 : decode cX7_newClass 16 = .ok (.getfield 31, 3) := by decide +kernel
theorem dX7_newClass_19 : decode cX7_newClass 19 = .ok (.iload_n 1, 1) := by decide +kernel
theorem dX7_newClass_20 : decode cX7_newClass 20 = .ok (.iastore, 1) := by decide +kernel
theorem dX7_newClass_21 : decode cX7_newClass 21 = .ok (.aload_n 0, 1) := by decide +kernel
theorem dX7_newClass_22 : decode cX7_newClass 22 = .ok (.getfield 15, 3) := by decide +kernel
theorem dX7_newClass_25 : decode cX7_newClass 25 = .ok (.aload_n 0, 1) := by decide +kernel
theorem dX7_newClass_26 : decode cX7_newClass 26 = .ok (.getfield 31, 3) := by decide +kernel
theorem dX7_newClass_29 : decode cX7_newClass 29 = .ok (.iload_n 2, 1) := by decide +kernel
theorem dX7_newClass_30 : decode cX7_newClass 30 = .ok (.aload_n 0, 1) := by decide +kernel
theorem dX7_newClass_31 : decode cX7_newClass 31 = .ok (.iload_n 1, 1) := by decide +kernel
theorem dX7_newClass_32 : decode cX7_newClass 32 = .ok (.invokevirtual 34, 3) := by decide +kernel
theorem dX7_newClass_35 : decode cX7_newClass 35 = .ok (.ior, 1) := by decide +kernel
theorem dX7_newClass_36 : decode cX7_newClass 36 = .ok (.iastore, 1) := by decide +kernel
theorem dX7_newClass_37 : decode cX7_newClass 37 = .ok (.aload_n 0, 1) := by decide +kernel
theorem dX7_newClass_38 : decode cX7_newClass 38 = .ok (.getfield 18, 3) := by decide +kernel
theorem dX7_newClass_41 : decode cX7_newClass 41 = .ok (.aload_n 0, 1) := by decide +kernel
theorem dX7_newClass_42 : decode cX7_newClass 42 = .ok (.getfield 31, 3) := by decide +kernel
theorem dX7_newClass_45 : decode cX7_newClass 45 = .ok (.iload_n 2, 1) := by decide +kernel
theorem dX7_newClass_46 : decode cX7_newClass 46 = .ok (.iload_n 3, 1) := by decide +kernel
theorem dX7_newClass_47 : decode cX7_newClass 47 = .ok (.ior, 1) := by decide +kernel
theorem dX7_newClass_48 : decode cX7_newClass 48 = .ok (.aload_n 0, 1) := by decide +kernel
theorem dX7_newClass_49 : decode cX7_newClass 49 = .ok (.iload_n 1, 1) := by decide +kernel
theorem dX7_newClass_50 : decode cX7_newClass 50 = .ok (.invokevirtual 38, 3) := by decide +kernel
theorem dX7_newClass_53 : decode cX7_newClass 53 = .ok (.ior, 1) := by decide +kernel
theorem dX7_newClass_54 : decode cX7_newClass 54 = .ok (.iastore, 1) := by decide +kernel
theorem dX7_newClass_55 : decode cX7_newClass 55 = .ok (.aload_n 0, 1) := by decide +kernel
theorem dX7_newClass_56 : decode cX7_newClass 56 = .ok (.dup, 1) := by decide +kernel
theorem dX7_newClass_57 : decode cX7_newClass 57 = .ok (.getfield 31, 3) := by decide +kernel
theorem dX7_newClass_60 : decode cX7_newClass 60 = .ok (.dup_x1, 1) := by decide +kernel
theorem dX7_newClass_61 : decode cX7_newClass 61 = .ok (.iconst 1, 1) := by decide +kernel
theorem dX7_newClass_62 : decode cX7_newClass 62 = .ok (.iadd, 1) := by decide +kernel
theorem dX7_newClass_63 : decode cX7_newClass 63 = .ok (.putfield 31, 3) := by decide +kernel
theorem dX7_newClass_66 : decode cX7_newClass 66 = .ok (.ireturn, 1) := by decide +kernel
theorem dX7_isClass_0 : decode cX7_isClass 0 = .ok (.iload_n 1, 1) := by decide +kernel
theorem dX7_isClass_1 : decode cX7_isClass 1 = .ok (.ifCond .lt 15, 3) := by decide +kernel
theorem dX7_isClass_4 : decode cX7_isClass 4 = .ok (.iload_n 1, 1) := by decide +kernel
theorem dX7_isClass_5 : decode cX7_isClass 5 = .ok (.aload_n 0, 1) := by decide +kernel
theorem dX7_isClass_6 : decode cX7_isClass 6 = .ok (.getfield 31, 3) := by decide +kernel
theorem dX7_isClass_9 : decode cX7_isClass 9 = .ok (.if_icmp .ge 7, 3) := by decide +kernel
theorem dX7_isClass_12 : decode cX7_isClass 12 = .ok (.iconst 1, 1) := by decide +kernel
theorem dX7_isClass_13 : decode cX7_isClass 13 = .ok (.goto 4, 3) := by decide +kernel
theorem dX7_isClass_16 : decode cX7_isClass 16 = .ok (.iconst 0, 1) := by decide +kernel
theorem dX7_isClass_17 : decode cX7_isClass 17 = .ok (.ireturn, 1) := by decide +kernel
theorem dX7_isSetOfAttributes_0 : decode cX7_isSetOfAttributes 0 = .ok (.iload_n 1, 1) := by decide +kernel
theorem dX7_isSetOfAttributes_1 : decode cX7_isSetOfAttributes 1 = .ok (.aload_n 0, 1) := by decide +kernel
theorem dX7_isSetOfAttributes_2 : decode cX7_isSetOfAttributes 2 = .ok (.getfield 21, 3) := by decide +kernel
theorem dX7_isSetOfAttributes_5 : decode cX7_isSetOfAttributes 5 = .ok (.iushr, 1) := by decide +kernel
theorem dX7_isSetOfAttributes_6 : decode cX7_isSetOfAttributes 6 = .ok (.ifCond .ne 7, 3) := by decide +kernel
theorem dX7_isSetOfAttributes_9 : decode cX7_isSetOfAttributes 9 = .ok (.iconst 1, 1) := by decide +kernel
theorem dX7_isSetOfAttributes_10 : decode cX7_isSetOfAttributes 10 = .ok (.goto 4, 3) := by decide +kernel
theorem dX7_isSetOfAttributes_13 : decode cX7_isSetOfAttributes 13 = .ok (.iconst 0, 1) := by decide +kernel
theorem dX7_isSetOfAttributes_14 : decode cX7_isSetOfAttributes 14 = .ok (.ireturn, 1) := by decide +kernel
theorem dX7_requiredBy_0 : decode cX7_requiredBy 0 = .ok (.aload_n 0, 1) := by decide +kernel
theorem dX7_requiredBy_1 : decode cX7_requiredBy 1 = .ok (.iload_n 1, 1) := by decide +kernel
theorem dX7_requiredBy_2 : decode cX7_requiredBy 2 = .ok (.invokevirtual 41, 3) := by decide +kernel
theorem dX7_requiredBy_5 : decode cX7_requiredBy 5 = .ok (.ifCond .eq 12, 3) := by decide +kernel
theorem dX7_requiredBy_8 : decode cX7_requiredBy 8 = .ok (.aload_n 0, 1) := by decide +kernel
theorem dX7_requiredBy_9 : decode cX7_requiredBy 9 = .ok (.getfield 15, 3) := by decide +kernel
theorem dX7_requiredBy_12 : decode cX7_requiredBy 12 = .ok (.iload_n 1, 1) := by decide +kernel
theorem dX7_requiredBy_13 : decode cX7_requiredBy 13 = .ok (.iaload, 1) := by decide +kernel
theorem dX7_requiredBy_14 : decode cX7_requiredBy 14 = .ok (.goto 4, 3) := by decide +kernel
theorem dX7_requiredBy_17 : decode cX7_requiredBy 17 = .ok (.iconst 0, 1) := by decide +kernel
theorem dX7_requiredBy_18 : decode cX7_requiredBy 18 = .ok (.ireturn, 1) := by decide +kernel
theorem dX7_allowedBy_0 : decode cX7_allowedBy 0 = .ok (.aload_n 0, 1) := by decide +kernel
theorem dX7_allowedBy_1 : decode cX7_allowedBy 1 = .ok (.iload_n 1, 1) := by decide +kernel
theorem dX7_allowedBy_2 : decode cX7_allowedBy 2 = .ok (.invokevirtual 41, 3) := by decide +kernel
theorem dX7_allowedBy_5 : decode cX7_allowedBy 5 = .ok (.ifCond .eq 12, 3) := by decide +kernel
theorem dX7_allowedBy_8 : decode cX7_allowedBy 8 = .ok (.aload_n 0, 1) := by decide +kernel
theorem dX7_allowedBy_9 : decode cX7_allowedBy 9 = .ok (.getfield 18, 3) := by decide +kernel
theorem dX7_allowedBy_12 : decode cX7_allowedBy 12 = .ok (.iload_n 1, 1) := by decide +kernel
theorem dX7_allowedBy_13 : decode cX7_allowedBy 13 = .ok (.iaload, 1) := by decide +kernel
theorem dX7_allowedBy_14 : decode cX7_allowedBy 14 = .ok (.goto 4, 3) := by decide +kernel
theorem dX7_allowedBy_17 : decode cX7_allowedBy 17 = .ok (.iconst 0, 1) := by decide +kernel
theorem dX7_allowedBy_18 : decode cX7_allowedBy 18 = .ok (.ireturn, 1) := by decide +kernel
theorem dX7_isRequired_0 : decode cX7_isRequired 0 = .ok (.aload_n 0, 1) := by decide +kernel
theorem dX7_isRequired_1 : decode cX7_isRequired 1 = .ok (.iload_n 1, 1) := by decide +kernel
theorem dX7_isRequired_2 : decode cX7_isRequired 2 = .ok (.invokevirtual 34, 3) := by decide +kernel
theorem dX7_isRequired_5 : decode cX7_isRequired 5 = .ok (.iload_n 2, 1) := by decide +kernel
theorem dX7_isRequired_6 : decode cX7_isRequired 6 = .ok (.ishr, 1) := by decide +kernel
theorem dX7_isRequired_7 : decode cX7_isRequired 7 = .ok (.iconst 1, 1) := by decide +kernel
theorem dX7_isRequired_8 : decode cX7_isRequired 8 = .ok (.iand, 1) := by decide +kernel
theorem dX7_isRequired_9 : decode cX7_isRequired 9 = .ok (.iconst 1, 1) := by decide +kernel
theorem dX7_isRequired_10 : decode cX7_isRequired 10 = .ok (.if_icmp .ne 7, 3) := by decide +kernel
theorem dX7_isRequired_13 : decode cX7_isRequired 13 = .ok (.iconst 1, 1) := by decide +kernel
theorem dX7_isRequired_14 : decode cX7_isRequired 14 = .ok (.goto 4, 3) := by decide +kernel
theorem dX7_isRequired_17 : decode cX7_isRequired 17 = .ok (.iconst 0, 1) := by decide +kernel
theorem dX7_isRequired_18 : decode cX7_isRequired 18 = .ok (.ireturn, 1) := by decide +kernel
theorem dX7_isAllowed_0 : decode cX7_isAllowed 0 = .ok (.aload_n 0, 1) := by decide +kernel
theorem dX7_isAllowed_1 : decode cX7_isAllowed 1 = .ok (.iload_n 1, 1) := by decide +kernel
theorem dX7_isAllowed_2 : decode cX7_isAllowed 2 = .ok (.invokevirtual 38, 3) := by decide +kernel
theorem dX7_isAllowed_5 : decode cX7_isAllowed 5 = .ok (.iload_n 2, 1) := by decide +kernel
theorem dX7_isAllowed_6 : decode cX7_isAllowed 6 = .ok (.ishr, 1) := by decide +kernel
theorem dX7_isAllowed_7 : decode cX7_isAllowed 7 = .ok (.iconst 1, 1) := by decide +kernel
theorem dX7_isAllowed_8 : decode cX7_isAllowed 8 = .ok (.iand, 1) := by decide +kernel
theorem dX7_isAllowed_9 : decode cX7_isAllowed 9 = .ok (.iconst 1, 1) := by decide +kernel
theorem dX7_isAllowed_10 : decode cX7_isAllowed 10 = .ok (.if_icmp .ne 7, 3) := by decide +kernel
theorem dX7_isAllowed_13 : decode cX7_isAllowed 13 = .ok (.iconst 1, 1) := by decide +kernel
theorem dX7_isAllowed_14 : decode cX7_isAllowed 14 = .ok (.goto 4, 3) := by decide +kernel
theorem dX7_isAllowed_17 : decode cX7_isAllowed 17 = .ok (.iconst 0, 1) := by decide +kernel
theorem dX7_isAllowed_18 : decode cX7_isAllowed 18 = .ok (.ireturn, 1) := by decide +kernel
theorem dX7_isSingle_0 : decode cX7_isSingle 0 = .ok (.aload_n 0, 1) := by decide +kernel
theorem dX7_isSingle_1 : decode cX7_isSingle 1 = .ok (.getfield 25, 3) := by decide +kernel
theorem dX7_isSingle_4 : decode cX7_isSingle 4 = .ok (.iload_n 1, 1) := by decide +kernel
theorem dX7_isSingle_5 : decode cX7_isSingle 5 = .ok (.ishr, 1) := by decide +kernel
theorem dX7_isSingle_6 : decode cX7_isSingle 6 = .ok (.iconst 1, 1) := by decide +kernel
theorem dX7_isSingle_7 : decode cX7_isSingle 7 = .ok (.iand, 1) := by decide +kernel
theorem dX7_isSingle_8 : decode cX7_isSingle 8 = .ok (.iconst 1, 1) := by decide +kernel
theorem dX7_isSingle_9 : decode cX7_isSingle 9 = .ok (.if_icmp .ne 7, 3) := by decide +kernel
theorem dX7_isSingle_12 : decode cX7_isSingle 12 = .ok (.iconst 1, 1) := by decide +kernel
theorem dX7_isSingle_13 : decode cX7_isSingle 13 = .ok (.goto 4, 3) := by decide +kernel
theorem dX7_isSingle_16 : decode cX7_isSingle 16 = .ok (.iconst 0, 1) := by decide +kernel
theorem dX7_isSingle_17 : decode cX7_isSingle 17 = .ok (.ireturn, 1) := by decide +kernel
theorem dX7_isOrBeneath_0 : decode cX7_isOrBeneath 0 = .ok (.iload_n 1, 1) := by decide +kernel
theorem dX7_isOrBeneath_1 : decode cX7_isOrBeneath 1 = .ok (.istore_n 3, 1) := by decide +kernel
theorem dX7_isOrBeneath_2 : decode cX7_isOrBeneath 2 = .ok (.iconst 0, 1) := by decide +kernel
theorem dX7_isOrBeneath_3 : decode cX7_isOrBeneath 3 = .ok (.istore 4, 2) := by decide +kernel
theorem dX7_isOrBeneath_5 : decode cX7_isOrBeneath 5 = .ok (.iload 4, 2) := by decide +kernel
theorem dX7_isOrBeneath_7 : decode cX7_isOrBeneath 7 = .ok (.bipush 8, 2) := by decide +kernel
theorem dX7_isOrBeneath_9 : decode cX7_isOrBeneath 9 = .ok (.if_icmp .ge 31, 3) := by decide +kernel
theorem dX7_isOrBeneath_12 : decode cX7_isOrBeneath 12 = .ok (.aload_n 0, 1) := by decide +kernel
theorem dX7_isOrBeneath_13 : decode cX7_isOrBeneath 13 = .ok (.iload_n 3, 1) := by decide +kernel
theorem dX7_isOrBeneath_14 : decode cX7_isOrBeneath 14 = .ok (.invokevirtual 41, 3) := by decide +kernel
theorem dX7_isOrBeneath_17 : decode cX7_isOrBeneath 17 = .ok (.ifCond .eq 23, 3) := by decide +kernel
theorem dX7_isOrBeneath_20 : decode cX7_isOrBeneath 20 = .ok (.iload_n 3, 1) := by decide +kernel
theorem dX7_isOrBeneath_21 : decode cX7_isOrBeneath 21 = .ok (.iload_n 2, 1) := by decide +kernel
theorem dX7_isOrBeneath_22 : decode cX7_isOrBeneath 22 = .ok (.if_icmp .ne 5, 3) := by decide +kernel
theorem dX7_isOrBeneath_25 : decode cX7_isOrBeneath 25 = .ok (.iconst 1, 1) := by decide +kernel
theorem dX7_isOrBeneath_26 : decode cX7_isOrBeneath 26 = .ok (.ireturn, 1) := by decide +kernel
theorem dX7_isOrBeneath_27 : decode cX7_isOrBeneath 27 = .ok (.aload_n 0, 1) := by decide +kernel
theorem dX7_isOrBeneath_28 : decode cX7_isOrBeneath 28 = .ok (.getfield 9, 3) := by decide +kernel
theorem dX7_isOrBeneath_31 : decode cX7_isOrBeneath 31 = .ok (.iload_n 3, 1) := by decide +kernel
theorem dX7_isOrBeneath_32 : decode cX7_isOrBeneath 32 = .ok (.iaload, 1) := by decide +kernel
theorem dX7_isOrBeneath_33 : decode cX7_isOrBeneath 33 = .ok (.istore_n 3, 1) := by decide +kernel
theorem dX7_isOrBeneath_34 : decode cX7_isOrBeneath 34 = .ok (.iinc 4 1, 3) := by decide +kernel
theorem dX7_isOrBeneath_37 : decode cX7_isOrBeneath 37 = .ok (.goto (-32), 3) := by decide +kernel
theorem dX7_isOrBeneath_40 : decode cX7_isOrBeneath 40 = .ok (.iconst 0, 1) := by decide +kernel
theorem dX7_isOrBeneath_41 : decode cX7_isOrBeneath 41 = .ok (.ireturn, 1) := by decide +kernel
theorem dX7_lowest_0 : decode cX7_lowest 0 = .ok (.aload_n 0, 1) := by decide +kernel
theorem dX7_lowest_1 : decode cX7_lowest 1 = .ok (.iload_n 1, 1) := by decide +kernel
theorem dX7_lowest_2 : decode cX7_lowest 2 = .ok (.invokevirtual 45, 3) := by decide +kernel
theorem dX7_lowest_5 : decode cX7_lowest 5 = .ok (.ifCond .eq 12, 3) := by decide +kernel
theorem dX7_lowest_8 : decode cX7_lowest 8 = .ok (.iload_n 2, 1) := by decide +kernel
theorem dX7_lowest_9 : decode cX7_lowest 9 = .ok (.iload_n 2, 1) := by decide +kernel
theorem dX7_lowest_10 : decode cX7_lowest 10 = .ok (.bipush 10, 2) := by decide +kernel
theorem dX7_lowest_12 : decode cX7_lowest 12 = .ok (.irem, 1) := by decide +kernel
theorem dX7_lowest_13 : decode cX7_lowest 13 = .ok (.isub, 1) := by decide +kernel
theorem dX7_lowest_14 : decode cX7_lowest 14 = .ok (.goto 4, 3) := by decide +kernel
theorem dX7_lowest_17 : decode cX7_lowest 17 = .ok (.iload_n 2, 1) := by decide +kernel
theorem dX7_lowest_18 : decode cX7_lowest 18 = .ok (.ireturn, 1) := by decide +kernel
theorem dX7_highest_0 : decode cX7_highest 0 = .ok (.aload_n 0, 1) := by decide +kernel
theorem dX7_highest_1 : decode cX7_highest 1 = .ok (.iload_n 1, 1) := by decide +kernel
theorem dX7_highest_2 : decode cX7_highest 2 = .ok (.invokevirtual 45, 3) := by decide +kernel
theorem dX7_highest_5 : decode cX7_highest 5 = .ok (.ifCond .eq 15, 3) := by decide +kernel
theorem dX7_highest_8 : decode cX7_highest 8 = .ok (.iload_n 2, 1) := by decide +kernel
theorem dX7_highest_9 : decode cX7_highest 9 = .ok (.iload_n 2, 1) := by decide +kernel
theorem dX7_highest_10 : decode cX7_highest 10 = .ok (.bipush 10, 2) := by decide +kernel
theorem dX7_highest_12 : decode cX7_highest 12 = .ok (.irem, 1) := by decide +kernel
theorem dX7_highest_13 : decode cX7_highest 13 = .ok (.isub, 1) := by decide +kernel
theorem dX7_highest_14 : decode cX7_highest 14 = .ok (.bipush 9, 2) := by decide +kernel
theorem dX7_highest_16 : decode cX7_highest 16 = .ok (.iadd, 1) := by decide +kernel
theorem dX7_highest_17 : decode cX7_highest 17 = .ok (.goto 4, 3) := by decide +kernel
theorem dX7_highest_20 : decode cX7_highest 20 = .ok (.iload_n 2, 1) := by decide +kernel
theorem dX7_highest_21 : decode cX7_highest 21 = .ok (.ireturn, 1) := by decide +kernel
theorem dX7_isByTens_0 : decode cX7_isByTens 0 = .ok (.aload_n 0, 1) := by decide +kernel
theorem dX7_isByTens_1 : decode cX7_isByTens 1 = .ok (.getfield 28, 3) := by decide +kernel
theorem dX7_isByTens_4 : decode cX7_isByTens 4 = .ok (.iload_n 1, 1) := by decide +kernel
theorem dX7_isByTens_5 : decode cX7_isByTens 5 = .ok (.ishr, 1) := by decide +kernel
theorem dX7_isByTens_6 : decode cX7_isByTens 6 = .ok (.iconst 1, 1) := by decide +kernel
theorem dX7_isByTens_7 : decode cX7_isByTens 7 = .ok (.iand, 1) := by decide +kernel
theorem dX7_isByTens_8 : decode cX7_isByTens 8 = .ok (.iconst 1, 1) := by decide +kernel
theorem dX7_isByTens_9 : decode cX7_isByTens 9 = .ok (.if_icmp .ne 7, 3) := by decide +kernel
theorem dX7_isByTens_12 : decode cX7_isByTens 12 = .ok (.iconst 1, 1) := by decide +kernel
theorem dX7_isByTens_13 : decode cX7_isByTens 13 = .ok (.goto 4, 3) := by decide +kernel
theorem dX7_isByTens_16 : decode cX7_isByTens 16 = .ok (.iconst 0, 1) := by decide +kernel
theorem dX7_isByTens_17 : decode cX7_isByTens 17 = .ok (.ireturn, 1) := by decide +kernel
theorem dX8_init_0 : decode cX8_init 0 = .ok (.aload_n 0, 1) := by decide +kernel
theorem dX8_init_1 : decode cX8_init 1 = .ok (.invokespecial 3, 3) := by decide +kernel
theorem dX8_init_4 : decode cX8_init 4 = .ok (.aload_n 0, 1) := by decide +kernel
theorem dX8_init_5 : decode cX8_init 5 = .ok (.bipush 48, 2) := by decide +kernel
theorem dX8_init_7 : decode cX8_init 7 = .ok (.newarray .int, 2) := by decide +kernel
theorem dX8_init_9 : decode cX8_init 9 = .ok (.putfield 9, 3) := by decide +kernel
theorem dX8_init_12 : decode cX8_init 12 = .ok (.aload_n 0, 1) := by decide +kernel
theorem dX8_init_13 : decode cX8_init 13 = .ok (.bipush 48, 2) := by decide +kernel
theorem dX8_init_15 : decode cX8_init 15 = .ok (.newarray .int, 2) := by decide +kernel
theorem dX8_init_17 : decode cX8_init 17 = .ok (.putfield 15, 3) := by decide +kernel
theorem dX8_init_20 : decode cX8_init 20 = .ok (.aload_n 0, 1) := by decide +kernel
theorem dX8_init_21 : decode cX8_init 21 = .ok (.bipush 48, 2) := by decide +kernel
theorem dX8_init_23 : decode cX8_init 23 = .ok (.newarray .int, 2) := by decide +kernel
theorem dX8_init_25 : decode cX8_init 25 = .ok (.putfield 18, 3) := by decide +kernel
theorem dX8_init_28 : decode cX8_init 28 = .ok (.aload_n 0, 1) := by decide +kernel
theorem dX8_init_29 : decode cX8_init 29 = .ok (.new 21, 3) := by decide +kernel
theorem dX8_init_32 : decode cX8_init 32 = .ok (.dup, 1) := by decide +kernel
theorem dX8_init_33 : decode cX8_init 33 = .ok (.invokespecial 23, 3) := by decide +kernel
theorem dX8_init_36 : decode cX8_init 36 = .ok (.putfield 24, 3) := by decide +kernel
theorem dX8_init_39 : decode cX8_init 39 = .ok (.aload_n 0, 1) := by decide +kernel
theorem dX8_init_40 : decode cX8_init 40 = .ok (.bipush 48, 2) := by decide +kernel
theorem dX8_init_42 : decode cX8_init 42 = .ok (.newarray .int, 2) := by decide +kernel
theorem dX8_init_44 : decode cX8_init 44 = .ok (.putfield 28, 3) := by decide +kernel
theorem dX8_init_47 : decode cX8_init 47 = .ok (.aload_n 0, 1) := by decide +kernel
theorem dX8_init_48 : decode cX8_init 48 = .ok (.bipush 48, 2) := by decide +kernel
theorem dX8_init_50 : decode cX8_init 50 = .ok (.newarray .int, 2) := by decide +kernel
theorem dX8_init_52 : decode cX8_init 52 = .ok (.putfield 31, 3) := by decide +kernel
theorem dX8_init_55 : decode cX8_init 55 = .ok (.aload_n 0, 1) := by decide +kernel
theorem dX8_init_56 : decode cX8_init 56 = .ok (.new 34, 3) := by decide +kernel
theorem dX8_init_59 : decode cX8_init 59 = .ok (.dup, 1) := by decide +kernel
theorem dX8_init_60 : decode cX8_init 60 = .ok (.sipush 826, 3) := by decide +kernel
theorem dX8_init_63 : decode cX8_init 63 = .ok (.invokespecial 36, 3) := by decide +kernel
theorem dX8_init_66 : decode cX8_init 66 = .ok (.putfield 39, 3) := by decide +kernel
theorem dX8_init_69 : decode cX8_init 69 = .ok (.aload_n 0, 1) := by decide +kernel
theorem dX8_init_70 : decode cX8_init 70 = .ok (.new 34, 3) := by decide +kernel
theorem dX8_init_73 : decode cX8_init 73 = .ok (.dup, 1) := by decide +kernel
theorem dX8_init_74 : decode cX8_init 74 = .ok (.sipush 826, 3) := by decide +kernel
theorem dX8_init_77 : decode cX8_init 77 = .ok (.invokespecial 36, 3) := by decide +kernel
theorem dX8_init_80 : decode cX8_init 80 = .ok (.putfield 43, 3) := by decide +kernel
theorem dX8_init_83 : decode cX8_init 83 = .ok (.aload_n 0, 1) := by decide +kernel
theorem dX8_init_84 : decode cX8_init 84 = .ok (.new 34, 3) := by decide +kernel
theorem dX8_init_87 : decode cX8_init 87 = .ok (.dup, 1) := by decide +kernel
theorem dX8_init_88 : decode cX8_init 88 = .ok (.bipush 48, 2) := by decide +kernel
theorem dX8_init_90 : decode cX8_init 90 = .ok (.invokespecial 36, 3) := by decide +kernel
theorem dX8_init_93 : decode cX8_init 93 = .ok (.putfield 46, 3) := by decide +kernel
theorem dX8_init_96 : decode cX8_init 96 = .ok (.aload_n 0, 1) := by decide +kernel
theorem dX8_init_97 : decode cX8_init 97 = .ok (.aload_n 1, 1) := by decide +kernel
theorem dX8_init_98 : decode cX8_init 98 = .ok (.putfield 49, 3) := by decide +kernel
theorem dX8_init_101 : decode cX8_init 101 = .ok (.aload_n 0, 1) := by decide +kernel
theorem dX8_init_102 : decode cX8_init 102 = .ok (.invokevirtual 53, 3) := by decide +kernel
theorem dX8_init_105 : decode cX8_init 105 = .ok (.return_, 1) := by decide +kernel
theorem dX8_clear_0 : decode cX8_clear 0 = .ok (.aload_n 0, 1) := by decide +kernel
theorem dX8_clear_1 : decode cX8_clear 1 = .ok (.getfield 9, 3) := by decide +kernel
theorem dX8_clear_4 : decode cX8_clear 4 = .ok (.iconst 0, 1) := by decide +kernel
theorem dX8_clear_5 : decode cX8_clear 5 = .ok (.invokestatic 56, 3) := by decide +kernel
theorem dX8_clear_8 : decode cX8_clear 8 = .ok (.aload_n 0, 1) := by decide +kernel
theorem dX8_clear_9 : decode cX8_clear 9 = .ok (.getfield 15, 3) := by decide +kernel
theorem dX8_clear_12 : decode cX8_clear 12 = .ok (.iconst (-1), 1) := by decide +kernel
theorem dX8_clear_13 : decode cX8_clear 13 = .ok (.invokestatic 56, 3) := by decide +kernel
theorem dX8_clear_16 : decode cX8_clear 16 = .ok (.aload_n 0, 1) := by decide +kernel
theorem dX8_clear_17 : decode cX8_clear 17 = .ok (.getfield 18, 3) := by decide +kernel
theorem dX8_clear_20 : decode cX8_clear 20 = .ok (.iconst (-1), 1) := by decide +kernel
theorem dX8_clear_21 : decode cX8_clear 21 = .ok (.invokestatic 56, 3) := by decide +kernel
theorem dX8_clear_24 : decode cX8_clear 24 = .ok (.aload_n 0, 1) := by decide +kernel
theorem dX8_clear_25 : decode cX8_clear 25 = .ok (.getfield 28, 3) := by decide +kernel
theorem dX8_clear_28 : decode cX8_clear 28 = .ok (.iconst (-1), 1) := by decide +kernel
theorem dX8_clear_29 : decode cX8_clear 29 = .ok (.invokestatic 56, 3) := by decide +kernel
theorem dX8_clear_32 : decode cX8_clear 32 = .ok (.aload_n 0, 1) := by decide +kernel
theorem dX8_clear_33 : decode cX8_clear 33 = .ok (.getfield 24, 3) := by decide +kernel
theorem dX8_clear_36 : decode cX8_clear 36 = .ok (.invokevirtual 62, 3) := by decide +kernel
theorem dX8_clear_39 : decode cX8_clear 39 = .ok (.aload_n 0, 1) := by decide +kernel
theorem dX8_clear_40 : decode cX8_clear 40 = .ok (.getfield 39, 3) := by decide +kernel
theorem dX8_clear_43 : decode cX8_clear 43 = .ok (.invokevirtual 63, 3) := by decide +kernel
theorem dX8_clear_46 : decode cX8_clear 46 = .ok (.aload_n 0, 1) := by decide +kernel
theorem dX8_clear_47 : decode cX8_clear 47 = .ok (.getfield 43, 3) := by decide +kernel
theorem dX8_clear_50 : decode cX8_clear 50 = .ok (.invokevirtual 63, 3) := by decide +kernel
theorem dX8_clear_53 : decode cX8_clear 53 = .ok (.aload_n 0, 1) := by decide +kernel
theorem dX8_clear_54 : decode cX8_clear 54 = .ok (.lconst 1, 1) := by decide +kernel
theorem dX8_clear_55 : decode cX8_clear 55 = .ok (.putfield 64, 3) := by decide +kernel
theorem dX8_clear_58 : decode cX8_clear 58 = .ok (.aload_n 0, 1) := by decide +kernel
theorem dX8_clear_59 : decode cX8_clear 59 = .ok (.lconst 0, 1) := by decide +kernel
theorem dX8_clear_60 : decode cX8_clear 60 = .ok (.putfield 68, 3) := by decide +kernel
theorem dX8_clear_63 : decode cX8_clear 63 = .ok (.return_, 1) := by decide +kernel
theorem dX8_take_0 : decode cX8_take 0 = .ok (.aload_n 1, 1) := by decide +kernel
theorem dX8_take_1 : decode cX8_take 1 = .ok (.getfield 71, 3) := by decide +kernel
theorem dX8_take_4 : decode cX8_take 4 = .ok (.istore_n 2, 1) := by decide +kernel
theorem dX8_take_5 : decode cX8_take 5 = .ok (.aload_n 1, 1) := by decide +kernel
theorem dX8_take_6 : decode cX8_take 6 = .ok (.getfield 77, 3) := by decide +kernel
theorem dX8_take_9 : decode cX8_take 9 = .ok (.tableswitch 189 0 7 #[47, 55, 71, 87, 116, 129, 142, 164], 47) := by decide +kernel
theorem dX8_take_56 : decode cX8_take 56 = .ok (.aload_n 0, 1) := by decide +kernel
theorem dX8_take_57 : decode cX8_take 57 = .ok (.aload_n 1, 1) := by decide +kernel
theorem dX8_take_58 : decode cX8_take 58 = .ok (.invokevirtual 80, 3) := by decide +kernel
theorem dX8_take_61 : decode cX8_take 61 = .ok (.goto 149, 3) := by decide +kernel
theorem dX8_take_64 : decode cX8_take 64 = .ok (.aload_n 0, 1) := by decide +kernel
theorem dX8_take_65 : decode cX8_take 65 = .ok (.iload_n 2, 1) := by decide +kernel
theorem dX8_take_66 : decode cX8_take 66 = .ok (.aload_n 1, 1) := by decide +kernel
theorem dX8_take_67 : decode cX8_take 67 = .ok (.getfield 84, 3) := by decide +kernel
theorem dX8_take_70 : decode cX8_take 70 = .ok (.aload_n 1, 1) := by decide +kernel
theorem dX8_take_71 : decode cX8_take 71 = .ok (.getfield 87, 3) := by decide +kernel
theorem dX8_take_74 : decode cX8_take 74 = .ok (.invokevirtual 90, 3) := by decide +kernel
theorem dX8_take_77 : decode cX8_take 77 = .ok (.goto 133, 3) := by decide +kernel
theorem dX8_take_80 : decode cX8_take 80 = .ok (.aload_n 0, 1) := by decide +kernel
theorem dX8_take_81 : decode cX8_take 81 = .ok (.iload_n 2, 1) := by decide +kernel
theorem dX8_take_82 : decode cX8_take 82 = .ok (.aload_n 1, 1) := by decide +kernel
theorem dX8_take_83 : decode cX8_take 83 = .ok (.getfield 84, 3) := by decide +kernel
theorem dX8_take_86 : decode cX8_take 86 = .ok (.aload_n 1, 1) := by decide +kernel
theorem dX8_take_87 : decode cX8_take 87 = .ok (.getfield 87, 3) := by decide +kernel
theorem dX8_take_90 : decode cX8_take 90 = .ok (.invokevirtual 94, 3) := by decide +kernel
theorem dX8_take_93 : decode cX8_take 93 = .ok (.goto 117, 3) := by decide +kernel
theorem dX8_take_96 : decode cX8_take 96 = .ok (.aload_n 0, 1) := by decide +kernel
theorem dX8_take_97 : decode cX8_take 97 = .ok (.iload_n 2, 1) := by decide +kernel
theorem dX8_take_98 : decode cX8_take 98 = .ok (.aload_n 1, 1) := by decide +kernel
theorem dX8_take_99 : decode cX8_take 99 = .ok (.getfield 84, 3) := by decide +kernel
theorem dX8_take_102 : decode cX8_take 102 = .ok (.iconst 0, 1) := by decide +kernel
theorem dX8_take_103 : decode cX8_take 103 = .ok (.sipush 999, 3) := by decide +kernel
theorem dX8_take_106 : decode cX8_take 106 = .ok (.invokevirtual 97, 3) := by decide +kernel
theorem dX8_take_109 : decode cX8_take 109 = .ok (.aload_n 0, 1) := by decide +kernel
theorem dX8_take_110 : decode cX8_take 110 = .ok (.iload_n 2, 1) := by decide +kernel
theorem dX8_take_111 : decode cX8_take 111 = .ok (.aload_n 1, 1) := by decide +kernel
theorem dX8_take_112 : decode cX8_take 112 = .ok (.getfield 84, 3) := by decide +kernel
theorem dX8_take_115 : decode cX8_take 115 = .ok (.aload_n 1, 1) := by decide +kernel
theorem dX8_take_116 : decode cX8_take 116 = .ok (.getfield 87, 3) := by decide +kernel
theorem dX8_take_119 : decode cX8_take 119 = .ok (.invokevirtual 90, 3) := by decide +kernel
theorem dX8_take_122 : decode cX8_take 122 = .ok (.goto 88, 3) := by decide +kernel
theorem dX8_take_125 : decode cX8_take 125 = .ok (.aload_n 0, 1) := by decide +kernel
theorem dX8_take_126 : decode cX8_take 126 = .ok (.getfield 9, 3) := by decide +kernel
theorem dX8_take_129 : decode cX8_take 129 = .ok (.iload_n 2, 1) := by decide +kernel
theorem dX8_take_130 : decode cX8_take 130 = .ok (.aload_n 1, 1) := by decide +kernel
theorem dX8_take_131 : decode cX8_take 131 = .ok (.getfield 84, 3) := by decide +kernel
theorem dX8_take_134 : decode cX8_take 134 = .ok (.iastore, 1) := by decide +kernel
theorem dX8_take_135 : decode cX8_take 135 = .ok (.goto 75, 3) := by decide +kernel
theorem dX8_take_138 : decode cX8_take 138 = .ok (.aload_n 0, 1) := by decide +kernel
theorem dX8_take_139 : decode cX8_take 139 = .ok (.getfield 18, 3) := by decide +kernel
theorem dX8_take_142 : decode cX8_take 142 = .ok (.iload_n 2, 1) := by decide +kernel
theorem dX8_take_143 : decode cX8_take 143 = .ok (.aload_n 1, 1) := by decide +kernel
theorem dX8_take_144 : decode cX8_take 144 = .ok (.getfield 84, 3) := by decide +kernel
theorem dX8_take_147 : decode cX8_take 147 = .ok (.iastore, 1) := by decide +kernel
theorem dX8_take_148 : decode cX8_take 148 = .ok (.goto 62, 3) := by decide +kernel
theorem dX8_take_151 : decode cX8_take 151 = .ok (.aload_n 0, 1) := by decide +kernel
theorem dX8_take_152 : decode cX8_take 152 = .ok (.getfield 24, 3) := by decide +kernel
theorem dX8_take_155 : decode cX8_take 155 = .ok (.aload_n 1, 1) := by decide +kernel
theorem dX8_take_156 : decode cX8_take 156 = .ok (.getfield 84, 3) := by decide +kernel
theorem dX8_take_159 : decode cX8_take 159 = .ok (.aload_n 1, 1) := by decide +kernel
theorem dX8_take_160 : decode cX8_take 160 = .ok (.getfield 87, 3) := by decide +kernel
theorem dX8_take_163 : decode cX8_take 163 = .ok (.aload_n 1, 1) := by decide +kernel
theorem dX8_take_164 : decode cX8_take 164 = .ok (.getfield 101, 3) := by decide +kernel
theorem dX8_take_167 : decode cX8_take 167 = .ok (.invokevirtual 104, 3) := by decide +kernel
theorem dX8_take_170 : decode cX8_take 170 = .ok (.goto 40, 3) := by decide +kernel
theorem dX8_take_173 : decode cX8_take 173 = .ok (.aload_n 0, 1) := by decide +kernel
theorem dX8_take_174 : decode cX8_take 174 = .ok (.aload_n 1, 1) := by decide +kernel
theorem dX8_take_175 : decode cX8_take 175 = .ok (.getfield 84, 3) := by decide +kernel
theorem dX8_take_178 : decode cX8_take 178 = .ok (.iload_n 2, 1) := by decide +kernel
theorem dX8_take_179 : decode cX8_take 179 = .ok (.invokevirtual 107, 3) := by decide +kernel
theorem dX8_take_182 : decode cX8_take 182 = .ok (.ifCond .ne 28, 3) := by decide +kernel
theorem dX8_take_185 : decode cX8_take 185 = .ok (.aload_n 0, 1) := by decide +kernel
theorem dX8_take_186 : decode cX8_take 186 = .ok (.getfield 28, 3) := by decide +kernel
theorem dX8_take_189 : decode cX8_take 189 = .ok (.iload_n 2, 1) := by decide +kernel
theorem dX8_take_190 : decode cX8_take 190 = .ok (.aload_n 1, 1) := by decide +kernel
theorem dX8_take_191 : decode cX8_take 191 = .ok (.getfield 84, 3) := by decide +kernel
theorem dX8_take_194 : decode cX8_take 194 = .ok (.iastore, 1) := by decide +kernel
theorem dX8_take_195 : decode cX8_take 195 = .ok (.goto 15, 3) := by decide +kernel
theorem dX8_take_198 : decode cX8_take 198 = .ok (.aload_n 0, 1) := by decide +kernel
theorem dX8_take_199 : decode cX8_take 199 = .ok (.dup, 1) := by decide +kernel
theorem dX8_take_200 : decode cX8_take 200 = .ok (.getfield 68, 3) := by decide +kernel
theorem dX8_take_203 : decode cX8_take 203 = .ok (.lconst 1, 1) := by decide +kernel
theorem dX8_take_204 : decode cX8_take 204 = .ok (.iload_n 2, 1) := by decide +kernel
theorem dX8_take_205 : decode cX8_take 205 = .ok (.lshl, 1) := by decide +kernel
theorem dX8_take_206 : decode cX8_take 206 = .ok (.lor, 1) := by decide +kernel
theorem dX8_take_207 : decode cX8_take 207 = .ok (.putfield 68, 3) := by decide +kernel
theorem dX8_take_210 : decode cX8_take 210 = .ok (.return_, 1) := by decide +kernel
theorem dX8_takeAdd_0 : decode cX8_takeAdd 0 = .ok (.aload_n 1, 1) := by decide +kernel
theorem dX8_takeAdd_1 : decode cX8_takeAdd 1 = .ok (.getfield 71, 3) := by decide +kernel
theorem dX8_takeAdd_4 : decode cX8_takeAdd 4 = .ok (.istore_n 2, 1) := by decide +kernel
theorem dX8_takeAdd_5 : decode cX8_takeAdd 5 = .ok (.aload_n 0, 1) := by decide +kernel
theorem dX8_takeAdd_6 : decode cX8_takeAdd 6 = .ok (.dup, 1) := by decide +kernel
theorem dX8_takeAdd_7 : decode cX8_takeAdd 7 = .ok (.getfield 64, 3) := by decide +kernel
theorem dX8_takeAdd_10 : decode cX8_takeAdd 10 = .ok (.lconst 1, 1) := by decide +kernel
theorem dX8_takeAdd_11 : decode cX8_takeAdd 11 = .ok (.iload_n 2, 1) := by decide +kernel
theorem dX8_takeAdd_12 : decode cX8_takeAdd 12 = .ok (.lshl, 1) := by decide +kernel
theorem dX8_takeAdd_13 : decode cX8_takeAdd 13 = .ok (.lor, 1) := by decide +kernel
theorem dX8_takeAdd_14 : decode cX8_takeAdd 14 = .ok (.putfield 64, 3) := by decide +kernel
theorem dX8_takeAdd_17 : decode cX8_takeAdd 17 = .ok (.aload_n 0, 1) := by decide +kernel
theorem dX8_takeAdd_18 : decode cX8_takeAdd 18 = .ok (.getfield 31, 3) := by decide +kernel
theorem dX8_takeAdd_21 : decode cX8_takeAdd 21 = .ok (.iload_n 2, 1) := by decide +kernel
theorem dX8_takeAdd_22 : decode cX8_takeAdd 22 = .ok (.aload_n 1, 1) := by decide +kernel
theorem dX8_takeAdd_23 : decode cX8_takeAdd 23 = .ok (.invokevirtual 111, 3) := by decide +kernel
theorem dX8_takeAdd_26 : decode cX8_takeAdd 26 = .ok (.iastore, 1) := by decide +kernel
theorem dX8_takeAdd_27 : decode cX8_takeAdd 27 = .ok (.aload_n 0, 1) := by decide +kernel
theorem dX8_takeAdd_28 : decode cX8_takeAdd 28 = .ok (.getfield 28, 3) := by decide +kernel
theorem dX8_takeAdd_31 : decode cX8_takeAdd 31 = .ok (.iload_n 2, 1) := by decide +kernel
theorem dX8_takeAdd_32 : decode cX8_takeAdd 32 = .ok (.aload_n 1, 1) := by decide +kernel
theorem dX8_takeAdd_33 : decode cX8_takeAdd 33 = .ok (.getfield 84, 3) := by decide +kernel
theorem dX8_takeAdd_36 : decode cX8_takeAdd 36 = .ok (.iastore, 1) := by decide +kernel
theorem dX8_takeAdd_37 : decode cX8_takeAdd 37 = .ok (.aload_n 0, 1) := by decide +kernel
theorem dX8_takeAdd_38 : decode cX8_takeAdd 38 = .ok (.getfield 15, 3) := by decide +kernel
theorem dX8_takeAdd_41 : decode cX8_takeAdd 41 = .ok (.iload_n 2, 1) := by decide +kernel
theorem dX8_takeAdd_42 : decode cX8_takeAdd 42 = .ok (.aload_n 1, 1) := by decide +kernel
theorem dX8_takeAdd_43 : decode cX8_takeAdd 43 = .ok (.getfield 87, 3) := by decide +kernel
theorem dX8_takeAdd_46 : decode cX8_takeAdd 46 = .ok (.iastore, 1) := by decide +kernel
theorem dX8_takeAdd_47 : decode cX8_takeAdd 47 = .ok (.aload_n 0, 1) := by decide +kernel
theorem dX8_takeAdd_48 : decode cX8_takeAdd 48 = .ok (.getfield 9, 3) := by decide +kernel
theorem dX8_takeAdd_51 : decode cX8_takeAdd 51 = .ok (.iload_n 2, 1) := by decide +kernel
theorem dX8_takeAdd_52 : decode cX8_takeAdd 52 = .ok (.aload_n 1, 1) := by decide +kernel
theorem dX8_takeAdd_53 : decode cX8_takeAdd 53 = .ok (.getfield 101, 3) := by decide +kernel
theorem dX8_takeAdd_56 : decode cX8_takeAdd 56 = .ok (.iastore, 1) := by decide +kernel
theorem dX8_takeAdd_57 : decode cX8_takeAdd 57 = .ok (.aload_n 1, 1) := by decide +kernel
theorem dX8_takeAdd_58 : decode cX8_takeAdd 58 = .ok (.getfield 115, 3) := by decide +kernel
theorem dX8_takeAdd_61 : decode cX8_takeAdd 61 = .ok (.ifnull 51, 3) := by decide +kernel
theorem dX8_takeAdd_64 : decode cX8_takeAdd 64 = .ok (.aload_n 1, 1) := by decide +kernel
theorem dX8_takeAdd_65 : decode cX8_takeAdd 65 = .ok (.getfield 115, 3) := by decide +kernel
theorem dX8_takeAdd_68 : decode cX8_takeAdd 68 = .ok (.astore_n 3, 1) := by decide +kernel
theorem dX8_takeAdd_69 : decode cX8_takeAdd 69 = .ok (.aload_n 3, 1) := by decide +kernel
theorem dX8_takeAdd_70 : decode cX8_takeAdd 70 = .ok (.arraylength, 1) := by decide +kernel
theorem dX8_takeAdd_71 : decode cX8_takeAdd 71 = .ok (.istore 4, 2) := by decide +kernel
theorem dX8_takeAdd_73 : decode cX8_takeAdd 73 = .ok (.iconst 0, 1) := by decide +kernel
theorem dX8_takeAdd_74 : decode cX8_takeAdd 74 = .ok (.istore 5, 2) := by decide +kernel
theorem dX8_takeAdd_76 : decode cX8_takeAdd 76 = .ok (.iload 5, 2) := by decide +kernel
theorem dX8_takeAdd_78 : decode cX8_takeAdd 78 = .ok (.iload 4, 2) := by decide +kernel
theorem dX8_takeAdd_80 : decode cX8_takeAdd 80 = .ok (.if_icmp .ge 32, 3) := by decide +kernel
theorem dX8_takeAdd_83 : decode cX8_takeAdd 83 = .ok (.aload_n 3, 1) := by decide +kernel
theorem dX8_takeAdd_84 : decode cX8_takeAdd 84 = .ok (.iload 5, 2) := by decide +kernel
theorem dX8_takeAdd_86 : decode cX8_takeAdd 86 = .ok (.iaload, 1) := by decide +kernel
theorem dX8_takeAdd_87 : decode cX8_takeAdd 87 = .ok (.istore 6, 2) := by decide +kernel
theorem dX8_takeAdd_89 : decode cX8_takeAdd 89 = .ok (.aload_n 0, 1) := by decide +kernel
theorem dX8_takeAdd_90 : decode cX8_takeAdd 90 = .ok (.iload_n 2, 1) := by decide +kernel
theorem dX8_takeAdd_91 : decode cX8_takeAdd 91 = .ok (.iload 6, 2) := by decide +kernel
theorem dX8_takeAdd_93 : decode cX8_takeAdd 93 = .ok (.sipush 1000, 3) := by decide +kernel
theorem dX8_takeAdd_96 : decode cX8_takeAdd 96 = .ok (.idiv, 1) := by decide +kernel
theorem dX8_takeAdd_97 : decode cX8_takeAdd 97 = .ok (.iload 6, 2) := by decide +kernel
theorem dX8_takeAdd_99 : decode cX8_takeAdd 99 = .ok (.sipush 1000, 3) := by decide +kernel
theorem dX8_takeAdd_102 : decode cX8_takeAdd 102 = .ok (.irem, 1) := by decide +kernel
theorem dX8_takeAdd_103 : decode cX8_takeAdd 103 = .ok (.invokevirtual 90, 3) := by decide +kernel
theorem dX8_takeAdd_106 : decode cX8_takeAdd 106 = .ok (.iinc 5 1, 3) := by decide +kernel
theorem dX8_takeAdd_109 : decode cX8_takeAdd 109 = .ok (.goto (-33), 3) := by decide +kernel
theorem dX8_takeAdd_112 : decode cX8_takeAdd 112 = .ok (.return_, 1) := by decide +kernel
theorem dX8_takeValue_0 : decode cX8_takeValue 0 = .ok (.aload_n 0, 1) := by decide +kernel
theorem dX8_takeValue_1 : decode cX8_takeValue 1 = .ok (.getfield 49, 3) := by decide +kernel
theorem dX8_takeValue_4 : decode cX8_takeValue 4 = .ok (.iload_n 2, 1) := by decide +kernel
theorem dX8_takeValue_5 : decode cX8_takeValue 5 = .ok (.invokevirtual 118, 3) := by decide +kernel
theorem dX8_takeValue_8 : decode cX8_takeValue 8 = .ok (.istore 4, 2) := by decide +kernel
theorem dX8_takeValue_10 : decode cX8_takeValue 10 = .ok (.iload 4, 2) := by decide +kernel
theorem dX8_takeValue_12 : decode cX8_takeValue 12 = .ok (.ifCond .eq 7, 3) := by decide +kernel
theorem dX8_takeValue_15 : decode cX8_takeValue 15 = .ok (.iconst 0, 1) := by decide +kernel
theorem dX8_takeValue_16 : decode cX8_takeValue 16 = .ok (.goto 12, 3) := by decide +kernel
theorem dX8_takeValue_19 : decode cX8_takeValue 19 = .ok (.aload_n 0, 1) := by decide +kernel
theorem dX8_takeValue_20 : decode cX8_takeValue 20 = .ok (.getfield 49, 3) := by decide +kernel
theorem dX8_takeValue_23 : decode cX8_takeValue 23 = .ok (.iload_n 2, 1) := by decide +kernel
theorem dX8_takeValue_24 : decode cX8_takeValue 24 = .ok (.iload_n 3, 1) := by decide +kernel
theorem dX8_takeValue_25 : decode cX8_takeValue 25 = .ok (.invokevirtual 124, 3) := by decide +kernel
theorem dX8_takeValue_28 : decode cX8_takeValue 28 = .ok (.istore 5, 2) := by decide +kernel
theorem dX8_takeValue_30 : decode cX8_takeValue 30 = .ok (.iload 4, 2) := by decide +kernel
theorem dX8_takeValue_32 : decode cX8_takeValue 32 = .ok (.ifCond .eq 9, 3) := by decide +kernel
theorem dX8_takeValue_35 : decode cX8_takeValue 35 = .ok (.sipush 999, 3) := by decide +kernel
theorem dX8_takeValue_38 : decode cX8_takeValue 38 = .ok (.goto 12, 3) := by decide +kernel
theorem dX8_takeValue_41 : decode cX8_takeValue 41 = .ok (.aload_n 0, 1) := by decide +kernel
theorem dX8_takeValue_42 : decode cX8_takeValue 42 = .ok (.getfield 49, 3) := by decide +kernel
theorem dX8_takeValue_45 : decode cX8_takeValue 45 = .ok (.iload_n 2, 1) := by decide +kernel
theorem dX8_takeValue_46 : decode cX8_takeValue 46 = .ok (.iload_n 3, 1) := by decide +kernel
theorem dX8_takeValue_47 : decode cX8_takeValue 47 = .ok (.invokevirtual 128, 3) := by decide +kernel
theorem dX8_takeValue_50 : decode cX8_takeValue 50 = .ok (.istore 6, 2) := by decide +kernel
theorem dX8_takeValue_52 : decode cX8_takeValue 52 = .ok (.aload_n 0, 1) := by decide +kernel
theorem dX8_takeValue_53 : decode cX8_takeValue 53 = .ok (.iload_n 1, 1) := by decide +kernel
theorem dX8_takeValue_54 : decode cX8_takeValue 54 = .ok (.iload_n 2, 1) := by decide +kernel
theorem dX8_takeValue_55 : decode cX8_takeValue 55 = .ok (.iload 5, 2) := by decide +kernel
theorem dX8_takeValue_57 : decode cX8_takeValue 57 = .ok (.iload 6, 2) := by decide +kernel
theorem dX8_takeValue_59 : decode cX8_takeValue 59 = .ok (.invokevirtual 97, 3) := by decide +kernel
theorem dX8_takeValue_62 : decode cX8_takeValue 62 = .ok (.iload_n 2, 1) := by decide +kernel
theorem dX8_takeValue_63 : decode cX8_takeValue 63 = .ok (.sipush 1000, 3) := by decide +kernel
theorem dX8_takeValue_66 : decode cX8_takeValue 66 = .ok (.imul, 1) := by decide +kernel
theorem dX8_takeValue_67 : decode cX8_takeValue 67 = .ok (.iload_n 3, 1) := by decide +kernel
theorem dX8_takeValue_68 : decode cX8_takeValue 68 = .ok (.iadd, 1) := by decide +kernel
theorem dX8_takeValue_69 : decode cX8_takeValue 69 = .ok (.istore 7, 2) := by decide +kernel
theorem dX8_takeValue_71 : decode cX8_takeValue 71 = .ok (.aload_n 0, 1) := by decide +kernel
theorem dX8_takeValue_72 : decode cX8_takeValue 72 = .ok (.getfield 39, 3) := by decide +kernel
theorem dX8_takeValue_75 : decode cX8_takeValue 75 = .ok (.iload_n 1, 1) := by decide +kernel
theorem dX8_takeValue_76 : decode cX8_takeValue 76 = .ok (.sipush 10000, 3) := by decide +kernel
theorem dX8_takeValue_79 : decode cX8_takeValue 79 = .ok (.imul, 1) := by decide +kernel
theorem dX8_takeValue_80 : decode cX8_takeValue 80 = .ok (.iload 7, 2) := by decide +kernel
theorem dX8_takeValue_82 : decode cX8_takeValue 82 = .ok (.iadd, 1) := by decide +kernel
theorem dX8_takeValue_83 : decode cX8_takeValue 83 = .ok (.invokevirtual 131, 3) := by decide +kernel
theorem dX8_takeValue_86 : decode cX8_takeValue 86 = .ok (.aload_n 0, 1) := by decide +kernel
theorem dX8_takeValue_87 : decode cX8_takeValue 87 = .ok (.getfield 43, 3) := by decide +kernel
theorem dX8_takeValue_90 : decode cX8_takeValue 90 = .ok (.iload 7, 2) := by decide +kernel
theorem dX8_takeValue_92 : decode cX8_takeValue 92 = .ok (.bipush 48, 2) := by decide +kernel
theorem dX8_takeValue_94 : decode cX8_takeValue 94 = .ok (.imul, 1) := by decide +kernel
theorem dX8_takeValue_95 : decode cX8_takeValue 95 = .ok (.iload_n 1, 1) := by decide +kernel
theorem dX8_takeValue_96 : decode cX8_takeValue 96 = .ok (.iadd, 1) := by decide +kernel
theorem dX8_takeValue_97 : decode cX8_takeValue 97 = .ok (.invokevirtual 131, 3) := by decide +kernel
theorem dX8_takeValue_100 : decode cX8_takeValue 100 = .ok (.return_, 1) := by decide +kernel
theorem dX8_takeRemoval_0 : decode cX8_takeRemoval 0 = .ok (.aload_n 0, 1) := by decide +kernel
theorem dX8_takeRemoval_1 : decode cX8_takeRemoval 1 = .ok (.iload_n 1, 1) := by decide +kernel
theorem dX8_takeRemoval_2 : decode cX8_takeRemoval 2 = .ok (.iload_n 2, 1) := by decide +kernel
theorem dX8_takeRemoval_3 : decode cX8_takeRemoval 3 = .ok (.aload_n 0, 1) := by decide +kernel
theorem dX8_takeRemoval_4 : decode cX8_takeRemoval 4 = .ok (.getfield 49, 3) := by decide +kernel
theorem dX8_takeRemoval_7 : decode cX8_takeRemoval 7 = .ok (.iload_n 2, 1) := by decide +kernel
theorem dX8_takeRemoval_8 : decode cX8_takeRemoval 8 = .ok (.iload_n 3, 1) := by decide +kernel
theorem dX8_takeRemoval_9 : decode cX8_takeRemoval 9 = .ok (.invokevirtual 124, 3) := by decide +kernel
theorem dX8_takeRemoval_12 : decode cX8_takeRemoval 12 = .ok (.aload_n 0, 1) := by decide +kernel
theorem dX8_takeRemoval_13 : decode cX8_takeRemoval 13 = .ok (.getfield 49, 3) := by decide +kernel
theorem dX8_takeRemoval_16 : decode cX8_takeRemoval 16 = .ok (.iload_n 2, 1) := by decide +kernel
theorem dX8_takeRemoval_17 : decode cX8_takeRemoval 17 = .ok (.iload_n 3, 1) := by decide +kernel
theorem dX8_takeRemoval_18 : decode cX8_takeRemoval 18 = .ok (.invokevirtual 128, 3) := by decide +kernel
theorem dX8_takeRemoval_21 : decode cX8_takeRemoval 21 = .ok (.invokevirtual 97, 3) := by decide +kernel
theorem dX8_takeRemoval_24 : decode cX8_takeRemoval 24 = .ok (.return_, 1) := by decide +kernel
theorem dX8_dropValues_0 : decode cX8_dropValues 0 = .ok (.iload_n 1, 1) := by decide +kernel
theorem dX8_dropValues_1 : decode cX8_dropValues 1 = .ok (.sipush 10000, 3) := by decide +kernel
theorem dX8_dropValues_4 : decode cX8_dropValues 4 = .ok (.imul, 1) := by decide +kernel
theorem dX8_dropValues_5 : decode cX8_dropValues 5 = .ok (.iload_n 2, 1) := by decide +kernel
theorem dX8_dropValues_6 : decode cX8_dropValues 6 = .ok (.sipush 1000, 3) := by decide +kernel
theorem dX8_dropValues_9 : decode cX8_dropValues 9 = .ok (.imul, 1) := by decide +kernel
theorem dX8_dropValues_10 : decode cX8_dropValues 10 = .ok (.iadd, 1) := by decide +kernel
theorem dX8_dropValues_11 : decode cX8_dropValues 11 = .ok (.iload_n 3, 1) := by decide +kernel
theorem dX8_dropValues_12 : decode cX8_dropValues 12 = .ok (.iadd, 1) := by decide +kernel
theorem dX8_dropValues_13 : decode cX8_dropValues 13 = .ok (.istore 5, 2) := by decide +kernel
theorem dX8_dropValues_15 : decode cX8_dropValues 15 = .ok (.iload_n 1, 1) := by decide +kernel
theorem dX8_dropValues_16 : decode cX8_dropValues 16 = .ok (.sipush 10000, 3) := by decide +kernel
theorem dX8_dropValues_19 : decode cX8_dropValues 19 = .ok (.imul, 1) := by decide +kernel
theorem dX8_dropValues_20 : decode cX8_dropValues 20 = .ok (.iload_n 2, 1) := by decide +kernel
theorem dX8_dropValues_21 : decode cX8_dropValues 21 = .ok (.sipush 1000, 3) := by decide +kernel
theorem dX8_dropValues_24 : decode cX8_dropValues 24 = .ok (.imul, 1) := by decide +kernel
theorem dX8_dropValues_25 : decode cX8_dropValues 25 = .ok (.iadd, 1) := by decide +kernel
theorem dX8_dropValues_26 : decode cX8_dropValues 26 = .ok (.iload 4, 2) := by decide +kernel
theorem dX8_dropValues_28 : decode cX8_dropValues 28 = .ok (.iadd, 1) := by decide +kernel
theorem dX8_dropValues_29 : decode cX8_dropValues 29 = .ok (.istore 6, 2) := by decide +kernel
theorem dX8_dropValues_31 : decode cX8_dropValues 31 = .ok (.aload_n 0, 1) := by decide +kernel
theorem dX8_dropValues_32 : decode cX8_dropValues 32 = .ok (.getfield 39, 3) := by decide +kernel
theorem dX8_dropValues_35 : decode cX8_dropValues 35 = .ok (.iload 5, 2) := by decide +kernel
theorem dX8_dropValues_37 : decode cX8_dropValues 37 = .ok (.invokevirtual 134, 3) := by decide +kernel
theorem dX8_dropValues_40 : decode cX8_dropValues 40 = .ok (.istore 7, 2) := by decide +kernel
theorem dX8_dropValues_42 : decode cX8_dropValues 42 = .ok (.aload_n 0, 1) := by decide +kernel
theorem dX8_dropValues_43 : decode cX8_dropValues 43 = .ok (.getfield 39, 3) := by decide +kernel
theorem dX8_dropValues_46 : decode cX8_dropValues 46 = .ok (.iload 6, 2) := by decide +kernel
theorem dX8_dropValues_48 : decode cX8_dropValues 48 = .ok (.iconst 1, 1) := by decide +kernel
theorem dX8_dropValues_49 : decode cX8_dropValues 49 = .ok (.iadd, 1) := by decide +kernel
theorem dX8_dropValues_50 : decode cX8_dropValues 50 = .ok (.invokevirtual 134, 3) := by decide +kernel
theorem dX8_dropValues_53 : decode cX8_dropValues 53 = .ok (.iconst 1, 1) := by decide +kernel
theorem dX8_dropValues_54 : decode cX8_dropValues 54 = .ok (.isub, 1) := by decide +kernel
theorem dX8_dropValues_55 : decode cX8_dropValues 55 = .ok (.istore 8, 2) := by decide +kernel
theorem dX8_dropValues_57 : decode cX8_dropValues 57 = .ok (.iload 8, 2) := by decide +kernel
theorem dX8_dropValues_59 : decode cX8_dropValues 59 = .ok (.iload 7, 2) := by decide +kernel
theorem dX8_dropValues_61 : decode cX8_dropValues 61 = .ok (.if_icmp .lt 54, 3) := by decide +kernel
theorem dX8_dropValues_64 : decode cX8_dropValues 64 = .ok (.aload_n 0, 1) := by decide +kernel
theorem dX8_dropValues_65 : decode cX8_dropValues 65 = .ok (.getfield 39, 3) := by decide +kernel
theorem dX8_dropValues_68 : decode cX8_dropValues 68 = .ok (.iload 8, 2) := by decide +kernel
theorem dX8_dropValues_70 : decode cX8_dropValues 70 = .ok (.invokevirtual 138, 3) := by decide +kernel
theorem dX8_dropValues_73 : decode cX8_dropValues 73 = .ok (.sipush 10000, 3) := by decide +kernel
theorem dX8_dropValues_76 : decode cX8_dropValues 76 = .ok (.irem, 1) := by decide +kernel
theorem dX8_dropValues_77 : decode cX8_dropValues 77 = .ok (.istore 9, 2) := by decide +kernel
theorem dX8_dropValues_79 : decode cX8_dropValues 79 = .ok (.aload_n 0, 1) := by decide +kernel
theorem dX8_dropValues_80 : decode cX8_dropValues 80 = .ok (.getfield 39, 3) := by decide +kernel
theorem dX8_dropValues_83 : decode cX8_dropValues 83 = .ok (.iload 8, 2) := by decide +kernel
theorem dX8_dropValues_85 : decode cX8_dropValues 85 = .ok (.invokevirtual 141, 3) := by decide +kernel
theorem dX8_dropValues_88 : decode cX8_dropValues 88 = .ok (.aload_n 0, 1) := by decide +kernel
theorem dX8_dropValues_89 : decode cX8_dropValues 89 = .ok (.getfield 43, 3) := by decide +kernel
theorem dX8_dropValues_92 : decode cX8_dropValues 92 = .ok (.aload_n 0, 1) := by decide +kernel
theorem dX8_dropValues_93 : decode cX8_dropValues 93 = .ok (.getfield 43, 3) := by decide +kernel
theorem dX8_dropValues_96 : decode cX8_dropValues 96 = .ok (.iload 9, 2) := by decide +kernel
theorem dX8_dropValues_98 : decode cX8_dropValues 98 = .ok (.bipush 48, 2) := by decide +kernel
theorem dX8_dropValues_100 : decode cX8_dropValues 100 = .ok (.imul, 1) := by decide +kernel
theorem dX8_dropValues_101 : decode cX8_dropValues 101 = .ok (.iload_n 1, 1) := by decide +kernel
theorem dX8_dropValues_102 : decode cX8_dropValues 102 = .ok (.iadd, 1) := by decide +kernel
theorem dX8_dropValues_103 : decode cX8_dropValues 103 = .ok (.invokevirtual 134, 3) := by decide +kernel
theorem dX8_dropValues_106 : decode cX8_dropValues 106 = .ok (.invokevirtual 141, 3) := by decide +kernel
theorem dX8_dropValues_109 : decode cX8_dropValues 109 = .ok (.iinc 8 (-1), 3) := by decide +kernel
theorem dX8_dropValues_112 : decode cX8_dropValues 112 = .ok (.goto (-55), 3) := by decide +kernel
theorem dX8_dropValues_115 : decode cX8_dropValues 115 = .ok (.return_, 1) := by decide +kernel
theorem dX8_living_0 : decode cX8_living 0 = .ok (.aload_n 0, 1) := by decide +kernel
theorem dX8_living_1 : decode cX8_living 1 = .ok (.getfield 64, 3) := by decide +kernel
theorem dX8_living_4 : decode cX8_living 4 = .ok (.aload_n 0, 1) := by decide +kernel
theorem dX8_living_5 : decode cX8_living 5 = .ok (.getfield 68, 3) := by decide +kernel
theorem dX8_living_8 : decode cX8_living 8 = .ok (.ldc2_w 144, 3) := by decide +kernel
theorem dX8_living_11 : decode cX8_living 11 = .ok (.lxor, 1) := by decide +kernel
theorem dX8_living_12 : decode cX8_living 12 = .ok (.land, 1) := by decide +kernel
theorem dX8_living_13 : decode cX8_living 13 = .ok (.lreturn, 1) := by decide +kernel
theorem dX8_deletedOnes_0 : decode cX8_deletedOnes 0 = .ok (.aload_n 0, 1) := by decide +kernel
theorem dX8_deletedOnes_1 : decode cX8_deletedOnes 1 = .ok (.getfield 68, 3) := by decide +kernel
theorem dX8_deletedOnes_4 : decode cX8_deletedOnes 4 = .ok (.lreturn, 1) := by decide +kernel
theorem dX8_isLive_0 : decode cX8_isLive 0 = .ok (.iload_n 1, 1) := by decide +kernel
theorem dX8_isLive_1 : decode cX8_isLive 1 = .ok (.ifCond .lt 35, 3) := by decide +kernel
theorem dX8_isLive_4 : decode cX8_isLive 4 = .ok (.iload_n 1, 1) := by decide +kernel
theorem dX8_isLive_5 : decode cX8_isLive 5 = .ok (.bipush 48, 2) := by decide +kernel
theorem dX8_isLive_7 : decode cX8_isLive 7 = .ok (.if_icmp .ge 29, 3) := by decide +kernel
theorem dX8_isLive_10 : decode cX8_isLive 10 = .ok (.aload_n 0, 1) := by decide +kernel
theorem dX8_isLive_11 : decode cX8_isLive 11 = .ok (.getfield 64, 3) := by decide +kernel
theorem dX8_isLive_14 : decode cX8_isLive 14 = .ok (.aload_n 0, 1) := by decide +kernel
theorem dX8_isLive_15 : decode cX8_isLive 15 = .ok (.getfield 68, 3) := by decide +kernel
theorem dX8_isLive_18 : decode cX8_isLive 18 = .ok (.ldc2_w 144, 3) := by decide +kernel
theorem dX8_isLive_21 : decode cX8_isLive 21 = .ok (.lxor, 1) := by decide +kernel
theorem dX8_isLive_22 : decode cX8_isLive 22 = .ok (.land, 1) := by decide +kernel
theorem dX8_isLive_23 : decode cX8_isLive 23 = .ok (.iload_n 1, 1) := by decide +kernel
theorem dX8_isLive_24 : decode cX8_isLive 24 = .ok (.lshr, 1) := by decide +kernel
theorem dX8_isLive_25 : decode cX8_isLive 25 = .ok (.lconst 1, 1) := by decide +kernel
theorem dX8_isLive_26 : decode cX8_isLive 26 = .ok (.land, 1) := by decide +kernel
theorem dX8_isLive_27 : decode cX8_isLive 27 = .ok (.lconst 1, 1) := by decide +kernel
theorem dX8_isLive_28 : decode cX8_isLive 28 = .ok (.lcmp, 1) := by decide +kernel
theorem dX8_isLive_29 : decode cX8_isLive 29 = .ok (.ifCond .ne 7, 3) := by decide +kernel
theorem dX8_isLive_32 : decode cX8_isLive 32 = .ok (.iconst 1, 1) := by decide +kernel
theorem dX8_isLive_33 : decode cX8_isLive 33 = .ok (.goto 4, 3) := by decide +kernel
theorem dX8_isLive_36 : decode cX8_isLive 36 = .ok (.iconst 0, 1) := by decide +kernel
theorem dX8_isLive_37 : decode cX8_isLive 37 = .ok (.ireturn, 1) := by decide +kernel
theorem dX8_comesTo_0 : decode cX8_comesTo 0 = .ok (.iload_n 1, 1) := by decide +kernel
theorem dX8_comesTo_1 : decode cX8_comesTo 1 = .ok (.istore_n 3, 1) := by decide +kernel
theorem dX8_comesTo_2 : decode cX8_comesTo 2 = .ok (.iconst 0, 1) := by decide +kernel
theorem dX8_comesTo_3 : decode cX8_comesTo 3 = .ok (.istore 4, 2) := by decide +kernel
theorem dX8_comesTo_5 : decode cX8_comesTo 5 = .ok (.iload 4, 2) := by decide +kernel
theorem dX8_comesTo_7 : decode cX8_comesTo 7 = .ok (.bipush 48, 2) := by decide +kernel
theorem dX8_comesTo_9 : decode cX8_comesTo 9 = .ok (.if_icmp .ge 33, 3) := by decide +kernel
theorem dX8_comesTo_12 : decode cX8_comesTo 12 = .ok (.iload_n 3, 1) := by decide +kernel
theorem dX8_comesTo_13 : decode cX8_comesTo 13 = .ok (.ifCond .lt 29, 3) := by decide +kernel
theorem dX8_comesTo_16 : decode cX8_comesTo 16 = .ok (.iload_n 3, 1) := by decide +kernel
theorem dX8_comesTo_17 : decode cX8_comesTo 17 = .ok (.bipush 48, 2) := by decide +kernel
theorem dX8_comesTo_19 : decode cX8_comesTo 19 = .ok (.if_icmp .ge 23, 3) := by decide +kernel
theorem dX8_comesTo_22 : decode cX8_comesTo 22 = .ok (.iload_n 3, 1) := by decide +kernel
theorem dX8_comesTo_23 : decode cX8_comesTo 23 = .ok (.iload_n 2, 1) := by decide +kernel
theorem dX8_comesTo_24 : decode cX8_comesTo 24 = .ok (.if_icmp .ne 5, 3) := by decide +kernel
theorem dX8_comesTo_27 : decode cX8_comesTo 27 = .ok (.iconst 1, 1) := by decide +kernel
theorem dX8_comesTo_28 : decode cX8_comesTo 28 = .ok (.ireturn, 1) := by decide +kernel
theorem dX8_comesTo_29 : decode cX8_comesTo 29 = .ok (.aload_n 0, 1) := by decide +kernel
theorem dX8_comesTo_30 : decode cX8_comesTo 30 = .ok (.getfield 28, 3) := by decide +kernel
theorem dX8_comesTo_33 : decode cX8_comesTo 33 = .ok (.iload_n 3, 1) := by decide +kernel
theorem dX8_comesTo_34 : decode cX8_comesTo 34 = .ok (.iaload, 1) := by decide +kernel
theorem dX8_comesTo_35 : decode cX8_comesTo 35 = .ok (.istore_n 3, 1) := by decide +kernel
theorem dX8_comesTo_36 : decode cX8_comesTo 36 = .ok (.iinc 4 1, 3) := by decide +kernel
theorem dX8_comesTo_39 : decode cX8_comesTo 39 = .ok (.goto (-34), 3) := by decide +kernel
theorem dX8_comesTo_42 : decode cX8_comesTo 42 = .ok (.iconst 0, 1) := by decide +kernel
theorem dX8_comesTo_43 : decode cX8_comesTo 43 = .ok (.ireturn, 1) := by decide +kernel
theorem dX8_placeOf_0 : decode cX8_placeOf 0 = .ok (.iload_n 1, 1) := by decide +kernel
theorem dX8_placeOf_1 : decode cX8_placeOf 1 = .ok (.ifCond .ne 5, 3) := by decide +kernel
theorem dX8_placeOf_4 : decode cX8_placeOf 4 = .ok (.iconst (-1), 1) := by decide +kernel
theorem dX8_placeOf_5 : decode cX8_placeOf 5 = .ok (.ireturn, 1) := by decide +kernel
theorem dX8_placeOf_6 : decode cX8_placeOf 6 = .ok (.aload_n 0, 1) := by decide +kernel
theorem dX8_placeOf_7 : decode cX8_placeOf 7 = .ok (.aload_n 0, 1) := by decide +kernel
theorem dX8_placeOf_8 : decode cX8_placeOf 8 = .ok (.getfield 28, 3) := by decide +kernel
theorem dX8_placeOf_11 : decode cX8_placeOf 11 = .ok (.iload_n 1, 1) := by decide +kernel
theorem dX8_placeOf_12 : decode cX8_placeOf 12 = .ok (.iaload, 1) := by decide +kernel
theorem dX8_placeOf_13 : decode cX8_placeOf 13 = .ok (.invokevirtual 146, 3) := by decide +kernel
theorem dX8_placeOf_16 : decode cX8_placeOf 16 = .ok (.ifCond .eq 12, 3) := by decide +kernel
theorem dX8_placeOf_19 : decode cX8_placeOf 19 = .ok (.aload_n 0, 1) := by decide +kernel
theorem dX8_placeOf_20 : decode cX8_placeOf 20 = .ok (.getfield 28, 3) := by decide +kernel
theorem dX8_placeOf_23 : decode cX8_placeOf 23 = .ok (.iload_n 1, 1) := by decide +kernel
theorem dX8_placeOf_24 : decode cX8_placeOf 24 = .ok (.iaload, 1) := by decide +kernel
theorem dX8_placeOf_25 : decode cX8_placeOf 25 = .ok (.goto 5, 3) := by decide +kernel
theorem dX8_placeOf_28 : decode cX8_placeOf 28 = .ok (.bipush (-2), 2) := by decide +kernel
theorem dX8_placeOf_30 : decode cX8_placeOf 30 = .ok (.ireturn, 1) := by decide +kernel
theorem dX8_isAtOrBeneath_0 : decode cX8_isAtOrBeneath 0 = .ok (.iload_n 1, 1) := by decide +kernel
theorem dX8_isAtOrBeneath_1 : decode cX8_isAtOrBeneath 1 = .ok (.istore_n 3, 1) := by decide +kernel
theorem dX8_isAtOrBeneath_2 : decode cX8_isAtOrBeneath 2 = .ok (.iconst 0, 1) := by decide +kernel
theorem dX8_isAtOrBeneath_3 : decode cX8_isAtOrBeneath 3 = .ok (.istore 4, 2) := by decide +kernel
theorem dX8_isAtOrBeneath_5 : decode cX8_isAtOrBeneath 5 = .ok (.iload 4, 2) := by decide +kernel
theorem dX8_isAtOrBeneath_7 : decode cX8_isAtOrBeneath 7 = .ok (.bipush 48, 2) := by decide +kernel
theorem dX8_isAtOrBeneath_9 : decode cX8_isAtOrBeneath 9 = .ok (.if_icmp .ge 26, 3) := by decide +kernel
theorem dX8_isAtOrBeneath_12 : decode cX8_isAtOrBeneath 12 = .ok (.iload_n 3, 1) := by decide +kernel
theorem dX8_isAtOrBeneath_13 : decode cX8_isAtOrBeneath 13 = .ok (.ifCond .lt 22, 3) := by decide +kernel
theorem dX8_isAtOrBeneath_16 : decode cX8_isAtOrBeneath 16 = .ok (.iload_n 3, 1) := by decide +kernel
theorem dX8_isAtOrBeneath_17 : decode cX8_isAtOrBeneath 17 = .ok (.iload_n 2, 1) := by decide +kernel
theorem dX8_isAtOrBeneath_18 : decode cX8_isAtOrBeneath 18 = .ok (.if_icmp .ne 5, 3) := by decide +kernel
theorem dX8_isAtOrBeneath_21 : decode cX8_isAtOrBeneath 21 = .ok (.iconst 1, 1) := by decide +kernel
theorem dX8_isAtOrBeneath_22 : decode cX8_isAtOrBeneath 22 = .ok (.ireturn, 1) := by decide +kernel
theorem dX8_isAtOrBeneath_23 : decode cX8_isAtOrBeneath 23 = .ok (.aload_n 0, 1) := by decide +kernel
theorem dX8_isAtOrBeneath_24 : decode cX8_isAtOrBeneath 24 = .ok (.iload_n 3, 1) := by decide +kernel
theorem dX8_isAtOrBeneath_25 : decode cX8_isAtOrBeneath 25 = .ok (.invokevirtual 149, 3) := by decide +kernel
theorem dX8_isAtOrBeneath_28 : decode cX8_isAtOrBeneath 28 = .ok (.istore_n 3, 1) := by decide +kernel
theorem dX8_isAtOrBeneath_29 : decode cX8_isAtOrBeneath 29 = .ok (.iinc 4 1, 3) := by decide +kernel
theorem dX8_isAtOrBeneath_32 : decode cX8_isAtOrBeneath 32 = .ok (.goto (-27), 3) := by decide +kernel
theorem dX8_isAtOrBeneath_35 : decode cX8_isAtOrBeneath 35 = .ok (.iconst 0, 1) := by decide +kernel
theorem dX8_isAtOrBeneath_36 : decode cX8_isAtOrBeneath 36 = .ok (.ireturn, 1) := by decide +kernel
theorem dX8_shownName_0 : decode cX8_shownName 0 = .ok (.aload_n 0, 1) := by decide +kernel
theorem dX8_shownName_1 : decode cX8_shownName 1 = .ok (.iload_n 1, 1) := by decide +kernel
theorem dX8_shownName_2 : decode cX8_shownName 2 = .ok (.invokevirtual 149, 3) := by decide +kernel
theorem dX8_shownName_5 : decode cX8_shownName 5 = .ok (.istore_n 2, 1) := by decide +kernel
theorem dX8_shownName_6 : decode cX8_shownName 6 = .ok (.iconst 1, 1) := by decide +kernel
theorem dX8_shownName_7 : decode cX8_shownName 7 = .ok (.istore_n 3, 1) := by decide +kernel
theorem dX8_shownName_8 : decode cX8_shownName 8 = .ok (.iload_n 3, 1) := by decide +kernel
theorem dX8_shownName_9 : decode cX8_shownName 9 = .ok (.bipush 48, 2) := by decide +kernel
theorem dX8_shownName_11 : decode cX8_shownName 11 = .ok (.if_icmp .ge 73, 3) := by decide +kernel
theorem dX8_shownName_14 : decode cX8_shownName 14 = .ok (.aload_n 0, 1) := by decide +kernel
theorem dX8_shownName_15 : decode cX8_shownName 15 = .ok (.getfield 9, 3) := by decide +kernel
theorem dX8_shownName_18 : decode cX8_shownName 18 = .ok (.iload_n 3, 1) := by decide +kernel
theorem dX8_shownName_19 : decode cX8_shownName 19 = .ok (.iaload, 1) := by decide +kernel
theorem dX8_shownName_20 : decode cX8_shownName 20 = .ok (.aload_n 0, 1) := by decide +kernel
theorem dX8_shownName_21 : decode cX8_shownName 21 = .ok (.getfield 9, 3) := by decide +kernel
theorem dX8_shownName_24 : decode cX8_shownName 24 = .ok (.iload_n 1, 1) := by decide +kernel
theorem dX8_shownName_25 : decode cX8_shownName 25 = .ok (.iaload, 1) := by decide +kernel
theorem dX8_shownName_26 : decode cX8_shownName 26 = .ok (.if_icmp .ne 22, 3) := by decide +kernel
theorem dX8_shownName_29 : decode cX8_shownName 29 = .ok (.aload_n 0, 1) := by decide +kernel
theorem dX8_shownName_30 : decode cX8_shownName 30 = .ok (.getfield 31, 3) := by decide +kernel
theorem dX8_shownName_33 : decode cX8_shownName 33 = .ok (.iload_n 3, 1) := by decide +kernel
theorem dX8_shownName_34 : decode cX8_shownName 34 = .ok (.iaload, 1) := by decide +kernel
theorem dX8_shownName_35 : decode cX8_shownName 35 = .ok (.aload_n 0, 1) := by decide +kernel
theorem dX8_shownName_36 : decode cX8_shownName 36 = .ok (.getfield 31, 3) := by decide +kernel
theorem dX8_shownName_39 : decode cX8_shownName 39 = .ok (.iload_n 1, 1) := by decide +kernel
theorem dX8_shownName_40 : decode cX8_shownName 40 = .ok (.iaload, 1) := by decide +kernel
theorem dX8_shownName_41 : decode cX8_shownName 41 = .ok (.if_icmp .ge 7, 3) := by decide +kernel
theorem dX8_shownName_44 : decode cX8_shownName 44 = .ok (.iconst 1, 1) := by decide +kernel
theorem dX8_shownName_45 : decode cX8_shownName 45 = .ok (.goto 4, 3) := by decide +kernel
theorem dX8_shownName_48 : decode cX8_shownName 48 = .ok (.iconst 0, 1) := by decide +kernel
theorem dX8_shownName_49 : decode cX8_shownName 49 = .ok (.istore 4, 2) := by decide +kernel
theorem dX8_shownName_51 : decode cX8_shownName 51 = .ok (.iload 4, 2) := by decide +kernel
theorem dX8_shownName_53 : decode cX8_shownName 53 = .ok (.ifCond .eq 25, 3) := by decide +kernel
theorem dX8_shownName_56 : decode cX8_shownName 56 = .ok (.aload_n 0, 1) := by decide +kernel
theorem dX8_shownName_57 : decode cX8_shownName 57 = .ok (.iload_n 3, 1) := by decide +kernel
theorem dX8_shownName_58 : decode cX8_shownName 58 = .ok (.invokevirtual 146, 3) := by decide +kernel
theorem dX8_shownName_61 : decode cX8_shownName 61 = .ok (.ifCond .eq 17, 3) := by decide +kernel
theorem dX8_shownName_64 : decode cX8_shownName 64 = .ok (.aload_n 0, 1) := by decide +kernel
theorem dX8_shownName_65 : decode cX8_shownName 65 = .ok (.iload_n 3, 1) := by decide +kernel
theorem dX8_shownName_66 : decode cX8_shownName 66 = .ok (.invokevirtual 149, 3) := by decide +kernel
theorem dX8_shownName_69 : decode cX8_shownName 69 = .ok (.iload_n 2, 1) := by decide +kernel
theorem dX8_shownName_70 : decode cX8_shownName 70 = .ok (.if_icmp .ne 8, 3) := by decide +kernel
theorem dX8_shownName_73 : decode cX8_shownName 73 = .ok (.bipush 100, 2) := by decide +kernel
theorem dX8_shownName_75 : decode cX8_shownName 75 = .ok (.iload_n 1, 1) := by decide +kernel
theorem dX8_shownName_76 : decode cX8_shownName 76 = .ok (.iadd, 1) := by decide +kernel
theorem dX8_shownName_77 : decode cX8_shownName 77 = .ok (.ireturn, 1) := by decide +kernel
theorem dX8_shownName_78 : decode cX8_shownName 78 = .ok (.iinc 3 1, 3) := by decide +kernel
theorem dX8_shownName_81 : decode cX8_shownName 81 = .ok (.goto (-73), 3) := by decide +kernel
theorem dX8_shownName_84 : decode cX8_shownName 84 = .ok (.aload_n 0, 1) := by decide +kernel
theorem dX8_shownName_85 : decode cX8_shownName 85 = .ok (.getfield 9, 3) := by decide +kernel
theorem dX8_shownName_88 : decode cX8_shownName 88 = .ok (.iload_n 1, 1) := by decide +kernel
theorem dX8_shownName_89 : decode cX8_shownName 89 = .ok (.iaload, 1) := by decide +kernel
theorem dX8_shownName_90 : decode cX8_shownName 90 = .ok (.ireturn, 1) := by decide +kernel
theorem dX8_isShown_0 : decode cX8_isShown 0 = .ok (.iconst 1, 1) := by decide +kernel
theorem dX8_isShown_1 : decode cX8_isShown 1 = .ok (.istore 4, 2) := by decide +kernel
theorem dX8_isShown_3 : decode cX8_isShown 3 = .ok (.iload 4, 2) := by decide +kernel
theorem dX8_isShown_5 : decode cX8_isShown 5 = .ok (.bipush 48, 2) := by decide +kernel
theorem dX8_isShown_7 : decode cX8_isShown 7 = .ok (.if_icmp .ge 58, 3) := by decide +kernel
theorem dX8_isShown_10 : decode cX8_isShown 10 = .ok (.iload 4, 2) := by decide +kernel
theorem dX8_isShown_12 : decode cX8_isShown 12 = .ok (.iload_n 3, 1) := by decide +kernel
theorem dX8_isShown_13 : decode cX8_isShown 13 = .ok (.if_icmp .eq 26, 3) := by decide +kernel
theorem dX8_isShown_16 : decode cX8_isShown 16 = .ok (.aload_n 0, 1) := by decide +kernel
theorem dX8_isShown_17 : decode cX8_isShown 17 = .ok (.iload 4, 2) := by decide +kernel
theorem dX8_isShown_19 : decode cX8_isShown 19 = .ok (.invokevirtual 146, 3) := by decide +kernel
theorem dX8_isShown_22 : decode cX8_isShown 22 = .ok (.ifCond .eq 17, 3) := by decide +kernel
theorem dX8_isShown_25 : decode cX8_isShown 25 = .ok (.aload_n 0, 1) := by decide +kernel
theorem dX8_isShown_26 : decode cX8_isShown 26 = .ok (.iload 4, 2) := by decide +kernel
theorem dX8_isShown_28 : decode cX8_isShown 28 = .ok (.invokevirtual 149, 3) := by decide +kernel
theorem dX8_isShown_31 : decode cX8_isShown 31 = .ok (.iload_n 1, 1) := by decide +kernel
theorem dX8_isShown_32 : decode cX8_isShown 32 = .ok (.if_icmp .ne 7, 3) := by decide +kernel
theorem dX8_isShown_35 : decode cX8_isShown 35 = .ok (.iconst 1, 1) := by decide +kernel
theorem dX8_isShown_36 : decode cX8_isShown 36 = .ok (.goto 4, 3) := by decide +kernel
theorem dX8_isShown_39 : decode cX8_isShown 39 = .ok (.iconst 0, 1) := by decide +kernel
theorem dX8_isShown_40 : decode cX8_isShown 40 = .ok (.istore 5, 2) := by decide +kernel
theorem dX8_isShown_42 : decode cX8_isShown 42 = .ok (.iload 5, 2) := by decide +kernel
theorem dX8_isShown_44 : decode cX8_isShown 44 = .ok (.ifCond .eq 15, 3) := by decide +kernel
theorem dX8_isShown_47 : decode cX8_isShown 47 = .ok (.aload_n 0, 1) := by decide +kernel
theorem dX8_isShown_48 : decode cX8_isShown 48 = .ok (.iload 4, 2) := by decide +kernel
theorem dX8_isShown_50 : decode cX8_isShown 50 = .ok (.invokevirtual 152, 3) := by decide +kernel
theorem dX8_isShown_53 : decode cX8_isShown 53 = .ok (.iload_n 2, 1) := by decide +kernel
theorem dX8_isShown_54 : decode cX8_isShown 54 = .ok (.if_icmp .ne 5, 3) := by decide +kernel
theorem dX8_isShown_57 : decode cX8_isShown 57 = .ok (.iconst 1, 1) := by decide +kernel
theorem dX8_isShown_58 : decode cX8_isShown 58 = .ok (.ireturn, 1) := by decide +kernel
theorem dX8_isShown_59 : decode cX8_isShown 59 = .ok (.iinc 4 1, 3) := by decide +kernel
theorem dX8_isShown_62 : decode cX8_isShown 62 = .ok (.goto (-59), 3) := by decide +kernel
theorem dX8_isShown_65 : decode cX8_isShown 65 = .ok (.iconst 0, 1) := by decide +kernel
theorem dX8_isShown_66 : decode cX8_isShown 66 = .ok (.ireturn, 1) := by decide +kernel
theorem dX8_childrenAt_0 : decode cX8_childrenAt 0 = .ok (.lconst 0, 1) := by decide +kernel
theorem dX8_childrenAt_1 : decode cX8_childrenAt 1 = .ok (.lstore_n 2, 1) := by decide +kernel
theorem dX8_childrenAt_2 : decode cX8_childrenAt 2 = .ok (.iconst 1, 1) := by decide +kernel
theorem dX8_childrenAt_3 : decode cX8_childrenAt 3 = .ok (.istore 4, 2) := by decide +kernel
theorem dX8_childrenAt_5 : decode cX8_childrenAt 5 = .ok (.iload 4, 2) := by decide +kernel
theorem dX8_childrenAt_7 : decode cX8_childrenAt 7 = .ok (.bipush 48, 2) := by decide +kernel
theorem dX8_childrenAt_9 : decode cX8_childrenAt 9 = .ok (.if_icmp .ge 35, 3) := by decide +kernel
theorem dX8_childrenAt_12 : decode cX8_childrenAt 12 = .ok (.aload_n 0, 1) := by decide +kernel
theorem dX8_childrenAt_13 : decode cX8_childrenAt 13 = .ok (.iload 4, 2) := by decide +kernel
theorem dX8_childrenAt_15 : decode cX8_childrenAt 15 = .ok (.invokevirtual 146, 3) := by decide +kernel
theorem dX8_childrenAt_18 : decode cX8_childrenAt 18 = .ok (.ifCond .eq 20, 3) := by decide +kernel
theorem dX8_childrenAt_21 : decode cX8_childrenAt 21 = .ok (.aload_n 0, 1) := by decide +kernel
theorem dX8_childrenAt_22 : decode cX8_childrenAt 22 = .ok (.iload 4, 2) := by decide +kernel
theorem dX8_childrenAt_24 : decode cX8_childrenAt 24 = .ok (.invokevirtual 149, 3) := by decide +kernel
theorem dX8_childrenAt_27 : decode cX8_childrenAt 27 = .ok (.iload_n 1, 1) := by decide +kernel
theorem dX8_childrenAt_28 : decode cX8_childrenAt 28 = .ok (.if_icmp .ne 10, 3) := by decide +kernel
theorem dX8_childrenAt_31 : decode cX8_childrenAt 31 = .ok (.lload_n 2, 1) := by decide +kernel
theorem dX8_childrenAt_32 : decode cX8_childrenAt 32 = .ok (.lconst 1, 1) := by decide +kernel
theorem dX8_childrenAt_33 : decode cX8_childrenAt 33 = .ok (.iload 4, 2) := by decide +kernel
theorem dX8_childrenAt_35 : decode cX8_childrenAt 35 = .ok (.lshl, 1) := by decide +kernel
theorem dX8_childrenAt_36 : decode cX8_childrenAt 36 = .ok (.lor, 1) := by decide +kernel
theorem dX8_childrenAt_37 : decode cX8_childrenAt 37 = .ok (.lstore_n 2, 1) := by decide +kernel
theorem dX8_childrenAt_38 : decode cX8_childrenAt 38 = .ok (.iinc 4 1, 3) := by decide +kernel
theorem dX8_childrenAt_41 : decode cX8_childrenAt 41 = .ok (.goto (-36), 3) := by decide +kernel
theorem dX8_childrenAt_44 : decode cX8_childrenAt 44 = .ok (.lload_n 2, 1) := by decide +kernel
theorem dX8_childrenAt_45 : decode cX8_childrenAt 45 = .ok (.lreturn, 1) := by decide +kernel
theorem dX8_rankedAt_0 : decode cX8_rankedAt 0 = .ok (.aload_n 0, 1) := by decide +kernel
theorem dX8_rankedAt_1 : decode cX8_rankedAt 1 = .ok (.iload_n 1, 1) := by decide +kernel
theorem dX8_rankedAt_2 : decode cX8_rankedAt 2 = .ok (.invokevirtual 155, 3) := by decide +kernel
theorem dX8_rankedAt_5 : decode cX8_rankedAt 5 = .ok (.lstore_n 2, 1) := by decide +kernel
theorem dX8_rankedAt_6 : decode cX8_rankedAt 6 = .ok (.aload_n 0, 1) := by decide +kernel
theorem dX8_rankedAt_7 : decode cX8_rankedAt 7 = .ok (.getfield 46, 3) := by decide +kernel
theorem dX8_rankedAt_10 : decode cX8_rankedAt 10 = .ok (.invokevirtual 63, 3) := by decide +kernel
theorem dX8_rankedAt_13 : decode cX8_rankedAt 13 = .ok (.iconst 1, 1) := by decide +kernel
theorem dX8_rankedAt_14 : decode cX8_rankedAt 14 = .ok (.istore 4, 2) := by decide +kernel
theorem dX8_rankedAt_16 : decode cX8_rankedAt 16 = .ok (.iload 4, 2) := by decide +kernel
theorem dX8_rankedAt_18 : decode cX8_rankedAt 18 = .ok (.bipush 48, 2) := by decide +kernel
theorem dX8_rankedAt_20 : decode cX8_rankedAt 20 = .ok (.if_icmp .ge 39, 3) := by decide +kernel
theorem dX8_rankedAt_23 : decode cX8_rankedAt 23 = .ok (.lload_n 2, 1) := by decide +kernel
theorem dX8_rankedAt_24 : decode cX8_rankedAt 24 = .ok (.iload 4, 2) := by decide +kernel
theorem dX8_rankedAt_26 : decode cX8_rankedAt 26 = .ok (.lshr, 1) := by decide +kernel
theorem dX8_rankedAt_27 : decode cX8_rankedAt 27 = .ok (.lconst 1, 1) := by decide +kernel
theorem dX8_rankedAt_28 : decode cX8_rankedAt 28 = .ok (.land, 1) := by decide +kernel
theorem dX8_rankedAt_29 : decode cX8_rankedAt 29 = .ok (.lconst 1, 1) := by decide +kernel
theorem dX8_rankedAt_30 : decode cX8_rankedAt 30 = .ok (.lcmp, 1) := by decide +kernel
theorem dX8_rankedAt_31 : decode cX8_rankedAt 31 = .ok (.ifCond .ne 22, 3) := by decide +kernel
theorem dX8_rankedAt_34 : decode cX8_rankedAt 34 = .ok (.aload_n 0, 1) := by decide +kernel
theorem dX8_rankedAt_35 : decode cX8_rankedAt 35 = .ok (.getfield 46, 3) := by decide +kernel
theorem dX8_rankedAt_38 : decode cX8_rankedAt 38 = .ok (.aload_n 0, 1) := by decide +kernel
theorem dX8_rankedAt_39 : decode cX8_rankedAt 39 = .ok (.iload 4, 2) := by decide +kernel
theorem dX8_rankedAt_41 : decode cX8_rankedAt 41 = .ok (.invokevirtual 152, 3) := by decide +kernel
theorem dX8_rankedAt_44 : decode cX8_rankedAt 44 = .ok (.bipush 48, 2) := by decide +kernel
theorem dX8_rankedAt_46 : decode cX8_rankedAt 46 = .ok (.imul, 1) := by decide +kernel
theorem dX8_rankedAt_47 : decode cX8_rankedAt 47 = .ok (.iload 4, 2) := by decide +kernel
theorem dX8_rankedAt_49 : decode cX8_rankedAt 49 = .ok (.iadd, 1) := by decide +kernel
theorem dX8_rankedAt_50 : decode cX8_rankedAt 50 = .ok (.invokevirtual 131, 3) := by decide +kernel
theorem dX8_rankedAt_53 : decode cX8_rankedAt 53 = .ok (.iinc 4 1, 3) := by decide +kernel
theorem dX8_rankedAt_56 : decode cX8_rankedAt 56 = .ok (.goto (-40), 3) := by decide +kernel
theorem dX8_rankedAt_59 : decode cX8_rankedAt 59 = .ok (.aload_n 0, 1) := by decide +kernel
theorem dX8_rankedAt_60 : decode cX8_rankedAt 60 = .ok (.getfield 46, 3) := by decide +kernel
theorem dX8_rankedAt_63 : decode cX8_rankedAt 63 = .ok (.areturn, 1) := by decide +kernel
theorem dX8_valuesOf_0 : decode cX8_valuesOf 0 = .ok (.aload_n 0, 1) := by decide +kernel
theorem dX8_valuesOf_1 : decode cX8_valuesOf 1 = .ok (.iload_n 1, 1) := by decide +kernel
theorem dX8_valuesOf_2 : decode cX8_valuesOf 2 = .ok (.iload_n 2, 1) := by decide +kernel
theorem dX8_valuesOf_3 : decode cX8_valuesOf 3 = .ok (.sipush 1000, 3) := by decide +kernel
theorem dX8_valuesOf_6 : decode cX8_valuesOf 6 = .ok (.imul, 1) := by decide +kernel
theorem dX8_valuesOf_7 : decode cX8_valuesOf 7 = .ok (.iload_n 2, 1) := by decide +kernel
theorem dX8_valuesOf_8 : decode cX8_valuesOf 8 = .ok (.sipush 1000, 3) := by decide +kernel
theorem dX8_valuesOf_11 : decode cX8_valuesOf 11 = .ok (.imul, 1) := by decide +kernel
theorem dX8_valuesOf_12 : decode cX8_valuesOf 12 = .ok (.sipush 1000, 3) := by decide +kernel
theorem dX8_valuesOf_15 : decode cX8_valuesOf 15 = .ok (.iadd, 1) := by decide +kernel
theorem dX8_valuesOf_16 : decode cX8_valuesOf 16 = .ok (.iconst 1, 1) := by decide +kernel
theorem dX8_valuesOf_17 : decode cX8_valuesOf 17 = .ok (.isub, 1) := by decide +kernel
theorem dX8_valuesOf_18 : decode cX8_valuesOf 18 = .ok (.invokevirtual 159, 3) := by decide +kernel
theorem dX8_valuesOf_21 : decode cX8_valuesOf 21 = .ok (.ireturn, 1) := by decide +kernel
theorem dX8_matching_0 : decode cX8_matching 0 = .ok (.aload_n 0, 1) := by decide +kernel
theorem dX8_matching_1 : decode cX8_matching 1 = .ok (.getfield 49, 3) := by decide +kernel
theorem dX8_matching_4 : decode cX8_matching 4 = .ok (.iload_n 2, 1) := by decide +kernel
theorem dX8_matching_5 : decode cX8_matching 5 = .ok (.iload_n 3, 1) := by decide +kernel
theorem dX8_matching_6 : decode cX8_matching 6 = .ok (.invokevirtual 124, 3) := by decide +kernel
theorem dX8_matching_9 : decode cX8_matching 9 = .ok (.istore 4, 2) := by decide +kernel
theorem dX8_matching_11 : decode cX8_matching 11 = .ok (.aload_n 0, 1) := by decide +kernel
theorem dX8_matching_12 : decode cX8_matching 12 = .ok (.getfield 49, 3) := by decide +kernel
theorem dX8_matching_15 : decode cX8_matching 15 = .ok (.iload_n 2, 1) := by decide +kernel
theorem dX8_matching_16 : decode cX8_matching 16 = .ok (.iload_n 3, 1) := by decide +kernel
theorem dX8_matching_17 : decode cX8_matching 17 = .ok (.invokevirtual 128, 3) := by decide +kernel
theorem dX8_matching_20 : decode cX8_matching 20 = .ok (.istore 5, 2) := by decide +kernel
theorem dX8_matching_22 : decode cX8_matching 22 = .ok (.aload_n 0, 1) := by decide +kernel
theorem dX8_matching_23 : decode cX8_matching 23 = .ok (.iload_n 1, 1) := by decide +kernel
theorem dX8_matching_24 : decode cX8_matching 24 = .ok (.iload_n 2, 1) := by decide +kernel
theorem dX8_matching_25 : decode cX8_matching 25 = .ok (.sipush 1000, 3) := by decide +kernel
theorem dX8_matching_28 : decode cX8_matching 28 = .ok (.imul, 1) := by decide +kernel
theorem dX8_matching_29 : decode cX8_matching 29 = .ok (.iload 4, 2) := by decide +kernel
theorem dX8_matching_31 : decode cX8_matching 31 = .ok (.iadd, 1) := by decide +kernel
theorem dX8_matching_32 : decode cX8_matching 32 = .ok (.iload_n 2, 1) := by decide +kernel
theorem dX8_matching_33 : decode cX8_matching 33 = .ok (.sipush 1000, 3) := by decide +kernel
theorem dX8_matching_36 : decode cX8_matching 36 = .ok (.imul, 1) := by decide +kernel
theorem dX8_matching_37 : decode cX8_matching 37 = .ok (.iload 5, 2) := by decide +kernel
theorem dX8_matching_39 : decode cX8_matching 39 = .ok (.iadd, 1) := by decide +kernel
theorem dX8_matching_40 : decode cX8_matching 40 = .ok (.invokevirtual 159, 3) := by decide +kernel
theorem dX8_matching_43 : decode cX8_matching 43 = .ok (.ireturn, 1) := by decide +kernel
theorem dX8_valuesBetween_0 : decode cX8_valuesBetween 0 = .ok (.aload_n 0, 1) := by decide +kernel
theorem dX8_valuesBetween_1 : decode cX8_valuesBetween 1 = .ok (.getfield 39, 3) := by decide +kernel
theorem dX8_valuesBetween_4 : decode cX8_valuesBetween 4 = .ok (.iload_n 1, 1) := by decide +kernel
theorem dX8_valuesBetween_5 : decode cX8_valuesBetween 5 = .ok (.sipush 10000, 3) := by decide +kernel
theorem dX8_valuesBetween_8 : decode cX8_valuesBetween 8 = .ok (.imul, 1) := by decide +kernel
theorem dX8_valuesBetween_9 : decode cX8_valuesBetween 9 = .ok (.iload_n 2, 1) := by decide +kernel
theorem dX8_valuesBetween_10 : decode cX8_valuesBetween 10 = .ok (.iadd, 1) := by decide +kernel
theorem dX8_valuesBetween_11 : decode cX8_valuesBetween 11 = .ok (.iload_n 1, 1) := by decide +kernel
theorem dX8_valuesBetween_12 : decode cX8_valuesBetween 12 = .ok (.sipush 10000, 3) := by decide +kernel
theorem dX8_valuesBetween_15 : decode cX8_valuesBetween 15 = .ok (.imul, 1) := by decide +kernel
theorem dX8_valuesBetween_16 : decode cX8_valuesBetween 16 = .ok (.iload_n 3, 1) := by decide +kernel
theorem dX8_valuesBetween_17 : decode cX8_valuesBetween 17 = .ok (.iadd, 1) := by decide +kernel
theorem dX8_valuesBetween_18 : decode cX8_valuesBetween 18 = .ok (.invokevirtual 163, 3) := by decide +kernel
theorem dX8_valuesBetween_21 : decode cX8_valuesBetween 21 = .ok (.ireturn, 1) := by decide +kernel
theorem dX8_valueNumbered_0 : decode cX8_valueNumbered 0 = .ok (.iload_n 3, 1) := by decide +kernel
theorem dX8_valueNumbered_1 : decode cX8_valueNumbered 1 = .ok (.aload_n 0, 1) := by decide +kernel
theorem dX8_valueNumbered_2 : decode cX8_valueNumbered 2 = .ok (.iload_n 1, 1) := by decide +kernel
theorem dX8_valueNumbered_3 : decode cX8_valueNumbered 3 = .ok (.iload_n 2, 1) := by decide +kernel
theorem dX8_valueNumbered_4 : decode cX8_valueNumbered 4 = .ok (.invokevirtual 166, 3) := by decide +kernel
theorem dX8_valueNumbered_7 : decode cX8_valueNumbered 7 = .ok (.if_icmp .lt 5, 3) := by decide +kernel
theorem dX8_valueNumbered_10 : decode cX8_valueNumbered 10 = .ok (.iconst (-1), 1) := by decide +kernel
theorem dX8_valueNumbered_11 : decode cX8_valueNumbered 11 = .ok (.ireturn, 1) := by decide +kernel
theorem dX8_valueNumbered_12 : decode cX8_valueNumbered 12 = .ok (.aload_n 0, 1) := by decide +kernel
theorem dX8_valueNumbered_13 : decode cX8_valueNumbered 13 = .ok (.getfield 39, 3) := by decide +kernel
theorem dX8_valueNumbered_16 : decode cX8_valueNumbered 16 = .ok (.iload_n 1, 1) := by decide +kernel
theorem dX8_valueNumbered_17 : decode cX8_valueNumbered 17 = .ok (.sipush 10000, 3) := by decide +kernel
theorem dX8_valueNumbered_20 : decode cX8_valueNumbered 20 = .ok (.imul, 1) := by decide +kernel
theorem dX8_valueNumbered_21 : decode cX8_valueNumbered 21 = .ok (.iload_n 2, 1) := by decide +kernel
theorem dX8_valueNumbered_22 : decode cX8_valueNumbered 22 = .ok (.sipush 1000, 3) := by decide +kernel
theorem dX8_valueNumbered_25 : decode cX8_valueNumbered 25 = .ok (.imul, 1) := by decide +kernel
theorem dX8_valueNumbered_26 : decode cX8_valueNumbered 26 = .ok (.iadd, 1) := by decide +kernel
theorem dX8_valueNumbered_27 : decode cX8_valueNumbered 27 = .ok (.invokevirtual 134, 3) := by decide +kernel
theorem dX8_valueNumbered_30 : decode cX8_valueNumbered 30 = .ok (.istore 4, 2) := by decide +kernel
theorem dX8_valueNumbered_32 : decode cX8_valueNumbered 32 = .ok (.aload_n 0, 1) := by decide +kernel
theorem dX8_valueNumbered_33 : decode cX8_valueNumbered 33 = .ok (.getfield 39, 3) := by decide +kernel
theorem dX8_valueNumbered_36 : decode cX8_valueNumbered 36 = .ok (.iload 4, 2) := by decide +kernel
theorem dX8_valueNumbered_38 : decode cX8_valueNumbered 38 = .ok (.iload_n 3, 1) := by decide +kernel
theorem dX8_valueNumbered_39 : decode cX8_valueNumbered 39 = .ok (.iadd, 1) := by decide +kernel
theorem dX8_valueNumbered_40 : decode cX8_valueNumbered 40 = .ok (.invokevirtual 138, 3) := by decide +kernel
theorem dX8_valueNumbered_43 : decode cX8_valueNumbered 43 = .ok (.sipush 1000, 3) := by decide +kernel
theorem dX8_valueNumbered_46 : decode cX8_valueNumbered 46 = .ok (.irem, 1) := by decide +kernel
theorem dX8_valueNumbered_47 : decode cX8_valueNumbered 47 = .ok (.ireturn, 1) := by decide +kernel
theorem dX8_holdersBetween_0 : decode cX8_holdersBetween 0 = .ok (.lconst 0, 1) := by decide +kernel
theorem dX8_holdersBetween_1 : decode cX8_holdersBetween 1 = .ok (.lstore_n 3, 1) := by decide +kernel
theorem dX8_holdersBetween_2 : decode cX8_holdersBetween 2 = .ok (.aload_n 0, 1) := by decide +kernel
theorem dX8_holdersBetween_3 : decode cX8_holdersBetween 3 = .ok (.getfield 43, 3) := by decide +kernel
theorem dX8_holdersBetween_6 : decode cX8_holdersBetween 6 = .ok (.iload_n 2, 1) := by decide +kernel
theorem dX8_holdersBetween_7 : decode cX8_holdersBetween 7 = .ok (.iconst 1, 1) := by decide +kernel
theorem dX8_holdersBetween_8 : decode cX8_holdersBetween 8 = .ok (.iadd, 1) := by decide +kernel
theorem dX8_holdersBetween_9 : decode cX8_holdersBetween 9 = .ok (.bipush 48, 2) := by decide +kernel
theorem dX8_holdersBetween_11 : decode cX8_holdersBetween 11 = .ok (.imul, 1) := by decide +kernel
theorem dX8_holdersBetween_12 : decode cX8_holdersBetween 12 = .ok (.invokevirtual 134, 3) := by decide +kernel
theorem dX8_holdersBetween_15 : decode cX8_holdersBetween 15 = .ok (.istore 5, 2) := by decide +kernel
theorem dX8_holdersBetween_17 : decode cX8_holdersBetween 17 = .ok (.aload_n 0, 1) := by decide +kernel
theorem dX8_holdersBetween_18 : decode cX8_holdersBetween 18 = .ok (.getfield 43, 3) := by decide +kernel
theorem dX8_holdersBetween_21 : decode cX8_holdersBetween 21 = .ok (.iload_n 1, 1) := by decide +kernel
theorem dX8_holdersBetween_22 : decode cX8_holdersBetween 22 = .ok (.bipush 48, 2) := by decide +kernel
theorem dX8_holdersBetween_24 : decode cX8_holdersBetween 24 = .ok (.imul, 1) := by decide +kernel
theorem dX8_holdersBetween_25 : decode cX8_holdersBetween 25 = .ok (.invokevirtual 134, 3) := by decide +kernel
theorem dX8_holdersBetween_28 : decode cX8_holdersBetween 28 = .ok (.istore 6, 2) := by decide +kernel
theorem dX8_holdersBetween_30 : decode cX8_holdersBetween 30 = .ok (.iload 6, 2) := by decide +kernel
theorem dX8_holdersBetween_32 : decode cX8_holdersBetween 32 = .ok (.iload 5, 2) := by decide +kernel
theorem dX8_holdersBetween_34 : decode cX8_holdersBetween 34 = .ok (.if_icmp .ge 26, 3) := by decide +kernel
theorem dX8_holdersBetween_37 : decode cX8_holdersBetween 37 = .ok (.lload_n 3, 1) := by decide +kernel
theorem dX8_holdersBetween_38 : decode cX8_holdersBetween 38 = .ok (.lconst 1, 1) := by decide +kernel
theorem dX8_holdersBetween_39 : decode cX8_holdersBetween 39 = .ok (.aload_n 0, 1) := by decide +kernel
theorem dX8_holdersBetween_40 : decode cX8_holdersBetween 40 = .ok (.getfield 43, 3) := by decide +kernel
theorem dX8_holdersBetween_43 : decode cX8_holdersBetween 43 = .ok (.iload 6, 2) := by decide +kernel
theorem dX8_holdersBetween_45 : decode cX8_holdersBetween 45 = .ok (.invokevirtual 138, 3) := by decide +kernel
theorem dX8_holdersBetween_48 : decode cX8_holdersBetween 48 = .ok (.bipush 48, 2) := by decide +kernel
theorem dX8_holdersBetween_50 : decode cX8_holdersBetween 50 = .ok (.irem, 1) := by decide +kernel
theorem dX8_holdersBetween_51 : decode cX8_holdersBetween 51 = .ok (.lshl, 1) := by decide +kernel
theorem dX8_holdersBetween_52 : decode cX8_holdersBetween 52 = .ok (.lor, 1) := by decide +kernel
theorem dX8_holdersBetween_53 : decode cX8_holdersBetween 53 = .ok (.lstore_n 3, 1) := by decide +kernel
theorem dX8_holdersBetween_54 : decode cX8_holdersBetween 54 = .ok (.iinc 6 1, 3) := by decide +kernel
theorem dX8_holdersBetween_57 : decode cX8_holdersBetween 57 = .ok (.goto (-27), 3) := by decide +kernel
theorem dX8_holdersBetween_60 : decode cX8_holdersBetween 60 = .ok (.lload_n 3, 1) := by decide +kernel
theorem dX8_holdersBetween_61 : decode cX8_holdersBetween 61 = .ok (.aload_n 0, 1) := by decide +kernel
theorem dX8_holdersBetween_62 : decode cX8_holdersBetween 62 = .ok (.invokevirtual 169, 3) := by decide +kernel
theorem dX8_holdersBetween_65 : decode cX8_holdersBetween 65 = .ok (.land, 1) := by decide +kernel
theorem dX8_holdersBetween_66 : decode cX8_holdersBetween 66 = .ok (.lreturn, 1) := by decide +kernel
theorem dX8_isIncomplete_0 : decode cX8_isIncomplete 0 = .ok (.aload_n 0, 1) := by decide +kernel
theorem dX8_isIncomplete_1 : decode cX8_isIncomplete 1 = .ok (.getfield 49, 3) := by decide +kernel
theorem dX8_isIncomplete_4 : decode cX8_isIncomplete 4 = .ok (.aload_n 0, 1) := by decide +kernel
theorem dX8_isIncomplete_5 : decode cX8_isIncomplete 5 = .ok (.getfield 15, 3) := by decide +kernel
theorem dX8_isIncomplete_8 : decode cX8_isIncomplete 8 = .ok (.iload_n 1, 1) := by decide +kernel
theorem dX8_isIncomplete_9 : decode cX8_isIncomplete 9 = .ok (.iaload, 1) := by decide +kernel
theorem dX8_isIncomplete_10 : decode cX8_isIncomplete 10 = .ok (.invokevirtual 173, 3) := by decide +kernel
theorem dX8_isIncomplete_13 : decode cX8_isIncomplete 13 = .ok (.istore_n 2, 1) := by decide +kernel
theorem dX8_isIncomplete_14 : decode cX8_isIncomplete 14 = .ok (.iconst 0, 1) := by decide +kernel
theorem dX8_isIncomplete_15 : decode cX8_isIncomplete 15 = .ok (.istore_n 3, 1) := by decide +kernel
theorem dX8_isIncomplete_16 : decode cX8_isIncomplete 16 = .ok (.iload_n 3, 1) := by decide +kernel
theorem dX8_isIncomplete_17 : decode cX8_isIncomplete 17 = .ok (.bipush 10, 2) := by decide +kernel
theorem dX8_isIncomplete_19 : decode cX8_isIncomplete 19 = .ok (.if_icmp .ge 29, 3) := by decide +kernel
theorem dX8_isIncomplete_22 : decode cX8_isIncomplete 22 = .ok (.iload_n 2, 1) := by decide +kernel
theorem dX8_isIncomplete_23 : decode cX8_isIncomplete 23 = .ok (.iload_n 3, 1) := by decide +kernel
theorem dX8_isIncomplete_24 : decode cX8_isIncomplete 24 = .ok (.ishr, 1) := by decide +kernel
theorem dX8_isIncomplete_25 : decode cX8_isIncomplete 25 = .ok (.iconst 1, 1) := by decide +kernel
theorem dX8_isIncomplete_26 : decode cX8_isIncomplete 26 = .ok (.iand, 1) := by decide +kernel
theorem dX8_isIncomplete_27 : decode cX8_isIncomplete 27 = .ok (.iconst 1, 1) := by decide +kernel
theorem dX8_isIncomplete_28 : decode cX8_isIncomplete 28 = .ok (.if_icmp .ne 14, 3) := by decide +kernel
theorem dX8_isIncomplete_31 : decode cX8_isIncomplete 31 = .ok (.aload_n 0, 1) := by decide +kernel
theorem dX8_isIncomplete_32 : decode cX8_isIncomplete 32 = .ok (.iload_n 1, 1) := by decide +kernel
theorem dX8_isIncomplete_33 : decode cX8_isIncomplete 33 = .ok (.iload_n 3, 1) := by decide +kernel
theorem dX8_isIncomplete_34 : decode cX8_isIncomplete 34 = .ok (.invokevirtual 166, 3) := by decide +kernel
theorem dX8_isIncomplete_37 : decode cX8_isIncomplete 37 = .ok (.ifCond .ne 5, 3) := by decide +kernel
theorem dX8_isIncomplete_40 : decode cX8_isIncomplete 40 = .ok (.iconst 1, 1) := by decide +kernel
theorem dX8_isIncomplete_41 : decode cX8_isIncomplete 41 = .ok (.ireturn, 1) := by decide +kernel
theorem dX8_isIncomplete_42 : decode cX8_isIncomplete 42 = .ok (.iinc 3 1, 3) := by decide +kernel
theorem dX8_isIncomplete_45 : decode cX8_isIncomplete 45 = .ok (.goto (-29), 3) := by decide +kernel
theorem dX8_isIncomplete_48 : decode cX8_isIncomplete 48 = .ok (.iconst 0, 1) := by decide +kernel
theorem dX8_isIncomplete_49 : decode cX8_isIncomplete 49 = .ok (.ireturn, 1) := by decide +kernel
theorem dX8_grants_0 : decode cX8_grants 0 = .ok (.iload_n 1, 1) := by decide +kernel
theorem dX8_grants_1 : decode cX8_grants 1 = .ok (.ifCond .ne 5, 3) := by decide +kernel
theorem dX8_grants_4 : decode cX8_grants 4 = .ok (.iconst 1, 1) := by decide +kernel
theorem dX8_grants_5 : decode cX8_grants 5 = .ok (.ireturn, 1) := by decide +kernel
theorem dX8_grants_6 : decode cX8_grants 6 = .ok (.aload_n 0, 1) := by decide +kernel
theorem dX8_grants_7 : decode cX8_grants 7 = .ok (.aload_n 0, 1) := by decide +kernel
theorem dX8_grants_8 : decode cX8_grants 8 = .ok (.getfield 49, 3) := by decide +kernel
theorem dX8_grants_11 : decode cX8_grants 11 = .ok (.iconst 0, 1) := by decide +kernel
theorem dX8_grants_12 : decode cX8_grants 12 = .ok (.iload_n 1, 1) := by decide +kernel
theorem dX8_grants_13 : decode cX8_grants 13 = .ok (.invokevirtual 124, 3) := by decide +kernel
theorem dX8_grants_16 : decode cX8_grants 16 = .ok (.aload_n 0, 1) := by decide +kernel
theorem dX8_grants_17 : decode cX8_grants 17 = .ok (.getfield 49, 3) := by decide +kernel
theorem dX8_grants_20 : decode cX8_grants 20 = .ok (.iconst 0, 1) := by decide +kernel
theorem dX8_grants_21 : decode cX8_grants 21 = .ok (.iload_n 1, 1) := by decide +kernel
theorem dX8_grants_22 : decode cX8_grants 22 = .ok (.invokevirtual 128, 3) := by decide +kernel
theorem dX8_grants_25 : decode cX8_grants 25 = .ok (.invokevirtual 176, 3) := by decide +kernel
theorem dX8_grants_28 : decode cX8_grants 28 = .ok (.lstore 4, 2) := by decide +kernel
theorem dX8_grants_30 : decode cX8_grants 30 = .ok (.iload_n 2, 1) := by decide +kernel
theorem dX8_grants_31 : decode cX8_grants 31 = .ok (.istore 6, 2) := by decide +kernel
theorem dX8_grants_33 : decode cX8_grants 33 = .ok (.iconst 0, 1) := by decide +kernel
theorem dX8_grants_34 : decode cX8_grants 34 = .ok (.istore 7, 2) := by decide +kernel
theorem dX8_grants_36 : decode cX8_grants 36 = .ok (.iload 7, 2) := by decide +kernel
theorem dX8_grants_38 : decode cX8_grants 38 = .ok (.bipush 48, 2) := by decide +kernel
theorem dX8_grants_40 : decode cX8_grants 40 = .ok (.if_icmp .ge 60, 3) := by decide +kernel
theorem dX8_grants_43 : decode cX8_grants 43 = .ok (.iload 6, 2) := by decide +kernel
theorem dX8_grants_45 : decode cX8_grants 45 = .ok (.ifCond .lt 55, 3) := by decide +kernel
theorem dX8_grants_48 : decode cX8_grants 48 = .ok (.aload_n 0, 1) := by decide +kernel
theorem dX8_grants_49 : decode cX8_grants 49 = .ok (.getfield 24, 3) := by decide +kernel
theorem dX8_grants_52 : decode cX8_grants 52 = .ok (.iload 6, 2) := by decide +kernel
theorem dX8_grants_54 : decode cX8_grants 54 = .ok (.iload 7, 2) := by decide +kernel
theorem dX8_grants_56 : decode cX8_grants 56 = .ok (.iconst 2, 1) := by decide +kernel
theorem dX8_grants_57 : decode cX8_grants 57 = .ok (.invokestatic 180, 3) := by decide +kernel
theorem dX8_grants_60 : decode cX8_grants 60 = .ok (.iload_n 3, 1) := by decide +kernel
theorem dX8_grants_61 : decode cX8_grants 61 = .ok (.iload_n 1, 1) := by decide +kernel
theorem dX8_grants_62 : decode cX8_grants 62 = .ok (.lload 4, 2) := by decide +kernel
theorem dX8_grants_64 : decode cX8_grants 64 = .ok (.invokevirtual 185, 3) := by decide +kernel
theorem dX8_grants_67 : decode cX8_grants 67 = .ok (.istore 8, 2) := by decide +kernel
theorem dX8_grants_69 : decode cX8_grants 69 = .ok (.iload 8, 2) := by decide +kernel
theorem dX8_grants_71 : decode cX8_grants 71 = .ok (.ifCond .eq 15, 3) := by decide +kernel
theorem dX8_grants_74 : decode cX8_grants 74 = .ok (.iload 8, 2) := by decide +kernel
theorem dX8_grants_76 : decode cX8_grants 76 = .ok (.iconst 1, 1) := by decide +kernel
theorem dX8_grants_77 : decode cX8_grants 77 = .ok (.if_icmp .ne 7, 3) := by decide +kernel
theorem dX8_grants_80 : decode cX8_grants 80 = .ok (.iconst 1, 1) := by decide +kernel
theorem dX8_grants_81 : decode cX8_grants 81 = .ok (.goto 4, 3) := by decide +kernel
theorem dX8_grants_84 : decode cX8_grants 84 = .ok (.iconst 0, 1) := by decide +kernel
theorem dX8_grants_85 : decode cX8_grants 85 = .ok (.ireturn, 1) := by decide +kernel
theorem dX8_grants_86 : decode cX8_grants 86 = .ok (.aload_n 0, 1) := by decide +kernel
theorem dX8_grants_87 : decode cX8_grants 87 = .ok (.iload 6, 2) := by decide +kernel
theorem dX8_grants_89 : decode cX8_grants 89 = .ok (.invokevirtual 149, 3) := by decide +kernel
theorem dX8_grants_92 : decode cX8_grants 92 = .ok (.istore 6, 2) := by decide +kernel
theorem dX8_grants_94 : decode cX8_grants 94 = .ok (.iinc 7 1, 3) := by decide +kernel
theorem dX8_grants_97 : decode cX8_grants 97 = .ok (.goto (-61), 3) := by decide +kernel
theorem dX8_grants_100 : decode cX8_grants 100 = .ok (.iload_n 3, 1) := by decide +kernel
theorem dX8_grants_101 : decode cX8_grants 101 = .ok (.ifCond .ne 7, 3) := by decide +kernel
theorem dX8_grants_104 : decode cX8_grants 104 = .ok (.iconst 1, 1) := by decide +kernel
theorem dX8_grants_105 : decode cX8_grants 105 = .ok (.goto 4, 3) := by decide +kernel
theorem dX8_grants_108 : decode cX8_grants 108 = .ok (.iconst 0, 1) := by decide +kernel
theorem dX8_grants_109 : decode cX8_grants 109 = .ok (.ireturn, 1) := by decide +kernel
theorem dX9_init_0 : decode cX9_init 0 = .ok (.aload_n 0, 1) := by decide +kernel
theorem dX9_init_1 : decode cX9_init 1 = .ok (.invokespecial 3, 3) := by decide +kernel
theorem dX9_init_4 : decode cX9_init 4 = .ok (.aload_n 0, 1) := by decide +kernel
theorem dX9_init_5 : decode cX9_init 5 = .ok (.new 9, 3) := by decide +kernel
theorem dX9_init_8 : decode cX9_init 8 = .ok (.dup, 1) := by decide +kernel
theorem dX9_init_9 : decode cX9_init 9 = .ok (.invokespecial 11, 3) := by decide +kernel
theorem dX9_init_12 : decode cX9_init 12 = .ok (.putfield 12, 3) := by decide +kernel
theorem dX9_init_15 : decode cX9_init 15 = .ok (.aload_n 0, 1) := by decide +kernel
theorem dX9_init_16 : decode cX9_init 16 = .ok (.new 16, 3) := by decide +kernel
theorem dX9_init_19 : decode cX9_init 19 = .ok (.dup, 1) := by decide +kernel
theorem dX9_init_20 : decode cX9_init 20 = .ok (.aload_n 0, 1) := by decide +kernel
theorem dX9_init_21 : decode cX9_init 21 = .ok (.getfield 12, 3) := by decide +kernel
theorem dX9_init_24 : decode cX9_init 24 = .ok (.invokespecial 18, 3) := by decide +kernel
theorem dX9_init_27 : decode cX9_init 27 = .ok (.putfield 21, 3) := by decide +kernel
theorem dX9_init_30 : decode cX9_init 30 = .ok (.aload_n 0, 1) := by decide +kernel
theorem dX9_init_31 : decode cX9_init 31 = .ok (.new 25, 3) := by decide +kernel
theorem dX9_init_34 : decode cX9_init 34 = .ok (.dup, 1) := by decide +kernel
theorem dX9_init_35 : decode cX9_init 35 = .ok (.aload_n 0, 1) := by decide +kernel
theorem dX9_init_36 : decode cX9_init 36 = .ok (.getfield 12, 3) := by decide +kernel
theorem dX9_init_39 : decode cX9_init 39 = .ok (.invokespecial 27, 3) := by decide +kernel
theorem dX9_init_42 : decode cX9_init 42 = .ok (.putfield 28, 3) := by decide +kernel
theorem dX9_init_45 : decode cX9_init 45 = .ok (.aload_n 0, 1) := by decide +kernel
theorem dX9_init_46 : decode cX9_init 46 = .ok (.iconst 4, 1) := by decide +kernel
theorem dX9_init_47 : decode cX9_init 47 = .ok (.anewarray 32, 3) := by decide +kernel
theorem dX9_init_50 : decode cX9_init 50 = .ok (.putfield 34, 3) := by decide +kernel
theorem dX9_init_53 : decode cX9_init 53 = .ok (.aload_n 0, 1) := by decide +kernel
theorem dX9_init_54 : decode cX9_init 54 = .ok (.new 38, 3) := by decide +kernel
theorem dX9_init_57 : decode cX9_init 57 = .ok (.dup, 1) := by decide +kernel
theorem dX9_init_58 : decode cX9_init 58 = .ok (.aload_n 0, 1) := by decide +kernel
theorem dX9_init_59 : decode cX9_init 59 = .ok (.getfield 34, 3) := by decide +kernel
theorem dX9_init_62 : decode cX9_init 62 = .ok (.aload_n 0, 1) := by decide +kernel
theorem dX9_init_63 : decode cX9_init 63 = .ok (.getfield 28, 3) := by decide +kernel
theorem dX9_init_66 : decode cX9_init 66 = .ok (.invokespecial 40, 3) := by decide +kernel
theorem dX9_init_69 : decode cX9_init 69 = .ok (.putfield 43, 3) := by decide +kernel
theorem dX9_init_72 : decode cX9_init 72 = .ok (.aload_n 0, 1) := by decide +kernel
theorem dX9_init_73 : decode cX9_init 73 = .ok (.new 47, 3) := by decide +kernel
theorem dX9_init_76 : decode cX9_init 76 = .ok (.dup, 1) := by decide +kernel
theorem dX9_init_77 : decode cX9_init 77 = .ok (.invokespecial 49, 3) := by decide +kernel
theorem dX9_init_80 : decode cX9_init 80 = .ok (.putfield 50, 3) := by decide +kernel
theorem dX9_init_83 : decode cX9_init 83 = .ok (.aload_n 0, 1) := by decide +kernel
theorem dX9_init_84 : decode cX9_init 84 = .ok (.new 54, 3) := by decide +kernel
theorem dX9_init_87 : decode cX9_init 87 = .ok (.dup, 1) := by decide +kernel
theorem dX9_init_88 : decode cX9_init 88 = .ok (.aload_n 0, 1) := by decide +kernel
theorem dX9_init_89 : decode cX9_init 89 = .ok (.getfield 12, 3) := by decide +kernel
theorem dX9_init_92 : decode cX9_init 92 = .ok (.invokespecial 56, 3) := by decide +kernel
theorem dX9_init_95 : decode cX9_init 95 = .ok (.putfield 57, 3) := by decide +kernel
theorem dX9_init_98 : decode cX9_init 98 = .ok (.aload_n 0, 1) := by decide +kernel
theorem dX9_init_99 : decode cX9_init 99 = .ok (.iconst 1, 1) := by decide +kernel
theorem dX9_init_100 : decode cX9_init 100 = .ok (.putfield 61, 3) := by decide +kernel
theorem dX9_init_103 : decode cX9_init 103 = .ok (.iconst 0, 1) := by decide +kernel
theorem dX9_init_104 : decode cX9_init 104 = .ok (.istore_n 1, 1) := by decide +kernel
theorem dX9_init_105 : decode cX9_init 105 = .ok (.iload_n 1, 1) := by decide +kernel
theorem dX9_init_106 : decode cX9_init 106 = .ok (.iconst 4, 1) := by decide +kernel
theorem dX9_init_107 : decode cX9_init 107 = .ok (.if_icmp .ge 34, 3) := by decide +kernel
theorem dX9_init_110 : decode cX9_init 110 = .ok (.aload_n 0, 1) := by decide +kernel
theorem dX9_init_111 : decode cX9_init 111 = .ok (.getfield 34, 3) := by decide +kernel
theorem dX9_init_114 : decode cX9_init 114 = .ok (.iload_n 1, 1) := by decide +kernel
theorem dX9_init_115 : decode cX9_init 115 = .ok (.new 32, 3) := by decide +kernel
theorem dX9_init_118 : decode cX9_init 118 = .ok (.dup, 1) := by decide +kernel
theorem dX9_init_119 : decode cX9_init 119 = .ok (.iload_n 1, 1) := by decide +kernel
theorem dX9_init_120 : decode cX9_init 120 = .ok (.new 54, 3) := by decide +kernel
theorem dX9_init_123 : decode cX9_init 123 = .ok (.dup, 1) := by decide +kernel
theorem dX9_init_124 : decode cX9_init 124 = .ok (.aload_n 0, 1) := by decide +kernel
theorem dX9_init_125 : decode cX9_init 125 = .ok (.getfield 12, 3) := by decide +kernel
theorem dX9_init_128 : decode cX9_init 128 = .ok (.invokespecial 56, 3) := by decide +kernel
theorem dX9_init_131 : decode cX9_init 131 = .ok (.invokespecial 65, 3) := by decide +kernel
theorem dX9_init_134 : decode cX9_init 134 = .ok (.aastore, 1) := by decide +kernel
theorem dX9_init_135 : decode cX9_init 135 = .ok (.iinc 1 1, 3) := by decide +kernel
theorem dX9_init_138 : decode cX9_init 138 = .ok (.goto (-33), 3) := by decide +kernel
theorem dX9_init_141 : decode cX9_init 141 = .ok (.return_, 1) := by decide +kernel
theorem dX9_attribute_0 : decode cX9_attribute 0 = .ok (.aload_n 0, 1) := by decide +kernel
theorem dX9_attribute_1 : decode cX9_attribute 1 = .ok (.getfield 12, 3) := by decide +kernel
theorem dX9_attribute_4 : decode cX9_attribute 4 = .ok (.getfield 68, 3) := by decide +kernel
theorem dX9_attribute_7 : decode cX9_attribute 7 = .ok (.bipush 10, 2) := by decide +kernel
theorem dX9_attribute_9 : decode cX9_attribute 9 = .ok (.if_icmp .lt 13, 3) := by decide +kernel
theorem dX9_attribute_12 : decode cX9_attribute 12 = .ok (.new 71, 3) := by decide +kernel
theorem dX9_attribute_15 : decode cX9_attribute 15 = .ok (.dup, 1) := by decide +kernel
theorem dX9_attribute_16 : decode cX9_attribute 16 = .ok (.ldc 73, 2) := by decide +kernel
theorem dX9_attribute_18 : decode cX9_attribute 18 = .ok (.invokespecial 75, 3) := by decide +kernel
theorem dX9_attribute_21 : decode cX9_attribute 21 = .ok (.athrow, 1) := by decide +kernel
theorem dX9_attribute_22 : decode cX9_attribute 22 = .ok (.aload_n 0, 1) := by decide +kernel
theorem dX9_attribute_23 : decode cX9_attribute 23 = .ok (.getfield 12, 3) := by decide +kernel
theorem dX9_attribute_26 : decode cX9_attribute 26 = .ok (.iload_n 1, 1) := by decide +kernel
theorem dX9_attribute_27 : decode cX9_attribute 27 = .ok (.iload_n 2, 1) := by decide +kernel
theorem dX9_attribute_28 : decode cX9_attribute 28 = .ok (.invokevirtual 78, 3) := by decide +kernel
theorem dX9_attribute_31 : decode cX9_attribute 31 = .ok (.ireturn, 1) := by decide +kernel
theorem dX9_objectClass_0 : decode cX9_objectClass 0 = .ok (.iload_n 1, 1) := by decide +kernel
theorem dX9_objectClass_1 : decode cX9_objectClass 1 = .ok (.iconst (-1), 1) := by decide +kernel
theorem dX9_objectClass_2 : decode cX9_objectClass 2 = .ok (.if_icmp .eq 8, 3) := by decide +kernel
theorem dX9_objectClass_5 : decode cX9_objectClass 5 = .ok (.aload_n 0, 1) := by decide +kernel
theorem dX9_objectClass_6 : decode cX9_objectClass 6 = .ok (.iload_n 1, 1) := by decide +kernel
theorem dX9_objectClass_7 : decode cX9_objectClass 7 = .ok (.invokevirtual 82, 3) := by decide +kernel
theorem dX9_objectClass_10 : decode cX9_objectClass 10 = .ok (.aload_n 0, 1) := by decide +kernel
theorem dX9_objectClass_11 : decode cX9_objectClass 11 = .ok (.getfield 12, 3) := by decide +kernel
theorem dX9_objectClass_14 : decode cX9_objectClass 14 = .ok (.iload_n 2, 1) := by decide +kernel
theorem dX9_objectClass_15 : decode cX9_objectClass 15 = .ok (.invokevirtual 86, 3) := by decide +kernel
theorem dX9_objectClass_18 : decode cX9_objectClass 18 = .ok (.ifCond .eq 14, 3) := by decide +kernel
theorem dX9_objectClass_21 : decode cX9_objectClass 21 = .ok (.aload_n 0, 1) := by decide +kernel
theorem dX9_objectClass_22 : decode cX9_objectClass 22 = .ok (.getfield 12, 3) := by decide +kernel
theorem dX9_objectClass_25 : decode cX9_objectClass 25 = .ok (.iload_n 3, 1) := by decide +kernel
theorem dX9_objectClass_26 : decode cX9_objectClass 26 = .ok (.invokevirtual 86, 3) := by decide +kernel
theorem dX9_objectClass_29 : decode cX9_objectClass 29 = .ok (.ifCond .ne 13, 3) := by decide +kernel
theorem dX9_objectClass_32 : decode cX9_objectClass 32 = .ok (.new 90, 3) := by decide +kernel
theorem dX9_objectClass_35 : decode cX9_objectClass 35 = .ok (.dup, 1) := by decide +kernel
theorem dX9_objectClass_36 : decode cX9_objectClass 36 = .ok (.ldc 92, 2) := by decide +kernel
theorem dX9_objectClass_38 : decode cX9_objectClass 38 = .ok (.invokespecial 94, 3) := by decide +kernel
theorem dX9_objectClass_41 : decode cX9_objectClass 41 = .ok (.athrow, 1) := by decide +kernel
theorem dX9_objectClass_42 : decode cX9_objectClass 42 = .ok (.aload_n 0, 1) := by decide +kernel
theorem dX9_objectClass_43 : decode cX9_objectClass 43 = .ok (.getfield 12, 3) := by decide +kernel
theorem dX9_objectClass_46 : decode cX9_objectClass 46 = .ok (.getfield 95, 3) := by decide +kernel
theorem dX9_objectClass_49 : decode cX9_objectClass 49 = .ok (.bipush 8, 2) := by decide +kernel
theorem dX9_objectClass_51 : decode cX9_objectClass 51 = .ok (.if_icmp .lt 13, 3) := by decide +kernel
theorem dX9_objectClass_54 : decode cX9_objectClass 54 = .ok (.new 71, 3) := by decide +kernel
theorem dX9_objectClass_57 : decode cX9_objectClass 57 = .ok (.dup, 1) := by decide +kernel
theorem dX9_objectClass_58 : decode cX9_objectClass 58 = .ok (.ldc 98, 2) := by decide +kernel
theorem dX9_objectClass_60 : decode cX9_objectClass 60 = .ok (.invokespecial 75, 3) := by decide +kernel
theorem dX9_objectClass_63 : decode cX9_objectClass 63 = .ok (.athrow, 1) := by decide +kernel
theorem dX9_objectClass_64 : decode cX9_objectClass 64 = .ok (.aload_n 0, 1) := by decide +kernel
theorem dX9_objectClass_65 : decode cX9_objectClass 65 = .ok (.getfield 12, 3) := by decide +kernel
theorem dX9_objectClass_68 : decode cX9_objectClass 68 = .ok (.iload_n 1, 1) := by decide +kernel
theorem dX9_objectClass_69 : decode cX9_objectClass 69 = .ok (.iload_n 2, 1) := by decide +kernel
theorem dX9_objectClass_70 : decode cX9_objectClass 70 = .ok (.iload_n 3, 1) := by decide +kernel
theorem dX9_objectClass_71 : decode cX9_objectClass 71 = .ok (.invokevirtual 100, 3) := by decide +kernel
theorem dX9_objectClass_74 : decode cX9_objectClass 74 = .ok (.ireturn, 1) := by decide +kernel
theorem dX9_serve_0 : decode cX9_serve 0 = .ok (.aload_n 0, 1) := by decide +kernel
theorem dX9_serve_1 : decode cX9_serve 1 = .ok (.iload_n 1, 1) := by decide +kernel
theorem dX9_serve_2 : decode cX9_serve 2 = .ok (.invokevirtual 104, 3) := by decide +kernel
theorem dX9_serve_5 : decode cX9_serve 5 = .ok (.astore_n 3, 1) := by decide +kernel
theorem dX9_serve_6 : decode cX9_serve 6 = .ok (.iload_n 2, 1) := by decide +kernel
theorem dX9_serve_7 : decode cX9_serve 7 = .ok (.invokestatic 108, 3) := by decide +kernel
theorem dX9_serve_10 : decode cX9_serve 10 = .ok (.aload_n 3, 1) := by decide +kernel
theorem dX9_serve_11 : decode cX9_serve 11 = .ok (.getfield 111, 3) := by decide +kernel
theorem dX9_serve_14 : decode cX9_serve 14 = .ok (.istore 4, 2) := by decide +kernel
theorem dX9_serve_16 : decode cX9_serve 16 = .ok (.aload_n 3, 1) := by decide +kernel
theorem dX9_serve_17 : decode cX9_serve 17 = .ok (.iload_n 2, 1) := by decide +kernel
theorem dX9_serve_18 : decode cX9_serve 18 = .ok (.putfield 111, 3) := by decide +kernel
theorem dX9_serve_21 : decode cX9_serve 21 = .ok (.iload 4, 2) := by decide +kernel
theorem dX9_serve_23 : decode cX9_serve 23 = .ok (.ireturn, 1) := by decide +kernel
theorem dX9_draft_0 : decode cX9_draft 0 = .ok (.aload_n 0, 1) := by decide +kernel
theorem dX9_draft_1 : decode cX9_draft 1 = .ok (.iload_n 1, 1) := by decide +kernel
theorem dX9_draft_2 : decode cX9_draft 2 = .ok (.invokevirtual 114, 3) := by decide +kernel
theorem dX9_draft_5 : decode cX9_draft 5 = .ok (.iload_n 2, 1) := by decide +kernel
theorem dX9_draft_6 : decode cX9_draft 6 = .ok (.invokestatic 117, 3) := by decide +kernel
theorem dX9_draft_9 : decode cX9_draft 9 = .ok (.aload_n 0, 1) := by decide +kernel
theorem dX9_draft_10 : decode cX9_draft 10 = .ok (.getfield 21, 3) := by decide +kernel
theorem dX9_draft_13 : decode cX9_draft 13 = .ok (.getfield 120, 3) := by decide +kernel
theorem dX9_draft_16 : decode cX9_draft 16 = .ok (.bipush 12, 2) := by decide +kernel
theorem dX9_draft_18 : decode cX9_draft 18 = .ok (.if_icmp .lt 13, 3) := by decide +kernel
theorem dX9_draft_21 : decode cX9_draft 21 = .ok (.new 71, 3) := by decide +kernel
theorem dX9_draft_24 : decode cX9_draft 24 = .ok (.dup, 1) := by decide +kernel
theorem dX9_draft_25 : decode cX9_draft 25 = .ok (.ldc 123, 2) := by decide +kernel
theorem dX9_draft_27 : decode cX9_draft 27 = .ok (.invokespecial 75, 3) := by decide +kernel
theorem dX9_draft_30 : decode cX9_draft 30 = .ok (.athrow, 1) := by decide +kernel
theorem dX9_draft_31 : decode cX9_draft 31 = .ok (.aload_n 0, 1) := by decide +kernel
theorem dX9_draft_32 : decode cX9_draft 32 = .ok (.getfield 21, 3) := by decide +kernel
theorem dX9_draft_35 : decode cX9_draft 35 = .ok (.iload_n 1, 1) := by decide +kernel
theorem dX9_draft_36 : decode cX9_draft 36 = .ok (.sipush 1000, 3) := by decide +kernel
theorem dX9_draft_39 : decode cX9_draft 39 = .ok (.imul, 1) := by decide +kernel
theorem dX9_draft_40 : decode cX9_draft 40 = .ok (.iload_n 2, 1) := by decide +kernel
theorem dX9_draft_41 : decode cX9_draft 41 = .ok (.iadd, 1) := by decide +kernel
theorem dX9_draft_42 : decode cX9_draft 42 = .ok (.invokevirtual 125, 3) := by decide +kernel
theorem dX9_draft_45 : decode cX9_draft 45 = .ok (.ireturn, 1) := by decide +kernel
theorem dX9_undraft_0 : decode cX9_undraft 0 = .ok (.aload_n 0, 1) := by decide +kernel
theorem dX9_undraft_1 : decode cX9_undraft 1 = .ok (.getfield 21, 3) := by decide +kernel
theorem dX9_undraft_4 : decode cX9_undraft 4 = .ok (.getfield 120, 3) := by decide +kernel
theorem dX9_undraft_7 : decode cX9_undraft 7 = .ok (.istore_n 1, 1) := by decide +kernel
theorem dX9_undraft_8 : decode cX9_undraft 8 = .ok (.aload_n 0, 1) := by decide +kernel
theorem dX9_undraft_9 : decode cX9_undraft 9 = .ok (.getfield 21, 3) := by decide +kernel
theorem dX9_undraft_12 : decode cX9_undraft 12 = .ok (.iconst 0, 1) := by decide +kernel
theorem dX9_undraft_13 : decode cX9_undraft 13 = .ok (.putfield 120, 3) := by decide +kernel
theorem dX9_undraft_16 : decode cX9_undraft 16 = .ok (.iload_n 1, 1) := by decide +kernel
theorem dX9_undraft_17 : decode cX9_undraft 17 = .ok (.ireturn, 1) := by decide +kernel
theorem dX9_add_0 : decode cX9_add 0 = .ok (.aload_n 0, 1) := by decide +kernel
theorem dX9_add_1 : decode cX9_add 1 = .ok (.iload_n 1, 1) := by decide +kernel
theorem dX9_add_2 : decode cX9_add 2 = .ok (.invokevirtual 104, 3) := by decide +kernel
theorem dX9_add_5 : decode cX9_add 5 = .ok (.astore 5, 2) := by decide +kernel
theorem dX9_add_7 : decode cX9_add 7 = .ok (.aload 5, 2) := by decide +kernel
theorem dX9_add_9 : decode cX9_add 9 = .ok (.iload_n 2, 1) := by decide +kernel
theorem dX9_add_10 : decode cX9_add 10 = .ok (.invokestatic 129, 3) := by decide +kernel
theorem dX9_add_13 : decode cX9_add 13 = .ok (.aload_n 0, 1) := by decide +kernel
theorem dX9_add_14 : decode cX9_add 14 = .ok (.iload_n 3, 1) := by decide +kernel
theorem dX9_add_15 : decode cX9_add 15 = .ok (.invokevirtual 82, 3) := by decide +kernel
theorem dX9_add_18 : decode cX9_add 18 = .ok (.iload 4, 2) := by decide +kernel
theorem dX9_add_20 : decode cX9_add 20 = .ok (.invokestatic 133, 3) := by decide +kernel
theorem dX9_add_23 : decode cX9_add 23 = .ok (.aload_n 0, 1) := by decide +kernel
theorem dX9_add_24 : decode cX9_add 24 = .ok (.invokevirtual 136, 3) := by decide +kernel
theorem dX9_add_27 : decode cX9_add 27 = .ok (.aload 5, 2) := by decide +kernel
theorem dX9_add_29 : decode cX9_add 29 = .ok (.iload_n 2, 1) := by decide +kernel
theorem dX9_add_30 : decode cX9_add 30 = .ok (.invokestatic 139, 3) := by decide +kernel
theorem dX9_add_33 : decode cX9_add 33 = .ok (.aload 5, 2) := by decide +kernel
theorem dX9_add_35 : decode cX9_add 35 = .ok (.iload_n 2, 1) := by decide +kernel
theorem dX9_add_36 : decode cX9_add 36 = .ok (.iload 4, 2) := by decide +kernel
theorem dX9_add_38 : decode cX9_add 38 = .ok (.iconst (-1), 1) := by decide +kernel
theorem dX9_add_39 : decode cX9_add 39 = .ok (.invokestatic 142, 3) := by decide +kernel
theorem dX9_add_42 : decode cX9_add 42 = .ok (.aload_n 0, 1) := by decide +kernel
theorem dX9_add_43 : decode cX9_add 43 = .ok (.getfield 61, 3) := by decide +kernel
theorem dX9_add_46 : decode cX9_add 46 = .ok (.bipush 48, 2) := by decide +kernel
theorem dX9_add_48 : decode cX9_add 48 = .ok (.if_icmp .ge 18, 3) := by decide +kernel
theorem dX9_add_51 : decode cX9_add 51 = .ok (.aload_n 0, 1) := by decide +kernel
theorem dX9_add_52 : decode cX9_add 52 = .ok (.getfield 21, 3) := by decide +kernel
theorem dX9_add_55 : decode cX9_add 55 = .ok (.iload_n 3, 1) := by decide +kernel
theorem dX9_add_56 : decode cX9_add 56 = .ok (.invokevirtual 146, 3) := by decide +kernel
theorem dX9_add_59 : decode cX9_add 59 = .ok (.ifCond .eq 7, 3) := by decide +kernel
theorem dX9_add_62 : decode cX9_add 62 = .ok (.iconst 1, 1) := by decide +kernel
theorem dX9_add_63 : decode cX9_add 63 = .ok (.goto 4, 3) := by decide +kernel
theorem dX9_add_66 : decode cX9_add 66 = .ok (.iconst 0, 1) := by decide +kernel
theorem dX9_add_67 : decode cX9_add 67 = .ok (.invokestatic 149, 3) := by decide +kernel
theorem dX9_add_70 : decode cX9_add 70 = .ok (.new 153, 3) := by decide +kernel
theorem dX9_add_73 : decode cX9_add 73 = .ok (.dup, 1) := by decide +kernel
theorem dX9_add_74 : decode cX9_add 74 = .ok (.iconst 0, 1) := by decide +kernel
theorem dX9_add_75 : decode cX9_add 75 = .ok (.aload_n 0, 1) := by decide +kernel
theorem dX9_add_76 : decode cX9_add 76 = .ok (.getfield 61, 3) := by decide +kernel
theorem dX9_add_79 : decode cX9_add 79 = .ok (.iload_n 2, 1) := by decide +kernel
theorem dX9_add_80 : decode cX9_add 80 = .ok (.iload_n 3, 1) := by decide +kernel
theorem dX9_add_81 : decode cX9_add 81 = .ok (.iload 4, 2) := by decide +kernel
theorem dX9_add_83 : decode cX9_add 83 = .ok (.invokespecial 155, 3) := by decide +kernel
theorem dX9_add_86 : decode cX9_add 86 = .ok (.astore 6, 2) := by decide +kernel
theorem dX9_add_88 : decode cX9_add 88 = .ok (.aload 6, 2) := by decide +kernel
theorem dX9_add_90 : decode cX9_add 90 = .ok (.aload_n 0, 1) := by decide +kernel
theorem dX9_add_91 : decode cX9_add 91 = .ok (.getfield 21, 3) := by decide +kernel
theorem dX9_add_94 : decode cX9_add 94 = .ok (.invokevirtual 158, 3) := by decide +kernel
theorem dX9_add_97 : decode cX9_add 97 = .ok (.putfield 162, 3) := by decide +kernel
theorem dX9_add_100 : decode cX9_add 100 = .ok (.aload_n 0, 1) := by decide +kernel
theorem dX9_add_101 : decode cX9_add 101 = .ok (.aload 5, 2) := by decide +kernel
theorem dX9_add_103 : decode cX9_add 103 = .ok (.aload 6, 2) := by decide +kernel
theorem dX9_add_105 : decode cX9_add 105 = .ok (.invokevirtual 166, 3) := by decide +kernel
theorem dX9_add_108 : decode cX9_add 108 = .ok (.aload_n 0, 1) := by decide +kernel
theorem dX9_add_109 : decode cX9_add 109 = .ok (.dup, 1) := by decide +kernel
theorem dX9_add_110 : decode cX9_add 110 = .ok (.getfield 61, 3) := by decide +kernel
theorem dX9_add_113 : decode cX9_add 113 = .ok (.iconst 1, 1) := by decide +kernel
theorem dX9_add_114 : decode cX9_add 114 = .ok (.iadd, 1) := by decide +kernel
theorem dX9_add_115 : decode cX9_add 115 = .ok (.putfield 61, 3) := by decide +kernel
theorem dX9_add_118 : decode cX9_add 118 = .ok (.aload 6, 2) := by decide +kernel
theorem dX9_add_120 : decode cX9_add 120 = .ok (.getfield 170, 3) := by decide +kernel
theorem dX9_add_123 : decode cX9_add 123 = .ok (.ireturn, 1) := by decide +kernel
theorem dX9_addValue_0 : decode cX9_addValue 0 = .ok (.aload_n 0, 1) := by decide +kernel
theorem dX9_addValue_1 : decode cX9_addValue 1 = .ok (.iload_n 1, 1) := by decide +kernel
theorem dX9_addValue_2 : decode cX9_addValue 2 = .ok (.invokevirtual 104, 3) := by decide +kernel
theorem dX9_addValue_5 : decode cX9_addValue 5 = .ok (.astore 5, 2) := by decide +kernel
theorem dX9_addValue_7 : decode cX9_addValue 7 = .ok (.aload 5, 2) := by decide +kernel
theorem dX9_addValue_9 : decode cX9_addValue 9 = .ok (.iload_n 2, 1) := by decide +kernel
theorem dX9_addValue_10 : decode cX9_addValue 10 = .ok (.invokestatic 173, 3) := by decide +kernel
theorem dX9_addValue_13 : decode cX9_addValue 13 = .ok (.aload_n 0, 1) := by decide +kernel
theorem dX9_addValue_14 : decode cX9_addValue 14 = .ok (.iload_n 3, 1) := by decide +kernel
theorem dX9_addValue_15 : decode cX9_addValue 15 = .ok (.invokevirtual 114, 3) := by decide +kernel
theorem dX9_addValue_18 : decode cX9_addValue 18 = .ok (.iload 4, 2) := by decide +kernel
theorem dX9_addValue_20 : decode cX9_addValue 20 = .ok (.invokestatic 117, 3) := by decide +kernel
theorem dX9_addValue_23 : decode cX9_addValue 23 = .ok (.aload_n 0, 1) := by decide +kernel
theorem dX9_addValue_24 : decode cX9_addValue 24 = .ok (.invokevirtual 136, 3) := by decide +kernel
theorem dX9_addValue_27 : decode cX9_addValue 27 = .ok (.aload 5, 2) := by decide +kernel
theorem dX9_addValue_29 : decode cX9_addValue 29 = .ok (.iload_n 2, 1) := by decide +kernel
theorem dX9_addValue_30 : decode cX9_addValue 30 = .ok (.invokestatic 139, 3) := by decide +kernel
theorem dX9_addValue_33 : decode cX9_addValue 33 = .ok (.aload 5, 2) := by decide +kernel
theorem dX9_addValue_35 : decode cX9_addValue 35 = .ok (.getfield 176, 3) := by decide +kernel
theorem dX9_addValue_38 : decode cX9_addValue 38 = .ok (.astore 6, 2) := by decide +kernel
theorem dX9_addValue_40 : decode cX9_addValue 40 = .ok (.aload_n 0, 1) := by decide +kernel
theorem dX9_addValue_41 : decode cX9_addValue 41 = .ok (.getfield 12, 3) := by decide +kernel
theorem dX9_addValue_44 : decode cX9_addValue 44 = .ok (.aload 6, 2) := by decide +kernel
theorem dX9_addValue_46 : decode cX9_addValue 46 = .ok (.getfield 179, 3) := by decide +kernel
theorem dX9_addValue_49 : decode cX9_addValue 49 = .ok (.iload_n 2, 1) := by decide +kernel
theorem dX9_addValue_50 : decode cX9_addValue 50 = .ok (.iaload, 1) := by decide +kernel
theorem dX9_addValue_51 : decode cX9_addValue 51 = .ok (.iload_n 3, 1) := by decide +kernel
theorem dX9_addValue_52 : decode cX9_addValue 52 = .ok (.invokevirtual 181, 3) := by decide +kernel
theorem dX9_addValue_55 : decode cX9_addValue 55 = .ok (.invokestatic 149, 3) := by decide +kernel
theorem dX9_addValue_58 : decode cX9_addValue 58 = .ok (.aload 6, 2) := by decide +kernel
theorem dX9_addValue_60 : decode cX9_addValue 60 = .ok (.iload_n 2, 1) := by decide +kernel
theorem dX9_addValue_61 : decode cX9_addValue 61 = .ok (.iload_n 3, 1) := by decide +kernel
theorem dX9_addValue_62 : decode cX9_addValue 62 = .ok (.iload 4, 2) := by decide +kernel
theorem dX9_addValue_64 : decode cX9_addValue 64 = .ok (.invokevirtual 185, 3) := by decide +kernel
theorem dX9_addValue_67 : decode cX9_addValue 67 = .ok (.ifCond .ne 7, 3) := by decide +kernel
theorem dX9_addValue_70 : decode cX9_addValue 70 = .ok (.iconst 1, 1) := by decide +kernel
theorem dX9_addValue_71 : decode cX9_addValue 71 = .ok (.goto 4, 3) := by decide +kernel
theorem dX9_addValue_74 : decode cX9_addValue 74 = .ok (.iconst 0, 1) := by decide +kernel
theorem dX9_addValue_75 : decode cX9_addValue 75 = .ok (.invokestatic 149, 3) := by decide +kernel
theorem dX9_addValue_78 : decode cX9_addValue 78 = .ok (.aload_n 0, 1) := by decide +kernel
theorem dX9_addValue_79 : decode cX9_addValue 79 = .ok (.getfield 12, 3) := by decide +kernel
theorem dX9_addValue_82 : decode cX9_addValue 82 = .ok (.iload_n 3, 1) := by decide +kernel
theorem dX9_addValue_83 : decode cX9_addValue 83 = .ok (.invokevirtual 188, 3) := by decide +kernel
theorem dX9_addValue_86 : decode cX9_addValue 86 = .ok (.ifCond .eq 13, 3) := by decide +kernel
theorem dX9_addValue_89 : decode cX9_addValue 89 = .ok (.aload 6, 2) := by decide +kernel
theorem dX9_addValue_91 : decode cX9_addValue 91 = .ok (.iload_n 2, 1) := by decide +kernel
theorem dX9_addValue_92 : decode cX9_addValue 92 = .ok (.iload_n 3, 1) := by decide +kernel
theorem dX9_addValue_93 : decode cX9_addValue 93 = .ok (.invokevirtual 191, 3) := by decide +kernel
theorem dX9_addValue_96 : decode cX9_addValue 96 = .ok (.ifCond .ne 7, 3) := by decide +kernel
theorem dX9_addValue_99 : decode cX9_addValue 99 = .ok (.iconst 1, 1) := by decide +kernel
theorem dX9_addValue_100 : decode cX9_addValue 100 = .ok (.goto 4, 3) := by decide +kernel
theorem dX9_addValue_103 : decode cX9_addValue 103 = .ok (.iconst 0, 1) := by decide +kernel
theorem dX9_addValue_104 : decode cX9_addValue 104 = .ok (.invokestatic 149, 3) := by decide +kernel
theorem dX9_addValue_107 : decode cX9_addValue 107 = .ok (.aload_n 0, 1) := by decide +kernel
theorem dX9_addValue_108 : decode cX9_addValue 108 = .ok (.aload 5, 2) := by decide +kernel
theorem dX9_addValue_110 : decode cX9_addValue 110 = .ok (.new 153, 3) := by decide +kernel
theorem dX9_addValue_113 : decode cX9_addValue 113 = .ok (.dup, 1) := by decide +kernel
theorem dX9_addValue_114 : decode cX9_addValue 114 = .ok (.iconst 1, 1) := by decide +kernel
theorem dX9_addValue_115 : decode cX9_addValue 115 = .ok (.iload_n 2, 1) := by decide +kernel
theorem dX9_addValue_116 : decode cX9_addValue 116 = .ok (.iload_n 3, 1) := by decide +kernel
theorem dX9_addValue_117 : decode cX9_addValue 117 = .ok (.iload 4, 2) := by decide +kernel
theorem dX9_addValue_119 : decode cX9_addValue 119 = .ok (.iconst (-1), 1) := by decide +kernel
theorem dX9_addValue_120 : decode cX9_addValue 120 = .ok (.invokespecial 155, 3) := by decide +kernel
theorem dX9_addValue_123 : decode cX9_addValue 123 = .ok (.invokevirtual 166, 3) := by decide +kernel
theorem dX9_addValue_126 : decode cX9_addValue 126 = .ok (.aload 6, 2) := by decide +kernel
theorem dX9_addValue_128 : decode cX9_addValue 128 = .ok (.iload_n 2, 1) := by decide +kernel
theorem dX9_addValue_129 : decode cX9_addValue 129 = .ok (.iload_n 3, 1) := by decide +kernel
theorem dX9_addValue_130 : decode cX9_addValue 130 = .ok (.invokevirtual 191, 3) := by decide +kernel
theorem dX9_addValue_133 : decode cX9_addValue 133 = .ok (.ireturn, 1) := by decide +kernel
theorem dX9_removeValue_0 : decode cX9_removeValue 0 = .ok (.aload_n 0, 1) := by decide +kernel
theorem dX9_removeValue_1 : decode cX9_removeValue 1 = .ok (.iload_n 1, 1) := by decide +kernel
theorem dX9_removeValue_2 : decode cX9_removeValue 2 = .ok (.invokevirtual 104, 3) := by decide +kernel
theorem dX9_removeValue_5 : decode cX9_removeValue 5 = .ok (.astore 5, 2) := by decide +kernel
theorem dX9_removeValue_7 : decode cX9_removeValue 7 = .ok (.aload 5, 2) := by decide +kernel
theorem dX9_removeValue_9 : decode cX9_removeValue 9 = .ok (.iload_n 2, 1) := by decide +kernel
theorem dX9_removeValue_10 : decode cX9_removeValue 10 = .ok (.invokestatic 173, 3) := by decide +kernel
theorem dX9_removeValue_13 : decode cX9_removeValue 13 = .ok (.aload_n 0, 1) := by decide +kernel
theorem dX9_removeValue_14 : decode cX9_removeValue 14 = .ok (.iload_n 3, 1) := by decide +kernel
theorem dX9_removeValue_15 : decode cX9_removeValue 15 = .ok (.invokevirtual 114, 3) := by decide +kernel
theorem dX9_removeValue_18 : decode cX9_removeValue 18 = .ok (.iload 4, 2) := by decide +kernel
theorem dX9_removeValue_20 : decode cX9_removeValue 20 = .ok (.invokestatic 117, 3) := by decide +kernel
theorem dX9_removeValue_23 : decode cX9_removeValue 23 = .ok (.aload_n 0, 1) := by decide +kernel
theorem dX9_removeValue_24 : decode cX9_removeValue 24 = .ok (.invokevirtual 136, 3) := by decide +kernel
theorem dX9_removeValue_27 : decode cX9_removeValue 27 = .ok (.aload 5, 2) := by decide +kernel
theorem dX9_removeValue_29 : decode cX9_removeValue 29 = .ok (.iload_n 2, 1) := by decide +kernel
theorem dX9_removeValue_30 : decode cX9_removeValue 30 = .ok (.invokestatic 139, 3) := by decide +kernel
theorem dX9_removeValue_33 : decode cX9_removeValue 33 = .ok (.aload 5, 2) := by decide +kernel
theorem dX9_removeValue_35 : decode cX9_removeValue 35 = .ok (.getfield 176, 3) := by decide +kernel
theorem dX9_removeValue_38 : decode cX9_removeValue 38 = .ok (.astore 6, 2) := by decide +kernel
theorem dX9_removeValue_40 : decode cX9_removeValue 40 = .ok (.aload 6, 2) := by decide +kernel
theorem dX9_removeValue_42 : decode cX9_removeValue 42 = .ok (.iload_n 2, 1) := by decide +kernel
theorem dX9_removeValue_43 : decode cX9_removeValue 43 = .ok (.iload_n 3, 1) := by decide +kernel
theorem dX9_removeValue_44 : decode cX9_removeValue 44 = .ok (.iload 4, 2) := by decide +kernel
theorem dX9_removeValue_46 : decode cX9_removeValue 46 = .ok (.invokevirtual 185, 3) := by decide +kernel
theorem dX9_removeValue_49 : decode cX9_removeValue 49 = .ok (.istore 7, 2) := by decide +kernel
theorem dX9_removeValue_51 : decode cX9_removeValue 51 = .ok (.iload 7, 2) := by decide +kernel
theorem dX9_removeValue_53 : decode cX9_removeValue 53 = .ok (.ifCond .le 7, 3) := by decide +kernel
theorem dX9_removeValue_56 : decode cX9_removeValue 56 = .ok (.iconst 1, 1) := by decide +kernel
theorem dX9_removeValue_57 : decode cX9_removeValue 57 = .ok (.goto 4, 3) := by decide +kernel
theorem dX9_removeValue_60 : decode cX9_removeValue 60 = .ok (.iconst 0, 1) := by decide +kernel
theorem dX9_removeValue_61 : decode cX9_removeValue 61 = .ok (.invokestatic 149, 3) := by decide +kernel
theorem dX9_removeValue_64 : decode cX9_removeValue 64 = .ok (.aload_n 0, 1) := by decide +kernel
theorem dX9_removeValue_65 : decode cX9_removeValue 65 = .ok (.getfield 12, 3) := by decide +kernel
theorem dX9_removeValue_68 : decode cX9_removeValue 68 = .ok (.aload 6, 2) := by decide +kernel
theorem dX9_removeValue_70 : decode cX9_removeValue 70 = .ok (.getfield 179, 3) := by decide +kernel
theorem dX9_removeValue_73 : decode cX9_removeValue 73 = .ok (.iload_n 2, 1) := by decide +kernel
theorem dX9_removeValue_74 : decode cX9_removeValue 74 = .ok (.iaload, 1) := by decide +kernel
theorem dX9_removeValue_75 : decode cX9_removeValue 75 = .ok (.iload_n 3, 1) := by decide +kernel
theorem dX9_removeValue_76 : decode cX9_removeValue 76 = .ok (.invokevirtual 195, 3) := by decide +kernel
theorem dX9_removeValue_79 : decode cX9_removeValue 79 = .ok (.ifCond .eq 15, 3) := by decide +kernel
theorem dX9_removeValue_82 : decode cX9_removeValue 82 = .ok (.aload 6, 2) := by decide +kernel
theorem dX9_removeValue_84 : decode cX9_removeValue 84 = .ok (.iload_n 2, 1) := by decide +kernel
theorem dX9_removeValue_85 : decode cX9_removeValue 85 = .ok (.iload_n 3, 1) := by decide +kernel
theorem dX9_removeValue_86 : decode cX9_removeValue 86 = .ok (.invokevirtual 191, 3) := by decide +kernel
theorem dX9_removeValue_89 : decode cX9_removeValue 89 = .ok (.iload 7, 2) := by decide +kernel
theorem dX9_removeValue_91 : decode cX9_removeValue 91 = .ok (.if_icmp .le 7, 3) := by decide +kernel
theorem dX9_removeValue_94 : decode cX9_removeValue 94 = .ok (.iconst 1, 1) := by decide +kernel
theorem dX9_removeValue_95 : decode cX9_removeValue 95 = .ok (.goto 4, 3) := by decide +kernel
theorem dX9_removeValue_98 : decode cX9_removeValue 98 = .ok (.iconst 0, 1) := by decide +kernel
theorem dX9_removeValue_99 : decode cX9_removeValue 99 = .ok (.invokestatic 149, 3) := by decide +kernel
theorem dX9_removeValue_102 : decode cX9_removeValue 102 = .ok (.aload_n 0, 1) := by decide +kernel
theorem dX9_removeValue_103 : decode cX9_removeValue 103 = .ok (.aload 5, 2) := by decide +kernel
theorem dX9_removeValue_105 : decode cX9_removeValue 105 = .ok (.new 153, 3) := by decide +kernel
theorem dX9_removeValue_108 : decode cX9_removeValue 108 = .ok (.dup, 1) := by decide +kernel
theorem dX9_removeValue_109 : decode cX9_removeValue 109 = .ok (.iconst 2, 1) := by decide +kernel
theorem dX9_removeValue_110 : decode cX9_removeValue 110 = .ok (.iload_n 2, 1) := by decide +kernel
theorem dX9_removeValue_111 : decode cX9_removeValue 111 = .ok (.iload_n 3, 1) := by decide +kernel
theorem dX9_removeValue_112 : decode cX9_removeValue 112 = .ok (.iload 4, 2) := by decide +kernel
theorem dX9_removeValue_114 : decode cX9_removeValue 114 = .ok (.iconst (-1), 1) := by decide +kernel
theorem dX9_removeValue_115 : decode cX9_removeValue 115 = .ok (.invokespecial 155, 3) := by decide +kernel
theorem dX9_removeValue_118 : decode cX9_removeValue 118 = .ok (.invokevirtual 166, 3) := by decide +kernel
theorem dX9_removeValue_121 : decode cX9_removeValue 121 = .ok (.aload 6, 2) := by decide +kernel
theorem dX9_removeValue_123 : decode cX9_removeValue 123 = .ok (.iload_n 2, 1) := by decide +kernel
theorem dX9_removeValue_124 : decode cX9_removeValue 124 = .ok (.iload_n 3, 1) := by decide +kernel
theorem dX9_removeValue_125 : decode cX9_removeValue 125 = .ok (.invokevirtual 191, 3) := by decide +kernel
theorem dX9_removeValue_128 : decode cX9_removeValue 128 = .ok (.ireturn, 1) := by decide +kernel
theorem dX9_replace_0 : decode cX9_replace 0 = .ok (.aload_n 0, 1) := by decide +kernel
theorem dX9_replace_1 : decode cX9_replace 1 = .ok (.iload_n 1, 1) := by decide +kernel
theorem dX9_replace_2 : decode cX9_replace 2 = .ok (.invokevirtual 104, 3) := by decide +kernel
theorem dX9_replace_5 : decode cX9_replace 5 = .ok (.astore 5, 2) := by decide +kernel
theorem dX9_replace_7 : decode cX9_replace 7 = .ok (.aload 5, 2) := by decide +kernel
theorem dX9_replace_9 : decode cX9_replace 9 = .ok (.iload_n 2, 1) := by decide +kernel
theorem dX9_replace_10 : decode cX9_replace 10 = .ok (.invokestatic 173, 3) := by decide +kernel
theorem dX9_replace_13 : decode cX9_replace 13 = .ok (.aload_n 0, 1) := by decide +kernel
theorem dX9_replace_14 : decode cX9_replace 14 = .ok (.iload_n 3, 1) := by decide +kernel
theorem dX9_replace_15 : decode cX9_replace 15 = .ok (.invokevirtual 114, 3) := by decide +kernel
theorem dX9_replace_18 : decode cX9_replace 18 = .ok (.iload 4, 2) := by decide +kernel
theorem dX9_replace_20 : decode cX9_replace 20 = .ok (.invokestatic 117, 3) := by decide +kernel
theorem dX9_replace_23 : decode cX9_replace 23 = .ok (.aload_n 0, 1) := by decide +kernel
theorem dX9_replace_24 : decode cX9_replace 24 = .ok (.invokevirtual 136, 3) := by decide +kernel
theorem dX9_replace_27 : decode cX9_replace 27 = .ok (.aload 5, 2) := by decide +kernel
theorem dX9_replace_29 : decode cX9_replace 29 = .ok (.iload_n 2, 1) := by decide +kernel
theorem dX9_replace_30 : decode cX9_replace 30 = .ok (.invokestatic 139, 3) := by decide +kernel
theorem dX9_replace_33 : decode cX9_replace 33 = .ok (.aload_n 0, 1) := by decide +kernel
theorem dX9_replace_34 : decode cX9_replace 34 = .ok (.getfield 12, 3) := by decide +kernel
theorem dX9_replace_37 : decode cX9_replace 37 = .ok (.aload 5, 2) := by decide +kernel
theorem dX9_replace_39 : decode cX9_replace 39 = .ok (.getfield 176, 3) := by decide +kernel
theorem dX9_replace_42 : decode cX9_replace 42 = .ok (.getfield 179, 3) := by decide +kernel
theorem dX9_replace_45 : decode cX9_replace 45 = .ok (.iload_n 2, 1) := by decide +kernel
theorem dX9_replace_46 : decode cX9_replace 46 = .ok (.iaload, 1) := by decide +kernel
theorem dX9_replace_47 : decode cX9_replace 47 = .ok (.iload_n 3, 1) := by decide +kernel
theorem dX9_replace_48 : decode cX9_replace 48 = .ok (.invokevirtual 181, 3) := by decide +kernel
theorem dX9_replace_51 : decode cX9_replace 51 = .ok (.invokestatic 149, 3) := by decide +kernel
theorem dX9_replace_54 : decode cX9_replace 54 = .ok (.aload 5, 2) := by decide +kernel
theorem dX9_replace_56 : decode cX9_replace 56 = .ok (.getfield 176, 3) := by decide +kernel
theorem dX9_replace_59 : decode cX9_replace 59 = .ok (.iload_n 2, 1) := by decide +kernel
theorem dX9_replace_60 : decode cX9_replace 60 = .ok (.iload_n 3, 1) := by decide +kernel
theorem dX9_replace_61 : decode cX9_replace 61 = .ok (.invokevirtual 191, 3) := by decide +kernel
theorem dX9_replace_64 : decode cX9_replace 64 = .ok (.istore 6, 2) := by decide +kernel
theorem dX9_replace_66 : decode cX9_replace 66 = .ok (.aload_n 0, 1) := by decide +kernel
theorem dX9_replace_67 : decode cX9_replace 67 = .ok (.aload 5, 2) := by decide +kernel
theorem dX9_replace_69 : decode cX9_replace 69 = .ok (.new 153, 3) := by decide +kernel
theorem dX9_replace_72 : decode cX9_replace 72 = .ok (.dup, 1) := by decide +kernel
theorem dX9_replace_73 : decode cX9_replace 73 = .ok (.iconst 3, 1) := by decide +kernel
theorem dX9_replace_74 : decode cX9_replace 74 = .ok (.iload_n 2, 1) := by decide +kernel
theorem dX9_replace_75 : decode cX9_replace 75 = .ok (.iload_n 3, 1) := by decide +kernel
theorem dX9_replace_76 : decode cX9_replace 76 = .ok (.iload 4, 2) := by decide +kernel
theorem dX9_replace_78 : decode cX9_replace 78 = .ok (.iconst (-1), 1) := by decide +kernel
theorem dX9_replace_79 : decode cX9_replace 79 = .ok (.invokespecial 155, 3) := by decide +kernel
theorem dX9_replace_82 : decode cX9_replace 82 = .ok (.invokevirtual 166, 3) := by decide +kernel
theorem dX9_replace_85 : decode cX9_replace 85 = .ok (.iload 6, 2) := by decide +kernel
theorem dX9_replace_87 : decode cX9_replace 87 = .ok (.ireturn, 1) := by decide +kernel
theorem dX9_rename_0 : decode cX9_rename 0 = .ok (.aload_n 0, 1) := by decide +kernel
theorem dX9_rename_1 : decode cX9_rename 1 = .ok (.iload_n 1, 1) := by decide +kernel
theorem dX9_rename_2 : decode cX9_rename 2 = .ok (.invokevirtual 104, 3) := by decide +kernel
theorem dX9_rename_5 : decode cX9_rename 5 = .ok (.astore 4, 2) := by decide +kernel
theorem dX9_rename_7 : decode cX9_rename 7 = .ok (.aload 4, 2) := by decide +kernel
theorem dX9_rename_9 : decode cX9_rename 9 = .ok (.iload_n 2, 1) := by decide +kernel
theorem dX9_rename_10 : decode cX9_rename 10 = .ok (.invokestatic 173, 3) := by decide +kernel
theorem dX9_rename_13 : decode cX9_rename 13 = .ok (.iload_n 3, 1) := by decide +kernel
theorem dX9_rename_14 : decode cX9_rename 14 = .ok (.invokestatic 133, 3) := by decide +kernel
theorem dX9_rename_17 : decode cX9_rename 17 = .ok (.aload_n 0, 1) := by decide +kernel
theorem dX9_rename_18 : decode cX9_rename 18 = .ok (.invokevirtual 136, 3) := by decide +kernel
theorem dX9_rename_21 : decode cX9_rename 21 = .ok (.aload 4, 2) := by decide +kernel
theorem dX9_rename_23 : decode cX9_rename 23 = .ok (.iload_n 2, 1) := by decide +kernel
theorem dX9_rename_24 : decode cX9_rename 24 = .ok (.invokestatic 139, 3) := by decide +kernel
theorem dX9_rename_27 : decode cX9_rename 27 = .ok (.aload 4, 2) := by decide +kernel
theorem dX9_rename_29 : decode cX9_rename 29 = .ok (.aload 4, 2) := by decide +kernel
theorem dX9_rename_31 : decode cX9_rename 31 = .ok (.getfield 176, 3) := by decide +kernel
theorem dX9_rename_34 : decode cX9_rename 34 = .ok (.iload_n 2, 1) := by decide +kernel
theorem dX9_rename_35 : decode cX9_rename 35 = .ok (.invokevirtual 198, 3) := by decide +kernel
theorem dX9_rename_38 : decode cX9_rename 38 = .ok (.iload_n 3, 1) := by decide +kernel
theorem dX9_rename_39 : decode cX9_rename 39 = .ok (.iload_n 2, 1) := by decide +kernel
theorem dX9_rename_40 : decode cX9_rename 40 = .ok (.invokestatic 142, 3) := by decide +kernel
theorem dX9_rename_43 : decode cX9_rename 43 = .ok (.aload 4, 2) := by decide +kernel
theorem dX9_rename_45 : decode cX9_rename 45 = .ok (.getfield 176, 3) := by decide +kernel
theorem dX9_rename_48 : decode cX9_rename 48 = .ok (.iload_n 2, 1) := by decide +kernel
theorem dX9_rename_49 : decode cX9_rename 49 = .ok (.invokevirtual 201, 3) := by decide +kernel
theorem dX9_rename_52 : decode cX9_rename 52 = .ok (.istore 5, 2) := by decide +kernel
theorem dX9_rename_54 : decode cX9_rename 54 = .ok (.aload_n 0, 1) := by decide +kernel
theorem dX9_rename_55 : decode cX9_rename 55 = .ok (.aload 4, 2) := by decide +kernel
theorem dX9_rename_57 : decode cX9_rename 57 = .ok (.new 153, 3) := by decide +kernel
theorem dX9_rename_60 : decode cX9_rename 60 = .ok (.dup, 1) := by decide +kernel
theorem dX9_rename_61 : decode cX9_rename 61 = .ok (.iconst 4, 1) := by decide +kernel
theorem dX9_rename_62 : decode cX9_rename 62 = .ok (.iload_n 2, 1) := by decide +kernel
theorem dX9_rename_63 : decode cX9_rename 63 = .ok (.iload_n 3, 1) := by decide +kernel
theorem dX9_rename_64 : decode cX9_rename 64 = .ok (.iconst (-1), 1) := by decide +kernel
theorem dX9_rename_65 : decode cX9_rename 65 = .ok (.iconst (-1), 1) := by decide +kernel
theorem dX9_rename_66 : decode cX9_rename 66 = .ok (.invokespecial 155, 3) := by decide +kernel
theorem dX9_rename_69 : decode cX9_rename 69 = .ok (.invokevirtual 166, 3) := by decide +kernel
theorem dX9_rename_72 : decode cX9_rename 72 = .ok (.iload 5, 2) := by decide +kernel
theorem dX9_rename_74 : decode cX9_rename 74 = .ok (.ireturn, 1) := by decide +kernel
theorem dX9_move_0 : decode cX9_move 0 = .ok (.aload_n 0, 1) := by decide +kernel
theorem dX9_move_1 : decode cX9_move 1 = .ok (.iload_n 1, 1) := by decide +kernel
theorem dX9_move_2 : decode cX9_move 2 = .ok (.invokevirtual 104, 3) := by decide +kernel
theorem dX9_move_5 : decode cX9_move 5 = .ok (.astore 4, 2) := by decide +kernel
theorem dX9_move_7 : decode cX9_move 7 = .ok (.aload 4, 2) := by decide +kernel
theorem dX9_move_9 : decode cX9_move 9 = .ok (.iload_n 2, 1) := by decide +kernel
theorem dX9_move_10 : decode cX9_move 10 = .ok (.invokestatic 173, 3) := by decide +kernel
theorem dX9_move_13 : decode cX9_move 13 = .ok (.aload 4, 2) := by decide +kernel
theorem dX9_move_15 : decode cX9_move 15 = .ok (.iload_n 3, 1) := by decide +kernel
theorem dX9_move_16 : decode cX9_move 16 = .ok (.invokestatic 129, 3) := by decide +kernel
theorem dX9_move_19 : decode cX9_move 19 = .ok (.aload_n 0, 1) := by decide +kernel
theorem dX9_move_20 : decode cX9_move 20 = .ok (.invokevirtual 136, 3) := by decide +kernel
theorem dX9_move_23 : decode cX9_move 23 = .ok (.aload 4, 2) := by decide +kernel
theorem dX9_move_25 : decode cX9_move 25 = .ok (.iload_n 2, 1) := by decide +kernel
theorem dX9_move_26 : decode cX9_move 26 = .ok (.invokestatic 139, 3) := by decide +kernel
theorem dX9_move_29 : decode cX9_move 29 = .ok (.aload 4, 2) := by decide +kernel
theorem dX9_move_31 : decode cX9_move 31 = .ok (.iload_n 3, 1) := by decide +kernel
theorem dX9_move_32 : decode cX9_move 32 = .ok (.invokestatic 139, 3) := by decide +kernel
theorem dX9_move_35 : decode cX9_move 35 = .ok (.aload 4, 2) := by decide +kernel
theorem dX9_move_37 : decode cX9_move 37 = .ok (.getfield 176, 3) := by decide +kernel
theorem dX9_move_40 : decode cX9_move 40 = .ok (.iload_n 3, 1) := by decide +kernel
theorem dX9_move_41 : decode cX9_move 41 = .ok (.iload_n 2, 1) := by decide +kernel
theorem dX9_move_42 : decode cX9_move 42 = .ok (.invokevirtual 204, 3) := by decide +kernel
theorem dX9_move_45 : decode cX9_move 45 = .ok (.ifCond .ne 7, 3) := by decide +kernel
theorem dX9_move_48 : decode cX9_move 48 = .ok (.iconst 1, 1) := by decide +kernel
theorem dX9_move_49 : decode cX9_move 49 = .ok (.goto 4, 3) := by decide +kernel
theorem dX9_move_52 : decode cX9_move 52 = .ok (.iconst 0, 1) := by decide +kernel
theorem dX9_move_53 : decode cX9_move 53 = .ok (.invokestatic 149, 3) := by decide +kernel
theorem dX9_move_56 : decode cX9_move 56 = .ok (.aload 4, 2) := by decide +kernel
theorem dX9_move_58 : decode cX9_move 58 = .ok (.iload_n 3, 1) := by decide +kernel
theorem dX9_move_59 : decode cX9_move 59 = .ok (.aload 4, 2) := by decide +kernel
theorem dX9_move_61 : decode cX9_move 61 = .ok (.getfield 176, 3) := by decide +kernel
theorem dX9_move_64 : decode cX9_move 64 = .ok (.getfield 207, 3) := by decide +kernel
theorem dX9_move_67 : decode cX9_move 67 = .ok (.iload_n 2, 1) := by decide +kernel
theorem dX9_move_68 : decode cX9_move 68 = .ok (.iaload, 1) := by decide +kernel
theorem dX9_move_69 : decode cX9_move 69 = .ok (.iload_n 2, 1) := by decide +kernel
theorem dX9_move_70 : decode cX9_move 70 = .ok (.invokestatic 142, 3) := by decide +kernel
theorem dX9_move_73 : decode cX9_move 73 = .ok (.aload 4, 2) := by decide +kernel
theorem dX9_move_75 : decode cX9_move 75 = .ok (.getfield 176, 3) := by decide +kernel
theorem dX9_move_78 : decode cX9_move 78 = .ok (.iload_n 2, 1) := by decide +kernel
theorem dX9_move_79 : decode cX9_move 79 = .ok (.invokevirtual 198, 3) := by decide +kernel
theorem dX9_move_82 : decode cX9_move 82 = .ok (.istore 5, 2) := by decide +kernel
theorem dX9_move_84 : decode cX9_move 84 = .ok (.aload_n 0, 1) := by decide +kernel
theorem dX9_move_85 : decode cX9_move 85 = .ok (.aload 4, 2) := by decide +kernel
theorem dX9_move_87 : decode cX9_move 87 = .ok (.new 153, 3) := by decide +kernel
theorem dX9_move_90 : decode cX9_move 90 = .ok (.dup, 1) := by decide +kernel
theorem dX9_move_91 : decode cX9_move 91 = .ok (.bipush 7, 2) := by decide +kernel
theorem dX9_move_93 : decode cX9_move 93 = .ok (.iload_n 2, 1) := by decide +kernel
theorem dX9_move_94 : decode cX9_move 94 = .ok (.iload_n 3, 1) := by decide +kernel
theorem dX9_move_95 : decode cX9_move 95 = .ok (.iconst (-1), 1) := by decide +kernel
theorem dX9_move_96 : decode cX9_move 96 = .ok (.iconst (-1), 1) := by decide +kernel
theorem dX9_move_97 : decode cX9_move 97 = .ok (.invokespecial 155, 3) := by decide +kernel
theorem dX9_move_100 : decode cX9_move 100 = .ok (.invokevirtual 166, 3) := by decide +kernel
theorem dX9_move_103 : decode cX9_move 103 = .ok (.iload 5, 2) := by decide +kernel
theorem dX9_move_105 : decode cX9_move 105 = .ok (.ireturn, 1) := by decide +kernel
theorem dX9_delete_0 : decode cX9_delete 0 = .ok (.aload_n 0, 1) := by decide +kernel
theorem dX9_delete_1 : decode cX9_delete 1 = .ok (.iload_n 1, 1) := by decide +kernel
theorem dX9_delete_2 : decode cX9_delete 2 = .ok (.invokevirtual 104, 3) := by decide +kernel
theorem dX9_delete_5 : decode cX9_delete 5 = .ok (.astore_n 3, 1) := by decide +kernel
theorem dX9_delete_6 : decode cX9_delete 6 = .ok (.aload_n 3, 1) := by decide +kernel
theorem dX9_delete_7 : decode cX9_delete 7 = .ok (.iload_n 2, 1) := by decide +kernel
theorem dX9_delete_8 : decode cX9_delete 8 = .ok (.invokestatic 173, 3) := by decide +kernel
theorem dX9_delete_11 : decode cX9_delete 11 = .ok (.aload_n 0, 1) := by decide +kernel
theorem dX9_delete_12 : decode cX9_delete 12 = .ok (.invokevirtual 136, 3) := by decide +kernel
theorem dX9_delete_15 : decode cX9_delete 15 = .ok (.aload_n 3, 1) := by decide +kernel
theorem dX9_delete_16 : decode cX9_delete 16 = .ok (.iload_n 2, 1) := by decide +kernel
theorem dX9_delete_17 : decode cX9_delete 17 = .ok (.invokestatic 139, 3) := by decide +kernel
theorem dX9_delete_20 : decode cX9_delete 20 = .ok (.aload_n 3, 1) := by decide +kernel
theorem dX9_delete_21 : decode cX9_delete 21 = .ok (.getfield 176, 3) := by decide +kernel
theorem dX9_delete_24 : decode cX9_delete 24 = .ok (.iload_n 2, 1) := by decide +kernel
theorem dX9_delete_25 : decode cX9_delete 25 = .ok (.invokevirtual 210, 3) := by decide +kernel
theorem dX9_delete_28 : decode cX9_delete 28 = .ok (.lconst 0, 1) := by decide +kernel
theorem dX9_delete_29 : decode cX9_delete 29 = .ok (.lcmp, 1) := by decide +kernel
theorem dX9_delete_30 : decode cX9_delete 30 = .ok (.ifCond .ne 7, 3) := by decide +kernel
theorem dX9_delete_33 : decode cX9_delete 33 = .ok (.iconst 1, 1) := by decide +kernel
theorem dX9_delete_34 : decode cX9_delete 34 = .ok (.goto 4, 3) := by decide +kernel
theorem dX9_delete_37 : decode cX9_delete 37 = .ok (.iconst 0, 1) := by decide +kernel
theorem dX9_delete_38 : decode cX9_delete 38 = .ok (.invokestatic 149, 3) := by decide +kernel
theorem dX9_delete_41 : decode cX9_delete 41 = .ok (.aload_n 0, 1) := by decide +kernel
theorem dX9_delete_42 : decode cX9_delete 42 = .ok (.aload_n 3, 1) := by decide +kernel
theorem dX9_delete_43 : decode cX9_delete 43 = .ok (.new 153, 3) := by decide +kernel
theorem dX9_delete_46 : decode cX9_delete 46 = .ok (.dup, 1) := by decide +kernel
theorem dX9_delete_47 : decode cX9_delete 47 = .ok (.bipush 8, 2) := by decide +kernel
theorem dX9_delete_49 : decode cX9_delete 49 = .ok (.iload_n 2, 1) := by decide +kernel
theorem dX9_delete_50 : decode cX9_delete 50 = .ok (.iconst (-1), 1) := by decide +kernel
theorem dX9_delete_51 : decode cX9_delete 51 = .ok (.iconst (-1), 1) := by decide +kernel
theorem dX9_delete_52 : decode cX9_delete 52 = .ok (.iconst (-1), 1) := by decide +kernel
theorem dX9_delete_53 : decode cX9_delete 53 = .ok (.invokespecial 155, 3) := by decide +kernel
theorem dX9_delete_56 : decode cX9_delete 56 = .ok (.invokevirtual 166, 3) := by decide +kernel
theorem dX9_delete_59 : decode cX9_delete 59 = .ok (.aload_n 3, 1) := by decide +kernel
theorem dX9_delete_60 : decode cX9_delete 60 = .ok (.invokevirtual 214, 3) := by decide +kernel
theorem dX9_delete_63 : decode cX9_delete 63 = .ok (.invokestatic 218, 3) := by decide +kernel
theorem dX9_delete_66 : decode cX9_delete 66 = .ok (.ireturn, 1) := by decide +kernel
theorem dX9_link_0 : decode cX9_link 0 = .ok (.aload_n 0, 1) := by decide +kernel
theorem dX9_link_1 : decode cX9_link 1 = .ok (.iload_n 1, 1) := by decide +kernel
theorem dX9_link_2 : decode cX9_link 2 = .ok (.invokevirtual 104, 3) := by decide +kernel
theorem dX9_link_5 : decode cX9_link 5 = .ok (.astore 4, 2) := by decide +kernel
theorem dX9_link_7 : decode cX9_link 7 = .ok (.aload 4, 2) := by decide +kernel
theorem dX9_link_9 : decode cX9_link 9 = .ok (.iload_n 2, 1) := by decide +kernel
theorem dX9_link_10 : decode cX9_link 10 = .ok (.invokestatic 173, 3) := by decide +kernel
theorem dX9_link_13 : decode cX9_link 13 = .ok (.iload_n 3, 1) := by decide +kernel
theorem dX9_link_14 : decode cX9_link 14 = .ok (.iconst (-1), 1) := by decide +kernel
theorem dX9_link_15 : decode cX9_link 15 = .ok (.if_icmp .eq 21, 3) := by decide +kernel
theorem dX9_link_18 : decode cX9_link 18 = .ok (.iload_n 3, 1) := by decide +kernel
theorem dX9_link_19 : decode cX9_link 19 = .ok (.bipush 100, 2) := by decide +kernel
theorem dX9_link_21 : decode cX9_link 21 = .ok (.if_icmp .lt 9, 3) := by decide +kernel
theorem dX9_link_24 : decode cX9_link 24 = .ok (.iload_n 3, 1) := by decide +kernel
theorem dX9_link_25 : decode cX9_link 25 = .ok (.bipush 104, 2) := by decide +kernel
theorem dX9_link_27 : decode cX9_link 27 = .ok (.if_icmp .lt 9, 3) := by decide +kernel
theorem dX9_link_30 : decode cX9_link 30 = .ok (.aload 4, 2) := by decide +kernel
theorem dX9_link_32 : decode cX9_link 32 = .ok (.iload_n 3, 1) := by decide +kernel
theorem dX9_link_33 : decode cX9_link 33 = .ok (.invokestatic 129, 3) := by decide +kernel
theorem dX9_link_36 : decode cX9_link 36 = .ok (.aload_n 0, 1) := by decide +kernel
theorem dX9_link_37 : decode cX9_link 37 = .ok (.invokevirtual 136, 3) := by decide +kernel
theorem dX9_link_40 : decode cX9_link 40 = .ok (.aload 4, 2) := by decide +kernel
theorem dX9_link_42 : decode cX9_link 42 = .ok (.iload_n 2, 1) := by decide +kernel
theorem dX9_link_43 : decode cX9_link 43 = .ok (.invokestatic 139, 3) := by decide +kernel
theorem dX9_link_46 : decode cX9_link 46 = .ok (.iload_n 3, 1) := by decide +kernel
theorem dX9_link_47 : decode cX9_link 47 = .ok (.iload_n 2, 1) := by decide +kernel
theorem dX9_link_48 : decode cX9_link 48 = .ok (.if_icmp .eq 7, 3) := by decide +kernel
theorem dX9_link_51 : decode cX9_link 51 = .ok (.iconst 1, 1) := by decide +kernel
theorem dX9_link_52 : decode cX9_link 52 = .ok (.goto 4, 3) := by decide +kernel
theorem dX9_link_55 : decode cX9_link 55 = .ok (.iconst 0, 1) := by decide +kernel
theorem dX9_link_56 : decode cX9_link 56 = .ok (.invokestatic 149, 3) := by decide +kernel
theorem dX9_link_59 : decode cX9_link 59 = .ok (.aload 4, 2) := by decide +kernel
theorem dX9_link_61 : decode cX9_link 61 = .ok (.getfield 176, 3) := by decide +kernel
theorem dX9_link_64 : decode cX9_link 64 = .ok (.getfield 224, 3) := by decide +kernel
theorem dX9_link_67 : decode cX9_link 67 = .ok (.iload_n 2, 1) := by decide +kernel
theorem dX9_link_68 : decode cX9_link 68 = .ok (.iaload, 1) := by decide +kernel
theorem dX9_link_69 : decode cX9_link 69 = .ok (.istore 5, 2) := by decide +kernel
theorem dX9_link_71 : decode cX9_link 71 = .ok (.aload_n 0, 1) := by decide +kernel
theorem dX9_link_72 : decode cX9_link 72 = .ok (.aload 4, 2) := by decide +kernel
theorem dX9_link_74 : decode cX9_link 74 = .ok (.new 153, 3) := by decide +kernel
theorem dX9_link_77 : decode cX9_link 77 = .ok (.dup, 1) := by decide +kernel
theorem dX9_link_78 : decode cX9_link 78 = .ok (.iconst 5, 1) := by decide +kernel
theorem dX9_link_79 : decode cX9_link 79 = .ok (.iload_n 2, 1) := by decide +kernel
theorem dX9_link_80 : decode cX9_link 80 = .ok (.iload_n 3, 1) := by decide +kernel
theorem dX9_link_81 : decode cX9_link 81 = .ok (.iconst (-1), 1) := by decide +kernel
theorem dX9_link_82 : decode cX9_link 82 = .ok (.iconst (-1), 1) := by decide +kernel
theorem dX9_link_83 : decode cX9_link 83 = .ok (.invokespecial 155, 3) := by decide +kernel
theorem dX9_link_86 : decode cX9_link 86 = .ok (.invokevirtual 166, 3) := by decide +kernel
theorem dX9_link_89 : decode cX9_link 89 = .ok (.iload 5, 2) := by decide +kernel
theorem dX9_link_91 : decode cX9_link 91 = .ok (.ireturn, 1) := by decide +kernel
theorem dX9_rule_0 : decode cX9_rule 0 = .ok (.aload_n 0, 1) := by decide +kernel
theorem dX9_rule_1 : decode cX9_rule 1 = .ok (.iload_n 1, 1) := by decide +kernel
theorem dX9_rule_2 : decode cX9_rule 2 = .ok (.invokevirtual 104, 3) := by decide +kernel
theorem dX9_rule_5 : decode cX9_rule 5 = .ok (.astore 7, 2) := by decide +kernel
theorem dX9_rule_7 : decode cX9_rule 7 = .ok (.aload 7, 2) := by decide +kernel
theorem dX9_rule_9 : decode cX9_rule 9 = .ok (.iload_n 2, 1) := by decide +kernel
theorem dX9_rule_10 : decode cX9_rule 10 = .ok (.invokestatic 129, 3) := by decide +kernel
theorem dX9_rule_13 : decode cX9_rule 13 = .ok (.iload_n 3, 1) := by decide +kernel
theorem dX9_rule_14 : decode cX9_rule 14 = .ok (.bipush 100, 2) := by decide +kernel
theorem dX9_rule_16 : decode cX9_rule 16 = .ok (.if_icmp .lt 15, 3) := by decide +kernel
theorem dX9_rule_19 : decode cX9_rule 19 = .ok (.aload 7, 2) := by decide +kernel
theorem dX9_rule_21 : decode cX9_rule 21 = .ok (.iload_n 3, 1) := by decide +kernel
theorem dX9_rule_22 : decode cX9_rule 22 = .ok (.bipush 100, 2) := by decide +kernel
theorem dX9_rule_24 : decode cX9_rule 24 = .ok (.isub, 1) := by decide +kernel
theorem dX9_rule_25 : decode cX9_rule 25 = .ok (.invokestatic 129, 3) := by decide +kernel
theorem dX9_rule_28 : decode cX9_rule 28 = .ok (.goto 12, 3) := by decide +kernel
theorem dX9_rule_31 : decode cX9_rule 31 = .ok (.iload_n 3, 1) := by decide +kernel
theorem dX9_rule_32 : decode cX9_rule 32 = .ok (.iconst (-1), 1) := by decide +kernel
theorem dX9_rule_33 : decode cX9_rule 33 = .ok (.if_icmp .eq 7, 3) := by decide +kernel
theorem dX9_rule_36 : decode cX9_rule 36 = .ok (.iload_n 3, 1) := by decide +kernel
theorem dX9_rule_37 : decode cX9_rule 37 = .ok (.invokestatic 108, 3) := by decide +kernel
theorem dX9_rule_40 : decode cX9_rule 40 = .ok (.iload 4, 2) := by decide +kernel
theorem dX9_rule_42 : decode cX9_rule 42 = .ok (.invokestatic 227, 3) := by decide +kernel
theorem dX9_rule_45 : decode cX9_rule 45 = .ok (.iload 5, 2) := by decide +kernel
theorem dX9_rule_47 : decode cX9_rule 47 = .ok (.invokestatic 230, 3) := by decide +kernel
theorem dX9_rule_50 : decode cX9_rule 50 = .ok (.iload 6, 2) := by decide +kernel
theorem dX9_rule_52 : decode cX9_rule 52 = .ok (.ifCond .lt 9, 3) := by decide +kernel
theorem dX9_rule_55 : decode cX9_rule 55 = .ok (.iload 6, 2) := by decide +kernel
theorem dX9_rule_57 : decode cX9_rule 57 = .ok (.iconst 2, 1) := by decide +kernel
theorem dX9_rule_58 : decode cX9_rule 58 = .ok (.if_icmp .le 13, 3) := by decide +kernel
theorem dX9_rule_61 : decode cX9_rule 61 = .ok (.new 233, 3) := by decide +kernel
theorem dX9_rule_64 : decode cX9_rule 64 = .ok (.dup, 1) := by decide +kernel
theorem dX9_rule_65 : decode cX9_rule 65 = .ok (.ldc 235, 2) := by decide +kernel
theorem dX9_rule_67 : decode cX9_rule 67 = .ok (.invokespecial 237, 3) := by decide +kernel
theorem dX9_rule_70 : decode cX9_rule 70 = .ok (.athrow, 1) := by decide +kernel
theorem dX9_rule_71 : decode cX9_rule 71 = .ok (.aload_n 0, 1) := by decide +kernel
theorem dX9_rule_72 : decode cX9_rule 72 = .ok (.invokevirtual 136, 3) := by decide +kernel
theorem dX9_rule_75 : decode cX9_rule 75 = .ok (.aload 7, 2) := by decide +kernel
theorem dX9_rule_77 : decode cX9_rule 77 = .ok (.iload_n 2, 1) := by decide +kernel
theorem dX9_rule_78 : decode cX9_rule 78 = .ok (.invokestatic 139, 3) := by decide +kernel
theorem dX9_rule_81 : decode cX9_rule 81 = .ok (.iload_n 2, 1) := by decide +kernel
theorem dX9_rule_82 : decode cX9_rule 82 = .ok (.iload 4, 2) := by decide +kernel
theorem dX9_rule_84 : decode cX9_rule 84 = .ok (.iload 5, 2) := by decide +kernel
theorem dX9_rule_86 : decode cX9_rule 86 = .ok (.invokestatic 238, 3) := by decide +kernel
theorem dX9_rule_89 : decode cX9_rule 89 = .ok (.istore 8, 2) := by decide +kernel
theorem dX9_rule_91 : decode cX9_rule 91 = .ok (.aload 7, 2) := by decide +kernel
theorem dX9_rule_93 : decode cX9_rule 93 = .ok (.getfield 176, 3) := by decide +kernel
theorem dX9_rule_96 : decode cX9_rule 96 = .ok (.getfield 243, 3) := by decide +kernel
theorem dX9_rule_99 : decode cX9_rule 99 = .ok (.iload 8, 2) := by decide +kernel
theorem dX9_rule_101 : decode cX9_rule 101 = .ok (.iload_n 3, 1) := by decide +kernel
theorem dX9_rule_102 : decode cX9_rule 102 = .ok (.invokevirtual 247, 3) := by decide +kernel
theorem dX9_rule_105 : decode cX9_rule 105 = .ok (.istore 9, 2) := by decide +kernel
theorem dX9_rule_107 : decode cX9_rule 107 = .ok (.aload_n 0, 1) := by decide +kernel
theorem dX9_rule_108 : decode cX9_rule 108 = .ok (.aload 7, 2) := by decide +kernel
theorem dX9_rule_110 : decode cX9_rule 110 = .ok (.new 153, 3) := by decide +kernel
theorem dX9_rule_113 : decode cX9_rule 113 = .ok (.dup, 1) := by decide +kernel
theorem dX9_rule_114 : decode cX9_rule 114 = .ok (.bipush 6, 2) := by decide +kernel
theorem dX9_rule_116 : decode cX9_rule 116 = .ok (.iload_n 2, 1) := by decide +kernel
theorem dX9_rule_117 : decode cX9_rule 117 = .ok (.iload 8, 2) := by decide +kernel
theorem dX9_rule_119 : decode cX9_rule 119 = .ok (.iload_n 3, 1) := by decide +kernel
theorem dX9_rule_120 : decode cX9_rule 120 = .ok (.iload 6, 2) := by decide +kernel
theorem dX9_rule_122 : decode cX9_rule 122 = .ok (.invokespecial 155, 3) := by decide +kernel
theorem dX9_rule_125 : decode cX9_rule 125 = .ok (.invokevirtual 166, 3) := by decide +kernel
theorem dX9_rule_128 : decode cX9_rule 128 = .ok (.iload 9, 2) := by decide +kernel
theorem dX9_rule_130 : decode cX9_rule 130 = .ok (.ireturn, 1) := by decide +kernel
theorem dX9_exchange_0 : decode cX9_exchange 0 = .ok (.aload_n 0, 1) := by decide +kernel
theorem dX9_exchange_1 : decode cX9_exchange 1 = .ok (.iload_n 1, 1) := by decide +kernel
theorem dX9_exchange_2 : decode cX9_exchange 2 = .ok (.invokevirtual 104, 3) := by decide +kernel
theorem dX9_exchange_5 : decode cX9_exchange 5 = .ok (.astore 4, 2) := by decide +kernel
theorem dX9_exchange_7 : decode cX9_exchange 7 = .ok (.aload_n 0, 1) := by decide +kernel
theorem dX9_exchange_8 : decode cX9_exchange 8 = .ok (.iload_n 2, 1) := by decide +kernel
theorem dX9_exchange_9 : decode cX9_exchange 9 = .ok (.invokevirtual 104, 3) := by decide +kernel
theorem dX9_exchange_12 : decode cX9_exchange 12 = .ok (.astore 5, 2) := by decide +kernel
theorem dX9_exchange_14 : decode cX9_exchange 14 = .ok (.iload_n 1, 1) := by decide +kernel
theorem dX9_exchange_15 : decode cX9_exchange 15 = .ok (.iload_n 2, 1) := by decide +kernel
theorem dX9_exchange_16 : decode cX9_exchange 16 = .ok (.if_icmp .eq 14, 3) := by decide +kernel
theorem dX9_exchange_19 : decode cX9_exchange 19 = .ok (.iload_n 3, 1) := by decide +kernel
theorem dX9_exchange_20 : decode cX9_exchange 20 = .ok (.ifCond .lt 10, 3) := by decide +kernel
theorem dX9_exchange_23 : decode cX9_exchange 23 = .ok (.iload_n 3, 1) := by decide +kernel
theorem dX9_exchange_24 : decode cX9_exchange 24 = .ok (.sipush 250, 3) := by decide +kernel
theorem dX9_exchange_27 : decode cX9_exchange 27 = .ok (.if_icmp .le 13, 3) := by decide +kernel
theorem dX9_exchange_30 : decode cX9_exchange 30 = .ok (.new 233, 3) := by decide +kernel
theorem dX9_exchange_33 : decode cX9_exchange 33 = .ok (.dup, 1) := by decide +kernel
theorem dX9_exchange_34 : decode cX9_exchange 34 = .ok (.ldc 250, 2) := by decide +kernel
theorem dX9_exchange_36 : decode cX9_exchange 36 = .ok (.invokespecial 237, 3) := by decide +kernel
theorem dX9_exchange_39 : decode cX9_exchange 39 = .ok (.athrow, 1) := by decide +kernel
theorem dX9_exchange_40 : decode cX9_exchange 40 = .ok (.iconst 0, 1) := by decide +kernel
theorem dX9_exchange_41 : decode cX9_exchange 41 = .ok (.istore 6, 2) := by decide +kernel
theorem dX9_exchange_43 : decode cX9_exchange 43 = .ok (.iconst 0, 1) := by decide +kernel
theorem dX9_exchange_44 : decode cX9_exchange 44 = .ok (.istore 7, 2) := by decide +kernel
theorem dX9_exchange_46 : decode cX9_exchange 46 = .ok (.iload 7, 2) := by decide +kernel
theorem dX9_exchange_48 : decode cX9_exchange 48 = .ok (.aload_n 0, 1) := by decide +kernel
theorem dX9_exchange_49 : decode cX9_exchange 49 = .ok (.getfield 50, 3) := by decide +kernel
theorem dX9_exchange_52 : decode cX9_exchange 52 = .ok (.invokevirtual 252, 3) := by decide +kernel
theorem dX9_exchange_55 : decode cX9_exchange 55 = .ok (.if_icmp .ge 59, 3) := by decide +kernel
theorem dX9_exchange_58 : decode cX9_exchange 58 = .ok (.iload 6, 2) := by decide +kernel
theorem dX9_exchange_60 : decode cX9_exchange 60 = .ok (.iload_n 3, 1) := by decide +kernel
theorem dX9_exchange_61 : decode cX9_exchange 61 = .ok (.if_icmp .ge 53, 3) := by decide +kernel
theorem dX9_exchange_64 : decode cX9_exchange 64 = .ok (.aload_n 0, 1) := by decide +kernel
theorem dX9_exchange_65 : decode cX9_exchange 65 = .ok (.getfield 50, 3) := by decide +kernel
theorem dX9_exchange_68 : decode cX9_exchange 68 = .ok (.iload 7, 2) := by decide +kernel
theorem dX9_exchange_70 : decode cX9_exchange 70 = .ok (.invokevirtual 256, 3) := by decide +kernel
theorem dX9_exchange_73 : decode cX9_exchange 73 = .ok (.checkcast 153, 3) := by decide +kernel
theorem dX9_exchange_76 : decode cX9_exchange 76 = .ok (.astore 8, 2) := by decide +kernel
theorem dX9_exchange_78 : decode cX9_exchange 78 = .ok (.aload 4, 2) := by decide +kernel
theorem dX9_exchange_80 : decode cX9_exchange 80 = .ok (.aload 8, 2) := by decide +kernel
theorem dX9_exchange_82 : decode cX9_exchange 82 = .ok (.invokevirtual 260, 3) := by decide +kernel
theorem dX9_exchange_85 : decode cX9_exchange 85 = .ok (.ifCond .eq 23, 3) := by decide +kernel
theorem dX9_exchange_88 : decode cX9_exchange 88 = .ok (.aload 5, 2) := by decide +kernel
theorem dX9_exchange_90 : decode cX9_exchange 90 = .ok (.aload 8, 2) := by decide +kernel
theorem dX9_exchange_92 : decode cX9_exchange 92 = .ok (.invokevirtual 260, 3) := by decide +kernel
theorem dX9_exchange_95 : decode cX9_exchange 95 = .ok (.ifCond .ne 13, 3) := by decide +kernel
theorem dX9_exchange_98 : decode cX9_exchange 98 = .ok (.aload 5, 2) := by decide +kernel
theorem dX9_exchange_100 : decode cX9_exchange 100 = .ok (.aload 8, 2) := by decide +kernel
theorem dX9_exchange_102 : decode cX9_exchange 102 = .ok (.invokevirtual 264, 3) := by decide +kernel
theorem dX9_exchange_105 : decode cX9_exchange 105 = .ok (.iinc 6 1, 3) := by decide +kernel
theorem dX9_exchange_108 : decode cX9_exchange 108 = .ok (.iinc 7 1, 3) := by decide +kernel
theorem dX9_exchange_111 : decode cX9_exchange 111 = .ok (.goto (-65), 3) := by decide +kernel
theorem dX9_exchange_114 : decode cX9_exchange 114 = .ok (.iload 6, 2) := by decide +kernel
theorem dX9_exchange_116 : decode cX9_exchange 116 = .ok (.ifCond .le 14, 3) := by decide +kernel
theorem dX9_exchange_119 : decode cX9_exchange 119 = .ok (.aload_n 0, 1) := by decide +kernel
theorem dX9_exchange_120 : decode cX9_exchange 120 = .ok (.aload 5, 2) := by decide +kernel
theorem dX9_exchange_122 : decode cX9_exchange 122 = .ok (.getfield 176, 3) := by decide +kernel
theorem dX9_exchange_125 : decode cX9_exchange 125 = .ok (.aload 5, 2) := by decide +kernel
theorem dX9_exchange_127 : decode cX9_exchange 127 = .ok (.invokevirtual 268, 3) := by decide +kernel
theorem dX9_exchange_130 : decode cX9_exchange 130 = .ok (.aload 4, 2) := by decide +kernel
theorem dX9_exchange_132 : decode cX9_exchange 132 = .ok (.aload 5, 2) := by decide +kernel
theorem dX9_exchange_134 : decode cX9_exchange 134 = .ok (.invokevirtual 272, 3) := by decide +kernel
theorem dX9_exchange_137 : decode cX9_exchange 137 = .ok (.iload 6, 2) := by decide +kernel
theorem dX9_exchange_139 : decode cX9_exchange 139 = .ok (.ireturn, 1) := by decide +kernel
theorem dX9_sweep_0 : decode cX9_sweep 0 = .ok (.aload_n 0, 1) := by decide +kernel
theorem dX9_sweep_1 : decode cX9_sweep 1 = .ok (.iload_n 1, 1) := by decide +kernel
theorem dX9_sweep_2 : decode cX9_sweep 2 = .ok (.invokevirtual 104, 3) := by decide +kernel
theorem dX9_sweep_5 : decode cX9_sweep 5 = .ok (.astore_n 2, 1) := by decide +kernel
theorem dX9_sweep_6 : decode cX9_sweep 6 = .ok (.aload_n 2, 1) := by decide +kernel
theorem dX9_sweep_7 : decode cX9_sweep 7 = .ok (.invokevirtual 214, 3) := by decide +kernel
theorem dX9_sweep_10 : decode cX9_sweep 10 = .ok (.lstore_n 3, 1) := by decide +kernel
theorem dX9_sweep_11 : decode cX9_sweep 11 = .ok (.iconst 0, 1) := by decide +kernel
theorem dX9_sweep_12 : decode cX9_sweep 12 = .ok (.istore 5, 2) := by decide +kernel
theorem dX9_sweep_14 : decode cX9_sweep 14 = .ok (.iload 5, 2) := by decide +kernel
theorem dX9_sweep_16 : decode cX9_sweep 16 = .ok (.iconst 4, 1) := by decide +kernel
theorem dX9_sweep_17 : decode cX9_sweep 17 = .ok (.if_icmp .ge 19, 3) := by decide +kernel
theorem dX9_sweep_20 : decode cX9_sweep 20 = .ok (.lload_n 3, 1) := by decide +kernel
theorem dX9_sweep_21 : decode cX9_sweep 21 = .ok (.aload_n 0, 1) := by decide +kernel
theorem dX9_sweep_22 : decode cX9_sweep 22 = .ok (.aload_n 2, 1) := by decide +kernel
theorem dX9_sweep_23 : decode cX9_sweep 23 = .ok (.iload 5, 2) := by decide +kernel
theorem dX9_sweep_25 : decode cX9_sweep 25 = .ok (.invokevirtual 276, 3) := by decide +kernel
theorem dX9_sweep_28 : decode cX9_sweep 28 = .ok (.land, 1) := by decide +kernel
theorem dX9_sweep_29 : decode cX9_sweep 29 = .ok (.lstore_n 3, 1) := by decide +kernel
theorem dX9_sweep_30 : decode cX9_sweep 30 = .ok (.iinc 5 1, 3) := by decide +kernel
theorem dX9_sweep_33 : decode cX9_sweep 33 = .ok (.goto (-19), 3) := by decide +kernel
theorem dX9_sweep_36 : decode cX9_sweep 36 = .ok (.aload_n 2, 1) := by decide +kernel
theorem dX9_sweep_37 : decode cX9_sweep 37 = .ok (.dup, 1) := by decide +kernel
theorem dX9_sweep_38 : decode cX9_sweep 38 = .ok (.getfield 280, 3) := by decide +kernel
theorem dX9_sweep_41 : decode cX9_sweep 41 = .ok (.lload_n 3, 1) := by decide +kernel
theorem dX9_sweep_42 : decode cX9_sweep 42 = .ok (.lor, 1) := by decide +kernel
theorem dX9_sweep_43 : decode cX9_sweep 43 = .ok (.putfield 280, 3) := by decide +kernel
theorem dX9_sweep_46 : decode cX9_sweep 46 = .ok (.lload_n 3, 1) := by decide +kernel
theorem dX9_sweep_47 : decode cX9_sweep 47 = .ok (.invokestatic 218, 3) := by decide +kernel
theorem dX9_sweep_50 : decode cX9_sweep 50 = .ok (.ireturn, 1) := by decide +kernel
theorem dX9_equal_0 : decode cX9_equal 0 = .ok (.aload_n 0, 1) := by decide +kernel
theorem dX9_equal_1 : decode cX9_equal 1 = .ok (.iload_n 1, 1) := by decide +kernel
theorem dX9_equal_2 : decode cX9_equal 2 = .ok (.invokevirtual 114, 3) := by decide +kernel
theorem dX9_equal_5 : decode cX9_equal 5 = .ok (.iload_n 2, 1) := by decide +kernel
theorem dX9_equal_6 : decode cX9_equal 6 = .ok (.invokestatic 117, 3) := by decide +kernel
theorem dX9_equal_9 : decode cX9_equal 9 = .ok (.aload_n 0, 1) := by decide +kernel
theorem dX9_equal_10 : decode cX9_equal 10 = .ok (.invokevirtual 284, 3) := by decide +kernel
theorem dX9_equal_13 : decode cX9_equal 13 = .ok (.aload_n 0, 1) := by decide +kernel
theorem dX9_equal_14 : decode cX9_equal 14 = .ok (.getfield 28, 3) := by decide +kernel
theorem dX9_equal_17 : decode cX9_equal 17 = .ok (.iload_n 1, 1) := by decide +kernel
theorem dX9_equal_18 : decode cX9_equal 18 = .ok (.aload_n 0, 1) := by decide +kernel
theorem dX9_equal_19 : decode cX9_equal 19 = .ok (.getfield 12, 3) := by decide +kernel
theorem dX9_equal_22 : decode cX9_equal 22 = .ok (.iload_n 1, 1) := by decide +kernel
theorem dX9_equal_23 : decode cX9_equal 23 = .ok (.iload_n 2, 1) := by decide +kernel
theorem dX9_equal_24 : decode cX9_equal 24 = .ok (.invokevirtual 287, 3) := by decide +kernel
theorem dX9_equal_27 : decode cX9_equal 27 = .ok (.aload_n 0, 1) := by decide +kernel
theorem dX9_equal_28 : decode cX9_equal 28 = .ok (.getfield 12, 3) := by decide +kernel
theorem dX9_equal_31 : decode cX9_equal 31 = .ok (.iload_n 1, 1) := by decide +kernel
theorem dX9_equal_32 : decode cX9_equal 32 = .ok (.iload_n 2, 1) := by decide +kernel
theorem dX9_equal_33 : decode cX9_equal 33 = .ok (.invokevirtual 290, 3) := by decide +kernel
theorem dX9_equal_36 : decode cX9_equal 36 = .ok (.invokevirtual 293, 3) := by decide +kernel
theorem dX9_equal_39 : decode cX9_equal 39 = .ok (.ireturn, 1) := by decide +kernel
theorem dX9_atLeast_0 : decode cX9_atLeast 0 = .ok (.aload_n 0, 1) := by decide +kernel
theorem dX9_atLeast_1 : decode cX9_atLeast 1 = .ok (.iload_n 1, 1) := by decide +kernel
theorem dX9_atLeast_2 : decode cX9_atLeast 2 = .ok (.invokevirtual 114, 3) := by decide +kernel
theorem dX9_atLeast_5 : decode cX9_atLeast 5 = .ok (.iload_n 2, 1) := by decide +kernel
theorem dX9_atLeast_6 : decode cX9_atLeast 6 = .ok (.invokestatic 117, 3) := by decide +kernel
theorem dX9_atLeast_9 : decode cX9_atLeast 9 = .ok (.aload_n 0, 1) := by decide +kernel
theorem dX9_atLeast_10 : decode cX9_atLeast 10 = .ok (.invokevirtual 284, 3) := by decide +kernel
theorem dX9_atLeast_13 : decode cX9_atLeast 13 = .ok (.aload_n 0, 1) := by decide +kernel
theorem dX9_atLeast_14 : decode cX9_atLeast 14 = .ok (.getfield 28, 3) := by decide +kernel
theorem dX9_atLeast_17 : decode cX9_atLeast 17 = .ok (.iload_n 1, 1) := by decide +kernel
theorem dX9_atLeast_18 : decode cX9_atLeast 18 = .ok (.aload_n 0, 1) := by decide +kernel
theorem dX9_atLeast_19 : decode cX9_atLeast 19 = .ok (.getfield 12, 3) := by decide +kernel
theorem dX9_atLeast_22 : decode cX9_atLeast 22 = .ok (.iload_n 1, 1) := by decide +kernel
theorem dX9_atLeast_23 : decode cX9_atLeast 23 = .ok (.iload_n 2, 1) := by decide +kernel
theorem dX9_atLeast_24 : decode cX9_atLeast 24 = .ok (.invokevirtual 287, 3) := by decide +kernel
theorem dX9_atLeast_27 : decode cX9_atLeast 27 = .ok (.sipush 999, 3) := by decide +kernel
theorem dX9_atLeast_30 : decode cX9_atLeast 30 = .ok (.invokevirtual 293, 3) := by decide +kernel
theorem dX9_atLeast_33 : decode cX9_atLeast 33 = .ok (.ireturn, 1) := by decide +kernel
theorem dX9_has_0 : decode cX9_has 0 = .ok (.aload_n 0, 1) := by decide +kernel
theorem dX9_has_1 : decode cX9_has 1 = .ok (.iload_n 1, 1) := by decide +kernel
theorem dX9_has_2 : decode cX9_has 2 = .ok (.invokevirtual 114, 3) := by decide +kernel
theorem dX9_has_5 : decode cX9_has 5 = .ok (.aload_n 0, 1) := by decide +kernel
theorem dX9_has_6 : decode cX9_has 6 = .ok (.invokevirtual 284, 3) := by decide +kernel
theorem dX9_has_9 : decode cX9_has 9 = .ok (.aload_n 0, 1) := by decide +kernel
theorem dX9_has_10 : decode cX9_has 10 = .ok (.getfield 28, 3) := by decide +kernel
theorem dX9_has_13 : decode cX9_has 13 = .ok (.iload_n 1, 1) := by decide +kernel
theorem dX9_has_14 : decode cX9_has 14 = .ok (.iconst 0, 1) := by decide +kernel
theorem dX9_has_15 : decode cX9_has 15 = .ok (.sipush 999, 3) := by decide +kernel
theorem dX9_has_18 : decode cX9_has 18 = .ok (.invokevirtual 293, 3) := by decide +kernel
theorem dX9_has_21 : decode cX9_has 21 = .ok (.ireturn, 1) := by decide +kernel
theorem dX9_ofClass_0 : decode cX9_ofClass 0 = .ok (.aload_n 0, 1) := by decide +kernel
theorem dX9_ofClass_1 : decode cX9_ofClass 1 = .ok (.iload_n 1, 1) := by decide +kernel
theorem dX9_ofClass_2 : decode cX9_ofClass 2 = .ok (.invokevirtual 82, 3) := by decide +kernel
theorem dX9_ofClass_5 : decode cX9_ofClass 5 = .ok (.aload_n 0, 1) := by decide +kernel
theorem dX9_ofClass_6 : decode cX9_ofClass 6 = .ok (.invokevirtual 284, 3) := by decide +kernel
theorem dX9_ofClass_9 : decode cX9_ofClass 9 = .ok (.aload_n 0, 1) := by decide +kernel
theorem dX9_ofClass_10 : decode cX9_ofClass 10 = .ok (.getfield 28, 3) := by decide +kernel
theorem dX9_ofClass_13 : decode cX9_ofClass 13 = .ok (.iload_n 1, 1) := by decide +kernel
theorem dX9_ofClass_14 : decode cX9_ofClass 14 = .ok (.invokevirtual 296, 3) := by decide +kernel
theorem dX9_ofClass_17 : decode cX9_ofClass 17 = .ok (.ireturn, 1) := by decide +kernel
theorem dX9_combine_0 : decode cX9_combine 0 = .ok (.aload_n 0, 1) := by decide +kernel
theorem dX9_combine_1 : decode cX9_combine 1 = .ok (.getfield 28, 3) := by decide +kernel
theorem dX9_combine_4 : decode cX9_combine 4 = .ok (.getfield 299, 3) := by decide +kernel
theorem dX9_combine_7 : decode cX9_combine 7 = .ok (.iconst 2, 1) := by decide +kernel
theorem dX9_combine_8 : decode cX9_combine 8 = .ok (.if_icmp .lt 15, 3) := by decide +kernel
theorem dX9_combine_11 : decode cX9_combine 11 = .ok (.aload_n 0, 1) := by decide +kernel
theorem dX9_combine_12 : decode cX9_combine 12 = .ok (.getfield 28, 3) := by decide +kernel
theorem dX9_combine_15 : decode cX9_combine 15 = .ok (.getfield 302, 3) := by decide +kernel
theorem dX9_combine_18 : decode cX9_combine 18 = .ok (.bipush 15, 2) := by decide +kernel
theorem dX9_combine_20 : decode cX9_combine 20 = .ok (.if_icmp .lt 14, 3) := by decide +kernel
theorem dX9_combine_23 : decode cX9_combine 23 = .ok (.new 71, 3) := by decide +kernel
theorem dX9_combine_26 : decode cX9_combine 26 = .ok (.dup, 1) := by decide +kernel
theorem dX9_combine_27 : decode cX9_combine 27 = .ok (.ldc_w 305, 3) := by decide +kernel
theorem dX9_combine_30 : decode cX9_combine 30 = .ok (.invokespecial 75, 3) := by decide +kernel
theorem dX9_combine_33 : decode cX9_combine 33 = .ok (.athrow, 1) := by decide +kernel
theorem dX9_combine_34 : decode cX9_combine 34 = .ok (.aload_n 0, 1) := by decide +kernel
theorem dX9_combine_35 : decode cX9_combine 35 = .ok (.getfield 28, 3) := by decide +kernel
theorem dX9_combine_38 : decode cX9_combine 38 = .ok (.iload_n 1, 1) := by decide +kernel
theorem dX9_combine_39 : decode cX9_combine 39 = .ok (.invokevirtual 307, 3) := by decide +kernel
theorem dX9_combine_42 : decode cX9_combine 42 = .ok (.ireturn, 1) := by decide +kernel
theorem dX9_not_0 : decode cX9_not 0 = .ok (.aload_n 0, 1) := by decide +kernel
theorem dX9_not_1 : decode cX9_not 1 = .ok (.getfield 28, 3) := by decide +kernel
theorem dX9_not_4 : decode cX9_not 4 = .ok (.getfield 299, 3) := by decide +kernel
theorem dX9_not_7 : decode cX9_not 7 = .ok (.iconst 1, 1) := by decide +kernel
theorem dX9_not_8 : decode cX9_not 8 = .ok (.if_icmp .lt 15, 3) := by decide +kernel
theorem dX9_not_11 : decode cX9_not 11 = .ok (.aload_n 0, 1) := by decide +kernel
theorem dX9_not_12 : decode cX9_not 12 = .ok (.getfield 28, 3) := by decide +kernel
theorem dX9_not_15 : decode cX9_not 15 = .ok (.getfield 302, 3) := by decide +kernel
theorem dX9_not_18 : decode cX9_not 18 = .ok (.bipush 15, 2) := by decide +kernel
theorem dX9_not_20 : decode cX9_not 20 = .ok (.if_icmp .lt 14, 3) := by decide +kernel
theorem dX9_not_23 : decode cX9_not 23 = .ok (.new 71, 3) := by decide +kernel
theorem dX9_not_26 : decode cX9_not 26 = .ok (.dup, 1) := by decide +kernel
theorem dX9_not_27 : decode cX9_not 27 = .ok (.ldc_w 311, 3) := by decide +kernel
theorem dX9_not_30 : decode cX9_not 30 = .ok (.invokespecial 75, 3) := by decide +kernel
theorem dX9_not_33 : decode cX9_not 33 = .ok (.athrow, 1) := by decide +kernel
theorem dX9_not_34 : decode cX9_not 34 = .ok (.aload_n 0, 1) := by decide +kernel
theorem dX9_not_35 : decode cX9_not 35 = .ok (.getfield 28, 3) := by decide +kernel
theorem dX9_not_38 : decode cX9_not 38 = .ok (.invokevirtual 313, 3) := by decide +kernel
theorem dX9_not_41 : decode cX9_not 41 = .ok (.ireturn, 1) := by decide +kernel
theorem dX9_wipe_0 : decode cX9_wipe 0 = .ok (.aload_n 0, 1) := by decide +kernel
theorem dX9_wipe_1 : decode cX9_wipe 1 = .ok (.getfield 28, 3) := by decide +kernel
theorem dX9_wipe_4 : decode cX9_wipe 4 = .ok (.getfield 302, 3) := by decide +kernel
theorem dX9_wipe_7 : decode cX9_wipe 7 = .ok (.istore_n 1, 1) := by decide +kernel
theorem dX9_wipe_8 : decode cX9_wipe 8 = .ok (.aload_n 0, 1) := by decide +kernel
theorem dX9_wipe_9 : decode cX9_wipe 9 = .ok (.getfield 28, 3) := by decide +kernel
theorem dX9_wipe_12 : decode cX9_wipe 12 = .ok (.invokevirtual 316, 3) := by decide +kernel
theorem dX9_wipe_15 : decode cX9_wipe 15 = .ok (.iload_n 1, 1) := by decide +kernel
theorem dX9_wipe_16 : decode cX9_wipe 16 = .ok (.ireturn, 1) := by decide +kernel
theorem dX9_search_0 : decode cX9_search 0 = .ok (.aload_n 0, 1) := by decide +kernel
theorem dX9_search_1 : decode cX9_search 1 = .ok (.iload_n 1, 1) := by decide +kernel
theorem dX9_search_2 : decode cX9_search 2 = .ok (.iload_n 2, 1) := by decide +kernel
theorem dX9_search_3 : decode cX9_search 3 = .ok (.iload_n 3, 1) := by decide +kernel
theorem dX9_search_4 : decode cX9_search 4 = .ok (.invokevirtual 319, 3) := by decide +kernel
theorem dX9_search_7 : decode cX9_search 7 = .ok (.aload_n 0, 1) := by decide +kernel
theorem dX9_search_8 : decode cX9_search 8 = .ok (.getfield 43, 3) := by decide +kernel
theorem dX9_search_11 : decode cX9_search 11 = .ok (.iload_n 1, 1) := by decide +kernel
theorem dX9_search_12 : decode cX9_search 12 = .ok (.iload_n 2, 1) := by decide +kernel
theorem dX9_search_13 : decode cX9_search 13 = .ok (.iload_n 3, 1) := by decide +kernel
theorem dX9_search_14 : decode cX9_search 14 = .ok (.invokevirtual 323, 3) := by decide +kernel
theorem dX9_search_17 : decode cX9_search 17 = .ok (.ireturn, 1) := by decide +kernel
theorem dX9_searchByWalk_0 : decode cX9_searchByWalk 0 = .ok (.aload_n 0, 1) := by decide +kernel
theorem dX9_searchByWalk_1 : decode cX9_searchByWalk 1 = .ok (.iload_n 1, 1) := by decide +kernel
theorem dX9_searchByWalk_2 : decode cX9_searchByWalk 2 = .ok (.iload_n 2, 1) := by decide +kernel
theorem dX9_searchByWalk_3 : decode cX9_searchByWalk 3 = .ok (.iload_n 3, 1) := by decide +kernel
theorem dX9_searchByWalk_4 : decode cX9_searchByWalk 4 = .ok (.invokevirtual 319, 3) := by decide +kernel
theorem dX9_searchByWalk_7 : decode cX9_searchByWalk 7 = .ok (.aload_n 0, 1) := by decide +kernel
theorem dX9_searchByWalk_8 : decode cX9_searchByWalk 8 = .ok (.getfield 43, 3) := by decide +kernel
theorem dX9_searchByWalk_11 : decode cX9_searchByWalk 11 = .ok (.iload_n 1, 1) := by decide +kernel
theorem dX9_searchByWalk_12 : decode cX9_searchByWalk 12 = .ok (.iload_n 2, 1) := by decide +kernel
theorem dX9_searchByWalk_13 : decode cX9_searchByWalk 13 = .ok (.iload_n 3, 1) := by decide +kernel
theorem dX9_searchByWalk_14 : decode cX9_searchByWalk 14 = .ok (.invokevirtual 326, 3) := by decide +kernel
theorem dX9_searchByWalk_17 : decode cX9_searchByWalk 17 = .ok (.ireturn, 1) := by decide +kernel
theorem dX9_follow_0 : decode cX9_follow 0 = .ok (.aload_n 0, 1) := by decide +kernel
theorem dX9_follow_1 : decode cX9_follow 1 = .ok (.iload_n 1, 1) := by decide +kernel
theorem dX9_follow_2 : decode cX9_follow 2 = .ok (.iload_n 2, 1) := by decide +kernel
theorem dX9_follow_3 : decode cX9_follow 3 = .ok (.iload_n 3, 1) := by decide +kernel
theorem dX9_follow_4 : decode cX9_follow 4 = .ok (.invokevirtual 319, 3) := by decide +kernel
theorem dX9_follow_7 : decode cX9_follow 7 = .ok (.aload_n 0, 1) := by decide +kernel
theorem dX9_follow_8 : decode cX9_follow 8 = .ok (.getfield 43, 3) := by decide +kernel
theorem dX9_follow_11 : decode cX9_follow 11 = .ok (.iload_n 1, 1) := by decide +kernel
theorem dX9_follow_12 : decode cX9_follow 12 = .ok (.iload_n 2, 1) := by decide +kernel
theorem dX9_follow_13 : decode cX9_follow 13 = .ok (.iload_n 3, 1) := by decide +kernel
theorem dX9_follow_14 : decode cX9_follow 14 = .ok (.invokevirtual 329, 3) := by decide +kernel
theorem dX9_follow_17 : decode cX9_follow 17 = .ok (.ireturn, 1) := by decide +kernel
theorem dX9_found_0 : decode cX9_found 0 = .ok (.iload_n 1, 1) := by decide +kernel
theorem dX9_found_1 : decode cX9_found 1 = .ok (.ifCond .lt 14, 3) := by decide +kernel
theorem dX9_found_4 : decode cX9_found 4 = .ok (.iload_n 1, 1) := by decide +kernel
theorem dX9_found_5 : decode cX9_found 5 = .ok (.aload_n 0, 1) := by decide +kernel
theorem dX9_found_6 : decode cX9_found 6 = .ok (.getfield 43, 3) := by decide +kernel
theorem dX9_found_9 : decode cX9_found 9 = .ok (.getfield 332, 3) := by decide +kernel
theorem dX9_found_12 : decode cX9_found 12 = .ok (.if_icmp .lt 14, 3) := by decide +kernel
theorem dX9_found_15 : decode cX9_found 15 = .ok (.new 90, 3) := by decide +kernel
theorem dX9_found_18 : decode cX9_found 18 = .ok (.dup, 1) := by decide +kernel
theorem dX9_found_19 : decode cX9_found 19 = .ok (.ldc_w 333, 3) := by decide +kernel
theorem dX9_found_22 : decode cX9_found 22 = .ok (.invokespecial 94, 3) := by decide +kernel
theorem dX9_found_25 : decode cX9_found 25 = .ok (.athrow, 1) := by decide +kernel
theorem dX9_found_26 : decode cX9_found 26 = .ok (.aload_n 0, 1) := by decide +kernel
theorem dX9_found_27 : decode cX9_found 27 = .ok (.getfield 43, 3) := by decide +kernel
theorem dX9_found_30 : decode cX9_found 30 = .ok (.getfield 335, 3) := by decide +kernel
theorem dX9_found_33 : decode cX9_found 33 = .ok (.iload_n 1, 1) := by decide +kernel
theorem dX9_found_34 : decode cX9_found 34 = .ok (.iaload, 1) := by decide +kernel
theorem dX9_found_35 : decode cX9_found 35 = .ok (.ireturn, 1) := by decide +kernel
theorem dX9_live_0 : decode cX9_live 0 = .ok (.aload_n 0, 1) := by decide +kernel
theorem dX9_live_1 : decode cX9_live 1 = .ok (.iload_n 1, 1) := by decide +kernel
theorem dX9_live_2 : decode cX9_live 2 = .ok (.invokevirtual 104, 3) := by decide +kernel
theorem dX9_live_5 : decode cX9_live 5 = .ok (.getfield 176, 3) := by decide +kernel
theorem dX9_live_8 : decode cX9_live 8 = .ok (.invokevirtual 338, 3) := by decide +kernel
theorem dX9_live_11 : decode cX9_live 11 = .ok (.invokestatic 218, 3) := by decide +kernel
theorem dX9_live_14 : decode cX9_live 14 = .ok (.ireturn, 1) := by decide +kernel
theorem dX9_parentOf_0 : decode cX9_parentOf 0 = .ok (.aload_n 0, 1) := by decide +kernel
theorem dX9_parentOf_1 : decode cX9_parentOf 1 = .ok (.iload_n 1, 1) := by decide +kernel
theorem dX9_parentOf_2 : decode cX9_parentOf 2 = .ok (.invokevirtual 104, 3) := by decide +kernel
theorem dX9_parentOf_5 : decode cX9_parentOf 5 = .ok (.astore_n 3, 1) := by decide +kernel
theorem dX9_parentOf_6 : decode cX9_parentOf 6 = .ok (.aload_n 3, 1) := by decide +kernel
theorem dX9_parentOf_7 : decode cX9_parentOf 7 = .ok (.iload_n 2, 1) := by decide +kernel
theorem dX9_parentOf_8 : decode cX9_parentOf 8 = .ok (.invokestatic 129, 3) := by decide +kernel
theorem dX9_parentOf_11 : decode cX9_parentOf 11 = .ok (.aload_n 3, 1) := by decide +kernel
theorem dX9_parentOf_12 : decode cX9_parentOf 12 = .ok (.getfield 176, 3) := by decide +kernel
theorem dX9_parentOf_15 : decode cX9_parentOf 15 = .ok (.iload_n 2, 1) := by decide +kernel
theorem dX9_parentOf_16 : decode cX9_parentOf 16 = .ok (.invokevirtual 198, 3) := by decide +kernel
theorem dX9_parentOf_19 : decode cX9_parentOf 19 = .ok (.ireturn, 1) := by decide +kernel
theorem dX9_parentAnew_0 : decode cX9_parentAnew 0 = .ok (.aload_n 0, 1) := by decide +kernel
theorem dX9_parentAnew_1 : decode cX9_parentAnew 1 = .ok (.iload_n 1, 1) := by decide +kernel
theorem dX9_parentAnew_2 : decode cX9_parentAnew 2 = .ok (.invokevirtual 104, 3) := by decide +kernel
theorem dX9_parentAnew_5 : decode cX9_parentAnew 5 = .ok (.astore_n 3, 1) := by decide +kernel
theorem dX9_parentAnew_6 : decode cX9_parentAnew 6 = .ok (.aload_n 3, 1) := by decide +kernel
theorem dX9_parentAnew_7 : decode cX9_parentAnew 7 = .ok (.iload_n 2, 1) := by decide +kernel
theorem dX9_parentAnew_8 : decode cX9_parentAnew 8 = .ok (.invokestatic 129, 3) := by decide +kernel
theorem dX9_parentAnew_11 : decode cX9_parentAnew 11 = .ok (.aload_n 0, 1) := by decide +kernel
theorem dX9_parentAnew_12 : decode cX9_parentAnew 12 = .ok (.aload_n 0, 1) := by decide +kernel
theorem dX9_parentAnew_13 : decode cX9_parentAnew 13 = .ok (.getfield 57, 3) := by decide +kernel
theorem dX9_parentAnew_16 : decode cX9_parentAnew 16 = .ok (.aload_n 3, 1) := by decide +kernel
theorem dX9_parentAnew_17 : decode cX9_parentAnew 17 = .ok (.invokevirtual 268, 3) := by decide +kernel
theorem dX9_parentAnew_20 : decode cX9_parentAnew 20 = .ok (.aload_n 0, 1) := by decide +kernel
theorem dX9_parentAnew_21 : decode cX9_parentAnew 21 = .ok (.getfield 57, 3) := by decide +kernel
theorem dX9_parentAnew_24 : decode cX9_parentAnew 24 = .ok (.iload_n 2, 1) := by decide +kernel
theorem dX9_parentAnew_25 : decode cX9_parentAnew 25 = .ok (.invokevirtual 198, 3) := by decide +kernel
theorem dX9_parentAnew_28 : decode cX9_parentAnew 28 = .ok (.ireturn, 1) := by decide +kernel
theorem dX9_nameOf_0 : decode cX9_nameOf 0 = .ok (.aload_n 0, 1) := by decide +kernel
theorem dX9_nameOf_1 : decode cX9_nameOf 1 = .ok (.iload_n 1, 1) := by decide +kernel
theorem dX9_nameOf_2 : decode cX9_nameOf 2 = .ok (.invokevirtual 104, 3) := by decide +kernel
theorem dX9_nameOf_5 : decode cX9_nameOf 5 = .ok (.astore_n 3, 1) := by decide +kernel
theorem dX9_nameOf_6 : decode cX9_nameOf 6 = .ok (.aload_n 3, 1) := by decide +kernel
theorem dX9_nameOf_7 : decode cX9_nameOf 7 = .ok (.iload_n 2, 1) := by decide +kernel
theorem dX9_nameOf_8 : decode cX9_nameOf 8 = .ok (.invokestatic 129, 3) := by decide +kernel
theorem dX9_nameOf_11 : decode cX9_nameOf 11 = .ok (.aload_n 3, 1) := by decide +kernel
theorem dX9_nameOf_12 : decode cX9_nameOf 12 = .ok (.getfield 176, 3) := by decide +kernel
theorem dX9_nameOf_15 : decode cX9_nameOf 15 = .ok (.iload_n 2, 1) := by decide +kernel
theorem dX9_nameOf_16 : decode cX9_nameOf 16 = .ok (.invokevirtual 201, 3) := by decide +kernel
theorem dX9_nameOf_19 : decode cX9_nameOf 19 = .ok (.ireturn, 1) := by decide +kernel
theorem dX9_valueAt_0 : decode cX9_valueAt 0 = .ok (.aload_n 0, 1) := by decide +kernel
theorem dX9_valueAt_1 : decode cX9_valueAt 1 = .ok (.iload_n 1, 1) := by decide +kernel
theorem dX9_valueAt_2 : decode cX9_valueAt 2 = .ok (.invokevirtual 104, 3) := by decide +kernel
theorem dX9_valueAt_5 : decode cX9_valueAt 5 = .ok (.astore 5, 2) := by decide +kernel
theorem dX9_valueAt_7 : decode cX9_valueAt 7 = .ok (.aload 5, 2) := by decide +kernel
theorem dX9_valueAt_9 : decode cX9_valueAt 9 = .ok (.iload_n 2, 1) := by decide +kernel
theorem dX9_valueAt_10 : decode cX9_valueAt 10 = .ok (.invokestatic 129, 3) := by decide +kernel
theorem dX9_valueAt_13 : decode cX9_valueAt 13 = .ok (.aload_n 0, 1) := by decide +kernel
theorem dX9_valueAt_14 : decode cX9_valueAt 14 = .ok (.iload_n 3, 1) := by decide +kernel
theorem dX9_valueAt_15 : decode cX9_valueAt 15 = .ok (.invokevirtual 114, 3) := by decide +kernel
theorem dX9_valueAt_18 : decode cX9_valueAt 18 = .ok (.iload 4, 2) := by decide +kernel
theorem dX9_valueAt_20 : decode cX9_valueAt 20 = .ok (.invokestatic 341, 3) := by decide +kernel
theorem dX9_valueAt_23 : decode cX9_valueAt 23 = .ok (.aload 5, 2) := by decide +kernel
theorem dX9_valueAt_25 : decode cX9_valueAt 25 = .ok (.getfield 176, 3) := by decide +kernel
theorem dX9_valueAt_28 : decode cX9_valueAt 28 = .ok (.iload_n 2, 1) := by decide +kernel
theorem dX9_valueAt_29 : decode cX9_valueAt 29 = .ok (.iload_n 3, 1) := by decide +kernel
theorem dX9_valueAt_30 : decode cX9_valueAt 30 = .ok (.iload 4, 2) := by decide +kernel
theorem dX9_valueAt_32 : decode cX9_valueAt 32 = .ok (.invokevirtual 344, 3) := by decide +kernel
theorem dX9_valueAt_35 : decode cX9_valueAt 35 = .ok (.ireturn, 1) := by decide +kernel
theorem dX9_valuesAnew_0 : decode cX9_valuesAnew 0 = .ok (.aload_n 0, 1) := by decide +kernel
theorem dX9_valuesAnew_1 : decode cX9_valuesAnew 1 = .ok (.iload_n 1, 1) := by decide +kernel
theorem dX9_valuesAnew_2 : decode cX9_valuesAnew 2 = .ok (.invokevirtual 104, 3) := by decide +kernel
theorem dX9_valuesAnew_5 : decode cX9_valuesAnew 5 = .ok (.astore 4, 2) := by decide +kernel
theorem dX9_valuesAnew_7 : decode cX9_valuesAnew 7 = .ok (.aload 4, 2) := by decide +kernel
theorem dX9_valuesAnew_9 : decode cX9_valuesAnew 9 = .ok (.iload_n 2, 1) := by decide +kernel
theorem dX9_valuesAnew_10 : decode cX9_valuesAnew 10 = .ok (.invokestatic 129, 3) := by decide +kernel
theorem dX9_valuesAnew_13 : decode cX9_valuesAnew 13 = .ok (.aload_n 0, 1) := by decide +kernel
theorem dX9_valuesAnew_14 : decode cX9_valuesAnew 14 = .ok (.iload_n 3, 1) := by decide +kernel
theorem dX9_valuesAnew_15 : decode cX9_valuesAnew 15 = .ok (.invokevirtual 114, 3) := by decide +kernel
theorem dX9_valuesAnew_18 : decode cX9_valuesAnew 18 = .ok (.aload_n 0, 1) := by decide +kernel
theorem dX9_valuesAnew_19 : decode cX9_valuesAnew 19 = .ok (.aload_n 0, 1) := by decide +kernel
theorem dX9_valuesAnew_20 : decode cX9_valuesAnew 20 = .ok (.getfield 57, 3) := by decide +kernel
theorem dX9_valuesAnew_23 : decode cX9_valuesAnew 23 = .ok (.aload 4, 2) := by decide +kernel
theorem dX9_valuesAnew_25 : decode cX9_valuesAnew 25 = .ok (.invokevirtual 268, 3) := by decide +kernel
theorem dX9_valuesAnew_28 : decode cX9_valuesAnew 28 = .ok (.aload_n 0, 1) := by decide +kernel
theorem dX9_valuesAnew_29 : decode cX9_valuesAnew 29 = .ok (.getfield 57, 3) := by decide +kernel
theorem dX9_valuesAnew_32 : decode cX9_valuesAnew 32 = .ok (.iload_n 2, 1) := by decide +kernel
theorem dX9_valuesAnew_33 : decode cX9_valuesAnew 33 = .ok (.iload_n 3, 1) := by decide +kernel
theorem dX9_valuesAnew_34 : decode cX9_valuesAnew 34 = .ok (.invokevirtual 191, 3) := by decide +kernel
theorem dX9_valuesAnew_37 : decode cX9_valuesAnew 37 = .ok (.ireturn, 1) := by decide +kernel
theorem dX9_linkOf_0 : decode cX9_linkOf 0 = .ok (.aload_n 0, 1) := by decide +kernel
theorem dX9_linkOf_1 : decode cX9_linkOf 1 = .ok (.iload_n 1, 1) := by decide +kernel
theorem dX9_linkOf_2 : decode cX9_linkOf 2 = .ok (.invokevirtual 104, 3) := by decide +kernel
theorem dX9_linkOf_5 : decode cX9_linkOf 5 = .ok (.astore_n 3, 1) := by decide +kernel
theorem dX9_linkOf_6 : decode cX9_linkOf 6 = .ok (.aload_n 3, 1) := by decide +kernel
theorem dX9_linkOf_7 : decode cX9_linkOf 7 = .ok (.iload_n 2, 1) := by decide +kernel
theorem dX9_linkOf_8 : decode cX9_linkOf 8 = .ok (.invokestatic 129, 3) := by decide +kernel
theorem dX9_linkOf_11 : decode cX9_linkOf 11 = .ok (.aload_n 3, 1) := by decide +kernel
theorem dX9_linkOf_12 : decode cX9_linkOf 12 = .ok (.getfield 176, 3) := by decide +kernel
theorem dX9_linkOf_15 : decode cX9_linkOf 15 = .ok (.getfield 224, 3) := by decide +kernel
theorem dX9_linkOf_18 : decode cX9_linkOf 18 = .ok (.iload_n 2, 1) := by decide +kernel
theorem dX9_linkOf_19 : decode cX9_linkOf 19 = .ok (.iaload, 1) := by decide +kernel
theorem dX9_linkOf_20 : decode cX9_linkOf 20 = .ok (.ireturn, 1) := by decide +kernel
theorem dX9_may_0 : decode cX9_may 0 = .ok (.aload_n 0, 1) := by decide +kernel
theorem dX9_may_1 : decode cX9_may 1 = .ok (.iload_n 1, 1) := by decide +kernel
theorem dX9_may_2 : decode cX9_may 2 = .ok (.invokevirtual 104, 3) := by decide +kernel
theorem dX9_may_5 : decode cX9_may 5 = .ok (.astore 5, 2) := by decide +kernel
theorem dX9_may_7 : decode cX9_may 7 = .ok (.iload_n 2, 1) := by decide +kernel
theorem dX9_may_8 : decode cX9_may 8 = .ok (.invokestatic 108, 3) := by decide +kernel
theorem dX9_may_11 : decode cX9_may 11 = .ok (.aload 5, 2) := by decide +kernel
theorem dX9_may_13 : decode cX9_may 13 = .ok (.iload_n 3, 1) := by decide +kernel
theorem dX9_may_14 : decode cX9_may 14 = .ok (.invokestatic 129, 3) := by decide +kernel
theorem dX9_may_17 : decode cX9_may 17 = .ok (.iload 4, 2) := by decide +kernel
theorem dX9_may_19 : decode cX9_may 19 = .ok (.invokestatic 230, 3) := by decide +kernel
theorem dX9_may_22 : decode cX9_may 22 = .ok (.aload 5, 2) := by decide +kernel
theorem dX9_may_24 : decode cX9_may 24 = .ok (.getfield 176, 3) := by decide +kernel
theorem dX9_may_27 : decode cX9_may 27 = .ok (.iload_n 2, 1) := by decide +kernel
theorem dX9_may_28 : decode cX9_may 28 = .ok (.iload_n 3, 1) := by decide +kernel
theorem dX9_may_29 : decode cX9_may 29 = .ok (.iload 4, 2) := by decide +kernel
theorem dX9_may_31 : decode cX9_may 31 = .ok (.invokevirtual 347, 3) := by decide +kernel
theorem dX9_may_34 : decode cX9_may 34 = .ok (.ireturn, 1) := by decide +kernel
theorem dX9_childAt_0 : decode cX9_childAt 0 = .ok (.aload_n 0, 1) := by decide +kernel
theorem dX9_childAt_1 : decode cX9_childAt 1 = .ok (.iload_n 1, 1) := by decide +kernel
theorem dX9_childAt_2 : decode cX9_childAt 2 = .ok (.invokevirtual 104, 3) := by decide +kernel
theorem dX9_childAt_5 : decode cX9_childAt 5 = .ok (.astore 4, 2) := by decide +kernel
theorem dX9_childAt_7 : decode cX9_childAt 7 = .ok (.iload_n 2, 1) := by decide +kernel
theorem dX9_childAt_8 : decode cX9_childAt 8 = .ok (.bipush (-2), 2) := by decide +kernel
theorem dX9_childAt_10 : decode cX9_childAt 10 = .ok (.if_icmp .eq 9, 3) := by decide +kernel
theorem dX9_childAt_13 : decode cX9_childAt 13 = .ok (.aload 4, 2) := by decide +kernel
theorem dX9_childAt_15 : decode cX9_childAt 15 = .ok (.iload_n 2, 1) := by decide +kernel
theorem dX9_childAt_16 : decode cX9_childAt 16 = .ok (.invokestatic 129, 3) := by decide +kernel
theorem dX9_childAt_19 : decode cX9_childAt 19 = .ok (.iload_n 3, 1) := by decide +kernel
theorem dX9_childAt_20 : decode cX9_childAt 20 = .ok (.invokestatic 341, 3) := by decide +kernel
theorem dX9_childAt_23 : decode cX9_childAt 23 = .ok (.aload 4, 2) := by decide +kernel
theorem dX9_childAt_25 : decode cX9_childAt 25 = .ok (.getfield 176, 3) := by decide +kernel
theorem dX9_childAt_28 : decode cX9_childAt 28 = .ok (.iload_n 2, 1) := by decide +kernel
theorem dX9_childAt_29 : decode cX9_childAt 29 = .ok (.invokevirtual 351, 3) := by decide +kernel
theorem dX9_childAt_32 : decode cX9_childAt 32 = .ok (.astore 5, 2) := by decide +kernel
theorem dX9_childAt_34 : decode cX9_childAt 34 = .ok (.iload_n 3, 1) := by decide +kernel
theorem dX9_childAt_35 : decode cX9_childAt 35 = .ok (.aload 5, 2) := by decide +kernel
theorem dX9_childAt_37 : decode cX9_childAt 37 = .ok (.getfield 355, 3) := by decide +kernel
theorem dX9_childAt_40 : decode cX9_childAt 40 = .ok (.if_icmp .ge 15, 3) := by decide +kernel
theorem dX9_childAt_43 : decode cX9_childAt 43 = .ok (.aload 5, 2) := by decide +kernel
theorem dX9_childAt_45 : decode cX9_childAt 45 = .ok (.iload_n 3, 1) := by decide +kernel
theorem dX9_childAt_46 : decode cX9_childAt 46 = .ok (.invokevirtual 359, 3) := by decide +kernel
theorem dX9_childAt_49 : decode cX9_childAt 49 = .ok (.bipush 48, 2) := by decide +kernel
theorem dX9_childAt_51 : decode cX9_childAt 51 = .ok (.irem, 1) := by decide +kernel
theorem dX9_childAt_52 : decode cX9_childAt 52 = .ok (.goto 4, 3) := by decide +kernel
theorem dX9_childAt_55 : decode cX9_childAt 55 = .ok (.iconst (-1), 1) := by decide +kernel
theorem dX9_childAt_56 : decode cX9_childAt 56 = .ok (.ireturn, 1) := by decide +kernel
theorem dX9_conflicts_0 : decode cX9_conflicts 0 = .ok (.aload_n 0, 1) := by decide +kernel
theorem dX9_conflicts_1 : decode cX9_conflicts 1 = .ok (.iload_n 1, 1) := by decide +kernel
theorem dX9_conflicts_2 : decode cX9_conflicts 2 = .ok (.invokevirtual 104, 3) := by decide +kernel
theorem dX9_conflicts_5 : decode cX9_conflicts 5 = .ok (.getfield 176, 3) := by decide +kernel
theorem dX9_conflicts_8 : decode cX9_conflicts 8 = .ok (.astore_n 3, 1) := by decide +kernel
theorem dX9_conflicts_9 : decode cX9_conflicts 9 = .ok (.iload_n 2, 1) := by decide +kernel
theorem dX9_conflicts_10 : decode cX9_conflicts 10 = .ok (.ifCond .lt 8, 3) := by decide +kernel
theorem dX9_conflicts_13 : decode cX9_conflicts 13 = .ok (.iload_n 2, 1) := by decide +kernel
theorem dX9_conflicts_14 : decode cX9_conflicts 14 = .ok (.iconst 3, 1) := by decide +kernel
theorem dX9_conflicts_15 : decode cX9_conflicts 15 = .ok (.if_icmp .lt 14, 3) := by decide +kernel
theorem dX9_conflicts_18 : decode cX9_conflicts 18 = .ok (.new 90, 3) := by decide +kernel
theorem dX9_conflicts_21 : decode cX9_conflicts 21 = .ok (.dup, 1) := by decide +kernel
theorem dX9_conflicts_22 : decode cX9_conflicts 22 = .ok (.ldc_w 362, 3) := by decide +kernel
theorem dX9_conflicts_25 : decode cX9_conflicts 25 = .ok (.invokespecial 94, 3) := by decide +kernel
theorem dX9_conflicts_28 : decode cX9_conflicts 28 = .ok (.athrow, 1) := by decide +kernel
theorem dX9_conflicts_29 : decode cX9_conflicts 29 = .ok (.iconst 0, 1) := by decide +kernel
theorem dX9_conflicts_30 : decode cX9_conflicts 30 = .ok (.istore 4, 2) := by decide +kernel
theorem dX9_conflicts_32 : decode cX9_conflicts 32 = .ok (.iconst 1, 1) := by decide +kernel
theorem dX9_conflicts_33 : decode cX9_conflicts 33 = .ok (.istore 5, 2) := by decide +kernel
theorem dX9_conflicts_35 : decode cX9_conflicts 35 = .ok (.iload 5, 2) := by decide +kernel
theorem dX9_conflicts_37 : decode cX9_conflicts 37 = .ok (.bipush 48, 2) := by decide +kernel
theorem dX9_conflicts_39 : decode cX9_conflicts 39 = .ok (.if_icmp .ge 31, 3) := by decide +kernel
theorem dX9_conflicts_42 : decode cX9_conflicts 42 = .ok (.aload_n 3, 1) := by decide +kernel
theorem dX9_conflicts_43 : decode cX9_conflicts 43 = .ok (.iload 5, 2) := by decide +kernel
theorem dX9_conflicts_45 : decode cX9_conflicts 45 = .ok (.invokevirtual 364, 3) := by decide +kernel
theorem dX9_conflicts_48 : decode cX9_conflicts 48 = .ok (.ifCond .eq 16, 3) := by decide +kernel
theorem dX9_conflicts_51 : decode cX9_conflicts 51 = .ok (.aload_n 3, 1) := by decide +kernel
theorem dX9_conflicts_52 : decode cX9_conflicts 52 = .ok (.iload 5, 2) := by decide +kernel
theorem dX9_conflicts_54 : decode cX9_conflicts 54 = .ok (.iload_n 2, 1) := by decide +kernel
theorem dX9_conflicts_55 : decode cX9_conflicts 55 = .ok (.invokestatic 367, 3) := by decide +kernel
theorem dX9_conflicts_58 : decode cX9_conflicts 58 = .ok (.ifCond .eq 6, 3) := by decide +kernel
theorem dX9_conflicts_61 : decode cX9_conflicts 61 = .ok (.iinc 4 1, 3) := by decide +kernel
theorem dX9_conflicts_64 : decode cX9_conflicts 64 = .ok (.iinc 5 1, 3) := by decide +kernel
theorem dX9_conflicts_67 : decode cX9_conflicts 67 = .ok (.goto (-32), 3) := by decide +kernel
theorem dX9_conflicts_70 : decode cX9_conflicts 70 = .ok (.iload 4, 2) := by decide +kernel
theorem dX9_conflicts_72 : decode cX9_conflicts 72 = .ok (.ireturn, 1) := by decide +kernel
theorem dX9_knows_0 : decode cX9_knows 0 = .ok (.aload_n 0, 1) := by decide +kernel
theorem dX9_knows_1 : decode cX9_knows 1 = .ok (.iload_n 1, 1) := by decide +kernel
theorem dX9_knows_2 : decode cX9_knows 2 = .ok (.invokevirtual 104, 3) := by decide +kernel
theorem dX9_knows_5 : decode cX9_knows 5 = .ok (.astore_n 3, 1) := by decide +kernel
theorem dX9_knows_6 : decode cX9_knows 6 = .ok (.aload_n 3, 1) := by decide +kernel
theorem dX9_knows_7 : decode cX9_knows 7 = .ok (.iload_n 1, 1) := by decide +kernel
theorem dX9_knows_8 : decode cX9_knows 8 = .ok (.aload_n 0, 1) := by decide +kernel
theorem dX9_knows_9 : decode cX9_knows 9 = .ok (.iload_n 2, 1) := by decide +kernel
theorem dX9_knows_10 : decode cX9_knows 10 = .ok (.invokevirtual 104, 3) := by decide +kernel
theorem dX9_knows_13 : decode cX9_knows 13 = .ok (.getfield 371, 3) := by decide +kernel
theorem dX9_knows_16 : decode cX9_knows 16 = .ok (.invokevirtual 374, 3) := by decide +kernel
theorem dX9_knows_19 : decode cX9_knows 19 = .ok (.ireturn, 1) := by decide +kernel
theorem dX9_marks_0 : decode cX9_marks 0 = .ok (.aload_n 0, 1) := by decide +kernel
theorem dX9_marks_1 : decode cX9_marks 1 = .ok (.iload_n 1, 1) := by decide +kernel
theorem dX9_marks_2 : decode cX9_marks 2 = .ok (.invokevirtual 104, 3) := by decide +kernel
theorem dX9_marks_5 : decode cX9_marks 5 = .ok (.invokevirtual 214, 3) := by decide +kernel
theorem dX9_marks_8 : decode cX9_marks 8 = .ok (.invokestatic 218, 3) := by decide +kernel
theorem dX9_marks_11 : decode cX9_marks 11 = .ok (.ireturn, 1) := by decide +kernel
theorem dX9_masterAt_0 : decode cX9_masterAt 0 = .ok (.iload_n 1, 1) := by decide +kernel
theorem dX9_masterAt_1 : decode cX9_masterAt 1 = .ok (.ifCond .lt 8, 3) := by decide +kernel
theorem dX9_masterAt_4 : decode cX9_masterAt 4 = .ok (.iload_n 1, 1) := by decide +kernel
theorem dX9_masterAt_5 : decode cX9_masterAt 5 = .ok (.iconst 4, 1) := by decide +kernel
theorem dX9_masterAt_6 : decode cX9_masterAt 6 = .ok (.if_icmp .lt 14, 3) := by decide +kernel
theorem dX9_masterAt_9 : decode cX9_masterAt 9 = .ok (.new 90, 3) := by decide +kernel
theorem dX9_masterAt_12 : decode cX9_masterAt 12 = .ok (.dup, 1) := by decide +kernel
theorem dX9_masterAt_13 : decode cX9_masterAt 13 = .ok (.ldc_w 381, 3) := by decide +kernel
theorem dX9_masterAt_16 : decode cX9_masterAt 16 = .ok (.invokespecial 94, 3) := by decide +kernel
theorem dX9_masterAt_19 : decode cX9_masterAt 19 = .ok (.athrow, 1) := by decide +kernel
theorem dX9_masterAt_20 : decode cX9_masterAt 20 = .ok (.aload_n 0, 1) := by decide +kernel
theorem dX9_masterAt_21 : decode cX9_masterAt 21 = .ok (.getfield 34, 3) := by decide +kernel
theorem dX9_masterAt_24 : decode cX9_masterAt 24 = .ok (.iload_n 1, 1) := by decide +kernel
theorem dX9_masterAt_25 : decode cX9_masterAt 25 = .ok (.aaload, 1) := by decide +kernel
theorem dX9_masterAt_26 : decode cX9_masterAt 26 = .ok (.areturn, 1) := by decide +kernel
theorem dX9_needUser_0 : decode cX9_needUser 0 = .ok (.iload_n 0, 1) := by decide +kernel
theorem dX9_needUser_1 : decode cX9_needUser 1 = .ok (.ifCond .lt 9, 3) := by decide +kernel
theorem dX9_needUser_4 : decode cX9_needUser 4 = .ok (.iload_n 0, 1) := by decide +kernel
theorem dX9_needUser_5 : decode cX9_needUser 5 = .ok (.bipush 6, 2) := by decide +kernel
theorem dX9_needUser_7 : decode cX9_needUser 7 = .ok (.if_icmp .lt 14, 3) := by decide +kernel
theorem dX9_needUser_10 : decode cX9_needUser 10 = .ok (.new 90, 3) := by decide +kernel
theorem dX9_needUser_13 : decode cX9_needUser 13 = .ok (.dup, 1) := by decide +kernel
theorem dX9_needUser_14 : decode cX9_needUser 14 = .ok (.ldc_w 383, 3) := by decide +kernel
theorem dX9_needUser_17 : decode cX9_needUser 17 = .ok (.invokespecial 94, 3) := by decide +kernel
theorem dX9_needUser_20 : decode cX9_needUser 20 = .ok (.athrow, 1) := by decide +kernel
theorem dX9_needUser_21 : decode cX9_needUser 21 = .ok (.return_, 1) := by decide +kernel
theorem dX9_needEntry_0 : decode cX9_needEntry 0 = .ok (.aload_n 0, 1) := by decide +kernel
theorem dX9_needEntry_1 : decode cX9_needEntry 1 = .ok (.getfield 176, 3) := by decide +kernel
theorem dX9_needEntry_4 : decode cX9_needEntry 4 = .ok (.iload_n 1, 1) := by decide +kernel
theorem dX9_needEntry_5 : decode cX9_needEntry 5 = .ok (.invokevirtual 364, 3) := by decide +kernel
theorem dX9_needEntry_8 : decode cX9_needEntry 8 = .ok (.ifCond .ne 14, 3) := by decide +kernel
theorem dX9_needEntry_11 : decode cX9_needEntry 11 = .ok (.new 90, 3) := by decide +kernel
theorem dX9_needEntry_14 : decode cX9_needEntry 14 = .ok (.dup, 1) := by decide +kernel
theorem dX9_needEntry_15 : decode cX9_needEntry 15 = .ok (.ldc_w 385, 3) := by decide +kernel
theorem dX9_needEntry_18 : decode cX9_needEntry 18 = .ok (.invokespecial 94, 3) := by decide +kernel
theorem dX9_needEntry_21 : decode cX9_needEntry 21 = .ok (.athrow, 1) := by decide +kernel
theorem dX9_needEntry_22 : decode cX9_needEntry 22 = .ok (.return_, 1) := by decide +kernel
theorem dX9_needChangeable_0 : decode cX9_needChangeable 0 = .ok (.iload_n 1, 1) := by decide +kernel
theorem dX9_needChangeable_1 : decode cX9_needChangeable 1 = .ok (.ifCond .ne 14, 3) := by decide +kernel
theorem dX9_needChangeable_4 : decode cX9_needChangeable 4 = .ok (.new 90, 3) := by decide +kernel
theorem dX9_needChangeable_7 : decode cX9_needChangeable 7 = .ok (.dup, 1) := by decide +kernel
theorem dX9_needChangeable_8 : decode cX9_needChangeable 8 = .ok (.ldc_w 387, 3) := by decide +kernel
theorem dX9_needChangeable_11 : decode cX9_needChangeable 11 = .ok (.invokespecial 94, 3) := by decide +kernel
theorem dX9_needChangeable_14 : decode cX9_needChangeable 14 = .ok (.athrow, 1) := by decide +kernel
theorem dX9_needChangeable_15 : decode cX9_needChangeable 15 = .ok (.aload_n 0, 1) := by decide +kernel
theorem dX9_needChangeable_16 : decode cX9_needChangeable 16 = .ok (.iload_n 1, 1) := by decide +kernel
theorem dX9_needChangeable_17 : decode cX9_needChangeable 17 = .ok (.invokestatic 129, 3) := by decide +kernel
theorem dX9_needChangeable_20 : decode cX9_needChangeable 20 = .ok (.return_, 1) := by decide +kernel
theorem dX9_needAttribute_0 : decode cX9_needAttribute 0 = .ok (.iload_n 1, 1) := by decide +kernel
theorem dX9_needAttribute_1 : decode cX9_needAttribute 1 = .ok (.ifCond .lt 14, 3) := by decide +kernel
theorem dX9_needAttribute_4 : decode cX9_needAttribute 4 = .ok (.iload_n 1, 1) := by decide +kernel
theorem dX9_needAttribute_5 : decode cX9_needAttribute 5 = .ok (.aload_n 0, 1) := by decide +kernel
theorem dX9_needAttribute_6 : decode cX9_needAttribute 6 = .ok (.getfield 12, 3) := by decide +kernel
theorem dX9_needAttribute_9 : decode cX9_needAttribute 9 = .ok (.getfield 68, 3) := by decide +kernel
theorem dX9_needAttribute_12 : decode cX9_needAttribute 12 = .ok (.if_icmp .lt 13, 3) := by decide +kernel
theorem dX9_needAttribute_15 : decode cX9_needAttribute 15 = .ok (.new 90, 3) := by decide +kernel
theorem dX9_needAttribute_18 : decode cX9_needAttribute 18 = .ok (.dup, 1) := by decide +kernel
theorem dX9_needAttribute_19 : decode cX9_needAttribute 19 = .ok (.ldc 92, 2) := by decide +kernel
theorem dX9_needAttribute_21 : decode cX9_needAttribute 21 = .ok (.invokespecial 94, 3) := by decide +kernel
theorem dX9_needAttribute_24 : decode cX9_needAttribute 24 = .ok (.athrow, 1) := by decide +kernel
theorem dX9_needAttribute_25 : decode cX9_needAttribute 25 = .ok (.return_, 1) := by decide +kernel
theorem dX9_needClass_0 : decode cX9_needClass 0 = .ok (.aload_n 0, 1) := by decide +kernel
theorem dX9_needClass_1 : decode cX9_needClass 1 = .ok (.getfield 12, 3) := by decide +kernel
theorem dX9_needClass_4 : decode cX9_needClass 4 = .ok (.iload_n 1, 1) := by decide +kernel
theorem dX9_needClass_5 : decode cX9_needClass 5 = .ok (.invokevirtual 389, 3) := by decide +kernel
theorem dX9_needClass_8 : decode cX9_needClass 8 = .ok (.ifCond .ne 14, 3) := by decide +kernel
theorem dX9_needClass_11 : decode cX9_needClass 11 = .ok (.new 90, 3) := by decide +kernel
theorem dX9_needClass_14 : decode cX9_needClass 14 = .ok (.dup, 1) := by decide +kernel
theorem dX9_needClass_15 : decode cX9_needClass 15 = .ok (.ldc_w 392, 3) := by decide +kernel
theorem dX9_needClass_18 : decode cX9_needClass 18 = .ok (.invokespecial 94, 3) := by decide +kernel
theorem dX9_needClass_21 : decode cX9_needClass 21 = .ok (.athrow, 1) := by decide +kernel
theorem dX9_needClass_22 : decode cX9_needClass 22 = .ok (.return_, 1) := by decide +kernel
theorem dX9_needScope_0 : decode cX9_needScope 0 = .ok (.iload_n 0, 1) := by decide +kernel
theorem dX9_needScope_1 : decode cX9_needScope 1 = .ok (.ifCond .lt 8, 3) := by decide +kernel
theorem dX9_needScope_4 : decode cX9_needScope 4 = .ok (.iload_n 0, 1) := by decide +kernel
theorem dX9_needScope_5 : decode cX9_needScope 5 = .ok (.iconst 3, 1) := by decide +kernel
theorem dX9_needScope_6 : decode cX9_needScope 6 = .ok (.if_icmp .lt 14, 3) := by decide +kernel
theorem dX9_needScope_9 : decode cX9_needScope 9 = .ok (.new 90, 3) := by decide +kernel
theorem dX9_needScope_12 : decode cX9_needScope 12 = .ok (.dup, 1) := by decide +kernel
theorem dX9_needScope_13 : decode cX9_needScope 13 = .ok (.ldc_w 394, 3) := by decide +kernel
theorem dX9_needScope_16 : decode cX9_needScope 16 = .ok (.invokespecial 94, 3) := by decide +kernel
theorem dX9_needScope_19 : decode cX9_needScope 19 = .ok (.athrow, 1) := by decide +kernel
theorem dX9_needScope_20 : decode cX9_needScope 20 = .ok (.return_, 1) := by decide +kernel
theorem dX9_needRight_0 : decode cX9_needRight 0 = .ok (.iload_n 0, 1) := by decide +kernel
theorem dX9_needRight_1 : decode cX9_needRight 1 = .ok (.ifCond .lt 8, 3) := by decide +kernel
theorem dX9_needRight_4 : decode cX9_needRight 4 = .ok (.iload_n 0, 1) := by decide +kernel
theorem dX9_needRight_5 : decode cX9_needRight 5 = .ok (.iconst 2, 1) := by decide +kernel
theorem dX9_needRight_6 : decode cX9_needRight 6 = .ok (.if_icmp .lt 14, 3) := by decide +kernel
theorem dX9_needRight_9 : decode cX9_needRight 9 = .ok (.new 90, 3) := by decide +kernel
theorem dX9_needRight_12 : decode cX9_needRight 12 = .ok (.dup, 1) := by decide +kernel
theorem dX9_needRight_13 : decode cX9_needRight 13 = .ok (.ldc_w 396, 3) := by decide +kernel
theorem dX9_needRight_16 : decode cX9_needRight 16 = .ok (.invokespecial 94, 3) := by decide +kernel
theorem dX9_needRight_19 : decode cX9_needRight 19 = .ok (.athrow, 1) := by decide +kernel
theorem dX9_needRight_20 : decode cX9_needRight 20 = .ok (.return_, 1) := by decide +kernel
theorem dX9_needIndex_0 : decode cX9_needIndex 0 = .ok (.iload_n 0, 1) := by decide +kernel
theorem dX9_needIndex_1 : decode cX9_needIndex 1 = .ok (.ifCond .ge 14, 3) := by decide +kernel
theorem dX9_needIndex_4 : decode cX9_needIndex 4 = .ok (.new 90, 3) := by decide +kernel
theorem dX9_needIndex_7 : decode cX9_needIndex 7 = .ok (.dup, 1) := by decide +kernel
theorem dX9_needIndex_8 : decode cX9_needIndex 8 = .ok (.ldc_w 398, 3) := by decide +kernel
theorem dX9_needIndex_11 : decode cX9_needIndex 11 = .ok (.invokespecial 94, 3) := by decide +kernel
theorem dX9_needIndex_14 : decode cX9_needIndex 14 = .ok (.athrow, 1) := by decide +kernel
theorem dX9_needIndex_15 : decode cX9_needIndex 15 = .ok (.return_, 1) := by decide +kernel
theorem dX9_needValue_0 : decode cX9_needValue 0 = .ok (.iload_n 0, 1) := by decide +kernel
theorem dX9_needValue_1 : decode cX9_needValue 1 = .ok (.ifCond .lt 10, 3) := by decide +kernel
theorem dX9_needValue_4 : decode cX9_needValue 4 = .ok (.iload_n 0, 1) := by decide +kernel
theorem dX9_needValue_5 : decode cX9_needValue 5 = .ok (.sipush 1000, 3) := by decide +kernel
theorem dX9_needValue_8 : decode cX9_needValue 8 = .ok (.if_icmp .lt 14, 3) := by decide +kernel
theorem dX9_needValue_11 : decode cX9_needValue 11 = .ok (.new 233, 3) := by decide +kernel
theorem dX9_needValue_14 : decode cX9_needValue 14 = .ok (.dup, 1) := by decide +kernel
theorem dX9_needValue_15 : decode cX9_needValue 15 = .ok (.ldc_w 400, 3) := by decide +kernel
theorem dX9_needValue_18 : decode cX9_needValue 18 = .ok (.invokespecial 237, 3) := by decide +kernel
theorem dX9_needValue_21 : decode cX9_needValue 21 = .ok (.athrow, 1) := by decide +kernel
theorem dX9_needValue_22 : decode cX9_needValue 22 = .ok (.return_, 1) := by decide +kernel
theorem dX9_needName_0 : decode cX9_needName 0 = .ok (.iload_n 0, 1) := by decide +kernel
theorem dX9_needName_1 : decode cX9_needName 1 = .ok (.ifCond .lt 9, 3) := by decide +kernel
theorem dX9_needName_4 : decode cX9_needName 4 = .ok (.iload_n 0, 1) := by decide +kernel
theorem dX9_needName_5 : decode cX9_needName 5 = .ok (.bipush 100, 2) := by decide +kernel
theorem dX9_needName_7 : decode cX9_needName 7 = .ok (.if_icmp .lt 14, 3) := by decide +kernel
theorem dX9_needName_10 : decode cX9_needName 10 = .ok (.new 233, 3) := by decide +kernel
theorem dX9_needName_13 : decode cX9_needName 13 = .ok (.dup, 1) := by decide +kernel
theorem dX9_needName_14 : decode cX9_needName 14 = .ok (.ldc_w 402, 3) := by decide +kernel
theorem dX9_needName_17 : decode cX9_needName 17 = .ok (.invokespecial 237, 3) := by decide +kernel
theorem dX9_needName_20 : decode cX9_needName 20 = .ok (.athrow, 1) := by decide +kernel
theorem dX9_needName_21 : decode cX9_needName 21 = .ok (.return_, 1) := by decide +kernel
theorem dX9_need_0 : decode cX9_need 0 = .ok (.iload_n 0, 1) := by decide +kernel
theorem dX9_need_1 : decode cX9_need 1 = .ok (.ifCond .ne 14, 3) := by decide +kernel
theorem dX9_need_4 : decode cX9_need 4 = .ok (.new 71, 3) := by decide +kernel
theorem dX9_need_7 : decode cX9_need 7 = .ok (.dup, 1) := by decide +kernel
theorem dX9_need_8 : decode cX9_need 8 = .ok (.ldc_w 404, 3) := by decide +kernel
theorem dX9_need_11 : decode cX9_need 11 = .ok (.invokespecial 75, 3) := by decide +kernel
theorem dX9_need_14 : decode cX9_need 14 = .ok (.athrow, 1) := by decide +kernel
theorem dX9_need_15 : decode cX9_need 15 = .ok (.return_, 1) := by decide +kernel
theorem dX9_needRoom_0 : decode cX9_needRoom 0 = .ok (.aload_n 0, 1) := by decide +kernel
theorem dX9_needRoom_1 : decode cX9_needRoom 1 = .ok (.getfield 50, 3) := by decide +kernel
theorem dX9_needRoom_4 : decode cX9_needRoom 4 = .ok (.invokevirtual 252, 3) := by decide +kernel
theorem dX9_needRoom_7 : decode cX9_needRoom 7 = .ok (.sipush 250, 3) := by decide +kernel
theorem dX9_needRoom_10 : decode cX9_needRoom 10 = .ok (.if_icmp .lt 14, 3) := by decide +kernel
theorem dX9_needRoom_13 : decode cX9_needRoom 13 = .ok (.new 71, 3) := by decide +kernel
theorem dX9_needRoom_16 : decode cX9_needRoom 16 = .ok (.dup, 1) := by decide +kernel
theorem dX9_needRoom_17 : decode cX9_needRoom 17 = .ok (.ldc_w 406, 3) := by decide +kernel
theorem dX9_needRoom_20 : decode cX9_needRoom 20 = .ok (.invokespecial 75, 3) := by decide +kernel
theorem dX9_needRoom_23 : decode cX9_needRoom 23 = .ok (.athrow, 1) := by decide +kernel
theorem dX9_needRoom_24 : decode cX9_needRoom 24 = .ok (.return_, 1) := by decide +kernel
theorem dX9_needWrite_0 : decode cX9_needWrite 0 = .ok (.aload_n 0, 1) := by decide +kernel
theorem dX9_needWrite_1 : decode cX9_needWrite 1 = .ok (.getfield 176, 3) := by decide +kernel
theorem dX9_needWrite_4 : decode cX9_needWrite 4 = .ok (.aload_n 0, 1) := by decide +kernel
theorem dX9_needWrite_5 : decode cX9_needWrite 5 = .ok (.getfield 111, 3) := by decide +kernel
theorem dX9_needWrite_8 : decode cX9_needWrite 8 = .ok (.iload_n 1, 1) := by decide +kernel
theorem dX9_needWrite_9 : decode cX9_needWrite 9 = .ok (.iconst 1, 1) := by decide +kernel
theorem dX9_needWrite_10 : decode cX9_needWrite 10 = .ok (.invokevirtual 347, 3) := by decide +kernel
theorem dX9_needWrite_13 : decode cX9_needWrite 13 = .ok (.ifCond .ne 14, 3) := by decide +kernel
theorem dX9_needWrite_16 : decode cX9_needWrite 16 = .ok (.new 71, 3) := by decide +kernel
theorem dX9_needWrite_19 : decode cX9_needWrite 19 = .ok (.dup, 1) := by decide +kernel
theorem dX9_needWrite_20 : decode cX9_needWrite 20 = .ok (.ldc_w 408, 3) := by decide +kernel
theorem dX9_needWrite_23 : decode cX9_needWrite 23 = .ok (.invokespecial 75, 3) := by decide +kernel
theorem dX9_needWrite_26 : decode cX9_needWrite 26 = .ok (.athrow, 1) := by decide +kernel
theorem dX9_needWrite_27 : decode cX9_needWrite 27 = .ok (.return_, 1) := by decide +kernel
theorem dX9_needFreeName_0 : decode cX9_needFreeName 0 = .ok (.aload_n 0, 1) := by decide +kernel
theorem dX9_needFreeName_1 : decode cX9_needFreeName 1 = .ok (.getfield 176, 3) := by decide +kernel
theorem dX9_needFreeName_4 : decode cX9_needFreeName 4 = .ok (.iload_n 1, 1) := by decide +kernel
theorem dX9_needFreeName_5 : decode cX9_needFreeName 5 = .ok (.iload_n 2, 1) := by decide +kernel
theorem dX9_needFreeName_6 : decode cX9_needFreeName 6 = .ok (.iload_n 3, 1) := by decide +kernel
theorem dX9_needFreeName_7 : decode cX9_needFreeName 7 = .ok (.invokevirtual 410, 3) := by decide +kernel
theorem dX9_needFreeName_10 : decode cX9_needFreeName 10 = .ok (.ifCond .eq 14, 3) := by decide +kernel
theorem dX9_needFreeName_13 : decode cX9_needFreeName 13 = .ok (.new 71, 3) := by decide +kernel
theorem dX9_needFreeName_16 : decode cX9_needFreeName 16 = .ok (.dup, 1) := by decide +kernel
theorem dX9_needFreeName_17 : decode cX9_needFreeName 17 = .ok (.ldc_w 413, 3) := by decide +kernel
theorem dX9_needFreeName_20 : decode cX9_needFreeName 20 = .ok (.invokespecial 75, 3) := by decide +kernel
theorem dX9_needFreeName_23 : decode cX9_needFreeName 23 = .ok (.athrow, 1) := by decide +kernel
theorem dX9_needFreeName_24 : decode cX9_needFreeName 24 = .ok (.return_, 1) := by decide +kernel
theorem dX9_needRoomForFilter_0 : decode cX9_needRoomForFilter 0 = .ok (.aload_n 0, 1) := by decide +kernel
theorem dX9_needRoomForFilter_1 : decode cX9_needRoomForFilter 1 = .ok (.getfield 28, 3) := by decide +kernel
theorem dX9_needRoomForFilter_4 : decode cX9_needRoomForFilter 4 = .ok (.getfield 299, 3) := by decide +kernel
theorem dX9_needRoomForFilter_7 : decode cX9_needRoomForFilter 7 = .ok (.bipush 8, 2) := by decide +kernel
theorem dX9_needRoomForFilter_9 : decode cX9_needRoomForFilter 9 = .ok (.if_icmp .ge 15, 3) := by decide +kernel
theorem dX9_needRoomForFilter_12 : decode cX9_needRoomForFilter 12 = .ok (.aload_n 0, 1) := by decide +kernel
theorem dX9_needRoomForFilter_13 : decode cX9_needRoomForFilter 13 = .ok (.getfield 28, 3) := by decide +kernel
theorem dX9_needRoomForFilter_16 : decode cX9_needRoomForFilter 16 = .ok (.getfield 302, 3) := by decide +kernel
theorem dX9_needRoomForFilter_19 : decode cX9_needRoomForFilter 19 = .ok (.bipush 15, 2) := by decide +kernel
theorem dX9_needRoomForFilter_21 : decode cX9_needRoomForFilter 21 = .ok (.if_icmp .lt 14, 3) := by decide +kernel
theorem dX9_needRoomForFilter_24 : decode cX9_needRoomForFilter 24 = .ok (.new 71, 3) := by decide +kernel
theorem dX9_needRoomForFilter_27 : decode cX9_needRoomForFilter 27 = .ok (.dup, 1) := by decide +kernel
theorem dX9_needRoomForFilter_28 : decode cX9_needRoomForFilter 28 = .ok (.ldc_w 415, 3) := by decide +kernel
theorem dX9_needRoomForFilter_31 : decode cX9_needRoomForFilter 31 = .ok (.invokespecial 75, 3) := by decide +kernel
theorem dX9_needRoomForFilter_34 : decode cX9_needRoomForFilter 34 = .ok (.athrow, 1) := by decide +kernel
theorem dX9_needRoomForFilter_35 : decode cX9_needRoomForFilter 35 = .ok (.return_, 1) := by decide +kernel
theorem dX9_needSearch_0 : decode cX9_needSearch 0 = .ok (.aload_n 0, 1) := by decide +kernel
theorem dX9_needSearch_1 : decode cX9_needSearch 1 = .ok (.iload_n 1, 1) := by decide +kernel
theorem dX9_needSearch_2 : decode cX9_needSearch 2 = .ok (.invokevirtual 104, 3) := by decide +kernel
theorem dX9_needSearch_5 : decode cX9_needSearch 5 = .ok (.iload_n 2, 1) := by decide +kernel
theorem dX9_needSearch_6 : decode cX9_needSearch 6 = .ok (.invokestatic 129, 3) := by decide +kernel
theorem dX9_needSearch_9 : decode cX9_needSearch 9 = .ok (.iload_n 3, 1) := by decide +kernel
theorem dX9_needSearch_10 : decode cX9_needSearch 10 = .ok (.invokestatic 227, 3) := by decide +kernel
theorem dX9_needSearch_13 : decode cX9_needSearch 13 = .ok (.aload_n 0, 1) := by decide +kernel
theorem dX9_needSearch_14 : decode cX9_needSearch 14 = .ok (.getfield 28, 3) := by decide +kernel
theorem dX9_needSearch_17 : decode cX9_needSearch 17 = .ok (.getfield 299, 3) := by decide +kernel
theorem dX9_needSearch_20 : decode cX9_needSearch 20 = .ok (.iconst 1, 1) := by decide +kernel
theorem dX9_needSearch_21 : decode cX9_needSearch 21 = .ok (.if_icmp .eq 14, 3) := by decide +kernel
theorem dX9_needSearch_24 : decode cX9_needSearch 24 = .ok (.new 71, 3) := by decide +kernel
theorem dX9_needSearch_27 : decode cX9_needSearch 27 = .ok (.dup, 1) := by decide +kernel
theorem dX9_needSearch_28 : decode cX9_needSearch 28 = .ok (.ldc_w 417, 3) := by decide +kernel
theorem dX9_needSearch_31 : decode cX9_needSearch 31 = .ok (.invokespecial 75, 3) := by decide +kernel
theorem dX9_needSearch_34 : decode cX9_needSearch 34 = .ok (.athrow, 1) := by decide +kernel
theorem dX9_needSearch_35 : decode cX9_needSearch 35 = .ok (.return_, 1) := by decide +kernel
theorem dX9_record_0 : decode cX9_record 0 = .ok (.aload_n 1, 1) := by decide +kernel
theorem dX9_record_1 : decode cX9_record 1 = .ok (.aload_n 2, 1) := by decide +kernel
theorem dX9_record_2 : decode cX9_record 2 = .ok (.invokevirtual 419, 3) := by decide +kernel
theorem dX9_record_5 : decode cX9_record 5 = .ok (.aload_n 0, 1) := by decide +kernel
theorem dX9_record_6 : decode cX9_record 6 = .ok (.getfield 50, 3) := by decide +kernel
theorem dX9_record_9 : decode cX9_record 9 = .ok (.invokevirtual 252, 3) := by decide +kernel
theorem dX9_record_12 : decode cX9_record 12 = .ok (.istore_n 3, 1) := by decide +kernel
theorem dX9_record_13 : decode cX9_record 13 = .ok (.iload_n 3, 1) := by decide +kernel
theorem dX9_record_14 : decode cX9_record 14 = .ok (.ifCond .le 32, 3) := by decide +kernel
theorem dX9_record_17 : decode cX9_record 17 = .ok (.aload_n 0, 1) := by decide +kernel
theorem dX9_record_18 : decode cX9_record 18 = .ok (.getfield 50, 3) := by decide +kernel
theorem dX9_record_21 : decode cX9_record 21 = .ok (.iload_n 3, 1) := by decide +kernel
theorem dX9_record_22 : decode cX9_record 22 = .ok (.iconst 1, 1) := by decide +kernel
theorem dX9_record_23 : decode cX9_record 23 = .ok (.isub, 1) := by decide +kernel
theorem dX9_record_24 : decode cX9_record 24 = .ok (.invokevirtual 256, 3) := by decide +kernel
theorem dX9_record_27 : decode cX9_record 27 = .ok (.checkcast 153, 3) := by decide +kernel
theorem dX9_record_30 : decode cX9_record 30 = .ok (.invokevirtual 422, 3) := by decide +kernel
theorem dX9_record_33 : decode cX9_record 33 = .ok (.aload_n 2, 1) := by decide +kernel
theorem dX9_record_34 : decode cX9_record 34 = .ok (.invokevirtual 422, 3) := by decide +kernel
theorem dX9_record_37 : decode cX9_record 37 = .ok (.if_icmp .le 9, 3) := by decide +kernel
theorem dX9_record_40 : decode cX9_record 40 = .ok (.iinc 3 (-1), 3) := by decide +kernel
theorem dX9_record_43 : decode cX9_record 43 = .ok (.goto (-30), 3) := by decide +kernel
theorem dX9_record_46 : decode cX9_record 46 = .ok (.aload_n 0, 1) := by decide +kernel
theorem dX9_record_47 : decode cX9_record 47 = .ok (.getfield 50, 3) := by decide +kernel
theorem dX9_record_50 : decode cX9_record 50 = .ok (.iload_n 3, 1) := by decide +kernel
theorem dX9_record_51 : decode cX9_record 51 = .ok (.aload_n 2, 1) := by decide +kernel
theorem dX9_record_52 : decode cX9_record 52 = .ok (.invokevirtual 425, 3) := by decide +kernel
theorem dX9_record_55 : decode cX9_record 55 = .ok (.aload_n 1, 1) := by decide +kernel
theorem dX9_record_56 : decode cX9_record 56 = .ok (.getfield 176, 3) := by decide +kernel
theorem dX9_record_59 : decode cX9_record 59 = .ok (.aload_n 2, 1) := by decide +kernel
theorem dX9_record_60 : decode cX9_record 60 = .ok (.invokevirtual 429, 3) := by decide +kernel
theorem dX9_record_63 : decode cX9_record 63 = .ok (.return_, 1) := by decide +kernel
theorem dX9_redo_0 : decode cX9_redo 0 = .ok (.aload_n 1, 1) := by decide +kernel
theorem dX9_redo_1 : decode cX9_redo 1 = .ok (.invokevirtual 431, 3) := by decide +kernel
theorem dX9_redo_4 : decode cX9_redo 4 = .ok (.iconst 0, 1) := by decide +kernel
theorem dX9_redo_5 : decode cX9_redo 5 = .ok (.istore_n 3, 1) := by decide +kernel
theorem dX9_redo_6 : decode cX9_redo 6 = .ok (.iload_n 3, 1) := by decide +kernel
theorem dX9_redo_7 : decode cX9_redo 7 = .ok (.aload_n 0, 1) := by decide +kernel
theorem dX9_redo_8 : decode cX9_redo 8 = .ok (.getfield 50, 3) := by decide +kernel
theorem dX9_redo_11 : decode cX9_redo 11 = .ok (.invokevirtual 252, 3) := by decide +kernel
theorem dX9_redo_14 : decode cX9_redo 14 = .ok (.if_icmp .ge 37, 3) := by decide +kernel
theorem dX9_redo_17 : decode cX9_redo 17 = .ok (.aload_n 0, 1) := by decide +kernel
theorem dX9_redo_18 : decode cX9_redo 18 = .ok (.getfield 50, 3) := by decide +kernel
theorem dX9_redo_21 : decode cX9_redo 21 = .ok (.iload_n 3, 1) := by decide +kernel
theorem dX9_redo_22 : decode cX9_redo 22 = .ok (.invokevirtual 256, 3) := by decide +kernel
theorem dX9_redo_25 : decode cX9_redo 25 = .ok (.checkcast 153, 3) := by decide +kernel
theorem dX9_redo_28 : decode cX9_redo 28 = .ok (.astore 4, 2) := by decide +kernel
theorem dX9_redo_30 : decode cX9_redo 30 = .ok (.aload_n 2, 1) := by decide +kernel
theorem dX9_redo_31 : decode cX9_redo 31 = .ok (.aload 4, 2) := by decide +kernel
theorem dX9_redo_33 : decode cX9_redo 33 = .ok (.invokevirtual 260, 3) := by decide +kernel
theorem dX9_redo_36 : decode cX9_redo 36 = .ok (.ifCond .eq 9, 3) := by decide +kernel
theorem dX9_redo_39 : decode cX9_redo 39 = .ok (.aload_n 1, 1) := by decide +kernel
theorem dX9_redo_40 : decode cX9_redo 40 = .ok (.aload 4, 2) := by decide +kernel
theorem dX9_redo_42 : decode cX9_redo 42 = .ok (.invokevirtual 429, 3) := by decide +kernel
theorem dX9_redo_45 : decode cX9_redo 45 = .ok (.iinc 3 1, 3) := by decide +kernel
theorem dX9_redo_48 : decode cX9_redo 48 = .ok (.goto (-42), 3) := by decide +kernel
theorem dX9_redo_51 : decode cX9_redo 51 = .ok (.return_, 1) := by decide +kernel
theorem dX9_deletionsKnownBy_0 : decode cX9_deletionsKnownBy 0 = .ok (.lconst 0, 1) := by decide +kernel
theorem dX9_deletionsKnownBy_1 : decode cX9_deletionsKnownBy 1 = .ok (.lstore_n 3, 1) := by decide +kernel
theorem dX9_deletionsKnownBy_2 : decode cX9_deletionsKnownBy 2 = .ok (.iconst 0, 1) := by decide +kernel
theorem dX9_deletionsKnownBy_3 : decode cX9_deletionsKnownBy 3 = .ok (.istore 5, 2) := by decide +kernel
theorem dX9_deletionsKnownBy_5 : decode cX9_deletionsKnownBy 5 = .ok (.iload 5, 2) := by decide +kernel
theorem dX9_deletionsKnownBy_7 : decode cX9_deletionsKnownBy 7 = .ok (.aload_n 0, 1) := by decide +kernel
theorem dX9_deletionsKnownBy_8 : decode cX9_deletionsKnownBy 8 = .ok (.getfield 50, 3) := by decide +kernel
theorem dX9_deletionsKnownBy_11 : decode cX9_deletionsKnownBy 11 = .ok (.invokevirtual 252, 3) := by decide +kernel
theorem dX9_deletionsKnownBy_14 : decode cX9_deletionsKnownBy 14 = .ok (.if_icmp .ge 62, 3) := by decide +kernel
theorem dX9_deletionsKnownBy_17 : decode cX9_deletionsKnownBy 17 = .ok (.aload_n 0, 1) := by decide +kernel
theorem dX9_deletionsKnownBy_18 : decode cX9_deletionsKnownBy 18 = .ok (.getfield 50, 3) := by decide +kernel
theorem dX9_deletionsKnownBy_21 : decode cX9_deletionsKnownBy 21 = .ok (.iload 5, 2) := by decide +kernel
theorem dX9_deletionsKnownBy_23 : decode cX9_deletionsKnownBy 23 = .ok (.invokevirtual 256, 3) := by decide +kernel
theorem dX9_deletionsKnownBy_26 : decode cX9_deletionsKnownBy 26 = .ok (.checkcast 153, 3) := by decide +kernel
theorem dX9_deletionsKnownBy_29 : decode cX9_deletionsKnownBy 29 = .ok (.astore 6, 2) := by decide +kernel
theorem dX9_deletionsKnownBy_31 : decode cX9_deletionsKnownBy 31 = .ok (.aload 6, 2) := by decide +kernel
theorem dX9_deletionsKnownBy_33 : decode cX9_deletionsKnownBy 33 = .ok (.getfield 432, 3) := by decide +kernel
theorem dX9_deletionsKnownBy_36 : decode cX9_deletionsKnownBy 36 = .ok (.bipush 8, 2) := by decide +kernel
theorem dX9_deletionsKnownBy_38 : decode cX9_deletionsKnownBy 38 = .ok (.if_icmp .ne 32, 3) := by decide +kernel
theorem dX9_deletionsKnownBy_41 : decode cX9_deletionsKnownBy 41 = .ok (.aload_n 1, 1) := by decide +kernel
theorem dX9_deletionsKnownBy_42 : decode cX9_deletionsKnownBy 42 = .ok (.aload 6, 2) := by decide +kernel
theorem dX9_deletionsKnownBy_44 : decode cX9_deletionsKnownBy 44 = .ok (.invokevirtual 260, 3) := by decide +kernel
theorem dX9_deletionsKnownBy_47 : decode cX9_deletionsKnownBy 47 = .ok (.ifCond .eq 23, 3) := by decide +kernel
theorem dX9_deletionsKnownBy_50 : decode cX9_deletionsKnownBy 50 = .ok (.aload_n 1, 1) := by decide +kernel
theorem dX9_deletionsKnownBy_51 : decode cX9_deletionsKnownBy 51 = .ok (.iload_n 2, 1) := by decide +kernel
theorem dX9_deletionsKnownBy_52 : decode cX9_deletionsKnownBy 52 = .ok (.aload 6, 2) := by decide +kernel
theorem dX9_deletionsKnownBy_54 : decode cX9_deletionsKnownBy 54 = .ok (.invokevirtual 435, 3) := by decide +kernel
theorem dX9_deletionsKnownBy_57 : decode cX9_deletionsKnownBy 57 = .ok (.ifCond .eq 13, 3) := by decide +kernel
theorem dX9_deletionsKnownBy_60 : decode cX9_deletionsKnownBy 60 = .ok (.lload_n 3, 1) := by decide +kernel
theorem dX9_deletionsKnownBy_61 : decode cX9_deletionsKnownBy 61 = .ok (.lconst 1, 1) := by decide +kernel
theorem dX9_deletionsKnownBy_62 : decode cX9_deletionsKnownBy 62 = .ok (.aload 6, 2) := by decide +kernel
theorem dX9_deletionsKnownBy_64 : decode cX9_deletionsKnownBy 64 = .ok (.getfield 170, 3) := by decide +kernel
theorem dX9_deletionsKnownBy_67 : decode cX9_deletionsKnownBy 67 = .ok (.lshl, 1) := by decide +kernel
theorem dX9_deletionsKnownBy_68 : decode cX9_deletionsKnownBy 68 = .ok (.lor, 1) := by decide +kernel
theorem dX9_deletionsKnownBy_69 : decode cX9_deletionsKnownBy 69 = .ok (.lstore_n 3, 1) := by decide +kernel
theorem dX9_deletionsKnownBy_70 : decode cX9_deletionsKnownBy 70 = .ok (.iinc 5 1, 3) := by decide +kernel
theorem dX9_deletionsKnownBy_73 : decode cX9_deletionsKnownBy 73 = .ok (.goto (-68), 3) := by decide +kernel
theorem dX9_deletionsKnownBy_76 : decode cX9_deletionsKnownBy 76 = .ok (.lload_n 3, 1) := by decide +kernel
theorem dX9_deletionsKnownBy_77 : decode cX9_deletionsKnownBy 77 = .ok (.lreturn, 1) := by decide +kernel
theorem dX9_isInConflict_0 : decode cX9_isInConflict 0 = .ok (.iload_n 2, 1) := by decide +kernel
theorem dX9_isInConflict_1 : decode cX9_isInConflict 1 = .ok (.ifCond .ne 19, 3) := by decide +kernel
theorem dX9_isInConflict_4 : decode cX9_isInConflict 4 = .ok (.aload_n 0, 1) := by decide +kernel
theorem dX9_isInConflict_5 : decode cX9_isInConflict 5 = .ok (.iload_n 1, 1) := by decide +kernel
theorem dX9_isInConflict_6 : decode cX9_isInConflict 6 = .ok (.invokevirtual 201, 3) := by decide +kernel
theorem dX9_isInConflict_9 : decode cX9_isInConflict 9 = .ok (.bipush 100, 2) := by decide +kernel
theorem dX9_isInConflict_11 : decode cX9_isInConflict 11 = .ok (.if_icmp .lt 7, 3) := by decide +kernel
theorem dX9_isInConflict_14 : decode cX9_isInConflict 14 = .ok (.iconst 1, 1) := by decide +kernel
theorem dX9_isInConflict_15 : decode cX9_isInConflict 15 = .ok (.goto 4, 3) := by decide +kernel
theorem dX9_isInConflict_18 : decode cX9_isInConflict 18 = .ok (.iconst 0, 1) := by decide +kernel
theorem dX9_isInConflict_19 : decode cX9_isInConflict 19 = .ok (.ireturn, 1) := by decide +kernel
theorem dX9_isInConflict_20 : decode cX9_isInConflict 20 = .ok (.iload_n 2, 1) := by decide +kernel
theorem dX9_isInConflict_21 : decode cX9_isInConflict 21 = .ok (.iconst 1, 1) := by decide +kernel
theorem dX9_isInConflict_22 : decode cX9_isInConflict 22 = .ok (.if_icmp .ne 19, 3) := by decide +kernel
theorem dX9_isInConflict_25 : decode cX9_isInConflict 25 = .ok (.aload_n 0, 1) := by decide +kernel
theorem dX9_isInConflict_26 : decode cX9_isInConflict 26 = .ok (.iload_n 1, 1) := by decide +kernel
theorem dX9_isInConflict_27 : decode cX9_isInConflict 27 = .ok (.invokevirtual 198, 3) := by decide +kernel
theorem dX9_isInConflict_30 : decode cX9_isInConflict 30 = .ok (.bipush (-2), 2) := by decide +kernel
theorem dX9_isInConflict_32 : decode cX9_isInConflict 32 = .ok (.if_icmp .ne 7, 3) := by decide +kernel
theorem dX9_isInConflict_35 : decode cX9_isInConflict 35 = .ok (.iconst 1, 1) := by decide +kernel
theorem dX9_isInConflict_36 : decode cX9_isInConflict 36 = .ok (.goto 4, 3) := by decide +kernel
theorem dX9_isInConflict_39 : decode cX9_isInConflict 39 = .ok (.iconst 0, 1) := by decide +kernel
theorem dX9_isInConflict_40 : decode cX9_isInConflict 40 = .ok (.ireturn, 1) := by decide +kernel
theorem dX9_isInConflict_41 : decode cX9_isInConflict 41 = .ok (.aload_n 0, 1) := by decide +kernel
theorem dX9_isInConflict_42 : decode cX9_isInConflict 42 = .ok (.iload_n 1, 1) := by decide +kernel
theorem dX9_isInConflict_43 : decode cX9_isInConflict 43 = .ok (.invokevirtual 439, 3) := by decide +kernel
theorem dX9_isInConflict_46 : decode cX9_isInConflict 46 = .ok (.ireturn, 1) := by decide +kernel
