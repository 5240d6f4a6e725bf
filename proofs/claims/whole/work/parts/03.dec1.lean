theorem dX0_init_0 : decode cX0_init 0 = .ok (.aload_n 0, 1) := by decide +kernel
theorem dX0_init_1 : decode cX0_init 1 = .ok (.invokespecial 3, 3) := by decide +kernel
theorem dX0_init_4 : decode cX0_init 4 = .ok (.aload_n 0, 1) := by decide +kernel
theorem dX0_init_5 : decode cX0_init 5 = .ok (.bipush 13, 2) := by decide +kernel
theorem dX0_init_7 : decode cX0_init 7 = .ok (.newarray .long, 2) := by decide +kernel
theorem dX0_init_9 : decode cX0_init 9 = .ok (.putfield 9, 3) := by decide +kernel
theorem dX0_init_12 : decode cX0_init 12 = .ok (.return_, 1) := by decide +kernel
theorem dX0_lay_0 : decode cX0_lay 0 = .ok (.aload_n 1, 1) := by decide +kernel
theorem dX0_lay_1 : decode cX0_lay 1 = .ok (.iconst 0, 1) := by decide +kernel
theorem dX0_lay_2 : decode cX0_lay 2 = .ok (.invokevirtual 15, 3) := by decide +kernel
theorem dX0_lay_5 : decode cX0_lay 5 = .ok (.istore_n 2, 1) := by decide +kernel
theorem dX0_lay_6 : decode cX0_lay 6 = .ok (.aload_n 1, 1) := by decide +kernel
theorem dX0_lay_7 : decode cX0_lay 7 = .ok (.iconst 1, 1) := by decide +kernel
theorem dX0_lay_8 : decode cX0_lay 8 = .ok (.iconst 0, 1) := by decide +kernel
theorem dX0_lay_9 : decode cX0_lay 9 = .ok (.invokevirtual 23, 3) := by decide +kernel
theorem dX0_lay_12 : decode cX0_lay 12 = .ok (.istore_n 3, 1) := by decide +kernel
theorem dX0_lay_13 : decode cX0_lay 13 = .ok (.aload_n 0, 1) := by decide +kernel
theorem dX0_lay_14 : decode cX0_lay 14 = .ok (.iload_n 2, 1) := by decide +kernel
theorem dX0_lay_15 : decode cX0_lay 15 = .ok (.invokestatic 27, 3) := by decide +kernel
theorem dX0_lay_18 : decode cX0_lay 18 = .ok (.putfield 32, 3) := by decide +kernel
theorem dX0_lay_21 : decode cX0_lay 21 = .ok (.iconst 0, 1) := by decide +kernel
theorem dX0_lay_22 : decode cX0_lay 22 = .ok (.istore 4, 2) := by decide +kernel
theorem dX0_lay_24 : decode cX0_lay 24 = .ok (.iload 4, 2) := by decide +kernel
theorem dX0_lay_26 : decode cX0_lay 26 = .ok (.bipush 12, 2) := by decide +kernel
theorem dX0_lay_28 : decode cX0_lay 28 = .ok (.if_icmp .gt 26, 3) := by decide +kernel
theorem dX0_lay_31 : decode cX0_lay 31 = .ok (.aload_n 0, 1) := by decide +kernel
theorem dX0_lay_32 : decode cX0_lay 32 = .ok (.getfield 9, 3) := by decide +kernel
theorem dX0_lay_35 : decode cX0_lay 35 = .ok (.iload 4, 2) := by decide +kernel
theorem dX0_lay_37 : decode cX0_lay 37 = .ok (.iload 4, 2) := by decide +kernel
theorem dX0_lay_39 : decode cX0_lay 39 = .ok (.ifCond .ne 7, 3) := by decide +kernel
theorem dX0_lay_42 : decode cX0_lay 42 = .ok (.lconst 1, 1) := by decide +kernel
theorem dX0_lay_43 : decode cX0_lay 43 = .ok (.goto 4, 3) := by decide +kernel
theorem dX0_lay_46 : decode cX0_lay 46 = .ok (.lconst 0, 1) := by decide +kernel
theorem dX0_lay_47 : decode cX0_lay 47 = .ok (.lastore, 1) := by decide +kernel
theorem dX0_lay_48 : decode cX0_lay 48 = .ok (.iinc 4 1, 3) := by decide +kernel
theorem dX0_lay_51 : decode cX0_lay 51 = .ok (.goto (-27), 3) := by decide +kernel
theorem dX0_lay_54 : decode cX0_lay 54 = .ok (.iconst 0, 1) := by decide +kernel
theorem dX0_lay_55 : decode cX0_lay 55 = .ok (.istore 4, 2) := by decide +kernel
theorem dX0_lay_57 : decode cX0_lay 57 = .ok (.iload 4, 2) := by decide +kernel
theorem dX0_lay_59 : decode cX0_lay 59 = .ok (.bipush 6, 2) := by decide +kernel
theorem dX0_lay_61 : decode cX0_lay 61 = .ok (.if_icmp .ge 56, 3) := by decide +kernel
theorem dX0_lay_64 : decode cX0_lay 64 = .ok (.iload_n 2, 1) := by decide +kernel
theorem dX0_lay_65 : decode cX0_lay 65 = .ok (.aload_n 1, 1) := by decide +kernel
theorem dX0_lay_66 : decode cX0_lay 66 = .ok (.iconst 0, 1) := by decide +kernel
theorem dX0_lay_67 : decode cX0_lay 67 = .ok (.iload 4, 2) := by decide +kernel
theorem dX0_lay_69 : decode cX0_lay 69 = .ok (.invokevirtual 23, 3) := by decide +kernel
theorem dX0_lay_72 : decode cX0_lay 72 = .ok (.iand, 1) := by decide +kernel
theorem dX0_lay_73 : decode cX0_lay 73 = .ok (.istore 5, 2) := by decide +kernel
theorem dX0_lay_75 : decode cX0_lay 75 = .ok (.iload 5, 2) := by decide +kernel
theorem dX0_lay_77 : decode cX0_lay 77 = .ok (.iload_n 3, 1) := by decide +kernel
theorem dX0_lay_78 : decode cX0_lay 78 = .ok (.iand, 1) := by decide +kernel
theorem dX0_lay_79 : decode cX0_lay 79 = .ok (.invokestatic 27, 3) := by decide +kernel
theorem dX0_lay_82 : decode cX0_lay 82 = .ok (.istore 6, 2) := by decide +kernel
theorem dX0_lay_84 : decode cX0_lay 84 = .ok (.aload_n 0, 1) := by decide +kernel
theorem dX0_lay_85 : decode cX0_lay 85 = .ok (.iload 6, 2) := by decide +kernel
theorem dX0_lay_87 : decode cX0_lay 87 = .ok (.iload 5, 2) := by decide +kernel
theorem dX0_lay_89 : decode cX0_lay 89 = .ok (.invokestatic 27, 3) := by decide +kernel
theorem dX0_lay_92 : decode cX0_lay 92 = .ok (.iload 6, 2) := by decide +kernel
theorem dX0_lay_94 : decode cX0_lay 94 = .ok (.isub, 1) := by decide +kernel
theorem dX0_lay_95 : decode cX0_lay 95 = .ok (.aload_n 1, 1) := by decide +kernel
theorem dX0_lay_96 : decode cX0_lay 96 = .ok (.getfield 36, 3) := by decide +kernel
theorem dX0_lay_99 : decode cX0_lay 99 = .ok (.iconst 1, 1) := by decide +kernel
theorem dX0_lay_100 : decode cX0_lay 100 = .ok (.if_icmp .ne 7, 3) := by decide +kernel
theorem dX0_lay_103 : decode cX0_lay 103 = .ok (.iconst 1, 1) := by decide +kernel
theorem dX0_lay_104 : decode cX0_lay 104 = .ok (.goto 4, 3) := by decide +kernel
theorem dX0_lay_107 : decode cX0_lay 107 = .ok (.iconst 0, 1) := by decide +kernel
theorem dX0_lay_108 : decode cX0_lay 108 = .ok (.invokevirtual 39, 3) := by decide +kernel
theorem dX0_lay_111 : decode cX0_lay 111 = .ok (.iinc 4 1, 3) := by decide +kernel
theorem dX0_lay_114 : decode cX0_lay 114 = .ok (.goto (-57), 3) := by decide +kernel
theorem dX0_lay_117 : decode cX0_lay 117 = .ok (.return_, 1) := by decide +kernel
theorem dX0_addKind_0 : decode cX0_addKind 0 = .ok (.aload_n 0, 1) := by decide +kernel
theorem dX0_addKind_1 : decode cX0_addKind 1 = .ok (.getfield 32, 3) := by decide +kernel
theorem dX0_addKind_4 : decode cX0_addKind 4 = .ok (.istore 4, 2) := by decide +kernel
theorem dX0_addKind_6 : decode cX0_addKind 6 = .ok (.iload 4, 2) := by decide +kernel
theorem dX0_addKind_8 : decode cX0_addKind 8 = .ok (.iconst 1, 1) := by decide +kernel
theorem dX0_addKind_9 : decode cX0_addKind 9 = .ok (.if_icmp .lt 54, 3) := by decide +kernel
theorem dX0_addKind_12 : decode cX0_addKind 12 = .ok (.iconst 1, 1) := by decide +kernel
theorem dX0_addKind_13 : decode cX0_addKind 13 = .ok (.istore 5, 2) := by decide +kernel
theorem dX0_addKind_15 : decode cX0_addKind 15 = .ok (.iload 5, 2) := by decide +kernel
theorem dX0_addKind_17 : decode cX0_addKind 17 = .ok (.iload 4, 2) := by decide +kernel
theorem dX0_addKind_19 : decode cX0_addKind 19 = .ok (.if_icmp .gt 38, 3) := by decide +kernel
theorem dX0_addKind_22 : decode cX0_addKind 22 = .ok (.aload_n 0, 1) := by decide +kernel
theorem dX0_addKind_23 : decode cX0_addKind 23 = .ok (.getfield 9, 3) := by decide +kernel
theorem dX0_addKind_26 : decode cX0_addKind 26 = .ok (.iload 4, 2) := by decide +kernel
theorem dX0_addKind_28 : decode cX0_addKind 28 = .ok (.dup2, 1) := by decide +kernel
theorem dX0_addKind_29 : decode cX0_addKind 29 = .ok (.laload, 1) := by decide +kernel
theorem dX0_addKind_30 : decode cX0_addKind 30 = .ok (.aload_n 0, 1) := by decide +kernel
theorem dX0_addKind_31 : decode cX0_addKind 31 = .ok (.getfield 9, 3) := by decide +kernel
theorem dX0_addKind_34 : decode cX0_addKind 34 = .ok (.iload 4, 2) := by decide +kernel
theorem dX0_addKind_36 : decode cX0_addKind 36 = .ok (.iload 5, 2) := by decide +kernel
theorem dX0_addKind_38 : decode cX0_addKind 38 = .ok (.isub, 1) := by decide +kernel
theorem dX0_addKind_39 : decode cX0_addKind 39 = .ok (.laload, 1) := by decide +kernel
theorem dX0_addKind_40 : decode cX0_addKind 40 = .ok (.iload_n 1, 1) := by decide +kernel
theorem dX0_addKind_41 : decode cX0_addKind 41 = .ok (.iload_n 2, 1) := by decide +kernel
theorem dX0_addKind_42 : decode cX0_addKind 42 = .ok (.iload_n 3, 1) := by decide +kernel
theorem dX0_addKind_43 : decode cX0_addKind 43 = .ok (.iload 5, 2) := by decide +kernel
theorem dX0_addKind_45 : decode cX0_addKind 45 = .ok (.invokestatic 43, 3) := by decide +kernel
theorem dX0_addKind_48 : decode cX0_addKind 48 = .ok (.lmul, 1) := by decide +kernel
theorem dX0_addKind_49 : decode cX0_addKind 49 = .ok (.ladd, 1) := by decide +kernel
theorem dX0_addKind_50 : decode cX0_addKind 50 = .ok (.lastore, 1) := by decide +kernel
theorem dX0_addKind_51 : decode cX0_addKind 51 = .ok (.iinc 5 1, 3) := by decide +kernel
theorem dX0_addKind_54 : decode cX0_addKind 54 = .ok (.goto (-39), 3) := by decide +kernel
theorem dX0_addKind_57 : decode cX0_addKind 57 = .ok (.iinc 4 (-1), 3) := by decide +kernel
theorem dX0_addKind_60 : decode cX0_addKind 60 = .ok (.goto (-54), 3) := by decide +kernel
theorem dX0_addKind_63 : decode cX0_addKind 63 = .ok (.return_, 1) := by decide +kernel
theorem dX0_setsWithoutPair_0 : decode cX0_setsWithoutPair 0 = .ok (.iload_n 2, 1) := by decide +kernel
theorem dX0_setsWithoutPair_1 : decode cX0_setsWithoutPair 1 = .ok (.ifCond .eq 15, 3) := by decide +kernel
theorem dX0_setsWithoutPair_4 : decode cX0_setsWithoutPair 4 = .ok (.iload_n 0, 1) := by decide +kernel
theorem dX0_setsWithoutPair_5 : decode cX0_setsWithoutPair 5 = .ok (.iload_n 3, 1) := by decide +kernel
theorem dX0_setsWithoutPair_6 : decode cX0_setsWithoutPair 6 = .ok (.invokestatic 47, 3) := by decide +kernel
theorem dX0_setsWithoutPair_9 : decode cX0_setsWithoutPair 9 = .ok (.iload_n 1, 1) := by decide +kernel
theorem dX0_setsWithoutPair_10 : decode cX0_setsWithoutPair 10 = .ok (.iload_n 3, 1) := by decide +kernel
theorem dX0_setsWithoutPair_11 : decode cX0_setsWithoutPair 11 = .ok (.invokestatic 47, 3) := by decide +kernel
theorem dX0_setsWithoutPair_14 : decode cX0_setsWithoutPair 14 = .ok (.ladd, 1) := by decide +kernel
theorem dX0_setsWithoutPair_15 : decode cX0_setsWithoutPair 15 = .ok (.lreturn, 1) := by decide +kernel
theorem dX0_setsWithoutPair_16 : decode cX0_setsWithoutPair 16 = .ok (.iload_n 3, 1) := by decide +kernel
theorem dX0_setsWithoutPair_17 : decode cX0_setsWithoutPair 17 = .ok (.iconst 1, 1) := by decide +kernel
theorem dX0_setsWithoutPair_18 : decode cX0_setsWithoutPair 18 = .ok (.if_icmp .ne 10, 3) := by decide +kernel
theorem dX0_setsWithoutPair_21 : decode cX0_setsWithoutPair 21 = .ok (.iload_n 0, 1) := by decide +kernel
theorem dX0_setsWithoutPair_22 : decode cX0_setsWithoutPair 22 = .ok (.iload_n 1, 1) := by decide +kernel
theorem dX0_setsWithoutPair_23 : decode cX0_setsWithoutPair 23 = .ok (.iadd, 1) := by decide +kernel
theorem dX0_setsWithoutPair_24 : decode cX0_setsWithoutPair 24 = .ok (.i2l, 1) := by decide +kernel
theorem dX0_setsWithoutPair_25 : decode cX0_setsWithoutPair 25 = .ok (.goto 4, 3) := by decide +kernel
theorem dX0_setsWithoutPair_28 : decode cX0_setsWithoutPair 28 = .ok (.lconst 0, 1) := by decide +kernel
theorem dX0_setsWithoutPair_29 : decode cX0_setsWithoutPair 29 = .ok (.lreturn, 1) := by decide +kernel
theorem dX0_longestPairless_0 : decode cX0_longestPairless 0 = .ok (.iconst 0, 1) := by decide +kernel
theorem dX0_longestPairless_1 : decode cX0_longestPairless 1 = .ok (.istore_n 1, 1) := by decide +kernel
theorem dX0_longestPairless_2 : decode cX0_longestPairless 2 = .ok (.iconst 1, 1) := by decide +kernel
theorem dX0_longestPairless_3 : decode cX0_longestPairless 3 = .ok (.istore_n 2, 1) := by decide +kernel
theorem dX0_longestPairless_4 : decode cX0_longestPairless 4 = .ok (.iload_n 2, 1) := by decide +kernel
theorem dX0_longestPairless_5 : decode cX0_longestPairless 5 = .ok (.aload_n 0, 1) := by decide +kernel
theorem dX0_longestPairless_6 : decode cX0_longestPairless 6 = .ok (.getfield 32, 3) := by decide +kernel
theorem dX0_longestPairless_9 : decode cX0_longestPairless 9 = .ok (.if_icmp .gt 22, 3) := by decide +kernel
theorem dX0_longestPairless_12 : decode cX0_longestPairless 12 = .ok (.aload_n 0, 1) := by decide +kernel
theorem dX0_longestPairless_13 : decode cX0_longestPairless 13 = .ok (.getfield 9, 3) := by decide +kernel
theorem dX0_longestPairless_16 : decode cX0_longestPairless 16 = .ok (.iload_n 2, 1) := by decide +kernel
theorem dX0_longestPairless_17 : decode cX0_longestPairless 17 = .ok (.laload, 1) := by decide +kernel
theorem dX0_longestPairless_18 : decode cX0_longestPairless 18 = .ok (.lconst 0, 1) := by decide +kernel
theorem dX0_longestPairless_19 : decode cX0_longestPairless 19 = .ok (.lcmp, 1) := by decide +kernel
theorem dX0_longestPairless_20 : decode cX0_longestPairless 20 = .ok (.ifCond .le 5, 3) := by decide +kernel
theorem dX0_longestPairless_23 : decode cX0_longestPairless 23 = .ok (.iload_n 2, 1) := by decide +kernel
theorem dX0_longestPairless_24 : decode cX0_longestPairless 24 = .ok (.istore_n 1, 1) := by decide +kernel
theorem dX0_longestPairless_25 : decode cX0_longestPairless 25 = .ok (.iinc 2 1, 3) := by decide +kernel
theorem dX0_longestPairless_28 : decode cX0_longestPairless 28 = .ok (.goto (-24), 3) := by decide +kernel
theorem dX0_longestPairless_31 : decode cX0_longestPairless 31 = .ok (.iload_n 1, 1) := by decide +kernel
theorem dX0_longestPairless_32 : decode cX0_longestPairless 32 = .ok (.ireturn, 1) := by decide +kernel
theorem dX1_init_0 : decode cX1_init 0 = .ok (.aload_n 0, 1) := by decide +kernel
theorem dX1_init_1 : decode cX1_init 1 = .ok (.invokespecial 3, 3) := by decide +kernel
theorem dX1_init_4 : decode cX1_init 4 = .ok (.aload_n 0, 1) := by decide +kernel
theorem dX1_init_5 : decode cX1_init 5 = .ok (.bipush 12, 2) := by decide +kernel
theorem dX1_init_7 : decode cX1_init 7 = .ok (.anewarray 9, 3) := by decide +kernel
theorem dX1_init_10 : decode cX1_init 10 = .ok (.putfield 11, 3) := by decide +kernel
theorem dX1_init_13 : decode cX1_init 13 = .ok (.aload_n 0, 1) := by decide +kernel
theorem dX1_init_14 : decode cX1_init 14 = .ok (.bipush 12, 2) := by decide +kernel
theorem dX1_init_16 : decode cX1_init 16 = .ok (.newarray .int, 2) := by decide +kernel
theorem dX1_init_18 : decode cX1_init 18 = .ok (.putfield 17, 3) := by decide +kernel
theorem dX1_init_21 : decode cX1_init 21 = .ok (.aload_n 0, 1) := by decide +kernel
theorem dX1_init_22 : decode cX1_init 22 = .ok (.bipush 12, 2) := by decide +kernel
theorem dX1_init_24 : decode cX1_init 24 = .ok (.newarray .int, 2) := by decide +kernel
theorem dX1_init_26 : decode cX1_init 26 = .ok (.putfield 21, 3) := by decide +kernel
theorem dX1_init_29 : decode cX1_init 29 = .ok (.aload_n 0, 1) := by decide +kernel
theorem dX1_init_30 : decode cX1_init 30 = .ok (.bipush 6, 2) := by decide +kernel
theorem dX1_init_32 : decode cX1_init 32 = .ok (.newarray .int, 2) := by decide +kernel
theorem dX1_init_34 : decode cX1_init 34 = .ok (.putfield 24, 3) := by decide +kernel
theorem dX1_init_37 : decode cX1_init 37 = .ok (.aload_n 0, 1) := by decide +kernel
theorem dX1_init_38 : decode cX1_init 38 = .ok (.iconst 5, 1) := by decide +kernel
theorem dX1_init_39 : decode cX1_init 39 = .ok (.putfield 27, 3) := by decide +kernel
theorem dX1_init_42 : decode cX1_init 42 = .ok (.aload_n 0, 1) := by decide +kernel
theorem dX1_init_43 : decode cX1_init 43 = .ok (.bipush 18, 2) := by decide +kernel
theorem dX1_init_45 : decode cX1_init 45 = .ok (.newarray .int, 2) := by decide +kernel
theorem dX1_init_47 : decode cX1_init 47 = .ok (.putfield 31, 3) := by decide +kernel
theorem dX1_init_50 : decode cX1_init 50 = .ok (.aload_n 0, 1) := by decide +kernel
theorem dX1_init_51 : decode cX1_init 51 = .ok (.bipush 18, 2) := by decide +kernel
theorem dX1_init_53 : decode cX1_init 53 = .ok (.newarray .int, 2) := by decide +kernel
theorem dX1_init_55 : decode cX1_init 55 = .ok (.putfield 34, 3) := by decide +kernel
theorem dX1_init_58 : decode cX1_init 58 = .ok (.aload_n 0, 1) := by decide +kernel
theorem dX1_init_59 : decode cX1_init 59 = .ok (.iconst 3, 1) := by decide +kernel
theorem dX1_init_60 : decode cX1_init 60 = .ok (.newarray .int, 2) := by decide +kernel
theorem dX1_init_62 : decode cX1_init 62 = .ok (.putfield 37, 3) := by decide +kernel
theorem dX1_init_65 : decode cX1_init 65 = .ok (.iconst 0, 1) := by decide +kernel
theorem dX1_init_66 : decode cX1_init 66 = .ok (.istore_n 1, 1) := by decide +kernel
theorem dX1_init_67 : decode cX1_init 67 = .ok (.iload_n 1, 1) := by decide +kernel
theorem dX1_init_68 : decode cX1_init 68 = .ok (.bipush 12, 2) := by decide +kernel
theorem dX1_init_70 : decode cX1_init 70 = .ok (.if_icmp .ge 22, 3) := by decide +kernel
theorem dX1_init_73 : decode cX1_init 73 = .ok (.aload_n 0, 1) := by decide +kernel
theorem dX1_init_74 : decode cX1_init 74 = .ok (.getfield 11, 3) := by decide +kernel
theorem dX1_init_77 : decode cX1_init 77 = .ok (.iload_n 1, 1) := by decide +kernel
theorem dX1_init_78 : decode cX1_init 78 = .ok (.new 9, 3) := by decide +kernel
theorem dX1_init_81 : decode cX1_init 81 = .ok (.dup, 1) := by decide +kernel
theorem dX1_init_82 : decode cX1_init 82 = .ok (.invokespecial 40, 3) := by decide +kernel
theorem dX1_init_85 : decode cX1_init 85 = .ok (.aastore, 1) := by decide +kernel
theorem dX1_init_86 : decode cX1_init 86 = .ok (.iinc 1 1, 3) := by decide +kernel
theorem dX1_init_89 : decode cX1_init 89 = .ok (.goto (-22), 3) := by decide +kernel
theorem dX1_init_92 : decode cX1_init 92 = .ok (.iconst 0, 1) := by decide +kernel
theorem dX1_init_93 : decode cX1_init 93 = .ok (.istore_n 1, 1) := by decide +kernel
theorem dX1_init_94 : decode cX1_init 94 = .ok (.iload_n 1, 1) := by decide +kernel
theorem dX1_init_95 : decode cX1_init 95 = .ok (.bipush 18, 2) := by decide +kernel
theorem dX1_init_97 : decode cX1_init 97 = .ok (.if_icmp .ge 17, 3) := by decide +kernel
theorem dX1_init_100 : decode cX1_init 100 = .ok (.aload_n 0, 1) := by decide +kernel
theorem dX1_init_101 : decode cX1_init 101 = .ok (.getfield 34, 3) := by decide +kernel
theorem dX1_init_104 : decode cX1_init 104 = .ok (.iload_n 1, 1) := by decide +kernel
theorem dX1_init_105 : decode cX1_init 105 = .ok (.bipush 12, 2) := by decide +kernel
theorem dX1_init_107 : decode cX1_init 107 = .ok (.iastore, 1) := by decide +kernel
theorem dX1_init_108 : decode cX1_init 108 = .ok (.iinc 1 1, 3) := by decide +kernel
theorem dX1_init_111 : decode cX1_init 111 = .ok (.goto (-17), 3) := by decide +kernel
theorem dX1_init_114 : decode cX1_init 114 = .ok (.return_, 1) := by decide +kernel
theorem dX1_copyFrom_0 : decode cX1_copyFrom 0 = .ok (.aload_n 0, 1) := by decide +kernel
theorem dX1_copyFrom_1 : decode cX1_copyFrom 1 = .ok (.aload_n 1, 1) := by decide +kernel
theorem dX1_copyFrom_2 : decode cX1_copyFrom 2 = .ok (.getfield 41, 3) := by decide +kernel
theorem dX1_copyFrom_5 : decode cX1_copyFrom 5 = .ok (.putfield 41, 3) := by decide +kernel
theorem dX1_copyFrom_8 : decode cX1_copyFrom 8 = .ok (.aload_n 0, 1) := by decide +kernel
theorem dX1_copyFrom_9 : decode cX1_copyFrom 9 = .ok (.aload_n 1, 1) := by decide +kernel
theorem dX1_copyFrom_10 : decode cX1_copyFrom 10 = .ok (.getfield 44, 3) := by decide +kernel
theorem dX1_copyFrom_13 : decode cX1_copyFrom 13 = .ok (.putfield 44, 3) := by decide +kernel
theorem dX1_copyFrom_16 : decode cX1_copyFrom 16 = .ok (.aload_n 0, 1) := by decide +kernel
theorem dX1_copyFrom_17 : decode cX1_copyFrom 17 = .ok (.aload_n 1, 1) := by decide +kernel
theorem dX1_copyFrom_18 : decode cX1_copyFrom 18 = .ok (.getfield 27, 3) := by decide +kernel
theorem dX1_copyFrom_21 : decode cX1_copyFrom 21 = .ok (.putfield 27, 3) := by decide +kernel
theorem dX1_copyFrom_24 : decode cX1_copyFrom 24 = .ok (.aload_n 0, 1) := by decide +kernel
theorem dX1_copyFrom_25 : decode cX1_copyFrom 25 = .ok (.aload_n 1, 1) := by decide +kernel
theorem dX1_copyFrom_26 : decode cX1_copyFrom 26 = .ok (.getfield 47, 3) := by decide +kernel
theorem dX1_copyFrom_29 : decode cX1_copyFrom 29 = .ok (.putfield 47, 3) := by decide +kernel
theorem dX1_copyFrom_32 : decode cX1_copyFrom 32 = .ok (.iconst 0, 1) := by decide +kernel
theorem dX1_copyFrom_33 : decode cX1_copyFrom 33 = .ok (.istore_n 2, 1) := by decide +kernel
theorem dX1_copyFrom_34 : decode cX1_copyFrom 34 = .ok (.iload_n 2, 1) := by decide +kernel
theorem dX1_copyFrom_35 : decode cX1_copyFrom 35 = .ok (.bipush 12, 2) := by decide +kernel
theorem dX1_copyFrom_37 : decode cX1_copyFrom 37 = .ok (.if_icmp .ge 24, 3) := by decide +kernel
theorem dX1_copyFrom_40 : decode cX1_copyFrom 40 = .ok (.aload_n 0, 1) := by decide +kernel
theorem dX1_copyFrom_41 : decode cX1_copyFrom 41 = .ok (.getfield 11, 3) := by decide +kernel
theorem dX1_copyFrom_44 : decode cX1_copyFrom 44 = .ok (.iload_n 2, 1) := by decide +kernel
theorem dX1_copyFrom_45 : decode cX1_copyFrom 45 = .ok (.aaload, 1) := by decide +kernel
theorem dX1_copyFrom_46 : decode cX1_copyFrom 46 = .ok (.aload_n 1, 1) := by decide +kernel
theorem dX1_copyFrom_47 : decode cX1_copyFrom 47 = .ok (.getfield 11, 3) := by decide +kernel
theorem dX1_copyFrom_50 : decode cX1_copyFrom 50 = .ok (.iload_n 2, 1) := by decide +kernel
theorem dX1_copyFrom_51 : decode cX1_copyFrom 51 = .ok (.aaload, 1) := by decide +kernel
theorem dX1_copyFrom_52 : decode cX1_copyFrom 52 = .ok (.invokevirtual 50, 3) := by decide +kernel
theorem dX1_copyFrom_55 : decode cX1_copyFrom 55 = .ok (.iinc 2 1, 3) := by decide +kernel
theorem dX1_copyFrom_58 : decode cX1_copyFrom 58 = .ok (.goto (-24), 3) := by decide +kernel
theorem dX1_copyFrom_61 : decode cX1_copyFrom 61 = .ok (.aload_n 1, 1) := by decide +kernel
theorem dX1_copyFrom_62 : decode cX1_copyFrom 62 = .ok (.getfield 17, 3) := by decide +kernel
theorem dX1_copyFrom_65 : decode cX1_copyFrom 65 = .ok (.iconst 0, 1) := by decide +kernel
theorem dX1_copyFrom_66 : decode cX1_copyFrom 66 = .ok (.aload_n 0, 1) := by decide +kernel
theorem dX1_copyFrom_67 : decode cX1_copyFrom 67 = .ok (.getfield 17, 3) := by decide +kernel
theorem dX1_copyFrom_70 : decode cX1_copyFrom 70 = .ok (.iconst 0, 1) := by decide +kernel
theorem dX1_copyFrom_71 : decode cX1_copyFrom 71 = .ok (.bipush 12, 2) := by decide +kernel
theorem dX1_copyFrom_73 : decode cX1_copyFrom 73 = .ok (.invokestatic 54, 3) := by decide +kernel
theorem dX1_copyFrom_76 : decode cX1_copyFrom 76 = .ok (.aload_n 1, 1) := by decide +kernel
theorem dX1_copyFrom_77 : decode cX1_copyFrom 77 = .ok (.getfield 21, 3) := by decide +kernel
theorem dX1_copyFrom_80 : decode cX1_copyFrom 80 = .ok (.iconst 0, 1) := by decide +kernel
theorem dX1_copyFrom_81 : decode cX1_copyFrom 81 = .ok (.aload_n 0, 1) := by decide +kernel
theorem dX1_copyFrom_82 : decode cX1_copyFrom 82 = .ok (.getfield 21, 3) := by decide +kernel
theorem dX1_copyFrom_85 : decode cX1_copyFrom 85 = .ok (.iconst 0, 1) := by decide +kernel
theorem dX1_copyFrom_86 : decode cX1_copyFrom 86 = .ok (.bipush 12, 2) := by decide +kernel
theorem dX1_copyFrom_88 : decode cX1_copyFrom 88 = .ok (.invokestatic 54, 3) := by decide +kernel
theorem dX1_copyFrom_91 : decode cX1_copyFrom 91 = .ok (.aload_n 1, 1) := by decide +kernel
theorem dX1_copyFrom_92 : decode cX1_copyFrom 92 = .ok (.getfield 24, 3) := by decide +kernel
theorem dX1_copyFrom_95 : decode cX1_copyFrom 95 = .ok (.iconst 0, 1) := by decide +kernel
theorem dX1_copyFrom_96 : decode cX1_copyFrom 96 = .ok (.aload_n 0, 1) := by decide +kernel
theorem dX1_copyFrom_97 : decode cX1_copyFrom 97 = .ok (.getfield 24, 3) := by decide +kernel
theorem dX1_copyFrom_100 : decode cX1_copyFrom 100 = .ok (.iconst 0, 1) := by decide +kernel
theorem dX1_copyFrom_101 : decode cX1_copyFrom 101 = .ok (.bipush 6, 2) := by decide +kernel
theorem dX1_copyFrom_103 : decode cX1_copyFrom 103 = .ok (.invokestatic 54, 3) := by decide +kernel
theorem dX1_copyFrom_106 : decode cX1_copyFrom 106 = .ok (.aload_n 1, 1) := by decide +kernel
theorem dX1_copyFrom_107 : decode cX1_copyFrom 107 = .ok (.getfield 31, 3) := by decide +kernel
theorem dX1_copyFrom_110 : decode cX1_copyFrom 110 = .ok (.iconst 0, 1) := by decide +kernel
theorem dX1_copyFrom_111 : decode cX1_copyFrom 111 = .ok (.aload_n 0, 1) := by decide +kernel
theorem dX1_copyFrom_112 : decode cX1_copyFrom 112 = .ok (.getfield 31, 3) := by decide +kernel
theorem dX1_copyFrom_115 : decode cX1_copyFrom 115 = .ok (.iconst 0, 1) := by decide +kernel
theorem dX1_copyFrom_116 : decode cX1_copyFrom 116 = .ok (.bipush 18, 2) := by decide +kernel
theorem dX1_copyFrom_118 : decode cX1_copyFrom 118 = .ok (.invokestatic 54, 3) := by decide +kernel
theorem dX1_copyFrom_121 : decode cX1_copyFrom 121 = .ok (.aload_n 1, 1) := by decide +kernel
theorem dX1_copyFrom_122 : decode cX1_copyFrom 122 = .ok (.getfield 34, 3) := by decide +kernel
theorem dX1_copyFrom_125 : decode cX1_copyFrom 125 = .ok (.iconst 0, 1) := by decide +kernel
theorem dX1_copyFrom_126 : decode cX1_copyFrom 126 = .ok (.aload_n 0, 1) := by decide +kernel
theorem dX1_copyFrom_127 : decode cX1_copyFrom 127 = .ok (.getfield 34, 3) := by decide +kernel
theorem dX1_copyFrom_130 : decode cX1_copyFrom 130 = .ok (.iconst 0, 1) := by decide +kernel
theorem dX1_copyFrom_131 : decode cX1_copyFrom 131 = .ok (.bipush 18, 2) := by decide +kernel
theorem dX1_copyFrom_133 : decode cX1_copyFrom 133 = .ok (.invokestatic 54, 3) := by decide +kernel
theorem dX1_copyFrom_136 : decode cX1_copyFrom 136 = .ok (.aload_n 1, 1) := by decide +kernel
theorem dX1_copyFrom_137 : decode cX1_copyFrom 137 = .ok (.getfield 37, 3) := by decide +kernel
theorem dX1_copyFrom_140 : decode cX1_copyFrom 140 = .ok (.iconst 0, 1) := by decide +kernel
theorem dX1_copyFrom_141 : decode cX1_copyFrom 141 = .ok (.aload_n 0, 1) := by decide +kernel
theorem dX1_copyFrom_142 : decode cX1_copyFrom 142 = .ok (.getfield 37, 3) := by decide +kernel
theorem dX1_copyFrom_145 : decode cX1_copyFrom 145 = .ok (.iconst 0, 1) := by decide +kernel
theorem dX1_copyFrom_146 : decode cX1_copyFrom 146 = .ok (.iconst 3, 1) := by decide +kernel
theorem dX1_copyFrom_147 : decode cX1_copyFrom 147 = .ok (.invokestatic 54, 3) := by decide +kernel
theorem dX1_copyFrom_150 : decode cX1_copyFrom 150 = .ok (.return_, 1) := by decide +kernel
theorem dX1_add_0 : decode cX1_add 0 = .ok (.aload_n 0, 1) := by decide +kernel
theorem dX1_add_1 : decode cX1_add 1 = .ok (.getfield 41, 3) := by decide +kernel
theorem dX1_add_4 : decode cX1_add 4 = .ok (.bipush 12, 2) := by decide +kernel
theorem dX1_add_6 : decode cX1_add 6 = .ok (.if_icmp .lt 6, 3) := by decide +kernel
theorem dX1_add_9 : decode cX1_add 9 = .ok (.bipush (-3), 2) := by decide +kernel
theorem dX1_add_11 : decode cX1_add 11 = .ok (.ireturn, 1) := by decide +kernel
theorem dX1_add_12 : decode cX1_add 12 = .ok (.aload_n 0, 1) := by decide +kernel
theorem dX1_add_13 : decode cX1_add 13 = .ok (.getfield 41, 3) := by decide +kernel
theorem dX1_add_16 : decode cX1_add 16 = .ok (.istore_n 2, 1) := by decide +kernel
theorem dX1_add_17 : decode cX1_add 17 = .ok (.aload_n 0, 1) := by decide +kernel
theorem dX1_add_18 : decode cX1_add 18 = .ok (.getfield 11, 3) := by decide +kernel
theorem dX1_add_21 : decode cX1_add 21 = .ok (.iload_n 2, 1) := by decide +kernel
theorem dX1_add_22 : decode cX1_add 22 = .ok (.aaload, 1) := by decide +kernel
theorem dX1_add_23 : decode cX1_add 23 = .ok (.aload_n 1, 1) := by decide +kernel
theorem dX1_add_24 : decode cX1_add 24 = .ok (.invokevirtual 50, 3) := by decide +kernel
theorem dX1_add_27 : decode cX1_add 27 = .ok (.aload_n 0, 1) := by decide +kernel
theorem dX1_add_28 : decode cX1_add 28 = .ok (.getfield 11, 3) := by decide +kernel
theorem dX1_add_31 : decode cX1_add 31 = .ok (.iload_n 2, 1) := by decide +kernel
theorem dX1_add_32 : decode cX1_add 32 = .ok (.aaload, 1) := by decide +kernel
theorem dX1_add_33 : decode cX1_add 33 = .ok (.iload_n 2, 1) := by decide +kernel
theorem dX1_add_34 : decode cX1_add 34 = .ok (.putfield 60, 3) := by decide +kernel
theorem dX1_add_37 : decode cX1_add 37 = .ok (.aload_n 0, 1) := by decide +kernel
theorem dX1_add_38 : decode cX1_add 38 = .ok (.dup, 1) := by decide +kernel
theorem dX1_add_39 : decode cX1_add 39 = .ok (.getfield 41, 3) := by decide +kernel
theorem dX1_add_42 : decode cX1_add 42 = .ok (.iconst 1, 1) := by decide +kernel
theorem dX1_add_43 : decode cX1_add 43 = .ok (.iadd, 1) := by decide +kernel
theorem dX1_add_44 : decode cX1_add 44 = .ok (.putfield 41, 3) := by decide +kernel
theorem dX1_add_47 : decode cX1_add 47 = .ok (.iload_n 2, 1) := by decide +kernel
theorem dX1_add_48 : decode cX1_add 48 = .ok (.ireturn, 1) := by decide +kernel
theorem dX1_everyone_0 : decode cX1_everyone 0 = .ok (.iconst 1, 1) := by decide +kernel
theorem dX1_everyone_1 : decode cX1_everyone 1 = .ok (.aload_n 0, 1) := by decide +kernel
theorem dX1_everyone_2 : decode cX1_everyone 2 = .ok (.getfield 41, 3) := by decide +kernel
theorem dX1_everyone_5 : decode cX1_everyone 5 = .ok (.ishl, 1) := by decide +kernel
theorem dX1_everyone_6 : decode cX1_everyone 6 = .ok (.iconst 1, 1) := by decide +kernel
theorem dX1_everyone_7 : decode cX1_everyone 7 = .ok (.isub, 1) := by decide +kernel
theorem dX1_everyone_8 : decode cX1_everyone 8 = .ok (.ireturn, 1) := by decide +kernel
theorem dX1_having_0 : decode cX1_having 0 = .ok (.iconst 0, 1) := by decide +kernel
theorem dX1_having_1 : decode cX1_having 1 = .ok (.istore_n 3, 1) := by decide +kernel
theorem dX1_having_2 : decode cX1_having 2 = .ok (.iconst 0, 1) := by decide +kernel
theorem dX1_having_3 : decode cX1_having 3 = .ok (.istore 4, 2) := by decide +kernel
theorem dX1_having_5 : decode cX1_having 5 = .ok (.iload 4, 2) := by decide +kernel
theorem dX1_having_7 : decode cX1_having 7 = .ok (.aload_n 0, 1) := by decide +kernel
theorem dX1_having_8 : decode cX1_having 8 = .ok (.getfield 41, 3) := by decide +kernel
theorem dX1_having_11 : decode cX1_having 11 = .ok (.if_icmp .ge 31, 3) := by decide +kernel
theorem dX1_having_14 : decode cX1_having 14 = .ok (.aload_n 0, 1) := by decide +kernel
theorem dX1_having_15 : decode cX1_having 15 = .ok (.getfield 11, 3) := by decide +kernel
theorem dX1_having_18 : decode cX1_having 18 = .ok (.iload 4, 2) := by decide +kernel
theorem dX1_having_20 : decode cX1_having 20 = .ok (.aaload, 1) := by decide +kernel
theorem dX1_having_21 : decode cX1_having 21 = .ok (.iload_n 1, 1) := by decide +kernel
theorem dX1_having_22 : decode cX1_having 22 = .ok (.invokevirtual 63, 3) := by decide +kernel
theorem dX1_having_25 : decode cX1_having 25 = .ok (.iload_n 2, 1) := by decide +kernel
theorem dX1_having_26 : decode cX1_having 26 = .ok (.if_icmp .ne 10, 3) := by decide +kernel
theorem dX1_having_29 : decode cX1_having 29 = .ok (.iload_n 3, 1) := by decide +kernel
theorem dX1_having_30 : decode cX1_having 30 = .ok (.iconst 1, 1) := by decide +kernel
theorem dX1_having_31 : decode cX1_having 31 = .ok (.iload 4, 2) := by decide +kernel
theorem dX1_having_33 : decode cX1_having 33 = .ok (.ishl, 1) := by decide +kernel
theorem dX1_having_34 : decode cX1_having 34 = .ok (.ior, 1) := by decide +kernel
theorem dX1_having_35 : decode cX1_having 35 = .ok (.istore_n 3, 1) := by decide +kernel
theorem dX1_having_36 : decode cX1_having 36 = .ok (.iinc 4 1, 3) := by decide +kernel
theorem dX1_having_39 : decode cX1_having 39 = .ok (.goto (-34), 3) := by decide +kernel
theorem dX1_having_42 : decode cX1_having 42 = .ok (.iload_n 3, 1) := by decide +kernel
theorem dX1_having_43 : decode cX1_having 43 = .ok (.ireturn, 1) := by decide +kernel
theorem dX1_placed_0 : decode cX1_placed 0 = .ok (.aload_n 0, 1) := by decide +kernel
theorem dX1_placed_1 : decode cX1_placed 1 = .ok (.iconst 4, 1) := by decide +kernel
theorem dX1_placed_2 : decode cX1_placed 2 = .ok (.iload_n 1, 1) := by decide +kernel
theorem dX1_placed_3 : decode cX1_placed 3 = .ok (.invokevirtual 67, 3) := by decide +kernel
theorem dX1_placed_6 : decode cX1_placed 6 = .ok (.ireturn, 1) := by decide +kernel
theorem dX1_outingsOf_0 : decode cX1_outingsOf 0 = .ok (.iconst 0, 1) := by decide +kernel
theorem dX1_outingsOf_1 : decode cX1_outingsOf 1 = .ok (.istore_n 2, 1) := by decide +kernel
theorem dX1_outingsOf_2 : decode cX1_outingsOf 2 = .ok (.iconst 0, 1) := by decide +kernel
theorem dX1_outingsOf_3 : decode cX1_outingsOf 3 = .ok (.istore_n 3, 1) := by decide +kernel
theorem dX1_outingsOf_4 : decode cX1_outingsOf 4 = .ok (.iload_n 3, 1) := by decide +kernel
theorem dX1_outingsOf_5 : decode cX1_outingsOf 5 = .ok (.aload_n 0, 1) := by decide +kernel
theorem dX1_outingsOf_6 : decode cX1_outingsOf 6 = .ok (.getfield 44, 3) := by decide +kernel
theorem dX1_outingsOf_9 : decode cX1_outingsOf 9 = .ok (.if_icmp .ge 22, 3) := by decide +kernel
theorem dX1_outingsOf_12 : decode cX1_outingsOf 12 = .ok (.iload_n 2, 1) := by decide +kernel
theorem dX1_outingsOf_13 : decode cX1_outingsOf 13 = .ok (.aload_n 0, 1) := by decide +kernel
theorem dX1_outingsOf_14 : decode cX1_outingsOf 14 = .ok (.getfield 17, 3) := by decide +kernel
theorem dX1_outingsOf_17 : decode cX1_outingsOf 17 = .ok (.iload_n 3, 1) := by decide +kernel
theorem dX1_outingsOf_18 : decode cX1_outingsOf 18 = .ok (.iaload, 1) := by decide +kernel
theorem dX1_outingsOf_19 : decode cX1_outingsOf 19 = .ok (.iload_n 1, 1) := by decide +kernel
theorem dX1_outingsOf_20 : decode cX1_outingsOf 20 = .ok (.ishr, 1) := by decide +kernel
theorem dX1_outingsOf_21 : decode cX1_outingsOf 21 = .ok (.iconst 1, 1) := by decide +kernel
theorem dX1_outingsOf_22 : decode cX1_outingsOf 22 = .ok (.iand, 1) := by decide +kernel
theorem dX1_outingsOf_23 : decode cX1_outingsOf 23 = .ok (.iadd, 1) := by decide +kernel
theorem dX1_outingsOf_24 : decode cX1_outingsOf 24 = .ok (.istore_n 2, 1) := by decide +kernel
theorem dX1_outingsOf_25 : decode cX1_outingsOf 25 = .ok (.iinc 3 1, 3) := by decide +kernel
theorem dX1_outingsOf_28 : decode cX1_outingsOf 28 = .ok (.goto (-24), 3) := by decide +kernel
theorem dX1_outingsOf_31 : decode cX1_outingsOf 31 = .ok (.iload_n 2, 1) := by decide +kernel
theorem dX1_outingsOf_32 : decode cX1_outingsOf 32 = .ok (.ireturn, 1) := by decide +kernel
theorem dX1_canGo_0 : decode cX1_canGo 0 = .ok (.iconst 0, 1) := by decide +kernel
theorem dX1_canGo_1 : decode cX1_canGo 1 = .ok (.istore_n 2, 1) := by decide +kernel
theorem dX1_canGo_2 : decode cX1_canGo 2 = .ok (.iload_n 2, 1) := by decide +kernel
theorem dX1_canGo_3 : decode cX1_canGo 3 = .ok (.aload_n 0, 1) := by decide +kernel
theorem dX1_canGo_4 : decode cX1_canGo 4 = .ok (.getfield 41, 3) := by decide +kernel
theorem dX1_canGo_7 : decode cX1_canGo 7 = .ok (.if_icmp .ge 66, 3) := by decide +kernel
theorem dX1_canGo_10 : decode cX1_canGo 10 = .ok (.iload_n 1, 1) := by decide +kernel
theorem dX1_canGo_11 : decode cX1_canGo 11 = .ok (.iload_n 2, 1) := by decide +kernel
theorem dX1_canGo_12 : decode cX1_canGo 12 = .ok (.ishr, 1) := by decide +kernel
theorem dX1_canGo_13 : decode cX1_canGo 13 = .ok (.iconst 1, 1) := by decide +kernel
theorem dX1_canGo_14 : decode cX1_canGo 14 = .ok (.iand, 1) := by decide +kernel
theorem dX1_canGo_15 : decode cX1_canGo 15 = .ok (.ifCond .ne 6, 3) := by decide +kernel
theorem dX1_canGo_18 : decode cX1_canGo 18 = .ok (.goto 49, 3) := by decide +kernel
theorem dX1_canGo_21 : decode cX1_canGo 21 = .ok (.aload_n 0, 1) := by decide +kernel
theorem dX1_canGo_22 : decode cX1_canGo 22 = .ok (.getfield 11, 3) := by decide +kernel
theorem dX1_canGo_25 : decode cX1_canGo 25 = .ok (.iload_n 2, 1) := by decide +kernel
theorem dX1_canGo_26 : decode cX1_canGo 26 = .ok (.aaload, 1) := by decide +kernel
theorem dX1_canGo_27 : decode cX1_canGo 27 = .ok (.getfield 71, 3) := by decide +kernel
theorem dX1_canGo_30 : decode cX1_canGo 30 = .ok (.iconst 1, 1) := by decide +kernel
theorem dX1_canGo_31 : decode cX1_canGo 31 = .ok (.if_icmp .ne 5, 3) := by decide +kernel
theorem dX1_canGo_34 : decode cX1_canGo 34 = .ok (.iconst 0, 1) := by decide +kernel
theorem dX1_canGo_35 : decode cX1_canGo 35 = .ok (.ireturn, 1) := by decide +kernel
theorem dX1_canGo_36 : decode cX1_canGo 36 = .ok (.aload_n 0, 1) := by decide +kernel
theorem dX1_canGo_37 : decode cX1_canGo 37 = .ok (.getfield 11, 3) := by decide +kernel
theorem dX1_canGo_40 : decode cX1_canGo 40 = .ok (.iload_n 2, 1) := by decide +kernel
theorem dX1_canGo_41 : decode cX1_canGo 41 = .ok (.aaload, 1) := by decide +kernel
theorem dX1_canGo_42 : decode cX1_canGo 42 = .ok (.getfield 71, 3) := by decide +kernel
theorem dX1_canGo_45 : decode cX1_canGo 45 = .ok (.iconst 2, 1) := by decide +kernel
theorem dX1_canGo_46 : decode cX1_canGo 46 = .ok (.if_icmp .ne 21, 3) := by decide +kernel
theorem dX1_canGo_49 : decode cX1_canGo 49 = .ok (.iload_n 1, 1) := by decide +kernel
theorem dX1_canGo_50 : decode cX1_canGo 50 = .ok (.aload_n 0, 1) := by decide +kernel
theorem dX1_canGo_51 : decode cX1_canGo 51 = .ok (.getfield 11, 3) := by decide +kernel
theorem dX1_canGo_54 : decode cX1_canGo 54 = .ok (.iload_n 2, 1) := by decide +kernel
theorem dX1_canGo_55 : decode cX1_canGo 55 = .ok (.aaload, 1) := by decide +kernel
theorem dX1_canGo_56 : decode cX1_canGo 56 = .ok (.getfield 74, 3) := by decide +kernel
theorem dX1_canGo_59 : decode cX1_canGo 59 = .ok (.ishr, 1) := by decide +kernel
theorem dX1_canGo_60 : decode cX1_canGo 60 = .ok (.iconst 1, 1) := by decide +kernel
theorem dX1_canGo_61 : decode cX1_canGo 61 = .ok (.iand, 1) := by decide +kernel
theorem dX1_canGo_62 : decode cX1_canGo 62 = .ok (.ifCond .ne 5, 3) := by decide +kernel
theorem dX1_canGo_65 : decode cX1_canGo 65 = .ok (.iconst 0, 1) := by decide +kernel
theorem dX1_canGo_66 : decode cX1_canGo 66 = .ok (.ireturn, 1) := by decide +kernel
theorem dX1_canGo_67 : decode cX1_canGo 67 = .ok (.iinc 2 1, 3) := by decide +kernel
theorem dX1_canGo_70 : decode cX1_canGo 70 = .ok (.goto (-68), 3) := by decide +kernel
theorem dX1_canGo_73 : decode cX1_canGo 73 = .ok (.iconst 1, 1) := by decide +kernel
theorem dX1_canGo_74 : decode cX1_canGo 74 = .ok (.ireturn, 1) := by decide +kernel
theorem dX1_wash_0 : decode cX1_wash 0 = .ok (.aload_n 0, 1) := by decide +kernel
theorem dX1_wash_1 : decode cX1_wash 1 = .ok (.getfield 44, 3) := by decide +kernel
theorem dX1_wash_4 : decode cX1_wash 4 = .ok (.bipush 12, 2) := by decide +kernel
theorem dX1_wash_6 : decode cX1_wash 6 = .ok (.if_icmp .lt 6, 3) := by decide +kernel
theorem dX1_wash_9 : decode cX1_wash 9 = .ok (.bipush (-3), 2) := by decide +kernel
theorem dX1_wash_11 : decode cX1_wash 11 = .ok (.ireturn, 1) := by decide +kernel
theorem dX1_wash_12 : decode cX1_wash 12 = .ok (.aload_n 0, 1) := by decide +kernel
theorem dX1_wash_13 : decode cX1_wash 13 = .ok (.getfield 17, 3) := by decide +kernel
theorem dX1_wash_16 : decode cX1_wash 16 = .ok (.aload_n 0, 1) := by decide +kernel
theorem dX1_wash_17 : decode cX1_wash 17 = .ok (.getfield 44, 3) := by decide +kernel
theorem dX1_wash_20 : decode cX1_wash 20 = .ok (.iload_n 1, 1) := by decide +kernel
theorem dX1_wash_21 : decode cX1_wash 21 = .ok (.iastore, 1) := by decide +kernel
theorem dX1_wash_22 : decode cX1_wash 22 = .ok (.aload_n 0, 1) := by decide +kernel
theorem dX1_wash_23 : decode cX1_wash 23 = .ok (.getfield 21, 3) := by decide +kernel
theorem dX1_wash_26 : decode cX1_wash 26 = .ok (.aload_n 0, 1) := by decide +kernel
theorem dX1_wash_27 : decode cX1_wash 27 = .ok (.getfield 44, 3) := by decide +kernel
theorem dX1_wash_30 : decode cX1_wash 30 = .ok (.aload_n 0, 1) := by decide +kernel
theorem dX1_wash_31 : decode cX1_wash 31 = .ok (.invokevirtual 77, 3) := by decide +kernel
theorem dX1_wash_34 : decode cX1_wash 34 = .ok (.iload_n 1, 1) := by decide +kernel
theorem dX1_wash_35 : decode cX1_wash 35 = .ok (.iconst (-1), 1) := by decide +kernel
theorem dX1_wash_36 : decode cX1_wash 36 = .ok (.ixor, 1) := by decide +kernel
theorem dX1_wash_37 : decode cX1_wash 37 = .ok (.iand, 1) := by decide +kernel
theorem dX1_wash_38 : decode cX1_wash 38 = .ok (.aload_n 0, 1) := by decide +kernel
theorem dX1_wash_39 : decode cX1_wash 39 = .ok (.iconst 1, 1) := by decide +kernel
theorem dX1_wash_40 : decode cX1_wash 40 = .ok (.invokevirtual 81, 3) := by decide +kernel
theorem dX1_wash_43 : decode cX1_wash 43 = .ok (.iconst (-1), 1) := by decide +kernel
theorem dX1_wash_44 : decode cX1_wash 44 = .ok (.ixor, 1) := by decide +kernel
theorem dX1_wash_45 : decode cX1_wash 45 = .ok (.iand, 1) := by decide +kernel
theorem dX1_wash_46 : decode cX1_wash 46 = .ok (.iastore, 1) := by decide +kernel
theorem dX1_wash_47 : decode cX1_wash 47 = .ok (.iconst 0, 1) := by decide +kernel
theorem dX1_wash_48 : decode cX1_wash 48 = .ok (.istore_n 3, 1) := by decide +kernel
theorem dX1_wash_49 : decode cX1_wash 49 = .ok (.iload_n 3, 1) := by decide +kernel
theorem dX1_wash_50 : decode cX1_wash 50 = .ok (.aload_n 0, 1) := by decide +kernel
theorem dX1_wash_51 : decode cX1_wash 51 = .ok (.getfield 41, 3) := by decide +kernel
theorem dX1_wash_54 : decode cX1_wash 54 = .ok (.if_icmp .ge 70, 3) := by decide +kernel
theorem dX1_wash_57 : decode cX1_wash 57 = .ok (.iload_n 1, 1) := by decide +kernel
theorem dX1_wash_58 : decode cX1_wash 58 = .ok (.iload_n 3, 1) := by decide +kernel
theorem dX1_wash_59 : decode cX1_wash 59 = .ok (.ishr, 1) := by decide +kernel
theorem dX1_wash_60 : decode cX1_wash 60 = .ok (.iconst 1, 1) := by decide +kernel
theorem dX1_wash_61 : decode cX1_wash 61 = .ok (.iand, 1) := by decide +kernel
theorem dX1_wash_62 : decode cX1_wash 62 = .ok (.ifCond .ne 6, 3) := by decide +kernel
theorem dX1_wash_65 : decode cX1_wash 65 = .ok (.goto 53, 3) := by decide +kernel
theorem dX1_wash_68 : decode cX1_wash 68 = .ok (.aload_n 0, 1) := by decide +kernel
theorem dX1_wash_69 : decode cX1_wash 69 = .ok (.getfield 11, 3) := by decide +kernel
theorem dX1_wash_72 : decode cX1_wash 72 = .ok (.iload_n 3, 1) := by decide +kernel
theorem dX1_wash_73 : decode cX1_wash 73 = .ok (.aaload, 1) := by decide +kernel
theorem dX1_wash_74 : decode cX1_wash 74 = .ok (.aload_n 0, 1) := by decide +kernel
theorem dX1_wash_75 : decode cX1_wash 75 = .ok (.getfield 24, 3) := by decide +kernel
theorem dX1_wash_78 : decode cX1_wash 78 = .ok (.aload_n 0, 1) := by decide +kernel
theorem dX1_wash_79 : decode cX1_wash 79 = .ok (.getfield 11, 3) := by decide +kernel
theorem dX1_wash_82 : decode cX1_wash 82 = .ok (.iload_n 3, 1) := by decide +kernel
theorem dX1_wash_83 : decode cX1_wash 83 = .ok (.aaload, 1) := by decide +kernel
theorem dX1_wash_84 : decode cX1_wash 84 = .ok (.getfield 84, 3) := by decide +kernel
theorem dX1_wash_87 : decode cX1_wash 87 = .ok (.iaload, 1) := by decide +kernel
theorem dX1_wash_88 : decode cX1_wash 88 = .ok (.invokevirtual 87, 3) := by decide +kernel
theorem dX1_wash_91 : decode cX1_wash 91 = .ok (.iload_n 2, 1) := by decide +kernel
theorem dX1_wash_92 : decode cX1_wash 92 = .ok (.iload_n 3, 1) := by decide +kernel
theorem dX1_wash_93 : decode cX1_wash 93 = .ok (.ishr, 1) := by decide +kernel
theorem dX1_wash_94 : decode cX1_wash 94 = .ok (.iconst 1, 1) := by decide +kernel
theorem dX1_wash_95 : decode cX1_wash 95 = .ok (.iand, 1) := by decide +kernel
theorem dX1_wash_96 : decode cX1_wash 96 = .ok (.ifCond .ne 22, 3) := by decide +kernel
theorem dX1_wash_99 : decode cX1_wash 99 = .ok (.aload_n 0, 1) := by decide +kernel
theorem dX1_wash_100 : decode cX1_wash 100 = .ok (.iload_n 3, 1) := by decide +kernel
theorem dX1_wash_101 : decode cX1_wash 101 = .ok (.invokevirtual 91, 3) := by decide +kernel
theorem dX1_wash_104 : decode cX1_wash 104 = .ok (.pop, 1) := by decide +kernel
theorem dX1_wash_105 : decode cX1_wash 105 = .ok (.aload_n 0, 1) := by decide +kernel
theorem dX1_wash_106 : decode cX1_wash 106 = .ok (.getfield 11, 3) := by decide +kernel
theorem dX1_wash_109 : decode cX1_wash 109 = .ok (.iload_n 3, 1) := by decide +kernel
theorem dX1_wash_110 : decode cX1_wash 110 = .ok (.aaload, 1) := by decide +kernel
theorem dX1_wash_111 : decode cX1_wash 111 = .ok (.aload_n 0, 1) := by decide +kernel
theorem dX1_wash_112 : decode cX1_wash 112 = .ok (.getfield 44, 3) := by decide +kernel
theorem dX1_wash_115 : decode cX1_wash 115 = .ok (.invokevirtual 94, 3) := by decide +kernel
theorem dX1_wash_118 : decode cX1_wash 118 = .ok (.iinc 3 1, 3) := by decide +kernel
theorem dX1_wash_121 : decode cX1_wash 121 = .ok (.goto (-72), 3) := by decide +kernel
theorem dX1_wash_124 : decode cX1_wash 124 = .ok (.aload_n 0, 1) := by decide +kernel
theorem dX1_wash_125 : decode cX1_wash 125 = .ok (.dup, 1) := by decide +kernel
theorem dX1_wash_126 : decode cX1_wash 126 = .ok (.getfield 44, 3) := by decide +kernel
theorem dX1_wash_129 : decode cX1_wash 129 = .ok (.iconst 1, 1) := by decide +kernel
theorem dX1_wash_130 : decode cX1_wash 130 = .ok (.iadd, 1) := by decide +kernel
theorem dX1_wash_131 : decode cX1_wash 131 = .ok (.putfield 44, 3) := by decide +kernel
theorem dX1_wash_134 : decode cX1_wash 134 = .ok (.iload_n 1, 1) := by decide +kernel
theorem dX1_wash_135 : decode cX1_wash 135 = .ok (.iload_n 2, 1) := by decide +kernel
theorem dX1_wash_136 : decode cX1_wash 136 = .ok (.iconst (-1), 1) := by decide +kernel
theorem dX1_wash_137 : decode cX1_wash 137 = .ok (.ixor, 1) := by decide +kernel
theorem dX1_wash_138 : decode cX1_wash 138 = .ok (.iand, 1) := by decide +kernel
theorem dX1_wash_139 : decode cX1_wash 139 = .ok (.invokestatic 97, 3) := by decide +kernel
theorem dX1_wash_142 : decode cX1_wash 142 = .ok (.ireturn, 1) := by decide +kernel
theorem dX1_unpair_0 : decode cX1_unpair 0 = .ok (.aload_n 0, 1) := by decide +kernel
theorem dX1_unpair_1 : decode cX1_unpair 1 = .ok (.getfield 11, 3) := by decide +kernel
theorem dX1_unpair_4 : decode cX1_unpair 4 = .ok (.iload_n 1, 1) := by decide +kernel
theorem dX1_unpair_5 : decode cX1_unpair 5 = .ok (.aaload, 1) := by decide +kernel
theorem dX1_unpair_6 : decode cX1_unpair 6 = .ok (.getfield 74, 3) := by decide +kernel
theorem dX1_unpair_9 : decode cX1_unpair 9 = .ok (.istore_n 2, 1) := by decide +kernel
theorem dX1_unpair_10 : decode cX1_unpair 10 = .ok (.aload_n 0, 1) := by decide +kernel
theorem dX1_unpair_11 : decode cX1_unpair 11 = .ok (.getfield 11, 3) := by decide +kernel
theorem dX1_unpair_14 : decode cX1_unpair 14 = .ok (.iload_n 1, 1) := by decide +kernel
theorem dX1_unpair_15 : decode cX1_unpair 15 = .ok (.aaload, 1) := by decide +kernel
theorem dX1_unpair_16 : decode cX1_unpair 16 = .ok (.getfield 71, 3) := by decide +kernel
theorem dX1_unpair_19 : decode cX1_unpair 19 = .ok (.iconst 2, 1) := by decide +kernel
theorem dX1_unpair_20 : decode cX1_unpair 20 = .ok (.if_icmp .ne 14, 3) := by decide +kernel
theorem dX1_unpair_23 : decode cX1_unpair 23 = .ok (.iload_n 2, 1) := by decide +kernel
theorem dX1_unpair_24 : decode cX1_unpair 24 = .ok (.aload_n 0, 1) := by decide +kernel
theorem dX1_unpair_25 : decode cX1_unpair 25 = .ok (.getfield 41, 3) := by decide +kernel
theorem dX1_unpair_28 : decode cX1_unpair 28 = .ok (.invokestatic 102, 3) := by decide +kernel
theorem dX1_unpair_31 : decode cX1_unpair 31 = .ok (.ifCond .ne 6, 3) := by decide +kernel
theorem dX1_unpair_34 : decode cX1_unpair 34 = .ok (.bipush (-2), 2) := by decide +kernel
theorem dX1_unpair_36 : decode cX1_unpair 36 = .ok (.ireturn, 1) := by decide +kernel
theorem dX1_unpair_37 : decode cX1_unpair 37 = .ok (.aload_n 0, 1) := by decide +kernel
theorem dX1_unpair_38 : decode cX1_unpair 38 = .ok (.getfield 11, 3) := by decide +kernel
theorem dX1_unpair_41 : decode cX1_unpair 41 = .ok (.iload_n 1, 1) := by decide +kernel
theorem dX1_unpair_42 : decode cX1_unpair 42 = .ok (.aaload, 1) := by decide +kernel
theorem dX1_unpair_43 : decode cX1_unpair 43 = .ok (.invokevirtual 106, 3) := by decide +kernel
theorem dX1_unpair_46 : decode cX1_unpair 46 = .ok (.aload_n 0, 1) := by decide +kernel
theorem dX1_unpair_47 : decode cX1_unpair 47 = .ok (.getfield 11, 3) := by decide +kernel
theorem dX1_unpair_50 : decode cX1_unpair 50 = .ok (.iload_n 2, 1) := by decide +kernel
theorem dX1_unpair_51 : decode cX1_unpair 51 = .ok (.aaload, 1) := by decide +kernel
theorem dX1_unpair_52 : decode cX1_unpair 52 = .ok (.invokevirtual 106, 3) := by decide +kernel
theorem dX1_unpair_55 : decode cX1_unpair 55 = .ok (.iload_n 2, 1) := by decide +kernel
theorem dX1_unpair_56 : decode cX1_unpair 56 = .ok (.ireturn, 1) := by decide +kernel
theorem dX1_likenessOf_0 : decode cX1_likenessOf 0 = .ok (.aload_n 0, 1) := by decide +kernel
theorem dX1_likenessOf_1 : decode cX1_likenessOf 1 = .ok (.getfield 11, 3) := by decide +kernel
theorem dX1_likenessOf_4 : decode cX1_likenessOf 4 = .ok (.iload_n 1, 1) := by decide +kernel
theorem dX1_likenessOf_5 : decode cX1_likenessOf 5 = .ok (.aaload, 1) := by decide +kernel
theorem dX1_likenessOf_6 : decode cX1_likenessOf 6 = .ok (.astore_n 3, 1) := by decide +kernel
theorem dX1_likenessOf_7 : decode cX1_likenessOf 7 = .ok (.aload_n 0, 1) := by decide +kernel
theorem dX1_likenessOf_8 : decode cX1_likenessOf 8 = .ok (.getfield 11, 3) := by decide +kernel
theorem dX1_likenessOf_11 : decode cX1_likenessOf 11 = .ok (.iload_n 2, 1) := by decide +kernel
theorem dX1_likenessOf_12 : decode cX1_likenessOf 12 = .ok (.aaload, 1) := by decide +kernel
theorem dX1_likenessOf_13 : decode cX1_likenessOf 13 = .ok (.astore 4, 2) := by decide +kernel
theorem dX1_likenessOf_15 : decode cX1_likenessOf 15 = .ok (.aload_n 3, 1) := by decide +kernel
theorem dX1_likenessOf_16 : decode cX1_likenessOf 16 = .ok (.getfield 109, 3) := by decide +kernel
theorem dX1_likenessOf_19 : decode cX1_likenessOf 19 = .ok (.aload 4, 2) := by decide +kernel
theorem dX1_likenessOf_21 : decode cX1_likenessOf 21 = .ok (.getfield 112, 3) := by decide +kernel
theorem dX1_likenessOf_24 : decode cX1_likenessOf 24 = .ok (.isub, 1) := by decide +kernel
theorem dX1_likenessOf_25 : decode cX1_likenessOf 25 = .ok (.aload 4, 2) := by decide +kernel
theorem dX1_likenessOf_27 : decode cX1_likenessOf 27 = .ok (.getfield 109, 3) := by decide +kernel
theorem dX1_likenessOf_30 : decode cX1_likenessOf 30 = .ok (.aload_n 3, 1) := by decide +kernel
theorem dX1_likenessOf_31 : decode cX1_likenessOf 31 = .ok (.getfield 112, 3) := by decide +kernel
theorem dX1_likenessOf_34 : decode cX1_likenessOf 34 = .ok (.isub, 1) := by decide +kernel
theorem dX1_likenessOf_35 : decode cX1_likenessOf 35 = .ok (.invokestatic 115, 3) := by decide +kernel
theorem dX1_likenessOf_38 : decode cX1_likenessOf 38 = .ok (.istore 5, 2) := by decide +kernel
theorem dX1_likenessOf_40 : decode cX1_likenessOf 40 = .ok (.aload_n 3, 1) := by decide +kernel
theorem dX1_likenessOf_41 : decode cX1_likenessOf 41 = .ok (.getfield 112, 3) := by decide +kernel
theorem dX1_likenessOf_44 : decode cX1_likenessOf 44 = .ok (.aload 4, 2) := by decide +kernel
theorem dX1_likenessOf_46 : decode cX1_likenessOf 46 = .ok (.getfield 109, 3) := by decide +kernel
theorem dX1_likenessOf_49 : decode cX1_likenessOf 49 = .ok (.isub, 1) := by decide +kernel
theorem dX1_likenessOf_50 : decode cX1_likenessOf 50 = .ok (.aload 4, 2) := by decide +kernel
theorem dX1_likenessOf_52 : decode cX1_likenessOf 52 = .ok (.getfield 112, 3) := by decide +kernel
theorem dX1_likenessOf_55 : decode cX1_likenessOf 55 = .ok (.aload_n 3, 1) := by decide +kernel
theorem dX1_likenessOf_56 : decode cX1_likenessOf 56 = .ok (.getfield 109, 3) := by decide +kernel
theorem dX1_likenessOf_59 : decode cX1_likenessOf 59 = .ok (.isub, 1) := by decide +kernel
theorem dX1_likenessOf_60 : decode cX1_likenessOf 60 = .ok (.invokestatic 115, 3) := by decide +kernel
theorem dX1_likenessOf_63 : decode cX1_likenessOf 63 = .ok (.istore 6, 2) := by decide +kernel
theorem dX1_likenessOf_65 : decode cX1_likenessOf 65 = .ok (.iload 5, 2) := by decide +kernel
theorem dX1_likenessOf_67 : decode cX1_likenessOf 67 = .ok (.aload_n 0, 1) := by decide +kernel
theorem dX1_likenessOf_68 : decode cX1_likenessOf 68 = .ok (.getfield 27, 3) := by decide +kernel
theorem dX1_likenessOf_71 : decode cX1_likenessOf 71 = .ok (.if_icmp .gt 5, 3) := by decide +kernel
theorem dX1_likenessOf_74 : decode cX1_likenessOf 74 = .ok (.iconst 2, 1) := by decide +kernel
theorem dX1_likenessOf_75 : decode cX1_likenessOf 75 = .ok (.ireturn, 1) := by decide +kernel
theorem dX1_likenessOf_76 : decode cX1_likenessOf 76 = .ok (.iload 6, 2) := by decide +kernel
theorem dX1_likenessOf_78 : decode cX1_likenessOf 78 = .ok (.aload_n 0, 1) := by decide +kernel
theorem dX1_likenessOf_79 : decode cX1_likenessOf 79 = .ok (.getfield 27, 3) := by decide +kernel
theorem dX1_likenessOf_82 : decode cX1_likenessOf 82 = .ok (.if_icmp .gt 7, 3) := by decide +kernel
theorem dX1_likenessOf_85 : decode cX1_likenessOf 85 = .ok (.iconst 1, 1) := by decide +kernel
theorem dX1_likenessOf_86 : decode cX1_likenessOf 86 = .ok (.goto 4, 3) := by decide +kernel
theorem dX1_likenessOf_89 : decode cX1_likenessOf 89 = .ok (.iconst 0, 1) := by decide +kernel
theorem dX1_likenessOf_90 : decode cX1_likenessOf 90 = .ok (.ireturn, 1) := by decide +kernel
theorem dX1_bars_0 : decode cX1_bars 0 = .ok (.iconst 0, 1) := by decide +kernel
theorem dX1_bars_1 : decode cX1_bars 1 = .ok (.istore_n 3, 1) := by decide +kernel
theorem dX1_bars_2 : decode cX1_bars 2 = .ok (.aload_n 0, 1) := by decide +kernel
theorem dX1_bars_3 : decode cX1_bars 3 = .ok (.getfield 11, 3) := by decide +kernel
theorem dX1_bars_6 : decode cX1_bars 6 = .ok (.iload_n 1, 1) := by decide +kernel
theorem dX1_bars_7 : decode cX1_bars 7 = .ok (.aaload, 1) := by decide +kernel
theorem dX1_bars_8 : decode cX1_bars 8 = .ok (.getfield 84, 3) := by decide +kernel
theorem dX1_bars_11 : decode cX1_bars 11 = .ok (.aload_n 0, 1) := by decide +kernel
theorem dX1_bars_12 : decode cX1_bars 12 = .ok (.getfield 11, 3) := by decide +kernel
theorem dX1_bars_15 : decode cX1_bars 15 = .ok (.iload_n 2, 1) := by decide +kernel
theorem dX1_bars_16 : decode cX1_bars 16 = .ok (.aaload, 1) := by decide +kernel
theorem dX1_bars_17 : decode cX1_bars 17 = .ok (.getfield 84, 3) := by decide +kernel
theorem dX1_bars_20 : decode cX1_bars 20 = .ok (.if_icmp .eq 7, 3) := by decide +kernel
theorem dX1_bars_23 : decode cX1_bars 23 = .ok (.iload_n 3, 1) := by decide +kernel
theorem dX1_bars_24 : decode cX1_bars 24 = .ok (.iconst 1, 1) := by decide +kernel
theorem dX1_bars_25 : decode cX1_bars 25 = .ok (.ior, 1) := by decide +kernel
theorem dX1_bars_26 : decode cX1_bars 26 = .ok (.istore_n 3, 1) := by decide +kernel
theorem dX1_bars_27 : decode cX1_bars 27 = .ok (.aload_n 0, 1) := by decide +kernel
theorem dX1_bars_28 : decode cX1_bars 28 = .ok (.getfield 47, 3) := by decide +kernel
theorem dX1_bars_31 : decode cX1_bars 31 = .ok (.iconst 1, 1) := by decide +kernel
theorem dX1_bars_32 : decode cX1_bars 32 = .ok (.if_icmp .ne 28, 3) := by decide +kernel
theorem dX1_bars_35 : decode cX1_bars 35 = .ok (.aload_n 0, 1) := by decide +kernel
theorem dX1_bars_36 : decode cX1_bars 36 = .ok (.getfield 11, 3) := by decide +kernel
theorem dX1_bars_39 : decode cX1_bars 39 = .ok (.iload_n 1, 1) := by decide +kernel
theorem dX1_bars_40 : decode cX1_bars 40 = .ok (.aaload, 1) := by decide +kernel
theorem dX1_bars_41 : decode cX1_bars 41 = .ok (.getfield 120, 3) := by decide +kernel
theorem dX1_bars_44 : decode cX1_bars 44 = .ok (.aload_n 0, 1) := by decide +kernel
theorem dX1_bars_45 : decode cX1_bars 45 = .ok (.getfield 11, 3) := by decide +kernel
theorem dX1_bars_48 : decode cX1_bars 48 = .ok (.iload_n 2, 1) := by decide +kernel
theorem dX1_bars_49 : decode cX1_bars 49 = .ok (.aaload, 1) := by decide +kernel
theorem dX1_bars_50 : decode cX1_bars 50 = .ok (.getfield 120, 3) := by decide +kernel
theorem dX1_bars_53 : decode cX1_bars 53 = .ok (.if_icmp .ne 7, 3) := by decide +kernel
theorem dX1_bars_56 : decode cX1_bars 56 = .ok (.iload_n 3, 1) := by decide +kernel
theorem dX1_bars_57 : decode cX1_bars 57 = .ok (.iconst 2, 1) := by decide +kernel
theorem dX1_bars_58 : decode cX1_bars 58 = .ok (.ior, 1) := by decide +kernel
theorem dX1_bars_59 : decode cX1_bars 59 = .ok (.istore_n 3, 1) := by decide +kernel
theorem dX1_bars_60 : decode cX1_bars 60 = .ok (.aload_n 0, 1) := by decide +kernel
theorem dX1_bars_61 : decode cX1_bars 61 = .ok (.iload_n 1, 1) := by decide +kernel
theorem dX1_bars_62 : decode cX1_bars 62 = .ok (.iload_n 2, 1) := by decide +kernel
theorem dX1_bars_63 : decode cX1_bars 63 = .ok (.invokevirtual 123, 3) := by decide +kernel
theorem dX1_bars_66 : decode cX1_bars 66 = .ok (.ifCond .ne 7, 3) := by decide +kernel
theorem dX1_bars_69 : decode cX1_bars 69 = .ok (.iload_n 3, 1) := by decide +kernel
theorem dX1_bars_70 : decode cX1_bars 70 = .ok (.iconst 4, 1) := by decide +kernel
theorem dX1_bars_71 : decode cX1_bars 71 = .ok (.ior, 1) := by decide +kernel
theorem dX1_bars_72 : decode cX1_bars 72 = .ok (.istore_n 3, 1) := by decide +kernel
theorem dX1_bars_73 : decode cX1_bars 73 = .ok (.aload_n 0, 1) := by decide +kernel
theorem dX1_bars_74 : decode cX1_bars 74 = .ok (.iload_n 1, 1) := by decide +kernel
theorem dX1_bars_75 : decode cX1_bars 75 = .ok (.iload_n 2, 1) := by decide +kernel
theorem dX1_bars_76 : decode cX1_bars 76 = .ok (.invokevirtual 126, 3) := by decide +kernel
theorem dX1_bars_79 : decode cX1_bars 79 = .ok (.ifCond .eq 8, 3) := by decide +kernel
theorem dX1_bars_82 : decode cX1_bars 82 = .ok (.iload_n 3, 1) := by decide +kernel
theorem dX1_bars_83 : decode cX1_bars 83 = .ok (.bipush 8, 2) := by decide +kernel
theorem dX1_bars_85 : decode cX1_bars 85 = .ok (.ior, 1) := by decide +kernel
theorem dX1_bars_86 : decode cX1_bars 86 = .ok (.istore_n 3, 1) := by decide +kernel
theorem dX1_bars_87 : decode cX1_bars 87 = .ok (.iload_n 3, 1) := by decide +kernel
theorem dX1_bars_88 : decode cX1_bars 88 = .ok (.ireturn, 1) := by decide +kernel
theorem dX1_wereParted_0 : decode cX1_wereParted 0 = .ok (.iconst 0, 1) := by decide +kernel
theorem dX1_wereParted_1 : decode cX1_wereParted 1 = .ok (.istore_n 3, 1) := by decide +kernel
theorem dX1_wereParted_2 : decode cX1_wereParted 2 = .ok (.iload_n 3, 1) := by decide +kernel
theorem dX1_wereParted_3 : decode cX1_wereParted 3 = .ok (.aload_n 0, 1) := by decide +kernel
theorem dX1_wereParted_4 : decode cX1_wereParted 4 = .ok (.getfield 44, 3) := by decide +kernel
theorem dX1_wereParted_7 : decode cX1_wereParted 7 = .ok (.if_icmp .ge 56, 3) := by decide +kernel
theorem dX1_wereParted_10 : decode cX1_wereParted 10 = .ok (.aload_n 0, 1) := by decide +kernel
theorem dX1_wereParted_11 : decode cX1_wereParted 11 = .ok (.getfield 17, 3) := by decide +kernel
theorem dX1_wereParted_14 : decode cX1_wereParted 14 = .ok (.iload_n 3, 1) := by decide +kernel
theorem dX1_wereParted_15 : decode cX1_wereParted 15 = .ok (.iaload, 1) := by decide +kernel
theorem dX1_wereParted_16 : decode cX1_wereParted 16 = .ok (.iload_n 1, 1) := by decide +kernel
theorem dX1_wereParted_17 : decode cX1_wereParted 17 = .ok (.ishr, 1) := by decide +kernel
theorem dX1_wereParted_18 : decode cX1_wereParted 18 = .ok (.aload_n 0, 1) := by decide +kernel
theorem dX1_wereParted_19 : decode cX1_wereParted 19 = .ok (.getfield 21, 3) := by decide +kernel
theorem dX1_wereParted_22 : decode cX1_wereParted 22 = .ok (.iload_n 3, 1) := by decide +kernel
theorem dX1_wereParted_23 : decode cX1_wereParted 23 = .ok (.iaload, 1) := by decide +kernel
theorem dX1_wereParted_24 : decode cX1_wereParted 24 = .ok (.iload_n 2, 1) := by decide +kernel
theorem dX1_wereParted_25 : decode cX1_wereParted 25 = .ok (.ishr, 1) := by decide +kernel
theorem dX1_wereParted_26 : decode cX1_wereParted 26 = .ok (.iand, 1) := by decide +kernel
theorem dX1_wereParted_27 : decode cX1_wereParted 27 = .ok (.aload_n 0, 1) := by decide +kernel
theorem dX1_wereParted_28 : decode cX1_wereParted 28 = .ok (.getfield 17, 3) := by decide +kernel
theorem dX1_wereParted_31 : decode cX1_wereParted 31 = .ok (.iload_n 3, 1) := by decide +kernel
theorem dX1_wereParted_32 : decode cX1_wereParted 32 = .ok (.iaload, 1) := by decide +kernel
theorem dX1_wereParted_33 : decode cX1_wereParted 33 = .ok (.iload_n 2, 1) := by decide +kernel
theorem dX1_wereParted_34 : decode cX1_wereParted 34 = .ok (.ishr, 1) := by decide +kernel
theorem dX1_wereParted_35 : decode cX1_wereParted 35 = .ok (.aload_n 0, 1) := by decide +kernel
theorem dX1_wereParted_36 : decode cX1_wereParted 36 = .ok (.getfield 21, 3) := by decide +kernel
theorem dX1_wereParted_39 : decode cX1_wereParted 39 = .ok (.iload_n 3, 1) := by decide +kernel
theorem dX1_wereParted_40 : decode cX1_wereParted 40 = .ok (.iaload, 1) := by decide +kernel
theorem dX1_wereParted_41 : decode cX1_wereParted 41 = .ok (.iload_n 1, 1) := by decide +kernel
theorem dX1_wereParted_42 : decode cX1_wereParted 42 = .ok (.ishr, 1) := by decide +kernel
theorem dX1_wereParted_43 : decode cX1_wereParted 43 = .ok (.iand, 1) := by decide +kernel
theorem dX1_wereParted_44 : decode cX1_wereParted 44 = .ok (.ior, 1) := by decide +kernel
theorem dX1_wereParted_45 : decode cX1_wereParted 45 = .ok (.istore 4, 2) := by decide +kernel
theorem dX1_wereParted_47 : decode cX1_wereParted 47 = .ok (.iload 4, 2) := by decide +kernel
theorem dX1_wereParted_49 : decode cX1_wereParted 49 = .ok (.iconst 1, 1) := by decide +kernel
theorem dX1_wereParted_50 : decode cX1_wereParted 50 = .ok (.iand, 1) := by decide +kernel
theorem dX1_wereParted_51 : decode cX1_wereParted 51 = .ok (.iconst 1, 1) := by decide +kernel
theorem dX1_wereParted_52 : decode cX1_wereParted 52 = .ok (.if_icmp .ne 5, 3) := by decide +kernel
theorem dX1_wereParted_55 : decode cX1_wereParted 55 = .ok (.iconst 1, 1) := by decide +kernel
theorem dX1_wereParted_56 : decode cX1_wereParted 56 = .ok (.ireturn, 1) := by decide +kernel
theorem dX1_wereParted_57 : decode cX1_wereParted 57 = .ok (.iinc 3 1, 3) := by decide +kernel
theorem dX1_wereParted_60 : decode cX1_wereParted 60 = .ok (.goto (-58), 3) := by decide +kernel
theorem dX1_wereParted_63 : decode cX1_wereParted 63 = .ok (.iconst 0, 1) := by decide +kernel
theorem dX1_wereParted_64 : decode cX1_wereParted 64 = .ok (.ireturn, 1) := by decide +kernel
theorem dX1_distance_0 : decode cX1_distance 0 = .ok (.aload_n 0, 1) := by decide +kernel
theorem dX1_distance_1 : decode cX1_distance 1 = .ok (.getfield 11, 3) := by decide +kernel
theorem dX1_distance_4 : decode cX1_distance 4 = .ok (.iload_n 1, 1) := by decide +kernel
theorem dX1_distance_5 : decode cX1_distance 5 = .ok (.aaload, 1) := by decide +kernel
theorem dX1_distance_6 : decode cX1_distance 6 = .ok (.getfield 112, 3) := by decide +kernel
theorem dX1_distance_9 : decode cX1_distance 9 = .ok (.aload_n 0, 1) := by decide +kernel
theorem dX1_distance_10 : decode cX1_distance 10 = .ok (.getfield 11, 3) := by decide +kernel
theorem dX1_distance_13 : decode cX1_distance 13 = .ok (.iload_n 1, 1) := by decide +kernel
theorem dX1_distance_14 : decode cX1_distance 14 = .ok (.aaload, 1) := by decide +kernel
theorem dX1_distance_15 : decode cX1_distance 15 = .ok (.getfield 109, 3) := by decide +kernel
theorem dX1_distance_18 : decode cX1_distance 18 = .ok (.iadd, 1) := by decide +kernel
theorem dX1_distance_19 : decode cX1_distance 19 = .ok (.aload_n 0, 1) := by decide +kernel
theorem dX1_distance_20 : decode cX1_distance 20 = .ok (.getfield 11, 3) := by decide +kernel
theorem dX1_distance_23 : decode cX1_distance 23 = .ok (.iload_n 2, 1) := by decide +kernel
theorem dX1_distance_24 : decode cX1_distance 24 = .ok (.aaload, 1) := by decide +kernel
theorem dX1_distance_25 : decode cX1_distance 25 = .ok (.getfield 112, 3) := by decide +kernel
theorem dX1_distance_28 : decode cX1_distance 28 = .ok (.isub, 1) := by decide +kernel
theorem dX1_distance_29 : decode cX1_distance 29 = .ok (.aload_n 0, 1) := by decide +kernel
theorem dX1_distance_30 : decode cX1_distance 30 = .ok (.getfield 11, 3) := by decide +kernel
theorem dX1_distance_33 : decode cX1_distance 33 = .ok (.iload_n 2, 1) := by decide +kernel
theorem dX1_distance_34 : decode cX1_distance 34 = .ok (.aaload, 1) := by decide +kernel
theorem dX1_distance_35 : decode cX1_distance 35 = .ok (.getfield 109, 3) := by decide +kernel
theorem dX1_distance_38 : decode cX1_distance 38 = .ok (.isub, 1) := by decide +kernel
theorem dX1_distance_39 : decode cX1_distance 39 = .ok (.invokestatic 129, 3) := by decide +kernel
theorem dX1_distance_42 : decode cX1_distance 42 = .ok (.ireturn, 1) := by decide +kernel
theorem dX1_join_0 : decode cX1_join 0 = .ok (.aload_n 0, 1) := by decide +kernel
theorem dX1_join_1 : decode cX1_join 1 = .ok (.getfield 11, 3) := by decide +kernel
theorem dX1_join_4 : decode cX1_join 4 = .ok (.iload_n 1, 1) := by decide +kernel
theorem dX1_join_5 : decode cX1_join 5 = .ok (.aaload, 1) := by decide +kernel
theorem dX1_join_6 : decode cX1_join 6 = .ok (.getfield 60, 3) := by decide +kernel
theorem dX1_join_9 : decode cX1_join 9 = .ok (.istore_n 3, 1) := by decide +kernel
theorem dX1_join_10 : decode cX1_join 10 = .ok (.aload_n 0, 1) := by decide +kernel
theorem dX1_join_11 : decode cX1_join 11 = .ok (.getfield 11, 3) := by decide +kernel
theorem dX1_join_14 : decode cX1_join 14 = .ok (.iload_n 2, 1) := by decide +kernel
theorem dX1_join_15 : decode cX1_join 15 = .ok (.aaload, 1) := by decide +kernel
theorem dX1_join_16 : decode cX1_join 16 = .ok (.getfield 60, 3) := by decide +kernel
theorem dX1_join_19 : decode cX1_join 19 = .ok (.istore 4, 2) := by decide +kernel
theorem dX1_join_21 : decode cX1_join 21 = .ok (.iload_n 3, 1) := by decide +kernel
theorem dX1_join_22 : decode cX1_join 22 = .ok (.iload 4, 2) := by decide +kernel
theorem dX1_join_24 : decode cX1_join 24 = .ok (.if_icmp .ne 5, 3) := by decide +kernel
theorem dX1_join_27 : decode cX1_join 27 = .ok (.iconst 0, 1) := by decide +kernel
theorem dX1_join_28 : decode cX1_join 28 = .ok (.ireturn, 1) := by decide +kernel
theorem dX1_join_29 : decode cX1_join 29 = .ok (.iconst 0, 1) := by decide +kernel
theorem dX1_join_30 : decode cX1_join 30 = .ok (.istore 5, 2) := by decide +kernel
theorem dX1_join_32 : decode cX1_join 32 = .ok (.iload 5, 2) := by decide +kernel
theorem dX1_join_34 : decode cX1_join 34 = .ok (.aload_n 0, 1) := by decide +kernel
theorem dX1_join_35 : decode cX1_join 35 = .ok (.getfield 41, 3) := by decide +kernel
theorem dX1_join_38 : decode cX1_join 38 = .ok (.if_icmp .ge 35, 3) := by decide +kernel
theorem dX1_join_41 : decode cX1_join 41 = .ok (.aload_n 0, 1) := by decide +kernel
theorem dX1_join_42 : decode cX1_join 42 = .ok (.getfield 11, 3) := by decide +kernel
theorem dX1_join_45 : decode cX1_join 45 = .ok (.iload 5, 2) := by decide +kernel
theorem dX1_join_47 : decode cX1_join 47 = .ok (.aaload, 1) := by decide +kernel
theorem dX1_join_48 : decode cX1_join 48 = .ok (.getfield 60, 3) := by decide +kernel
theorem dX1_join_51 : decode cX1_join 51 = .ok (.iload 4, 2) := by decide +kernel
theorem dX1_join_53 : decode cX1_join 53 = .ok (.if_icmp .ne 14, 3) := by decide +kernel
theorem dX1_join_56 : decode cX1_join 56 = .ok (.aload_n 0, 1) := by decide +kernel
theorem dX1_join_57 : decode cX1_join 57 = .ok (.getfield 11, 3) := by decide +kernel
theorem dX1_join_60 : decode cX1_join 60 = .ok (.iload 5, 2) := by decide +kernel
theorem dX1_join_62 : decode cX1_join 62 = .ok (.aaload, 1) := by decide +kernel
theorem dX1_join_63 : decode cX1_join 63 = .ok (.iload_n 3, 1) := by decide +kernel
theorem dX1_join_64 : decode cX1_join 64 = .ok (.putfield 60, 3) := by decide +kernel
theorem dX1_join_67 : decode cX1_join 67 = .ok (.iinc 5 1, 3) := by decide +kernel
theorem dX1_join_70 : decode cX1_join 70 = .ok (.goto (-38), 3) := by decide +kernel
theorem dX1_join_73 : decode cX1_join 73 = .ok (.iconst 1, 1) := by decide +kernel
theorem dX1_join_74 : decode cX1_join 74 = .ok (.ireturn, 1) := by decide +kernel
theorem dX1_boundTo_0 : decode cX1_boundTo 0 = .ok (.iconst 0, 1) := by decide +kernel
theorem dX1_boundTo_1 : decode cX1_boundTo 1 = .ok (.istore_n 2, 1) := by decide +kernel
theorem dX1_boundTo_2 : decode cX1_boundTo 2 = .ok (.iconst 0, 1) := by decide +kernel
theorem dX1_boundTo_3 : decode cX1_boundTo 3 = .ok (.istore_n 3, 1) := by decide +kernel
theorem dX1_boundTo_4 : decode cX1_boundTo 4 = .ok (.iload_n 3, 1) := by decide +kernel
theorem dX1_boundTo_5 : decode cX1_boundTo 5 = .ok (.aload_n 0, 1) := by decide +kernel
theorem dX1_boundTo_6 : decode cX1_boundTo 6 = .ok (.getfield 41, 3) := by decide +kernel
theorem dX1_boundTo_9 : decode cX1_boundTo 9 = .ok (.if_icmp .ge 28, 3) := by decide +kernel
theorem dX1_boundTo_12 : decode cX1_boundTo 12 = .ok (.aload_n 0, 1) := by decide +kernel
theorem dX1_boundTo_13 : decode cX1_boundTo 13 = .ok (.getfield 11, 3) := by decide +kernel
theorem dX1_boundTo_16 : decode cX1_boundTo 16 = .ok (.iload_n 3, 1) := by decide +kernel
theorem dX1_boundTo_17 : decode cX1_boundTo 17 = .ok (.aaload, 1) := by decide +kernel
theorem dX1_boundTo_18 : decode cX1_boundTo 18 = .ok (.getfield 60, 3) := by decide +kernel
theorem dX1_boundTo_21 : decode cX1_boundTo 21 = .ok (.iload_n 1, 1) := by decide +kernel
theorem dX1_boundTo_22 : decode cX1_boundTo 22 = .ok (.if_icmp .ne 9, 3) := by decide +kernel
theorem dX1_boundTo_25 : decode cX1_boundTo 25 = .ok (.iload_n 2, 1) := by decide +kernel
theorem dX1_boundTo_26 : decode cX1_boundTo 26 = .ok (.iconst 1, 1) := by decide +kernel
theorem dX1_boundTo_27 : decode cX1_boundTo 27 = .ok (.iload_n 3, 1) := by decide +kernel
theorem dX1_boundTo_28 : decode cX1_boundTo 28 = .ok (.ishl, 1) := by decide +kernel
theorem dX1_boundTo_29 : decode cX1_boundTo 29 = .ok (.ior, 1) := by decide +kernel
theorem dX1_boundTo_30 : decode cX1_boundTo 30 = .ok (.istore_n 2, 1) := by decide +kernel
theorem dX1_boundTo_31 : decode cX1_boundTo 31 = .ok (.iinc 3 1, 3) := by decide +kernel
theorem dX1_boundTo_34 : decode cX1_boundTo 34 = .ok (.goto (-30), 3) := by decide +kernel
theorem dX1_boundTo_37 : decode cX1_boundTo 37 = .ok (.iload_n 2, 1) := by decide +kernel
theorem dX1_boundTo_38 : decode cX1_boundTo 38 = .ok (.ireturn, 1) := by decide +kernel
theorem dX1_meetsAllWishes_0 : decode cX1_meetsAllWishes 0 = .ok (.iconst 0, 1) := by decide +kernel
theorem dX1_meetsAllWishes_1 : decode cX1_meetsAllWishes 1 = .ok (.istore_n 2, 1) := by decide +kernel
theorem dX1_meetsAllWishes_2 : decode cX1_meetsAllWishes 2 = .ok (.iload_n 2, 1) := by decide +kernel
theorem dX1_meetsAllWishes_3 : decode cX1_meetsAllWishes 3 = .ok (.iconst 3, 1) := by decide +kernel
theorem dX1_meetsAllWishes_4 : decode cX1_meetsAllWishes 4 = .ok (.if_icmp .ge 31, 3) := by decide +kernel
theorem dX1_meetsAllWishes_7 : decode cX1_meetsAllWishes 7 = .ok (.aload_n 0, 1) := by decide +kernel
theorem dX1_meetsAllWishes_8 : decode cX1_meetsAllWishes 8 = .ok (.getfield 37, 3) := by decide +kernel
theorem dX1_meetsAllWishes_11 : decode cX1_meetsAllWishes 11 = .ok (.iload_n 2, 1) := by decide +kernel
theorem dX1_meetsAllWishes_12 : decode cX1_meetsAllWishes 12 = .ok (.iaload, 1) := by decide +kernel
theorem dX1_meetsAllWishes_13 : decode cX1_meetsAllWishes 13 = .ok (.ifCond .eq 16, 3) := by decide +kernel
theorem dX1_meetsAllWishes_16 : decode cX1_meetsAllWishes 16 = .ok (.aload_n 0, 1) := by decide +kernel
theorem dX1_meetsAllWishes_17 : decode cX1_meetsAllWishes 17 = .ok (.getfield 37, 3) := by decide +kernel
theorem dX1_meetsAllWishes_20 : decode cX1_meetsAllWishes 20 = .ok (.iload_n 2, 1) := by decide +kernel
theorem dX1_meetsAllWishes_21 : decode cX1_meetsAllWishes 21 = .ok (.iaload, 1) := by decide +kernel
theorem dX1_meetsAllWishes_22 : decode cX1_meetsAllWishes 22 = .ok (.iload_n 1, 1) := by decide +kernel
theorem dX1_meetsAllWishes_23 : decode cX1_meetsAllWishes 23 = .ok (.iand, 1) := by decide +kernel
theorem dX1_meetsAllWishes_24 : decode cX1_meetsAllWishes 24 = .ok (.ifCond .ne 5, 3) := by decide +kernel
theorem dX1_meetsAllWishes_27 : decode cX1_meetsAllWishes 27 = .ok (.iconst 0, 1) := by decide +kernel
theorem dX1_meetsAllWishes_28 : decode cX1_meetsAllWishes 28 = .ok (.ireturn, 1) := by decide +kernel
theorem dX1_meetsAllWishes_29 : decode cX1_meetsAllWishes 29 = .ok (.iinc 2 1, 3) := by decide +kernel
theorem dX1_meetsAllWishes_32 : decode cX1_meetsAllWishes 32 = .ok (.goto (-30), 3) := by decide +kernel
theorem dX1_meetsAllWishes_35 : decode cX1_meetsAllWishes 35 = .ok (.iconst 1, 1) := by decide +kernel
theorem dX1_meetsAllWishes_36 : decode cX1_meetsAllWishes 36 = .ok (.ireturn, 1) := by decide +kernel
theorem dX2_init_0 : decode cX2_init 0 = .ok (.aload_n 0, 1) := by decide +kernel
theorem dX2_init_1 : decode cX2_init 1 = .ok (.invokespecial 3, 3) := by decide +kernel
theorem dX2_init_4 : decode cX2_init 4 = .ok (.aload_n 0, 1) := by decide +kernel
theorem dX2_init_5 : decode cX2_init 5 = .ok (.sipush 169, 3) := by decide +kernel
theorem dX2_init_8 : decode cX2_init 8 = .ok (.newarray .long, 2) := by decide +kernel
theorem dX2_init_10 : decode cX2_init 10 = .ok (.putfield 11, 3) := by decide +kernel
theorem dX2_init_13 : decode cX2_init 13 = .ok (.return_, 1) := by decide +kernel
theorem dX2_waysIf_0 : decode cX2_waysIf 0 = .ok (.lconst 1, 1) := by decide +kernel
theorem dX2_waysIf_1 : decode cX2_waysIf 1 = .ok (.lstore 4, 2) := by decide +kernel
theorem dX2_waysIf_3 : decode cX2_waysIf 3 = .ok (.iconst 0, 1) := by decide +kernel
theorem dX2_waysIf_4 : decode cX2_waysIf 4 = .ok (.istore 6, 2) := by decide +kernel
theorem dX2_waysIf_6 : decode cX2_waysIf 6 = .ok (.iload 6, 2) := by decide +kernel
theorem dX2_waysIf_8 : decode cX2_waysIf 8 = .ok (.bipush 6, 2) := by decide +kernel
theorem dX2_waysIf_10 : decode cX2_waysIf 10 = .ok (.if_icmp .ge 41, 3) := by decide +kernel
theorem dX2_waysIf_13 : decode cX2_waysIf 13 = .ok (.lload 4, 2) := by decide +kernel
theorem dX2_waysIf_15 : decode cX2_waysIf 15 = .ok (.lconst 0, 1) := by decide +kernel
theorem dX2_waysIf_16 : decode cX2_waysIf 16 = .ok (.lcmp, 1) := by decide +kernel
theorem dX2_waysIf_17 : decode cX2_waysIf 17 = .ok (.ifCond .le 34, 3) := by decide +kernel
theorem dX2_waysIf_20 : decode cX2_waysIf 20 = .ok (.aload_n 0, 1) := by decide +kernel
theorem dX2_waysIf_21 : decode cX2_waysIf 21 = .ok (.aload_n 1, 1) := by decide +kernel
theorem dX2_waysIf_22 : decode cX2_waysIf 22 = .ok (.iload 6, 2) := by decide +kernel
theorem dX2_waysIf_24 : decode cX2_waysIf 24 = .ok (.iload_n 2, 1) := by decide +kernel
theorem dX2_waysIf_25 : decode cX2_waysIf 25 = .ok (.iload_n 3, 1) := by decide +kernel
theorem dX2_waysIf_26 : decode cX2_waysIf 26 = .ok (.invokevirtual 15, 3) := by decide +kernel
theorem dX2_waysIf_29 : decode cX2_waysIf 29 = .ok (.istore 7, 2) := by decide +kernel
theorem dX2_waysIf_31 : decode cX2_waysIf 31 = .ok (.lload 4, 2) := by decide +kernel
theorem dX2_waysIf_33 : decode cX2_waysIf 33 = .ok (.aload_n 0, 1) := by decide +kernel
theorem dX2_waysIf_34 : decode cX2_waysIf 34 = .ok (.aload_n 1, 1) := by decide +kernel
theorem dX2_waysIf_35 : decode cX2_waysIf 35 = .ok (.iload 6, 2) := by decide +kernel
theorem dX2_waysIf_37 : decode cX2_waysIf 37 = .ok (.iload 7, 2) := by decide +kernel
theorem dX2_waysIf_39 : decode cX2_waysIf 39 = .ok (.invokevirtual 19, 3) := by decide +kernel
theorem dX2_waysIf_42 : decode cX2_waysIf 42 = .ok (.lmul, 1) := by decide +kernel
theorem dX2_waysIf_43 : decode cX2_waysIf 43 = .ok (.lstore 4, 2) := by decide +kernel
theorem dX2_waysIf_45 : decode cX2_waysIf 45 = .ok (.iinc 6 1, 3) := by decide +kernel
theorem dX2_waysIf_48 : decode cX2_waysIf 48 = .ok (.goto (-42), 3) := by decide +kernel
theorem dX2_waysIf_51 : decode cX2_waysIf 51 = .ok (.lload 4, 2) := by decide +kernel
theorem dX2_waysIf_53 : decode cX2_waysIf 53 = .ok (.lreturn, 1) := by decide +kernel
theorem dX2_dealKind_0 : decode cX2_dealKind 0 = .ok (.iconst 0, 1) := by decide +kernel
theorem dX2_dealKind_1 : decode cX2_dealKind 1 = .ok (.istore 5, 2) := by decide +kernel
theorem dX2_dealKind_3 : decode cX2_dealKind 3 = .ok (.iload 5, 2) := by decide +kernel
theorem dX2_dealKind_5 : decode cX2_dealKind 5 = .ok (.sipush 169, 3) := by decide +kernel
theorem dX2_dealKind_8 : decode cX2_dealKind 8 = .ok (.if_icmp .ge 26, 3) := by decide +kernel
theorem dX2_dealKind_11 : decode cX2_dealKind 11 = .ok (.aload_n 0, 1) := by decide +kernel
theorem dX2_dealKind_12 : decode cX2_dealKind 12 = .ok (.getfield 11, 3) := by decide +kernel
theorem dX2_dealKind_15 : decode cX2_dealKind 15 = .ok (.iload 5, 2) := by decide +kernel
theorem dX2_dealKind_17 : decode cX2_dealKind 17 = .ok (.iload 5, 2) := by decide +kernel
theorem dX2_dealKind_19 : decode cX2_dealKind 19 = .ok (.ifCond .ne 7, 3) := by decide +kernel
theorem dX2_dealKind_22 : decode cX2_dealKind 22 = .ok (.lconst 1, 1) := by decide +kernel
theorem dX2_dealKind_23 : decode cX2_dealKind 23 = .ok (.goto 4, 3) := by decide +kernel
theorem dX2_dealKind_26 : decode cX2_dealKind 26 = .ok (.lconst 0, 1) := by decide +kernel
theorem dX2_dealKind_27 : decode cX2_dealKind 27 = .ok (.lastore, 1) := by decide +kernel
theorem dX2_dealKind_28 : decode cX2_dealKind 28 = .ok (.iinc 5 1, 3) := by decide +kernel
theorem dX2_dealKind_31 : decode cX2_dealKind 31 = .ok (.goto (-28), 3) := by decide +kernel
theorem dX2_dealKind_34 : decode cX2_dealKind 34 = .ok (.iconst 0, 1) := by decide +kernel
theorem dX2_dealKind_35 : decode cX2_dealKind 35 = .ok (.istore 5, 2) := by decide +kernel
theorem dX2_dealKind_37 : decode cX2_dealKind 37 = .ok (.aload_n 1, 1) := by decide +kernel
theorem dX2_dealKind_38 : decode cX2_dealKind 38 = .ok (.iconst 0, 1) := by decide +kernel
theorem dX2_dealKind_39 : decode cX2_dealKind 39 = .ok (.iload_n 2, 1) := by decide +kernel
theorem dX2_dealKind_40 : decode cX2_dealKind 40 = .ok (.invokevirtual 25, 3) := by decide +kernel
theorem dX2_dealKind_43 : decode cX2_dealKind 43 = .ok (.istore 6, 2) := by decide +kernel
theorem dX2_dealKind_45 : decode cX2_dealKind 45 = .ok (.iconst 0, 1) := by decide +kernel
theorem dX2_dealKind_46 : decode cX2_dealKind 46 = .ok (.istore 7, 2) := by decide +kernel
theorem dX2_dealKind_48 : decode cX2_dealKind 48 = .ok (.iload 7, 2) := by decide +kernel
theorem dX2_dealKind_50 : decode cX2_dealKind 50 = .ok (.aload_n 1, 1) := by decide +kernel
theorem dX2_dealKind_51 : decode cX2_dealKind 51 = .ok (.getfield 31, 3) := by decide +kernel
theorem dX2_dealKind_54 : decode cX2_dealKind 54 = .ok (.if_icmp .ge 55, 3) := by decide +kernel
theorem dX2_dealKind_57 : decode cX2_dealKind 57 = .ok (.iload 6, 2) := by decide +kernel
theorem dX2_dealKind_59 : decode cX2_dealKind 59 = .ok (.aload_n 1, 1) := by decide +kernel
theorem dX2_dealKind_60 : decode cX2_dealKind 60 = .ok (.iload 7, 2) := by decide +kernel
theorem dX2_dealKind_62 : decode cX2_dealKind 62 = .ok (.invokevirtual 35, 3) := by decide +kernel
theorem dX2_dealKind_65 : decode cX2_dealKind 65 = .ok (.iand, 1) := by decide +kernel
theorem dX2_dealKind_66 : decode cX2_dealKind 66 = .ok (.istore 8, 2) := by decide +kernel
theorem dX2_dealKind_68 : decode cX2_dealKind 68 = .ok (.iload 8, 2) := by decide +kernel
theorem dX2_dealKind_70 : decode cX2_dealKind 70 = .ok (.ifCond .eq 33, 3) := by decide +kernel
theorem dX2_dealKind_73 : decode cX2_dealKind 73 = .ok (.iload 5, 2) := by decide +kernel
theorem dX2_dealKind_75 : decode cX2_dealKind 75 = .ok (.iload 8, 2) := by decide +kernel
theorem dX2_dealKind_77 : decode cX2_dealKind 77 = .ok (.invokestatic 39, 3) := by decide +kernel
theorem dX2_dealKind_80 : decode cX2_dealKind 80 = .ok (.iadd, 1) := by decide +kernel
theorem dX2_dealKind_81 : decode cX2_dealKind 81 = .ok (.istore 5, 2) := by decide +kernel
theorem dX2_dealKind_83 : decode cX2_dealKind 83 = .ok (.aload_n 0, 1) := by decide +kernel
theorem dX2_dealKind_84 : decode cX2_dealKind 84 = .ok (.iload 8, 2) := by decide +kernel
theorem dX2_dealKind_86 : decode cX2_dealKind 86 = .ok (.invokestatic 39, 3) := by decide +kernel
theorem dX2_dealKind_89 : decode cX2_dealKind 89 = .ok (.aload_n 1, 1) := by decide +kernel
theorem dX2_dealKind_90 : decode cX2_dealKind 90 = .ok (.iload 8, 2) := by decide +kernel
theorem dX2_dealKind_92 : decode cX2_dealKind 92 = .ok (.iload_n 3, 1) := by decide +kernel
theorem dX2_dealKind_93 : decode cX2_dealKind 93 = .ok (.iload 4, 2) := by decide +kernel
theorem dX2_dealKind_95 : decode cX2_dealKind 95 = .ok (.invokestatic 44, 3) := by decide +kernel
theorem dX2_dealKind_98 : decode cX2_dealKind 98 = .ok (.iload 5, 2) := by decide +kernel
theorem dX2_dealKind_100 : decode cX2_dealKind 100 = .ok (.invokevirtual 47, 3) := by decide +kernel
theorem dX2_dealKind_103 : decode cX2_dealKind 103 = .ok (.iinc 7 1, 3) := by decide +kernel
theorem dX2_dealKind_106 : decode cX2_dealKind 106 = .ok (.goto (-58), 3) := by decide +kernel
theorem dX2_dealKind_109 : decode cX2_dealKind 109 = .ok (.iload 5, 2) := by decide +kernel
theorem dX2_dealKind_111 : decode cX2_dealKind 111 = .ok (.ireturn, 1) := by decide +kernel
theorem dX2_ownersOf_0 : decode cX2_ownersOf 0 = .ok (.bipush 7, 2) := by decide +kernel
theorem dX2_ownersOf_2 : decode cX2_ownersOf 2 = .ok (.istore 4, 2) := by decide +kernel
theorem dX2_ownersOf_4 : decode cX2_ownersOf 4 = .ok (.iconst 0, 1) := by decide +kernel
theorem dX2_ownersOf_5 : decode cX2_ownersOf 5 = .ok (.istore 5, 2) := by decide +kernel
theorem dX2_ownersOf_7 : decode cX2_ownersOf 7 = .ok (.iload 5, 2) := by decide +kernel
theorem dX2_ownersOf_9 : decode cX2_ownersOf 9 = .ok (.aload_n 0, 1) := by decide +kernel
theorem dX2_ownersOf_10 : decode cX2_ownersOf 10 = .ok (.getfield 31, 3) := by decide +kernel
theorem dX2_ownersOf_13 : decode cX2_ownersOf 13 = .ok (.if_icmp .ge 55, 3) := by decide +kernel
theorem dX2_ownersOf_16 : decode cX2_ownersOf 16 = .ok (.iload_n 1, 1) := by decide +kernel
theorem dX2_ownersOf_17 : decode cX2_ownersOf 17 = .ok (.iload 5, 2) := by decide +kernel
theorem dX2_ownersOf_19 : decode cX2_ownersOf 19 = .ok (.ishr, 1) := by decide +kernel
theorem dX2_ownersOf_20 : decode cX2_ownersOf 20 = .ok (.iconst 1, 1) := by decide +kernel
theorem dX2_ownersOf_21 : decode cX2_ownersOf 21 = .ok (.iand, 1) := by decide +kernel
theorem dX2_ownersOf_22 : decode cX2_ownersOf 22 = .ok (.iconst 1, 1) := by decide +kernel
theorem dX2_ownersOf_23 : decode cX2_ownersOf 23 = .ok (.if_icmp .ne 39, 3) := by decide +kernel
theorem dX2_ownersOf_26 : decode cX2_ownersOf 26 = .ok (.iload 4, 2) := by decide +kernel
theorem dX2_ownersOf_28 : decode cX2_ownersOf 28 = .ok (.iload 5, 2) := by decide +kernel
theorem dX2_ownersOf_30 : decode cX2_ownersOf 30 = .ok (.iload_n 2, 1) := by decide +kernel
theorem dX2_ownersOf_31 : decode cX2_ownersOf 31 = .ok (.if_icmp .ne 18, 3) := by decide +kernel
theorem dX2_ownersOf_34 : decode cX2_ownersOf 34 = .ok (.aload_n 0, 1) := by decide +kernel
theorem dX2_ownersOf_35 : decode cX2_ownersOf 35 = .ok (.getfield 51, 3) := by decide +kernel
theorem dX2_ownersOf_38 : decode cX2_ownersOf 38 = .ok (.iload 5, 2) := by decide +kernel
theorem dX2_ownersOf_40 : decode cX2_ownersOf 40 = .ok (.aaload, 1) := by decide +kernel
theorem dX2_ownersOf_41 : decode cX2_ownersOf 41 = .ok (.getfield 55, 3) := by decide +kernel
theorem dX2_ownersOf_44 : decode cX2_ownersOf 44 = .ok (.iload_n 3, 1) := by decide +kernel
theorem dX2_ownersOf_45 : decode cX2_ownersOf 45 = .ok (.iand, 1) := by decide +kernel
theorem dX2_ownersOf_46 : decode cX2_ownersOf 46 = .ok (.goto 13, 3) := by decide +kernel
theorem dX2_ownersOf_49 : decode cX2_ownersOf 49 = .ok (.aload_n 0, 1) := by decide +kernel
theorem dX2_ownersOf_50 : decode cX2_ownersOf 50 = .ok (.getfield 51, 3) := by decide +kernel
theorem dX2_ownersOf_53 : decode cX2_ownersOf 53 = .ok (.iload 5, 2) := by decide +kernel
theorem dX2_ownersOf_55 : decode cX2_ownersOf 55 = .ok (.aaload, 1) := by decide +kernel
theorem dX2_ownersOf_56 : decode cX2_ownersOf 56 = .ok (.getfield 55, 3) := by decide +kernel
theorem dX2_ownersOf_59 : decode cX2_ownersOf 59 = .ok (.iand, 1) := by decide +kernel
theorem dX2_ownersOf_60 : decode cX2_ownersOf 60 = .ok (.istore 4, 2) := by decide +kernel
theorem dX2_ownersOf_62 : decode cX2_ownersOf 62 = .ok (.iinc 5 1, 3) := by decide +kernel
theorem dX2_ownersOf_65 : decode cX2_ownersOf 65 = .ok (.goto (-58), 3) := by decide +kernel
theorem dX2_ownersOf_68 : decode cX2_ownersOf 68 = .ok (.iload 4, 2) := by decide +kernel
theorem dX2_ownersOf_70 : decode cX2_ownersOf 70 = .ok (.ireturn, 1) := by decide +kernel
theorem dX2_deal_0 : decode cX2_deal 0 = .ok (.iload_n 3, 1) := by decide +kernel
theorem dX2_deal_1 : decode cX2_deal 1 = .ok (.istore 4, 2) := by decide +kernel
theorem dX2_deal_3 : decode cX2_deal 3 = .ok (.iload 4, 2) := by decide +kernel
theorem dX2_deal_5 : decode cX2_deal 5 = .ok (.ifCond .lt 130, 3) := by decide +kernel
theorem dX2_deal_8 : decode cX2_deal 8 = .ok (.iload_n 3, 1) := by decide +kernel
theorem dX2_deal_9 : decode cX2_deal 9 = .ok (.iload 4, 2) := by decide +kernel
theorem dX2_deal_11 : decode cX2_deal 11 = .ok (.isub, 1) := by decide +kernel
theorem dX2_deal_12 : decode cX2_deal 12 = .ok (.istore 5, 2) := by decide +kernel
theorem dX2_deal_14 : decode cX2_deal 14 = .ok (.iload 5, 2) := by decide +kernel
theorem dX2_deal_16 : decode cX2_deal 16 = .ok (.ifCond .lt 113, 3) := by decide +kernel
theorem dX2_deal_19 : decode cX2_deal 19 = .ok (.iload_n 2, 1) := by decide +kernel
theorem dX2_deal_20 : decode cX2_deal 20 = .ok (.iconst 4, 1) := by decide +kernel
theorem dX2_deal_21 : decode cX2_deal 21 = .ok (.iand, 1) := by decide +kernel
theorem dX2_deal_22 : decode cX2_deal 22 = .ok (.ifCond .eq 19, 3) := by decide +kernel
theorem dX2_deal_25 : decode cX2_deal 25 = .ok (.aload_n 0, 1) := by decide +kernel
theorem dX2_deal_26 : decode cX2_deal 26 = .ok (.getfield 11, 3) := by decide +kernel
theorem dX2_deal_29 : decode cX2_deal 29 = .ok (.iload 4, 2) := by decide +kernel
theorem dX2_deal_31 : decode cX2_deal 31 = .ok (.bipush 13, 2) := by decide +kernel
theorem dX2_deal_33 : decode cX2_deal 33 = .ok (.imul, 1) := by decide +kernel
theorem dX2_deal_34 : decode cX2_deal 34 = .ok (.iload 5, 2) := by decide +kernel
theorem dX2_deal_36 : decode cX2_deal 36 = .ok (.iadd, 1) := by decide +kernel
theorem dX2_deal_37 : decode cX2_deal 37 = .ok (.laload, 1) := by decide +kernel
theorem dX2_deal_38 : decode cX2_deal 38 = .ok (.goto 4, 3) := by decide +kernel
theorem dX2_deal_41 : decode cX2_deal 41 = .ok (.lconst 0, 1) := by decide +kernel
theorem dX2_deal_42 : decode cX2_deal 42 = .ok (.lstore 6, 2) := by decide +kernel
theorem dX2_deal_44 : decode cX2_deal 44 = .ok (.iload_n 2, 1) := by decide +kernel
theorem dX2_deal_45 : decode cX2_deal 45 = .ok (.iconst 1, 1) := by decide +kernel
theorem dX2_deal_46 : decode cX2_deal 46 = .ok (.iand, 1) := by decide +kernel
theorem dX2_deal_47 : decode cX2_deal 47 = .ok (.ifCond .eq 29, 3) := by decide +kernel
theorem dX2_deal_50 : decode cX2_deal 50 = .ok (.iload 4, 2) := by decide +kernel
theorem dX2_deal_52 : decode cX2_deal 52 = .ok (.iload_n 1, 1) := by decide +kernel
theorem dX2_deal_53 : decode cX2_deal 53 = .ok (.if_icmp .lt 23, 3) := by decide +kernel
theorem dX2_deal_56 : decode cX2_deal 56 = .ok (.lload 6, 2) := by decide +kernel
theorem dX2_deal_58 : decode cX2_deal 58 = .ok (.aload_n 0, 1) := by decide +kernel
theorem dX2_deal_59 : decode cX2_deal 59 = .ok (.getfield 11, 3) := by decide +kernel
theorem dX2_deal_62 : decode cX2_deal 62 = .ok (.iload 4, 2) := by decide +kernel
theorem dX2_deal_64 : decode cX2_deal 64 = .ok (.iload_n 1, 1) := by decide +kernel
theorem dX2_deal_65 : decode cX2_deal 65 = .ok (.isub, 1) := by decide +kernel
theorem dX2_deal_66 : decode cX2_deal 66 = .ok (.bipush 13, 2) := by decide +kernel
theorem dX2_deal_68 : decode cX2_deal 68 = .ok (.imul, 1) := by decide +kernel
theorem dX2_deal_69 : decode cX2_deal 69 = .ok (.iload 5, 2) := by decide +kernel
theorem dX2_deal_71 : decode cX2_deal 71 = .ok (.iadd, 1) := by decide +kernel
theorem dX2_deal_72 : decode cX2_deal 72 = .ok (.laload, 1) := by decide +kernel
theorem dX2_deal_73 : decode cX2_deal 73 = .ok (.ladd, 1) := by decide +kernel
theorem dX2_deal_74 : decode cX2_deal 74 = .ok (.lstore 6, 2) := by decide +kernel
theorem dX2_deal_76 : decode cX2_deal 76 = .ok (.iload_n 2, 1) := by decide +kernel
theorem dX2_deal_77 : decode cX2_deal 77 = .ok (.iconst 2, 1) := by decide +kernel
theorem dX2_deal_78 : decode cX2_deal 78 = .ok (.iand, 1) := by decide +kernel
theorem dX2_deal_79 : decode cX2_deal 79 = .ok (.ifCond .eq 29, 3) := by decide +kernel
theorem dX2_deal_82 : decode cX2_deal 82 = .ok (.iload 5, 2) := by decide +kernel
theorem dX2_deal_84 : decode cX2_deal 84 = .ok (.iload_n 1, 1) := by decide +kernel
theorem dX2_deal_85 : decode cX2_deal 85 = .ok (.if_icmp .lt 23, 3) := by decide +kernel
theorem dX2_deal_88 : decode cX2_deal 88 = .ok (.lload 6, 2) := by decide +kernel
theorem dX2_deal_90 : decode cX2_deal 90 = .ok (.aload_n 0, 1) := by decide +kernel
theorem dX2_deal_91 : decode cX2_deal 91 = .ok (.getfield 11, 3) := by decide +kernel
theorem dX2_deal_94 : decode cX2_deal 94 = .ok (.iload 4, 2) := by decide +kernel
theorem dX2_deal_96 : decode cX2_deal 96 = .ok (.bipush 13, 2) := by decide +kernel
theorem dX2_deal_98 : decode cX2_deal 98 = .ok (.imul, 1) := by decide +kernel
theorem dX2_deal_99 : decode cX2_deal 99 = .ok (.iload 5, 2) := by decide +kernel
theorem dX2_deal_101 : decode cX2_deal 101 = .ok (.iadd, 1) := by decide +kernel
theorem dX2_deal_102 : decode cX2_deal 102 = .ok (.iload_n 1, 1) := by decide +kernel
theorem dX2_deal_103 : decode cX2_deal 103 = .ok (.isub, 1) := by decide +kernel
theorem dX2_deal_104 : decode cX2_deal 104 = .ok (.laload, 1) := by decide +kernel
theorem dX2_deal_105 : decode cX2_deal 105 = .ok (.ladd, 1) := by decide +kernel
theorem dX2_deal_106 : decode cX2_deal 106 = .ok (.lstore 6, 2) := by decide +kernel
theorem dX2_deal_108 : decode cX2_deal 108 = .ok (.aload_n 0, 1) := by decide +kernel
theorem dX2_deal_109 : decode cX2_deal 109 = .ok (.getfield 11, 3) := by decide +kernel
theorem dX2_deal_112 : decode cX2_deal 112 = .ok (.iload 4, 2) := by decide +kernel
theorem dX2_deal_114 : decode cX2_deal 114 = .ok (.bipush 13, 2) := by decide +kernel
theorem dX2_deal_116 : decode cX2_deal 116 = .ok (.imul, 1) := by decide +kernel
theorem dX2_deal_117 : decode cX2_deal 117 = .ok (.iload 5, 2) := by decide +kernel
theorem dX2_deal_119 : decode cX2_deal 119 = .ok (.iadd, 1) := by decide +kernel
theorem dX2_deal_120 : decode cX2_deal 120 = .ok (.lload 6, 2) := by decide +kernel
theorem dX2_deal_122 : decode cX2_deal 122 = .ok (.lastore, 1) := by decide +kernel
theorem dX2_deal_123 : decode cX2_deal 123 = .ok (.iinc 5 (-1), 3) := by decide +kernel
theorem dX2_deal_126 : decode cX2_deal 126 = .ok (.goto (-112), 3) := by decide +kernel
theorem dX2_deal_129 : decode cX2_deal 129 = .ok (.iinc 4 (-1), 3) := by decide +kernel
theorem dX2_deal_132 : decode cX2_deal 132 = .ok (.goto (-129), 3) := by decide +kernel
theorem dX2_deal_135 : decode cX2_deal 135 = .ok (.return_, 1) := by decide +kernel
theorem dX2_sumAsTold_0 : decode cX2_sumAsTold 0 = .ok (.lconst 0, 1) := by decide +kernel
theorem dX2_sumAsTold_1 : decode cX2_sumAsTold 1 = .ok (.lstore 4, 2) := by decide +kernel
theorem dX2_sumAsTold_3 : decode cX2_sumAsTold 3 = .ok (.iconst 0, 1) := by decide +kernel
theorem dX2_sumAsTold_4 : decode cX2_sumAsTold 4 = .ok (.istore 6, 2) := by decide +kernel
theorem dX2_sumAsTold_6 : decode cX2_sumAsTold 6 = .ok (.iload 6, 2) := by decide +kernel
theorem dX2_sumAsTold_8 : decode cX2_sumAsTold 8 = .ok (.iload_n 3, 1) := by decide +kernel
theorem dX2_sumAsTold_9 : decode cX2_sumAsTold 9 = .ok (.if_icmp .gt 86, 3) := by decide +kernel
theorem dX2_sumAsTold_12 : decode cX2_sumAsTold 12 = .ok (.iconst 0, 1) := by decide +kernel
theorem dX2_sumAsTold_13 : decode cX2_sumAsTold 13 = .ok (.istore 7, 2) := by decide +kernel
theorem dX2_sumAsTold_15 : decode cX2_sumAsTold 15 = .ok (.iload 7, 2) := by decide +kernel
theorem dX2_sumAsTold_17 : decode cX2_sumAsTold 17 = .ok (.iload_n 3, 1) := by decide +kernel
theorem dX2_sumAsTold_18 : decode cX2_sumAsTold 18 = .ok (.iload 6, 2) := by decide +kernel
theorem dX2_sumAsTold_20 : decode cX2_sumAsTold 20 = .ok (.isub, 1) := by decide +kernel
theorem dX2_sumAsTold_21 : decode cX2_sumAsTold 21 = .ok (.if_icmp .gt 68, 3) := by decide +kernel
theorem dX2_sumAsTold_24 : decode cX2_sumAsTold 24 = .ok (.aload_n 1, 1) := by decide +kernel
theorem dX2_sumAsTold_25 : decode cX2_sumAsTold 25 = .ok (.iload_n 2, 1) := by decide +kernel
theorem dX2_sumAsTold_26 : decode cX2_sumAsTold 26 = .ok (.iload 6, 2) := by decide +kernel
theorem dX2_sumAsTold_28 : decode cX2_sumAsTold 28 = .ok (.invokestatic 58, 3) := by decide +kernel
theorem dX2_sumAsTold_31 : decode cX2_sumAsTold 31 = .ok (.ifCond .eq 52, 3) := by decide +kernel
theorem dX2_sumAsTold_34 : decode cX2_sumAsTold 34 = .ok (.aload_n 1, 1) := by decide +kernel
theorem dX2_sumAsTold_35 : decode cX2_sumAsTold 35 = .ok (.bipush 6, 2) := by decide +kernel
theorem dX2_sumAsTold_37 : decode cX2_sumAsTold 37 = .ok (.iload_n 2, 1) := by decide +kernel
theorem dX2_sumAsTold_38 : decode cX2_sumAsTold 38 = .ok (.iadd, 1) := by decide +kernel
theorem dX2_sumAsTold_39 : decode cX2_sumAsTold 39 = .ok (.iload 7, 2) := by decide +kernel
theorem dX2_sumAsTold_41 : decode cX2_sumAsTold 41 = .ok (.invokestatic 58, 3) := by decide +kernel
theorem dX2_sumAsTold_44 : decode cX2_sumAsTold 44 = .ok (.ifCond .eq 39, 3) := by decide +kernel
theorem dX2_sumAsTold_47 : decode cX2_sumAsTold 47 = .ok (.aload_n 1, 1) := by decide +kernel
theorem dX2_sumAsTold_48 : decode cX2_sumAsTold 48 = .ok (.bipush 12, 2) := by decide +kernel
theorem dX2_sumAsTold_50 : decode cX2_sumAsTold 50 = .ok (.iload_n 2, 1) := by decide +kernel
theorem dX2_sumAsTold_51 : decode cX2_sumAsTold 51 = .ok (.iadd, 1) := by decide +kernel
theorem dX2_sumAsTold_52 : decode cX2_sumAsTold 52 = .ok (.iload_n 3, 1) := by decide +kernel
theorem dX2_sumAsTold_53 : decode cX2_sumAsTold 53 = .ok (.iload 6, 2) := by decide +kernel
theorem dX2_sumAsTold_55 : decode cX2_sumAsTold 55 = .ok (.isub, 1) := by decide +kernel
theorem dX2_sumAsTold_56 : decode cX2_sumAsTold 56 = .ok (.iload 7, 2) := by decide +kernel
theorem dX2_sumAsTold_58 : decode cX2_sumAsTold 58 = .ok (.isub, 1) := by decide +kernel
theorem dX2_sumAsTold_59 : decode cX2_sumAsTold 59 = .ok (.invokestatic 58, 3) := by decide +kernel
theorem dX2_sumAsTold_62 : decode cX2_sumAsTold 62 = .ok (.ifCond .eq 21, 3) := by decide +kernel
theorem dX2_sumAsTold_65 : decode cX2_sumAsTold 65 = .ok (.lload 4, 2) := by decide +kernel
theorem dX2_sumAsTold_67 : decode cX2_sumAsTold 67 = .ok (.aload_n 0, 1) := by decide +kernel
theorem dX2_sumAsTold_68 : decode cX2_sumAsTold 68 = .ok (.getfield 11, 3) := by decide +kernel
theorem dX2_sumAsTold_71 : decode cX2_sumAsTold 71 = .ok (.iload 6, 2) := by decide +kernel
theorem dX2_sumAsTold_73 : decode cX2_sumAsTold 73 = .ok (.bipush 13, 2) := by decide +kernel
theorem dX2_sumAsTold_75 : decode cX2_sumAsTold 75 = .ok (.imul, 1) := by decide +kernel
theorem dX2_sumAsTold_76 : decode cX2_sumAsTold 76 = .ok (.iload 7, 2) := by decide +kernel
theorem dX2_sumAsTold_78 : decode cX2_sumAsTold 78 = .ok (.iadd, 1) := by decide +kernel
theorem dX2_sumAsTold_79 : decode cX2_sumAsTold 79 = .ok (.laload, 1) := by decide +kernel
theorem dX2_sumAsTold_80 : decode cX2_sumAsTold 80 = .ok (.ladd, 1) := by decide +kernel
theorem dX2_sumAsTold_81 : decode cX2_sumAsTold 81 = .ok (.lstore 4, 2) := by decide +kernel
theorem dX2_sumAsTold_83 : decode cX2_sumAsTold 83 = .ok (.iinc 7 1, 3) := by decide +kernel
theorem dX2_sumAsTold_86 : decode cX2_sumAsTold 86 = .ok (.goto (-71), 3) := by decide +kernel
theorem dX2_sumAsTold_89 : decode cX2_sumAsTold 89 = .ok (.iinc 6 1, 3) := by decide +kernel
theorem dX2_sumAsTold_92 : decode cX2_sumAsTold 92 = .ok (.goto (-86), 3) := by decide +kernel
theorem dX2_sumAsTold_95 : decode cX2_sumAsTold 95 = .ok (.lload 4, 2) := by decide +kernel
theorem dX2_sumAsTold_97 : decode cX2_sumAsTold 97 = .ok (.lreturn, 1) := by decide +kernel
theorem dX2_isAsTold_0 : decode cX2_isAsTold 0 = .ok (.iload_n 2, 1) := by decide +kernel
theorem dX2_isAsTold_1 : decode cX2_isAsTold 1 = .ok (.aload_n 0, 1) := by decide +kernel
theorem dX2_isAsTold_2 : decode cX2_isAsTold 2 = .ok (.getfield 62, 3) := by decide +kernel
theorem dX2_isAsTold_5 : decode cX2_isAsTold 5 = .ok (.iload_n 1, 1) := by decide +kernel
theorem dX2_isAsTold_6 : decode cX2_isAsTold 6 = .ok (.iaload, 1) := by decide +kernel
theorem dX2_isAsTold_7 : decode cX2_isAsTold 7 = .ok (.if_icmp .lt 17, 3) := by decide +kernel
theorem dX2_isAsTold_10 : decode cX2_isAsTold 10 = .ok (.iload_n 2, 1) := by decide +kernel
theorem dX2_isAsTold_11 : decode cX2_isAsTold 11 = .ok (.aload_n 0, 1) := by decide +kernel
theorem dX2_isAsTold_12 : decode cX2_isAsTold 12 = .ok (.getfield 66, 3) := by decide +kernel
theorem dX2_isAsTold_15 : decode cX2_isAsTold 15 = .ok (.iload_n 1, 1) := by decide +kernel
theorem dX2_isAsTold_16 : decode cX2_isAsTold 16 = .ok (.iaload, 1) := by decide +kernel
theorem dX2_isAsTold_17 : decode cX2_isAsTold 17 = .ok (.if_icmp .gt 7, 3) := by decide +kernel
theorem dX2_isAsTold_20 : decode cX2_isAsTold 20 = .ok (.iconst 1, 1) := by decide +kernel
theorem dX2_isAsTold_21 : decode cX2_isAsTold 21 = .ok (.goto 4, 3) := by decide +kernel
theorem dX2_isAsTold_24 : decode cX2_isAsTold 24 = .ok (.iconst 0, 1) := by decide +kernel
theorem dX2_isAsTold_25 : decode cX2_isAsTold 25 = .ok (.ireturn, 1) := by decide +kernel
theorem dX3_init_0 : decode cX3_init 0 = .ok (.aload_n 0, 1) := by decide +kernel
theorem dX3_init_1 : decode cX3_init 1 = .ok (.invokespecial 3, 3) := by decide +kernel
theorem dX3_init_4 : decode cX3_init 4 = .ok (.aload_n 0, 1) := by decide +kernel
theorem dX3_init_5 : decode cX3_init 5 = .ok (.sipush 144, 3) := by decide +kernel
theorem dX3_init_8 : decode cX3_init 8 = .ok (.newarray .int, 2) := by decide +kernel
theorem dX3_init_10 : decode cX3_init 10 = .ok (.putfield 9, 3) := by decide +kernel
theorem dX3_init_13 : decode cX3_init 13 = .ok (.aload_n 0, 1) := by decide +kernel
theorem dX3_init_14 : decode cX3_init 14 = .ok (.sipush 4096, 3) := by decide +kernel
theorem dX3_init_17 : decode cX3_init 17 = .ok (.newarray .int, 2) := by decide +kernel
theorem dX3_init_19 : decode cX3_init 19 = .ok (.putfield 15, 3) := by decide +kernel
theorem dX3_init_22 : decode cX3_init 22 = .ok (.aload_n 0, 1) := by decide +kernel
theorem dX3_init_23 : decode cX3_init 23 = .ok (.bipush 12, 2) := by decide +kernel
theorem dX3_init_25 : decode cX3_init 25 = .ok (.newarray .int, 2) := by decide +kernel
theorem dX3_init_27 : decode cX3_init 27 = .ok (.putfield 18, 3) := by decide +kernel
theorem dX3_init_30 : decode cX3_init 30 = .ok (.return_, 1) := by decide +kernel
theorem dX3_make_0 : decode cX3_make 0 = .ok (.aload_n 1, 1) := by decide +kernel
theorem dX3_make_1 : decode cX3_make 1 = .ok (.iconst 0, 1) := by decide +kernel
theorem dX3_make_2 : decode cX3_make 2 = .ok (.invokevirtual 21, 3) := by decide +kernel
theorem dX3_make_5 : decode cX3_make 5 = .ok (.istore_n 2, 1) := by decide +kernel
theorem dX3_make_6 : decode cX3_make 6 = .ok (.aload_n 0, 1) := by decide +kernel
theorem dX3_make_7 : decode cX3_make 7 = .ok (.aload_n 1, 1) := by decide +kernel
theorem dX3_make_8 : decode cX3_make 8 = .ok (.iload_n 2, 1) := by decide +kernel
theorem dX3_make_9 : decode cX3_make 9 = .ok (.invokevirtual 27, 3) := by decide +kernel
theorem dX3_make_12 : decode cX3_make 12 = .ok (.iconst 0, 1) := by decide +kernel
theorem dX3_make_13 : decode cX3_make 13 = .ok (.istore_n 3, 1) := by decide +kernel
theorem dX3_make_14 : decode cX3_make 14 = .ok (.iload_n 3, 1) := by decide +kernel
theorem dX3_make_15 : decode cX3_make 15 = .ok (.iconst 1, 1) := by decide +kernel
theorem dX3_make_16 : decode cX3_make 16 = .ok (.aload_n 1, 1) := by decide +kernel
theorem dX3_make_17 : decode cX3_make 17 = .ok (.getfield 31, 3) := by decide +kernel
theorem dX3_make_20 : decode cX3_make 20 = .ok (.ishl, 1) := by decide +kernel
theorem dX3_make_21 : decode cX3_make 21 = .ok (.if_icmp .ge 16, 3) := by decide +kernel
theorem dX3_make_24 : decode cX3_make 24 = .ok (.aload_n 0, 1) := by decide +kernel
theorem dX3_make_25 : decode cX3_make 25 = .ok (.getfield 15, 3) := by decide +kernel
theorem dX3_make_28 : decode cX3_make 28 = .ok (.iload_n 3, 1) := by decide +kernel
theorem dX3_make_29 : decode cX3_make 29 = .ok (.iconst (-1), 1) := by decide +kernel
theorem dX3_make_30 : decode cX3_make 30 = .ok (.iastore, 1) := by decide +kernel
theorem dX3_make_31 : decode cX3_make 31 = .ok (.iinc 3 1, 3) := by decide +kernel
theorem dX3_make_34 : decode cX3_make 34 = .ok (.goto (-20), 3) := by decide +kernel
theorem dX3_make_37 : decode cX3_make 37 = .ok (.aload_n 0, 1) := by decide +kernel
theorem dX3_make_38 : decode cX3_make 38 = .ok (.aload_n 1, 1) := by decide +kernel
theorem dX3_make_39 : decode cX3_make 39 = .ok (.iload_n 2, 1) := by decide +kernel
theorem dX3_make_40 : decode cX3_make 40 = .ok (.invokevirtual 35, 3) := by decide +kernel
theorem dX3_make_43 : decode cX3_make 43 = .ok (.return_, 1) := by decide +kernel
theorem dX3_weigh_0 : decode cX3_weigh 0 = .ok (.iconst 0, 1) := by decide +kernel
theorem dX3_weigh_1 : decode cX3_weigh 1 = .ok (.istore_n 3, 1) := by decide +kernel
theorem dX3_weigh_2 : decode cX3_weigh 2 = .ok (.iload_n 3, 1) := by decide +kernel
theorem dX3_weigh_3 : decode cX3_weigh 3 = .ok (.aload_n 1, 1) := by decide +kernel
theorem dX3_weigh_4 : decode cX3_weigh 4 = .ok (.getfield 31, 3) := by decide +kernel
theorem dX3_weigh_7 : decode cX3_weigh 7 = .ok (.if_icmp .ge 92, 3) := by decide +kernel
theorem dX3_weigh_10 : decode cX3_weigh 10 = .ok (.iload_n 3, 1) := by decide +kernel
theorem dX3_weigh_11 : decode cX3_weigh 11 = .ok (.iconst 1, 1) := by decide +kernel
theorem dX3_weigh_12 : decode cX3_weigh 12 = .ok (.iadd, 1) := by decide +kernel
theorem dX3_weigh_13 : decode cX3_weigh 13 = .ok (.istore 4, 2) := by decide +kernel
theorem dX3_weigh_15 : decode cX3_weigh 15 = .ok (.iload 4, 2) := by decide +kernel
theorem dX3_weigh_17 : decode cX3_weigh 17 = .ok (.aload_n 1, 1) := by decide +kernel
theorem dX3_weigh_18 : decode cX3_weigh 18 = .ok (.getfield 31, 3) := by decide +kernel
theorem dX3_weigh_21 : decode cX3_weigh 21 = .ok (.if_icmp .ge 72, 3) := by decide +kernel
theorem dX3_weigh_24 : decode cX3_weigh 24 = .ok (.iload_n 2, 1) := by decide +kernel
theorem dX3_weigh_25 : decode cX3_weigh 25 = .ok (.iload_n 3, 1) := by decide +kernel
theorem dX3_weigh_26 : decode cX3_weigh 26 = .ok (.ishr, 1) := by decide +kernel
theorem dX3_weigh_27 : decode cX3_weigh 27 = .ok (.iload_n 2, 1) := by decide +kernel
theorem dX3_weigh_28 : decode cX3_weigh 28 = .ok (.iload 4, 2) := by decide +kernel
theorem dX3_weigh_30 : decode cX3_weigh 30 = .ok (.ishr, 1) := by decide +kernel
theorem dX3_weigh_31 : decode cX3_weigh 31 = .ok (.iand, 1) := by decide +kernel
theorem dX3_weigh_32 : decode cX3_weigh 32 = .ok (.iconst 1, 1) := by decide +kernel
theorem dX3_weigh_33 : decode cX3_weigh 33 = .ok (.iand, 1) := by decide +kernel
theorem dX3_weigh_34 : decode cX3_weigh 34 = .ok (.iconst 1, 1) := by decide +kernel
theorem dX3_weigh_35 : decode cX3_weigh 35 = .ok (.if_icmp .ne 7, 3) := by decide +kernel
theorem dX3_weigh_38 : decode cX3_weigh 38 = .ok (.iconst 1, 1) := by decide +kernel
theorem dX3_weigh_39 : decode cX3_weigh 39 = .ok (.goto 4, 3) := by decide +kernel
theorem dX3_weigh_42 : decode cX3_weigh 42 = .ok (.iconst 0, 1) := by decide +kernel
theorem dX3_weigh_43 : decode cX3_weigh 43 = .ok (.istore 5, 2) := by decide +kernel
theorem dX3_weigh_45 : decode cX3_weigh 45 = .ok (.aload_n 0, 1) := by decide +kernel
theorem dX3_weigh_46 : decode cX3_weigh 46 = .ok (.getfield 9, 3) := by decide +kernel
theorem dX3_weigh_49 : decode cX3_weigh 49 = .ok (.iload_n 3, 1) := by decide +kernel
theorem dX3_weigh_50 : decode cX3_weigh 50 = .ok (.bipush 12, 2) := by decide +kernel
theorem dX3_weigh_52 : decode cX3_weigh 52 = .ok (.imul, 1) := by decide +kernel
theorem dX3_weigh_53 : decode cX3_weigh 53 = .ok (.iload 4, 2) := by decide +kernel
theorem dX3_weigh_55 : decode cX3_weigh 55 = .ok (.iadd, 1) := by decide +kernel
theorem dX3_weigh_56 : decode cX3_weigh 56 = .ok (.iload 5, 2) := by decide +kernel
theorem dX3_weigh_58 : decode cX3_weigh 58 = .ok (.ifCond .eq 27, 3) := by decide +kernel
theorem dX3_weigh_61 : decode cX3_weigh 61 = .ok (.aload_n 1, 1) := by decide +kernel
theorem dX3_weigh_62 : decode cX3_weigh 62 = .ok (.iload_n 3, 1) := by decide +kernel
theorem dX3_weigh_63 : decode cX3_weigh 63 = .ok (.iload 4, 2) := by decide +kernel
theorem dX3_weigh_65 : decode cX3_weigh 65 = .ok (.invokevirtual 38, 3) := by decide +kernel
theorem dX3_weigh_68 : decode cX3_weigh 68 = .ok (.ifCond .ne 17, 3) := by decide +kernel
theorem dX3_weigh_71 : decode cX3_weigh 71 = .ok (.sipush 2000, 3) := by decide +kernel
theorem dX3_weigh_74 : decode cX3_weigh 74 = .ok (.aload_n 1, 1) := by decide +kernel
theorem dX3_weigh_75 : decode cX3_weigh 75 = .ok (.iload_n 3, 1) := by decide +kernel
theorem dX3_weigh_76 : decode cX3_weigh 76 = .ok (.iload 4, 2) := by decide +kernel
theorem dX3_weigh_78 : decode cX3_weigh 78 = .ok (.invokevirtual 42, 3) := by decide +kernel
theorem dX3_weigh_81 : decode cX3_weigh 81 = .ok (.isub, 1) := by decide +kernel
theorem dX3_weigh_82 : decode cX3_weigh 82 = .ok (.goto 4, 3) := by decide +kernel
theorem dX3_weigh_85 : decode cX3_weigh 85 = .ok (.iconst 0, 1) := by decide +kernel
theorem dX3_weigh_86 : decode cX3_weigh 86 = .ok (.iastore, 1) := by decide +kernel
theorem dX3_weigh_87 : decode cX3_weigh 87 = .ok (.iinc 4 1, 3) := by decide +kernel
theorem dX3_weigh_90 : decode cX3_weigh 90 = .ok (.goto (-75), 3) := by decide +kernel
theorem dX3_weigh_93 : decode cX3_weigh 93 = .ok (.iinc 3 1, 3) := by decide +kernel
theorem dX3_weigh_96 : decode cX3_weigh 96 = .ok (.goto (-94), 3) := by decide +kernel
theorem dX3_weigh_99 : decode cX3_weigh 99 = .ok (.return_, 1) := by decide +kernel
theorem dX3_mostGain_0 : decode cX3_mostGain 0 = .ok (.iload_n 0, 1) := by decide +kernel
theorem dX3_mostGain_1 : decode cX3_mostGain 1 = .ok (.iload_n 2, 1) := by decide +kernel
theorem dX3_mostGain_2 : decode cX3_mostGain 2 = .ok (.if_icmp .lt 5, 3) := by decide +kernel
theorem dX3_mostGain_5 : decode cX3_mostGain 5 = .ok (.iconst 0, 1) := by decide +kernel
theorem dX3_mostGain_6 : decode cX3_mostGain 6 = .ok (.ireturn, 1) := by decide +kernel
theorem dX3_mostGain_7 : decode cX3_mostGain 7 = .ok (.iload_n 1, 1) := by decide +kernel
theorem dX3_mostGain_8 : decode cX3_mostGain 8 = .ok (.iconst 1, 1) := by decide +kernel
theorem dX3_mostGain_9 : decode cX3_mostGain 9 = .ok (.iload_n 0, 1) := by decide +kernel
theorem dX3_mostGain_10 : decode cX3_mostGain 10 = .ok (.ishl, 1) := by decide +kernel
theorem dX3_mostGain_11 : decode cX3_mostGain 11 = .ok (.iconst (-1), 1) := by decide +kernel
theorem dX3_mostGain_12 : decode cX3_mostGain 12 = .ok (.ixor, 1) := by decide +kernel
theorem dX3_mostGain_13 : decode cX3_mostGain 13 = .ok (.iand, 1) := by decide +kernel
theorem dX3_mostGain_14 : decode cX3_mostGain 14 = .ok (.istore 5, 2) := by decide +kernel
theorem dX3_mostGain_16 : decode cX3_mostGain 16 = .ok (.iload 5, 2) := by decide +kernel
theorem dX3_mostGain_18 : decode cX3_mostGain 18 = .ok (.iload_n 1, 1) := by decide +kernel
theorem dX3_mostGain_19 : decode cX3_mostGain 19 = .ok (.if_icmp .ne 15, 3) := by decide +kernel
theorem dX3_mostGain_22 : decode cX3_mostGain 22 = .ok (.iload_n 0, 1) := by decide +kernel
theorem dX3_mostGain_23 : decode cX3_mostGain 23 = .ok (.iconst 1, 1) := by decide +kernel
theorem dX3_mostGain_24 : decode cX3_mostGain 24 = .ok (.iadd, 1) := by decide +kernel
theorem dX3_mostGain_25 : decode cX3_mostGain 25 = .ok (.iload_n 1, 1) := by decide +kernel
theorem dX3_mostGain_26 : decode cX3_mostGain 26 = .ok (.iload_n 2, 1) := by decide +kernel
theorem dX3_mostGain_27 : decode cX3_mostGain 27 = .ok (.aload_n 3, 1) := by decide +kernel
theorem dX3_mostGain_28 : decode cX3_mostGain 28 = .ok (.aload 4, 2) := by decide +kernel
theorem dX3_mostGain_30 : decode cX3_mostGain 30 = .ok (.invokestatic 45, 3) := by decide +kernel
theorem dX3_mostGain_33 : decode cX3_mostGain 33 = .ok (.ireturn, 1) := by decide +kernel
theorem dX3_mostGain_34 : decode cX3_mostGain 34 = .ok (.aload 4, 2) := by decide +kernel
theorem dX3_mostGain_36 : decode cX3_mostGain 36 = .ok (.iload_n 1, 1) := by decide +kernel
theorem dX3_mostGain_37 : decode cX3_mostGain 37 = .ok (.iaload, 1) := by decide +kernel
theorem dX3_mostGain_38 : decode cX3_mostGain 38 = .ok (.iconst (-1), 1) := by decide +kernel
theorem dX3_mostGain_39 : decode cX3_mostGain 39 = .ok (.if_icmp .eq 8, 3) := by decide +kernel
theorem dX3_mostGain_42 : decode cX3_mostGain 42 = .ok (.aload 4, 2) := by decide +kernel
theorem dX3_mostGain_44 : decode cX3_mostGain 44 = .ok (.iload_n 1, 1) := by decide +kernel
theorem dX3_mostGain_45 : decode cX3_mostGain 45 = .ok (.iaload, 1) := by decide +kernel
theorem dX3_mostGain_46 : decode cX3_mostGain 46 = .ok (.ireturn, 1) := by decide +kernel
theorem dX3_mostGain_47 : decode cX3_mostGain 47 = .ok (.iload_n 0, 1) := by decide +kernel
theorem dX3_mostGain_48 : decode cX3_mostGain 48 = .ok (.iconst 1, 1) := by decide +kernel
theorem dX3_mostGain_49 : decode cX3_mostGain 49 = .ok (.iadd, 1) := by decide +kernel
theorem dX3_mostGain_50 : decode cX3_mostGain 50 = .ok (.iload 5, 2) := by decide +kernel
theorem dX3_mostGain_52 : decode cX3_mostGain 52 = .ok (.iload_n 2, 1) := by decide +kernel
theorem dX3_mostGain_53 : decode cX3_mostGain 53 = .ok (.aload_n 3, 1) := by decide +kernel
theorem dX3_mostGain_54 : decode cX3_mostGain 54 = .ok (.aload 4, 2) := by decide +kernel
theorem dX3_mostGain_56 : decode cX3_mostGain 56 = .ok (.invokestatic 45, 3) := by decide +kernel
theorem dX3_mostGain_59 : decode cX3_mostGain 59 = .ok (.istore 6, 2) := by decide +kernel
theorem dX3_mostGain_61 : decode cX3_mostGain 61 = .ok (.iload_n 0, 1) := by decide +kernel
theorem dX3_mostGain_62 : decode cX3_mostGain 62 = .ok (.iconst 1, 1) := by decide +kernel
theorem dX3_mostGain_63 : decode cX3_mostGain 63 = .ok (.iadd, 1) := by decide +kernel
theorem dX3_mostGain_64 : decode cX3_mostGain 64 = .ok (.istore 7, 2) := by decide +kernel
theorem dX3_mostGain_66 : decode cX3_mostGain 66 = .ok (.iload 7, 2) := by decide +kernel
theorem dX3_mostGain_68 : decode cX3_mostGain 68 = .ok (.iload_n 2, 1) := by decide +kernel
theorem dX3_mostGain_69 : decode cX3_mostGain 69 = .ok (.if_icmp .ge 65, 3) := by decide +kernel
theorem dX3_mostGain_72 : decode cX3_mostGain 72 = .ok (.aload_n 3, 1) := by decide +kernel
theorem dX3_mostGain_73 : decode cX3_mostGain 73 = .ok (.iload_n 0, 1) := by decide +kernel
theorem dX3_mostGain_74 : decode cX3_mostGain 74 = .ok (.bipush 12, 2) := by decide +kernel
theorem dX3_mostGain_76 : decode cX3_mostGain 76 = .ok (.imul, 1) := by decide +kernel
theorem dX3_mostGain_77 : decode cX3_mostGain 77 = .ok (.iload 7, 2) := by decide +kernel
theorem dX3_mostGain_79 : decode cX3_mostGain 79 = .ok (.iadd, 1) := by decide +kernel
theorem dX3_mostGain_80 : decode cX3_mostGain 80 = .ok (.iaload, 1) := by decide +kernel
theorem dX3_mostGain_81 : decode cX3_mostGain 81 = .ok (.istore 8, 2) := by decide +kernel
theorem dX3_mostGain_83 : decode cX3_mostGain 83 = .ok (.iload 8, 2) := by decide +kernel
theorem dX3_mostGain_85 : decode cX3_mostGain 85 = .ok (.ifCond .le 43, 3) := by decide +kernel
theorem dX3_mostGain_88 : decode cX3_mostGain 88 = .ok (.iload 5, 2) := by decide +kernel
theorem dX3_mostGain_90 : decode cX3_mostGain 90 = .ok (.iload 7, 2) := by decide +kernel
theorem dX3_mostGain_92 : decode cX3_mostGain 92 = .ok (.ishr, 1) := by decide +kernel
theorem dX3_mostGain_93 : decode cX3_mostGain 93 = .ok (.iconst 1, 1) := by decide +kernel
theorem dX3_mostGain_94 : decode cX3_mostGain 94 = .ok (.iand, 1) := by decide +kernel
theorem dX3_mostGain_95 : decode cX3_mostGain 95 = .ok (.iconst 1, 1) := by decide +kernel
theorem dX3_mostGain_96 : decode cX3_mostGain 96 = .ok (.if_icmp .ne 32, 3) := by decide +kernel
theorem dX3_mostGain_99 : decode cX3_mostGain 99 = .ok (.iload 6, 2) := by decide +kernel
theorem dX3_mostGain_101 : decode cX3_mostGain 101 = .ok (.iload 8, 2) := by decide +kernel
theorem dX3_mostGain_103 : decode cX3_mostGain 103 = .ok (.iload_n 0, 1) := by decide +kernel
theorem dX3_mostGain_104 : decode cX3_mostGain 104 = .ok (.iconst 1, 1) := by decide +kernel
theorem dX3_mostGain_105 : decode cX3_mostGain 105 = .ok (.iadd, 1) := by decide +kernel
theorem dX3_mostGain_106 : decode cX3_mostGain 106 = .ok (.iload 5, 2) := by decide +kernel
theorem dX3_mostGain_108 : decode cX3_mostGain 108 = .ok (.iconst 1, 1) := by decide +kernel
theorem dX3_mostGain_109 : decode cX3_mostGain 109 = .ok (.iload 7, 2) := by decide +kernel
theorem dX3_mostGain_111 : decode cX3_mostGain 111 = .ok (.ishl, 1) := by decide +kernel
theorem dX3_mostGain_112 : decode cX3_mostGain 112 = .ok (.iconst (-1), 1) := by decide +kernel
theorem dX3_mostGain_113 : decode cX3_mostGain 113 = .ok (.ixor, 1) := by decide +kernel
theorem dX3_mostGain_114 : decode cX3_mostGain 114 = .ok (.iand, 1) := by decide +kernel
theorem dX3_mostGain_115 : decode cX3_mostGain 115 = .ok (.iload_n 2, 1) := by decide +kernel
theorem dX3_mostGain_116 : decode cX3_mostGain 116 = .ok (.aload_n 3, 1) := by decide +kernel
theorem dX3_mostGain_117 : decode cX3_mostGain 117 = .ok (.aload 4, 2) := by decide +kernel
theorem dX3_mostGain_119 : decode cX3_mostGain 119 = .ok (.invokestatic 45, 3) := by decide +kernel
theorem dX3_mostGain_122 : decode cX3_mostGain 122 = .ok (.iadd, 1) := by decide +kernel
theorem dX3_mostGain_123 : decode cX3_mostGain 123 = .ok (.invokestatic 49, 3) := by decide +kernel
theorem dX3_mostGain_126 : decode cX3_mostGain 126 = .ok (.istore 6, 2) := by decide +kernel
theorem dX3_mostGain_128 : decode cX3_mostGain 128 = .ok (.iinc 7 1, 3) := by decide +kernel
theorem dX3_mostGain_131 : decode cX3_mostGain 131 = .ok (.goto (-65), 3) := by decide +kernel
theorem dX3_mostGain_134 : decode cX3_mostGain 134 = .ok (.aload 4, 2) := by decide +kernel
theorem dX3_mostGain_136 : decode cX3_mostGain 136 = .ok (.iload_n 1, 1) := by decide +kernel
theorem dX3_mostGain_137 : decode cX3_mostGain 137 = .ok (.iload 6, 2) := by decide +kernel
theorem dX3_mostGain_139 : decode cX3_mostGain 139 = .ok (.iastore, 1) := by decide +kernel
theorem dX3_mostGain_140 : decode cX3_mostGain 140 = .ok (.iload 6, 2) := by decide +kernel
theorem dX3_mostGain_142 : decode cX3_mostGain 142 = .ok (.ireturn, 1) := by decide +kernel
theorem dX3_trace_0 : decode cX3_trace 0 = .ok (.aload_n 0, 1) := by decide +kernel
theorem dX3_trace_1 : decode cX3_trace 1 = .ok (.iconst 0, 1) := by decide +kernel
theorem dX3_trace_2 : decode cX3_trace 2 = .ok (.putfield 54, 3) := by decide +kernel
theorem dX3_trace_5 : decode cX3_trace 5 = .ok (.aload_n 0, 1) := by decide +kernel
theorem dX3_trace_6 : decode cX3_trace 6 = .ok (.iconst 0, 1) := by decide +kernel
theorem dX3_trace_7 : decode cX3_trace 7 = .ok (.putfield 57, 3) := by decide +kernel
theorem dX3_trace_10 : decode cX3_trace 10 = .ok (.iconst 0, 1) := by decide +kernel
theorem dX3_trace_11 : decode cX3_trace 11 = .ok (.istore_n 3, 1) := by decide +kernel
theorem dX3_trace_12 : decode cX3_trace 12 = .ok (.iload_n 3, 1) := by decide +kernel
theorem dX3_trace_13 : decode cX3_trace 13 = .ok (.bipush 12, 2) := by decide +kernel
theorem dX3_trace_15 : decode cX3_trace 15 = .ok (.if_icmp .ge 17, 3) := by decide +kernel
theorem dX3_trace_18 : decode cX3_trace 18 = .ok (.aload_n 0, 1) := by decide +kernel
theorem dX3_trace_19 : decode cX3_trace 19 = .ok (.getfield 18, 3) := by decide +kernel
theorem dX3_trace_22 : decode cX3_trace 22 = .ok (.iload_n 3, 1) := by decide +kernel
theorem dX3_trace_23 : decode cX3_trace 23 = .ok (.bipush (-4), 2) := by decide +kernel
theorem dX3_trace_25 : decode cX3_trace 25 = .ok (.iastore, 1) := by decide +kernel
theorem dX3_trace_26 : decode cX3_trace 26 = .ok (.iinc 3 1, 3) := by decide +kernel
theorem dX3_trace_29 : decode cX3_trace 29 = .ok (.goto (-17), 3) := by decide +kernel
theorem dX3_trace_32 : decode cX3_trace 32 = .ok (.iload_n 2, 1) := by decide +kernel
theorem dX3_trace_33 : decode cX3_trace 33 = .ok (.istore_n 3, 1) := by decide +kernel
theorem dX3_trace_34 : decode cX3_trace 34 = .ok (.iconst 0, 1) := by decide +kernel
theorem dX3_trace_35 : decode cX3_trace 35 = .ok (.istore 4, 2) := by decide +kernel
theorem dX3_trace_37 : decode cX3_trace 37 = .ok (.iload 4, 2) := by decide +kernel
theorem dX3_trace_39 : decode cX3_trace 39 = .ok (.aload_n 1, 1) := by decide +kernel
theorem dX3_trace_40 : decode cX3_trace 40 = .ok (.getfield 31, 3) := by decide +kernel
theorem dX3_trace_43 : decode cX3_trace 43 = .ok (.if_icmp .ge 92, 3) := by decide +kernel
theorem dX3_trace_46 : decode cX3_trace 46 = .ok (.aload_n 0, 1) := by decide +kernel
theorem dX3_trace_47 : decode cX3_trace 47 = .ok (.iload 4, 2) := by decide +kernel
theorem dX3_trace_49 : decode cX3_trace 49 = .ok (.iload_n 3, 1) := by decide +kernel
theorem dX3_trace_50 : decode cX3_trace 50 = .ok (.aload_n 1, 1) := by decide +kernel
theorem dX3_trace_51 : decode cX3_trace 51 = .ok (.getfield 31, 3) := by decide +kernel
theorem dX3_trace_54 : decode cX3_trace 54 = .ok (.invokevirtual 59, 3) := by decide +kernel
theorem dX3_trace_57 : decode cX3_trace 57 = .ok (.istore 5, 2) := by decide +kernel
theorem dX3_trace_59 : decode cX3_trace 59 = .ok (.iload_n 3, 1) := by decide +kernel
theorem dX3_trace_60 : decode cX3_trace 60 = .ok (.iconst 1, 1) := by decide +kernel
theorem dX3_trace_61 : decode cX3_trace 61 = .ok (.iload 4, 2) := by decide +kernel
theorem dX3_trace_63 : decode cX3_trace 63 = .ok (.ishl, 1) := by decide +kernel
theorem dX3_trace_64 : decode cX3_trace 64 = .ok (.iconst (-1), 1) := by decide +kernel
theorem dX3_trace_65 : decode cX3_trace 65 = .ok (.ixor, 1) := by decide +kernel
theorem dX3_trace_66 : decode cX3_trace 66 = .ok (.iand, 1) := by decide +kernel
theorem dX3_trace_67 : decode cX3_trace 67 = .ok (.istore_n 3, 1) := by decide +kernel
theorem dX3_trace_68 : decode cX3_trace 68 = .ok (.iload 5, 2) := by decide +kernel
theorem dX3_trace_70 : decode cX3_trace 70 = .ok (.bipush (-4), 2) := by decide +kernel
theorem dX3_trace_72 : decode cX3_trace 72 = .ok (.if_icmp .eq 57, 3) := by decide +kernel
theorem dX3_trace_75 : decode cX3_trace 75 = .ok (.iload_n 3, 1) := by decide +kernel
theorem dX3_trace_76 : decode cX3_trace 76 = .ok (.iconst 1, 1) := by decide +kernel
theorem dX3_trace_77 : decode cX3_trace 77 = .ok (.iload 5, 2) := by decide +kernel
theorem dX3_trace_79 : decode cX3_trace 79 = .ok (.ishl, 1) := by decide +kernel
theorem dX3_trace_80 : decode cX3_trace 80 = .ok (.iconst (-1), 1) := by decide +kernel
theorem dX3_trace_81 : decode cX3_trace 81 = .ok (.ixor, 1) := by decide +kernel
theorem dX3_trace_82 : decode cX3_trace 82 = .ok (.iand, 1) := by decide +kernel
theorem dX3_trace_83 : decode cX3_trace 83 = .ok (.istore_n 3, 1) := by decide +kernel
theorem dX3_trace_84 : decode cX3_trace 84 = .ok (.aload_n 0, 1) := by decide +kernel
theorem dX3_trace_85 : decode cX3_trace 85 = .ok (.getfield 18, 3) := by decide +kernel
theorem dX3_trace_88 : decode cX3_trace 88 = .ok (.iload 4, 2) := by decide +kernel
theorem dX3_trace_90 : decode cX3_trace 90 = .ok (.iload 5, 2) := by decide +kernel
theorem dX3_trace_92 : decode cX3_trace 92 = .ok (.iastore, 1) := by decide +kernel
theorem dX3_trace_93 : decode cX3_trace 93 = .ok (.aload_n 0, 1) := by decide +kernel
theorem dX3_trace_94 : decode cX3_trace 94 = .ok (.getfield 18, 3) := by decide +kernel
theorem dX3_trace_97 : decode cX3_trace 97 = .ok (.iload 5, 2) := by decide +kernel
theorem dX3_trace_99 : decode cX3_trace 99 = .ok (.iload 4, 2) := by decide +kernel
theorem dX3_trace_101 : decode cX3_trace 101 = .ok (.iastore, 1) := by decide +kernel
theorem dX3_trace_102 : decode cX3_trace 102 = .ok (.aload_n 0, 1) := by decide +kernel
theorem dX3_trace_103 : decode cX3_trace 103 = .ok (.dup, 1) := by decide +kernel
theorem dX3_trace_104 : decode cX3_trace 104 = .ok (.getfield 54, 3) := by decide +kernel
theorem dX3_trace_107 : decode cX3_trace 107 = .ok (.iconst 1, 1) := by decide +kernel
theorem dX3_trace_108 : decode cX3_trace 108 = .ok (.iadd, 1) := by decide +kernel
theorem dX3_trace_109 : decode cX3_trace 109 = .ok (.putfield 54, 3) := by decide +kernel
theorem dX3_trace_112 : decode cX3_trace 112 = .ok (.aload_n 0, 1) := by decide +kernel
theorem dX3_trace_113 : decode cX3_trace 113 = .ok (.dup, 1) := by decide +kernel
theorem dX3_trace_114 : decode cX3_trace 114 = .ok (.getfield 57, 3) := by decide +kernel
theorem dX3_trace_117 : decode cX3_trace 117 = .ok (.aload_n 1, 1) := by decide +kernel
theorem dX3_trace_118 : decode cX3_trace 118 = .ok (.iload 4, 2) := by decide +kernel
theorem dX3_trace_120 : decode cX3_trace 120 = .ok (.iload 5, 2) := by decide +kernel
theorem dX3_trace_122 : decode cX3_trace 122 = .ok (.invokevirtual 42, 3) := by decide +kernel
theorem dX3_trace_125 : decode cX3_trace 125 = .ok (.iadd, 1) := by decide +kernel
theorem dX3_trace_126 : decode cX3_trace 126 = .ok (.putfield 57, 3) := by decide +kernel
theorem dX3_trace_129 : decode cX3_trace 129 = .ok (.iinc 4 1, 3) := by decide +kernel
theorem dX3_trace_132 : decode cX3_trace 132 = .ok (.goto (-95), 3) := by decide +kernel
theorem dX3_trace_135 : decode cX3_trace 135 = .ok (.return_, 1) := by decide +kernel
theorem dX3_firstFellow_0 : decode cX3_firstFellow 0 = .ok (.iload_n 2, 1) := by decide +kernel
theorem dX3_firstFellow_1 : decode cX3_firstFellow 1 = .ok (.iconst 1, 1) := by decide +kernel
theorem dX3_firstFellow_2 : decode cX3_firstFellow 2 = .ok (.iload_n 1, 1) := by decide +kernel
theorem dX3_firstFellow_3 : decode cX3_firstFellow 3 = .ok (.ishl, 1) := by decide +kernel
theorem dX3_firstFellow_4 : decode cX3_firstFellow 4 = .ok (.iconst (-1), 1) := by decide +kernel
theorem dX3_firstFellow_5 : decode cX3_firstFellow 5 = .ok (.ixor, 1) := by decide +kernel
theorem dX3_firstFellow_6 : decode cX3_firstFellow 6 = .ok (.iand, 1) := by decide +kernel
theorem dX3_firstFellow_7 : decode cX3_firstFellow 7 = .ok (.istore 4, 2) := by decide +kernel
theorem dX3_firstFellow_9 : decode cX3_firstFellow 9 = .ok (.iload 4, 2) := by decide +kernel
theorem dX3_firstFellow_11 : decode cX3_firstFellow 11 = .ok (.iload_n 2, 1) := by decide +kernel
theorem dX3_firstFellow_12 : decode cX3_firstFellow 12 = .ok (.if_icmp .ne 6, 3) := by decide +kernel
theorem dX3_firstFellow_15 : decode cX3_firstFellow 15 = .ok (.bipush (-4), 2) := by decide +kernel
theorem dX3_firstFellow_17 : decode cX3_firstFellow 17 = .ok (.ireturn, 1) := by decide +kernel
theorem dX3_firstFellow_18 : decode cX3_firstFellow 18 = .ok (.iload_n 1, 1) := by decide +kernel
theorem dX3_firstFellow_19 : decode cX3_firstFellow 19 = .ok (.iload_n 2, 1) := by decide +kernel
theorem dX3_firstFellow_20 : decode cX3_firstFellow 20 = .ok (.iload_n 3, 1) := by decide +kernel
theorem dX3_firstFellow_21 : decode cX3_firstFellow 21 = .ok (.aload_n 0, 1) := by decide +kernel
theorem dX3_firstFellow_22 : decode cX3_firstFellow 22 = .ok (.getfield 9, 3) := by decide +kernel
theorem dX3_firstFellow_25 : decode cX3_firstFellow 25 = .ok (.aload_n 0, 1) := by decide +kernel
theorem dX3_firstFellow_26 : decode cX3_firstFellow 26 = .ok (.getfield 15, 3) := by decide +kernel
theorem dX3_firstFellow_29 : decode cX3_firstFellow 29 = .ok (.invokestatic 45, 3) := by decide +kernel
theorem dX3_firstFellow_32 : decode cX3_firstFellow 32 = .ok (.istore 5, 2) := by decide +kernel
theorem dX3_firstFellow_34 : decode cX3_firstFellow 34 = .ok (.iload_n 1, 1) := by decide +kernel
theorem dX3_firstFellow_35 : decode cX3_firstFellow 35 = .ok (.iconst 1, 1) := by decide +kernel
theorem dX3_firstFellow_36 : decode cX3_firstFellow 36 = .ok (.iadd, 1) := by decide +kernel
theorem dX3_firstFellow_37 : decode cX3_firstFellow 37 = .ok (.istore 6, 2) := by decide +kernel
theorem dX3_firstFellow_39 : decode cX3_firstFellow 39 = .ok (.iload 6, 2) := by decide +kernel
theorem dX3_firstFellow_41 : decode cX3_firstFellow 41 = .ok (.iload_n 3, 1) := by decide +kernel
theorem dX3_firstFellow_42 : decode cX3_firstFellow 42 = .ok (.if_icmp .ge 74, 3) := by decide +kernel
theorem dX3_firstFellow_45 : decode cX3_firstFellow 45 = .ok (.aload_n 0, 1) := by decide +kernel
theorem dX3_firstFellow_46 : decode cX3_firstFellow 46 = .ok (.getfield 9, 3) := by decide +kernel
theorem dX3_firstFellow_49 : decode cX3_firstFellow 49 = .ok (.iload_n 1, 1) := by decide +kernel
theorem dX3_firstFellow_50 : decode cX3_firstFellow 50 = .ok (.bipush 12, 2) := by decide +kernel
theorem dX3_firstFellow_52 : decode cX3_firstFellow 52 = .ok (.imul, 1) := by decide +kernel
theorem dX3_firstFellow_53 : decode cX3_firstFellow 53 = .ok (.iload 6, 2) := by decide +kernel
theorem dX3_firstFellow_55 : decode cX3_firstFellow 55 = .ok (.iadd, 1) := by decide +kernel
theorem dX3_firstFellow_56 : decode cX3_firstFellow 56 = .ok (.iaload, 1) := by decide +kernel
theorem dX3_firstFellow_57 : decode cX3_firstFellow 57 = .ok (.istore 7, 2) := by decide +kernel
theorem dX3_firstFellow_59 : decode cX3_firstFellow 59 = .ok (.iload 7, 2) := by decide +kernel
theorem dX3_firstFellow_61 : decode cX3_firstFellow 61 = .ok (.ifCond .le 49, 3) := by decide +kernel
theorem dX3_firstFellow_64 : decode cX3_firstFellow 64 = .ok (.iload 4, 2) := by decide +kernel
theorem dX3_firstFellow_66 : decode cX3_firstFellow 66 = .ok (.iload 6, 2) := by decide +kernel
theorem dX3_firstFellow_68 : decode cX3_firstFellow 68 = .ok (.ishr, 1) := by decide +kernel
theorem dX3_firstFellow_69 : decode cX3_firstFellow 69 = .ok (.iconst 1, 1) := by decide +kernel
theorem dX3_firstFellow_70 : decode cX3_firstFellow 70 = .ok (.iand, 1) := by decide +kernel
theorem dX3_firstFellow_71 : decode cX3_firstFellow 71 = .ok (.iconst 1, 1) := by decide +kernel
theorem dX3_firstFellow_72 : decode cX3_firstFellow 72 = .ok (.if_icmp .ne 38, 3) := by decide +kernel
theorem dX3_firstFellow_75 : decode cX3_firstFellow 75 = .ok (.iload 7, 2) := by decide +kernel
theorem dX3_firstFellow_77 : decode cX3_firstFellow 77 = .ok (.iload_n 1, 1) := by decide +kernel
theorem dX3_firstFellow_78 : decode cX3_firstFellow 78 = .ok (.iconst 1, 1) := by decide +kernel
theorem dX3_firstFellow_79 : decode cX3_firstFellow 79 = .ok (.iadd, 1) := by decide +kernel
theorem dX3_firstFellow_80 : decode cX3_firstFellow 80 = .ok (.iload 4, 2) := by decide +kernel
theorem dX3_firstFellow_82 : decode cX3_firstFellow 82 = .ok (.iconst 1, 1) := by decide +kernel
theorem dX3_firstFellow_83 : decode cX3_firstFellow 83 = .ok (.iload 6, 2) := by decide +kernel
theorem dX3_firstFellow_85 : decode cX3_firstFellow 85 = .ok (.ishl, 1) := by decide +kernel
theorem dX3_firstFellow_86 : decode cX3_firstFellow 86 = .ok (.iconst (-1), 1) := by decide +kernel
theorem dX3_firstFellow_87 : decode cX3_firstFellow 87 = .ok (.ixor, 1) := by decide +kernel
theorem dX3_firstFellow_88 : decode cX3_firstFellow 88 = .ok (.iand, 1) := by decide +kernel
theorem dX3_firstFellow_89 : decode cX3_firstFellow 89 = .ok (.iload_n 3, 1) := by decide +kernel
theorem dX3_firstFellow_90 : decode cX3_firstFellow 90 = .ok (.aload_n 0, 1) := by decide +kernel
theorem dX3_firstFellow_91 : decode cX3_firstFellow 91 = .ok (.getfield 9, 3) := by decide +kernel
theorem dX3_firstFellow_94 : decode cX3_firstFellow 94 = .ok (.aload_n 0, 1) := by decide +kernel
theorem dX3_firstFellow_95 : decode cX3_firstFellow 95 = .ok (.getfield 15, 3) := by decide +kernel
theorem dX3_firstFellow_98 : decode cX3_firstFellow 98 = .ok (.invokestatic 45, 3) := by decide +kernel
theorem dX3_firstFellow_101 : decode cX3_firstFellow 101 = .ok (.iadd, 1) := by decide +kernel
theorem dX3_firstFellow_102 : decode cX3_firstFellow 102 = .ok (.iload 5, 2) := by decide +kernel
theorem dX3_firstFellow_104 : decode cX3_firstFellow 104 = .ok (.if_icmp .ne 6, 3) := by decide +kernel
theorem dX3_firstFellow_107 : decode cX3_firstFellow 107 = .ok (.iload 6, 2) := by decide +kernel
theorem dX3_firstFellow_109 : decode cX3_firstFellow 109 = .ok (.ireturn, 1) := by decide +kernel
theorem dX3_firstFellow_110 : decode cX3_firstFellow 110 = .ok (.iinc 6 1, 3) := by decide +kernel
theorem dX3_firstFellow_113 : decode cX3_firstFellow 113 = .ok (.goto (-74), 3) := by decide +kernel
theorem dX3_firstFellow_116 : decode cX3_firstFellow 116 = .ok (.bipush (-4), 2) := by decide +kernel
theorem dX3_firstFellow_118 : decode cX3_firstFellow 118 = .ok (.ireturn, 1) := by decide +kernel
theorem dX4_init_0 : decode cX4_init 0 = .ok (.aload_n 0, 1) := by decide +kernel
theorem dX4_init_1 : decode cX4_init 1 = .ok (.invokespecial 3, 3) := by decide +kernel
theorem dX4_init_4 : decode cX4_init 4 = .ok (.aload_n 0, 1) := by decide +kernel
theorem dX4_init_5 : decode cX4_init 5 = .ok (.bipush 16, 2) := by decide +kernel
theorem dX4_init_7 : decode cX4_init 7 = .ok (.newarray .int, 2) := by decide +kernel
theorem dX4_init_9 : decode cX4_init 9 = .ok (.putfield 9, 3) := by decide +kernel
theorem dX4_init_12 : decode cX4_init 12 = .ok (.aload_n 0, 1) := by decide +kernel
theorem dX4_init_13 : decode cX4_init 13 = .ok (.iconst (-1), 1) := by decide +kernel
theorem dX4_init_14 : decode cX4_init 14 = .ok (.putfield 15, 3) := by decide +kernel
theorem dX4_init_17 : decode cX4_init 17 = .ok (.return_, 1) := by decide +kernel
theorem dX4_isThere_0 : decode cX4_isThere 0 = .ok (.aload_n 0, 1) := by decide +kernel
theorem dX4_isThere_1 : decode cX4_isThere 1 = .ok (.getfield 15, 3) := by decide +kernel
theorem dX4_isThere_4 : decode cX4_isThere 4 = .ok (.iconst (-1), 1) := by decide +kernel
theorem dX4_isThere_5 : decode cX4_isThere 5 = .ok (.if_icmp .eq 7, 3) := by decide +kernel
theorem dX4_isThere_8 : decode cX4_isThere 8 = .ok (.iconst 1, 1) := by decide +kernel
theorem dX4_isThere_9 : decode cX4_isThere 9 = .ok (.goto 4, 3) := by decide +kernel
theorem dX4_isThere_12 : decode cX4_isThere 12 = .ok (.iconst 0, 1) := by decide +kernel
theorem dX4_isThere_13 : decode cX4_isThere 13 = .ok (.ireturn, 1) := by decide +kernel
theorem dX4_renew_0 : decode cX4_renew 0 = .ok (.aload_n 0, 1) := by decide +kernel
theorem dX4_renew_1 : decode cX4_renew 1 = .ok (.iload_n 1, 1) := by decide +kernel
theorem dX4_renew_2 : decode cX4_renew 2 = .ok (.putfield 15, 3) := by decide +kernel
theorem dX4_renew_5 : decode cX4_renew 5 = .ok (.aload_n 0, 1) := by decide +kernel
theorem dX4_renew_6 : decode cX4_renew 6 = .ok (.iload_n 2, 1) := by decide +kernel
theorem dX4_renew_7 : decode cX4_renew 7 = .ok (.putfield 19, 3) := by decide +kernel
theorem dX4_renew_10 : decode cX4_renew 10 = .ok (.iconst 0, 1) := by decide +kernel
theorem dX4_renew_11 : decode cX4_renew 11 = .ok (.istore_n 3, 1) := by decide +kernel
theorem dX4_renew_12 : decode cX4_renew 12 = .ok (.iload_n 3, 1) := by decide +kernel
theorem dX4_renew_13 : decode cX4_renew 13 = .ok (.bipush 16, 2) := by decide +kernel
theorem dX4_renew_15 : decode cX4_renew 15 = .ok (.if_icmp .ge 16, 3) := by decide +kernel
theorem dX4_renew_18 : decode cX4_renew 18 = .ok (.aload_n 0, 1) := by decide +kernel
theorem dX4_renew_19 : decode cX4_renew 19 = .ok (.getfield 9, 3) := by decide +kernel
theorem dX4_renew_22 : decode cX4_renew 22 = .ok (.iload_n 3, 1) := by decide +kernel
theorem dX4_renew_23 : decode cX4_renew 23 = .ok (.iconst 0, 1) := by decide +kernel
theorem dX4_renew_24 : decode cX4_renew 24 = .ok (.iastore, 1) := by decide +kernel
theorem dX4_renew_25 : decode cX4_renew 25 = .ok (.iinc 3 1, 3) := by decide +kernel
theorem dX4_renew_28 : decode cX4_renew 28 = .ok (.goto (-16), 3) := by decide +kernel
theorem dX4_renew_31 : decode cX4_renew 31 = .ok (.return_, 1) := by decide +kernel
theorem dX4_refusal_0 : decode cX4_refusal 0 = .ok (.aload_n 0, 1) := by decide +kernel
theorem dX4_refusal_1 : decode cX4_refusal 1 = .ok (.invokevirtual 22, 3) := by decide +kernel
theorem dX4_refusal_4 : decode cX4_refusal 4 = .ok (.ifCond .ne 6, 3) := by decide +kernel
theorem dX4_refusal_7 : decode cX4_refusal 7 = .ok (.bipush (-11), 2) := by decide +kernel
theorem dX4_refusal_9 : decode cX4_refusal 9 = .ok (.ireturn, 1) := by decide +kernel
theorem dX4_refusal_10 : decode cX4_refusal 10 = .ok (.aload_n 0, 1) := by decide +kernel
theorem dX4_refusal_11 : decode cX4_refusal 11 = .ok (.getfield 15, 3) := by decide +kernel
theorem dX4_refusal_14 : decode cX4_refusal 14 = .ok (.iload_n 1, 1) := by decide +kernel
theorem dX4_refusal_15 : decode cX4_refusal 15 = .ok (.if_icmp .eq 6, 3) := by decide +kernel
theorem dX4_refusal_18 : decode cX4_refusal 18 = .ok (.bipush (-12), 2) := by decide +kernel
theorem dX4_refusal_20 : decode cX4_refusal 20 = .ok (.ireturn, 1) := by decide +kernel
theorem dX4_refusal_21 : decode cX4_refusal 21 = .ok (.iload_n 2, 1) := by decide +kernel
theorem dX4_refusal_22 : decode cX4_refusal 22 = .ok (.ifCond .lt 13, 3) := by decide +kernel
theorem dX4_refusal_25 : decode cX4_refusal 25 = .ok (.iload_n 2, 1) := by decide +kernel
theorem dX4_refusal_26 : decode cX4_refusal 26 = .ok (.aload_n 0, 1) := by decide +kernel
theorem dX4_refusal_27 : decode cX4_refusal 27 = .ok (.getfield 19, 3) := by decide +kernel
theorem dX4_refusal_30 : decode cX4_refusal 30 = .ok (.iload_n 3, 1) := by decide +kernel
theorem dX4_refusal_31 : decode cX4_refusal 31 = .ok (.isub, 1) := by decide +kernel
theorem dX4_refusal_32 : decode cX4_refusal 32 = .ok (.if_icmp .le 8, 3) := by decide +kernel
theorem dX4_refusal_35 : decode cX4_refusal 35 = .ok (.bipush (-13), 2) := by decide +kernel
theorem dX4_refusal_37 : decode cX4_refusal 37 = .ok (.goto 4, 3) := by decide +kernel
theorem dX4_refusal_40 : decode cX4_refusal 40 = .ok (.iconst 0, 1) := by decide +kernel
theorem dX4_refusal_41 : decode cX4_refusal 41 = .ok (.ireturn, 1) := by decide +kernel
theorem dX4_put_0 : decode cX4_put 0 = .ok (.aload_n 0, 1) := by decide +kernel
theorem dX4_put_1 : decode cX4_put 1 = .ok (.getfield 15, 3) := by decide +kernel
theorem dX4_put_4 : decode cX4_put 4 = .ok (.ifCond .ne 14, 3) := by decide +kernel
theorem dX4_put_7 : decode cX4_put 7 = .ok (.aload_n 0, 1) := by decide +kernel
theorem dX4_put_8 : decode cX4_put 8 = .ok (.getfield 9, 3) := by decide +kernel
theorem dX4_put_11 : decode cX4_put 11 = .ok (.iload_n 1, 1) := by decide +kernel
theorem dX4_put_12 : decode cX4_put 12 = .ok (.iload_n 2, 1) := by decide +kernel
theorem dX4_put_13 : decode cX4_put 13 = .ok (.i2b, 1) := by decide +kernel
theorem dX4_put_14 : decode cX4_put 14 = .ok (.iastore, 1) := by decide +kernel
theorem dX4_put_15 : decode cX4_put 15 = .ok (.goto 29, 3) := by decide +kernel
theorem dX4_put_18 : decode cX4_put 18 = .ok (.aload_n 0, 1) := by decide +kernel
theorem dX4_put_19 : decode cX4_put 19 = .ok (.getfield 15, 3) := by decide +kernel
theorem dX4_put_22 : decode cX4_put 22 = .ok (.iconst 1, 1) := by decide +kernel
theorem dX4_put_23 : decode cX4_put 23 = .ok (.if_icmp .ne 14, 3) := by decide +kernel
theorem dX4_put_26 : decode cX4_put 26 = .ok (.aload_n 0, 1) := by decide +kernel
theorem dX4_put_27 : decode cX4_put 27 = .ok (.getfield 9, 3) := by decide +kernel
theorem dX4_put_30 : decode cX4_put 30 = .ok (.iload_n 1, 1) := by decide +kernel
theorem dX4_put_31 : decode cX4_put 31 = .ok (.iload_n 2, 1) := by decide +kernel
theorem dX4_put_32 : decode cX4_put 32 = .ok (.i2s, 1) := by decide +kernel
theorem dX4_put_33 : decode cX4_put 33 = .ok (.iastore, 1) := by decide +kernel
theorem dX4_put_34 : decode cX4_put 34 = .ok (.goto 10, 3) := by decide +kernel
theorem dX4_put_37 : decode cX4_put 37 = .ok (.aload_n 0, 1) := by decide +kernel
theorem dX4_put_38 : decode cX4_put 38 = .ok (.getfield 9, 3) := by decide +kernel
theorem dX4_put_41 : decode cX4_put 41 = .ok (.iload_n 1, 1) := by decide +kernel
theorem dX4_put_42 : decode cX4_put 42 = .ok (.iload_n 2, 1) := by decide +kernel
theorem dX4_put_43 : decode cX4_put 43 = .ok (.iastore, 1) := by decide +kernel
theorem dX4_put_44 : decode cX4_put 44 = .ok (.return_, 1) := by decide +kernel
theorem dX5_init_0 : decode cX5_init 0 = .ok (.aload_n 0, 1) := by decide +kernel
theorem dX5_init_1 : decode cX5_init 1 = .ok (.invokespecial 3, 3) := by decide +kernel
theorem dX5_init_4 : decode cX5_init 4 = .ok (.aload_n 0, 1) := by decide +kernel
theorem dX5_init_5 : decode cX5_init 5 = .ok (.bipush (-4), 2) := by decide +kernel
theorem dX5_init_7 : decode cX5_init 7 = .ok (.putfield 9, 3) := by decide +kernel
theorem dX5_init_10 : decode cX5_init 10 = .ok (.aload_n 0, 1) := by decide +kernel
theorem dX5_init_11 : decode cX5_init 11 = .ok (.bipush (-4), 2) := by decide +kernel
theorem dX5_init_13 : decode cX5_init 13 = .ok (.putfield 15, 3) := by decide +kernel
theorem dX5_init_16 : decode cX5_init 16 = .ok (.return_, 1) := by decide +kernel
theorem dX5_begin_0 : decode cX5_begin 0 = .ok (.aload_n 0, 1) := by decide +kernel
theorem dX5_begin_1 : decode cX5_begin 1 = .ok (.iload_n 1, 1) := by decide +kernel
theorem dX5_begin_2 : decode cX5_begin 2 = .ok (.putfield 18, 3) := by decide +kernel
theorem dX5_begin_5 : decode cX5_begin 5 = .ok (.aload_n 0, 1) := by decide +kernel
theorem dX5_begin_6 : decode cX5_begin 6 = .ok (.iload_n 2, 1) := by decide +kernel
theorem dX5_begin_7 : decode cX5_begin 7 = .ok (.putfield 21, 3) := by decide +kernel
theorem dX5_begin_10 : decode cX5_begin 10 = .ok (.aload_n 0, 1) := by decide +kernel
theorem dX5_begin_11 : decode cX5_begin 11 = .ok (.iload_n 3, 1) := by decide +kernel
theorem dX5_begin_12 : decode cX5_begin 12 = .ok (.putfield 24, 3) := by decide +kernel
theorem dX5_begin_15 : decode cX5_begin 15 = .ok (.aload_n 0, 1) := by decide +kernel
theorem dX5_begin_16 : decode cX5_begin 16 = .ok (.iload 4, 2) := by decide +kernel
theorem dX5_begin_18 : decode cX5_begin 18 = .ok (.putfield 27, 3) := by decide +kernel
theorem dX5_begin_21 : decode cX5_begin 21 = .ok (.aload_n 0, 1) := by decide +kernel
theorem dX5_begin_22 : decode cX5_begin 22 = .ok (.iload 5, 2) := by decide +kernel
theorem dX5_begin_24 : decode cX5_begin 24 = .ok (.putfield 30, 3) := by decide +kernel
theorem dX5_begin_27 : decode cX5_begin 27 = .ok (.aload_n 0, 1) := by decide +kernel
theorem dX5_begin_28 : decode cX5_begin 28 = .ok (.invokevirtual 33, 3) := by decide +kernel
theorem dX5_begin_31 : decode cX5_begin 31 = .ok (.return_, 1) := by decide +kernel
theorem dX5_trait_0 : decode cX5_trait 0 = .ok (.iload_n 1, 1) := by decide +kernel
theorem dX5_trait_1 : decode cX5_trait 1 = .ok (.tableswitch 82 0 7 #[47, 52, 57, 62, 67, 72, 82, 77], 47) := by decide +kernel
theorem dX5_trait_48 : decode cX5_trait 48 = .ok (.aload_n 0, 1) := by decide +kernel
theorem dX5_trait_49 : decode cX5_trait 49 = .ok (.getfield 18, 3) := by decide +kernel
theorem dX5_trait_52 : decode cX5_trait 52 = .ok (.ireturn, 1) := by decide +kernel
theorem dX5_trait_53 : decode cX5_trait 53 = .ok (.aload_n 0, 1) := by decide +kernel
theorem dX5_trait_54 : decode cX5_trait 54 = .ok (.getfield 21, 3) := by decide +kernel
theorem dX5_trait_57 : decode cX5_trait 57 = .ok (.ireturn, 1) := by decide +kernel
theorem dX5_trait_58 : decode cX5_trait 58 = .ok (.aload_n 0, 1) := by decide +kernel
theorem dX5_trait_59 : decode cX5_trait 59 = .ok (.getfield 24, 3) := by decide +kernel
theorem dX5_trait_62 : decode cX5_trait 62 = .ok (.ireturn, 1) := by decide +kernel
theorem dX5_trait_63 : decode cX5_trait 63 = .ok (.aload_n 0, 1) := by decide +kernel
theorem dX5_trait_64 : decode cX5_trait 64 = .ok (.getfield 27, 3) := by decide +kernel
theorem dX5_trait_67 : decode cX5_trait 67 = .ok (.ireturn, 1) := by decide +kernel
theorem dX5_trait_68 : decode cX5_trait 68 = .ok (.aload_n 0, 1) := by decide +kernel
theorem dX5_trait_69 : decode cX5_trait 69 = .ok (.getfield 36, 3) := by decide +kernel
theorem dX5_trait_72 : decode cX5_trait 72 = .ok (.ireturn, 1) := by decide +kernel
theorem dX5_trait_73 : decode cX5_trait 73 = .ok (.aload_n 0, 1) := by decide +kernel
theorem dX5_trait_74 : decode cX5_trait 74 = .ok (.getfield 9, 3) := by decide +kernel
theorem dX5_trait_77 : decode cX5_trait 77 = .ok (.ireturn, 1) := by decide +kernel
theorem dX5_trait_78 : decode cX5_trait 78 = .ok (.aload_n 0, 1) := by decide +kernel
theorem dX5_trait_79 : decode cX5_trait 79 = .ok (.getfield 15, 3) := by decide +kernel
theorem dX5_trait_82 : decode cX5_trait 82 = .ok (.ireturn, 1) := by decide +kernel
theorem dX5_trait_83 : decode cX5_trait 83 = .ok (.iconst (-1), 1) := by decide +kernel
theorem dX5_trait_84 : decode cX5_trait 84 = .ok (.ireturn, 1) := by decide +kernel
theorem dX5_toBox_0 : decode cX5_toBox 0 = .ok (.aload_n 0, 1) := by decide +kernel
theorem dX5_toBox_1 : decode cX5_toBox 1 = .ok (.iconst 0, 1) := by decide +kernel
theorem dX5_toBox_2 : decode cX5_toBox 2 = .ok (.putfield 36, 3) := by decide +kernel
theorem dX5_toBox_5 : decode cX5_toBox 5 = .ok (.aload_n 0, 1) := by decide +kernel
theorem dX5_toBox_6 : decode cX5_toBox 6 = .ok (.bipush (-4), 2) := by decide +kernel
theorem dX5_toBox_8 : decode cX5_toBox 8 = .ok (.putfield 9, 3) := by decide +kernel
theorem dX5_toBox_11 : decode cX5_toBox 11 = .ok (.aload_n 0, 1) := by decide +kernel
theorem dX5_toBox_12 : decode cX5_toBox 12 = .ok (.bipush (-4), 2) := by decide +kernel
theorem dX5_toBox_14 : decode cX5_toBox 14 = .ok (.putfield 15, 3) := by decide +kernel
theorem dX5_toBox_17 : decode cX5_toBox 17 = .ok (.return_, 1) := by decide +kernel
theorem dX5_toPair_0 : decode cX5_toPair 0 = .ok (.aload_n 0, 1) := by decide +kernel
theorem dX5_toPair_1 : decode cX5_toPair 1 = .ok (.iconst 2, 1) := by decide +kernel
theorem dX5_toPair_2 : decode cX5_toPair 2 = .ok (.putfield 36, 3) := by decide +kernel
theorem dX5_toPair_5 : decode cX5_toPair 5 = .ok (.aload_n 0, 1) := by decide +kernel
theorem dX5_toPair_6 : decode cX5_toPair 6 = .ok (.iload_n 1, 1) := by decide +kernel
theorem dX5_toPair_7 : decode cX5_toPair 7 = .ok (.putfield 9, 3) := by decide +kernel
theorem dX5_toPair_10 : decode cX5_toPair 10 = .ok (.return_, 1) := by decide +kernel
theorem dX5_toLost_0 : decode cX5_toLost 0 = .ok (.aload_n 0, 1) := by decide +kernel
theorem dX5_toLost_1 : decode cX5_toLost 1 = .ok (.iconst 1, 1) := by decide +kernel
theorem dX5_toLost_2 : decode cX5_toLost 2 = .ok (.putfield 36, 3) := by decide +kernel
theorem dX5_toLost_5 : decode cX5_toLost 5 = .ok (.aload_n 0, 1) := by decide +kernel
theorem dX5_toLost_6 : decode cX5_toLost 6 = .ok (.bipush (-4), 2) := by decide +kernel
theorem dX5_toLost_8 : decode cX5_toLost 8 = .ok (.putfield 9, 3) := by decide +kernel
theorem dX5_toLost_11 : decode cX5_toLost 11 = .ok (.aload_n 0, 1) := by decide +kernel
theorem dX5_toLost_12 : decode cX5_toLost 12 = .ok (.iload_n 1, 1) := by decide +kernel
theorem dX5_toLost_13 : decode cX5_toLost 13 = .ok (.putfield 15, 3) := by decide +kernel
theorem dX5_toLost_16 : decode cX5_toLost 16 = .ok (.return_, 1) := by decide +kernel
theorem dX5_wear_0 : decode cX5_wear 0 = .ok (.aload_n 0, 1) := by decide +kernel
theorem dX5_wear_1 : decode cX5_wear 1 = .ok (.bipush 99, 2) := by decide +kernel
theorem dX5_wear_3 : decode cX5_wear 3 = .ok (.aload_n 0, 1) := by decide +kernel
theorem dX5_wear_4 : decode cX5_wear 4 = .ok (.getfield 24, 3) := by decide +kernel
theorem dX5_wear_7 : decode cX5_wear 7 = .ok (.iload_n 1, 1) := by decide +kernel
theorem dX5_wear_8 : decode cX5_wear 8 = .ok (.iadd, 1) := by decide +kernel
theorem dX5_wear_9 : decode cX5_wear 9 = .ok (.invokestatic 39, 3) := by decide +kernel
theorem dX5_wear_12 : decode cX5_wear 12 = .ok (.putfield 24, 3) := by decide +kernel
theorem dX5_wear_15 : decode cX5_wear 15 = .ok (.aload_n 0, 1) := by decide +kernel
theorem dX5_wear_16 : decode cX5_wear 16 = .ok (.bipush 99, 2) := by decide +kernel
theorem dX5_wear_18 : decode cX5_wear 18 = .ok (.aload_n 0, 1) := by decide +kernel
theorem dX5_wear_19 : decode cX5_wear 19 = .ok (.getfield 27, 3) := by decide +kernel
theorem dX5_wear_22 : decode cX5_wear 22 = .ok (.iload_n 1, 1) := by decide +kernel
theorem dX5_wear_23 : decode cX5_wear 23 = .ok (.iadd, 1) := by decide +kernel
theorem dX5_wear_24 : decode cX5_wear 24 = .ok (.invokestatic 39, 3) := by decide +kernel
theorem dX5_wear_27 : decode cX5_wear 27 = .ok (.putfield 27, 3) := by decide +kernel
theorem dX5_wear_30 : decode cX5_wear 30 = .ok (.return_, 1) := by decide +kernel
theorem dX5_copyFrom_0 : decode cX5_copyFrom 0 = .ok (.aload_n 0, 1) := by decide +kernel
theorem dX5_copyFrom_1 : decode cX5_copyFrom 1 = .ok (.aload_n 1, 1) := by decide +kernel
theorem dX5_copyFrom_2 : decode cX5_copyFrom 2 = .ok (.getfield 18, 3) := by decide +kernel
theorem dX5_copyFrom_5 : decode cX5_copyFrom 5 = .ok (.putfield 18, 3) := by decide +kernel
theorem dX5_copyFrom_8 : decode cX5_copyFrom 8 = .ok (.aload_n 0, 1) := by decide +kernel
theorem dX5_copyFrom_9 : decode cX5_copyFrom 9 = .ok (.aload_n 1, 1) := by decide +kernel
theorem dX5_copyFrom_10 : decode cX5_copyFrom 10 = .ok (.getfield 21, 3) := by decide +kernel
theorem dX5_copyFrom_13 : decode cX5_copyFrom 13 = .ok (.putfield 21, 3) := by decide +kernel
theorem dX5_copyFrom_16 : decode cX5_copyFrom 16 = .ok (.aload_n 0, 1) := by decide +kernel
theorem dX5_copyFrom_17 : decode cX5_copyFrom 17 = .ok (.aload_n 1, 1) := by decide +kernel
theorem dX5_copyFrom_18 : decode cX5_copyFrom 18 = .ok (.getfield 24, 3) := by decide +kernel
theorem dX5_copyFrom_21 : decode cX5_copyFrom 21 = .ok (.putfield 24, 3) := by decide +kernel
theorem dX5_copyFrom_24 : decode cX5_copyFrom 24 = .ok (.aload_n 0, 1) := by decide +kernel
theorem dX5_copyFrom_25 : decode cX5_copyFrom 25 = .ok (.aload_n 1, 1) := by decide +kernel
theorem dX5_copyFrom_26 : decode cX5_copyFrom 26 = .ok (.getfield 27, 3) := by decide +kernel
theorem dX5_copyFrom_29 : decode cX5_copyFrom 29 = .ok (.putfield 27, 3) := by decide +kernel
theorem dX5_copyFrom_32 : decode cX5_copyFrom 32 = .ok (.aload_n 0, 1) := by decide +kernel
theorem dX5_copyFrom_33 : decode cX5_copyFrom 33 = .ok (.aload_n 1, 1) := by decide +kernel
theorem dX5_copyFrom_34 : decode cX5_copyFrom 34 = .ok (.getfield 36, 3) := by decide +kernel
theorem dX5_copyFrom_37 : decode cX5_copyFrom 37 = .ok (.putfield 36, 3) := by decide +kernel
theorem dX5_copyFrom_40 : decode cX5_copyFrom 40 = .ok (.aload_n 0, 1) := by decide +kernel
theorem dX5_copyFrom_41 : decode cX5_copyFrom 41 = .ok (.aload_n 1, 1) := by decide +kernel
theorem dX5_copyFrom_42 : decode cX5_copyFrom 42 = .ok (.getfield 9, 3) := by decide +kernel
theorem dX5_copyFrom_45 : decode cX5_copyFrom 45 = .ok (.putfield 9, 3) := by decide +kernel
theorem dX5_copyFrom_48 : decode cX5_copyFrom 48 = .ok (.aload_n 0, 1) := by decide +kernel
theorem dX5_copyFrom_49 : decode cX5_copyFrom 49 = .ok (.aload_n 1, 1) := by decide +kernel
theorem dX5_copyFrom_50 : decode cX5_copyFrom 50 = .ok (.getfield 15, 3) := by decide +kernel
theorem dX5_copyFrom_53 : decode cX5_copyFrom 53 = .ok (.putfield 15, 3) := by decide +kernel
theorem dX5_copyFrom_56 : decode cX5_copyFrom 56 = .ok (.aload_n 0, 1) := by decide +kernel
theorem dX5_copyFrom_57 : decode cX5_copyFrom 57 = .ok (.aload_n 1, 1) := by decide +kernel
theorem dX5_copyFrom_58 : decode cX5_copyFrom 58 = .ok (.getfield 30, 3) := by decide +kernel
theorem dX5_copyFrom_61 : decode cX5_copyFrom 61 = .ok (.putfield 30, 3) := by decide +kernel
theorem dX5_copyFrom_64 : decode cX5_copyFrom 64 = .ok (.aload_n 0, 1) := by decide +kernel
theorem dX5_copyFrom_65 : decode cX5_copyFrom 65 = .ok (.aload_n 1, 1) := by decide +kernel
theorem dX5_copyFrom_66 : decode cX5_copyFrom 66 = .ok (.getfield 45, 3) := by decide +kernel
theorem dX5_copyFrom_69 : decode cX5_copyFrom 69 = .ok (.putfield 45, 3) := by decide +kernel
theorem dX5_copyFrom_72 : decode cX5_copyFrom 72 = .ok (.return_, 1) := by decide +kernel
theorem dX6_init_0 : decode cX6_init 0 = .ok (.aload_n 0, 1) := by decide +kernel
theorem dX6_init_1 : decode cX6_init 1 = .ok (.invokespecial 3, 3) := by decide +kernel
theorem dX6_init_4 : decode cX6_init 4 = .ok (.aload_n 0, 1) := by decide +kernel
theorem dX6_init_5 : decode cX6_init 5 = .ok (.bipush 80, 2) := by decide +kernel
theorem dX6_init_7 : decode cX6_init 7 = .ok (.newarray .int, 2) := by decide +kernel
theorem dX6_init_9 : decode cX6_init 9 = .ok (.putfield 11, 3) := by decide +kernel
theorem dX6_init_12 : decode cX6_init 12 = .ok (.aload_n 0, 1) := by decide +kernel
theorem dX6_init_13 : decode cX6_init 13 = .ok (.bipush 8, 2) := by decide +kernel
theorem dX6_init_15 : decode cX6_init 15 = .ok (.anewarray 15, 3) := by decide +kernel
theorem dX6_init_18 : decode cX6_init 18 = .ok (.putfield 17, 3) := by decide +kernel
theorem dX6_init_21 : decode cX6_init 21 = .ok (.iconst 0, 1) := by decide +kernel
theorem dX6_init_22 : decode cX6_init 22 = .ok (.istore_n 1, 1) := by decide +kernel
theorem dX6_init_23 : decode cX6_init 23 = .ok (.iload_n 1, 1) := by decide +kernel
theorem dX6_init_24 : decode cX6_init 24 = .ok (.bipush 8, 2) := by decide +kernel
theorem dX6_init_26 : decode cX6_init 26 = .ok (.if_icmp .ge 22, 3) := by decide +kernel
theorem dX6_init_29 : decode cX6_init 29 = .ok (.aload_n 0, 1) := by decide +kernel
theorem dX6_init_30 : decode cX6_init 30 = .ok (.getfield 17, 3) := by decide +kernel
theorem dX6_init_33 : decode cX6_init 33 = .ok (.iload_n 1, 1) := by decide +kernel
theorem dX6_init_34 : decode cX6_init 34 = .ok (.new 15, 3) := by decide +kernel
theorem dX6_init_37 : decode cX6_init 37 = .ok (.dup, 1) := by decide +kernel
theorem dX6_init_38 : decode cX6_init 38 = .ok (.invokespecial 21, 3) := by decide +kernel
theorem dX6_init_41 : decode cX6_init 41 = .ok (.aastore, 1) := by decide +kernel
theorem dX6_init_42 : decode cX6_init 42 = .ok (.iinc 1 1, 3) := by decide +kernel
theorem dX6_init_45 : decode cX6_init 45 = .ok (.goto (-22), 3) := by decide +kernel
theorem dX6_init_48 : decode cX6_init 48 = .ok (.return_, 1) := by decide +kernel
theorem dX6_append_0 : decode cX6_append 0 = .ok (.iload_n 3, 1) := by decide +kernel
theorem dX6_append_1 : decode cX6_append 1 = .ok (.iconst 1, 1) := by decide +kernel
theorem dX6_append_2 : decode cX6_append 2 = .ok (.if_icmp .lt 9, 3) := by decide +kernel
theorem dX6_append_5 : decode cX6_append 5 = .ok (.iload_n 3, 1) := by decide +kernel
theorem dX6_append_6 : decode cX6_append 6 = .ok (.bipush 8, 2) := by decide +kernel
theorem dX6_append_8 : decode cX6_append 8 = .ok (.if_icmp .le 5, 3) := by decide +kernel
theorem dX6_append_11 : decode cX6_append 11 = .ok (.iconst (-1), 1) := by decide +kernel
theorem dX6_append_12 : decode cX6_append 12 = .ok (.ireturn, 1) := by decide +kernel
theorem dX6_append_13 : decode cX6_append 13 = .ok (.iconst 0, 1) := by decide +kernel
theorem dX6_append_14 : decode cX6_append 14 = .ok (.istore 4, 2) := by decide +kernel
theorem dX6_append_16 : decode cX6_append 16 = .ok (.iload 4, 2) := by decide +kernel
theorem dX6_append_18 : decode cX6_append 18 = .ok (.iload_n 3, 1) := by decide +kernel
theorem dX6_append_19 : decode cX6_append 19 = .ok (.if_icmp .ge 33, 3) := by decide +kernel
theorem dX6_append_22 : decode cX6_append 22 = .ok (.lload_n 1, 1) := by decide +kernel
theorem dX6_append_23 : decode cX6_append 23 = .ok (.iload 4, 2) := by decide +kernel
theorem dX6_append_25 : decode cX6_append 25 = .ok (.invokestatic 22, 3) := by decide +kernel
theorem dX6_append_28 : decode cX6_append 28 = .ok (.istore 5, 2) := by decide +kernel
theorem dX6_append_30 : decode cX6_append 30 = .ok (.iload 5, 2) := by decide +kernel
theorem dX6_append_32 : decode cX6_append 32 = .ok (.bipush 32, 2) := by decide +kernel
theorem dX6_append_34 : decode cX6_append 34 = .ok (.if_icmp .lt 10, 3) := by decide +kernel
theorem dX6_append_37 : decode cX6_append 37 = .ok (.iload 5, 2) := by decide +kernel
theorem dX6_append_39 : decode cX6_append 39 = .ok (.bipush 126, 2) := by decide +kernel
theorem dX6_append_41 : decode cX6_append 41 = .ok (.if_icmp .le 5, 3) := by decide +kernel
theorem dX6_append_44 : decode cX6_append 44 = .ok (.iconst (-1), 1) := by decide +kernel
theorem dX6_append_45 : decode cX6_append 45 = .ok (.ireturn, 1) := by decide +kernel
theorem dX6_append_46 : decode cX6_append 46 = .ok (.iinc 4 1, 3) := by decide +kernel
theorem dX6_append_49 : decode cX6_append 49 = .ok (.goto (-33), 3) := by decide +kernel
theorem dX6_append_52 : decode cX6_append 52 = .ok (.aload_n 0, 1) := by decide +kernel
theorem dX6_append_53 : decode cX6_append 53 = .ok (.getfield 26, 3) := by decide +kernel
theorem dX6_append_56 : decode cX6_append 56 = .ok (.iload_n 3, 1) := by decide +kernel
theorem dX6_append_57 : decode cX6_append 57 = .ok (.iadd, 1) := by decide +kernel
theorem dX6_append_58 : decode cX6_append 58 = .ok (.bipush 80, 2) := by decide +kernel
theorem dX6_append_60 : decode cX6_append 60 = .ok (.if_icmp .le 6, 3) := by decide +kernel
theorem dX6_append_63 : decode cX6_append 63 = .ok (.bipush (-3), 2) := by decide +kernel
theorem dX6_append_65 : decode cX6_append 65 = .ok (.ireturn, 1) := by decide +kernel
theorem dX6_append_66 : decode cX6_append 66 = .ok (.iload_n 3, 1) := by decide +kernel
theorem dX6_append_67 : decode cX6_append 67 = .ok (.iconst 1, 1) := by decide +kernel
theorem dX6_append_68 : decode cX6_append 68 = .ok (.isub, 1) := by decide +kernel
theorem dX6_append_69 : decode cX6_append 69 = .ok (.istore 4, 2) := by decide +kernel
theorem dX6_append_71 : decode cX6_append 71 = .ok (.iload 4, 2) := by decide +kernel
theorem dX6_append_73 : decode cX6_append 73 = .ok (.ifCond .lt 34, 3) := by decide +kernel
theorem dX6_append_76 : decode cX6_append 76 = .ok (.aload_n 0, 1) := by decide +kernel
theorem dX6_append_77 : decode cX6_append 77 = .ok (.getfield 11, 3) := by decide +kernel
theorem dX6_append_80 : decode cX6_append 80 = .ok (.aload_n 0, 1) := by decide +kernel
theorem dX6_append_81 : decode cX6_append 81 = .ok (.getfield 26, 3) := by decide +kernel
theorem dX6_append_84 : decode cX6_append 84 = .ok (.lload_n 1, 1) := by decide +kernel
theorem dX6_append_85 : decode cX6_append 85 = .ok (.iload 4, 2) := by decide +kernel
theorem dX6_append_87 : decode cX6_append 87 = .ok (.invokestatic 22, 3) := by decide +kernel
theorem dX6_append_90 : decode cX6_append 90 = .ok (.iastore, 1) := by decide +kernel
theorem dX6_append_91 : decode cX6_append 91 = .ok (.aload_n 0, 1) := by decide +kernel
theorem dX6_append_92 : decode cX6_append 92 = .ok (.dup, 1) := by decide +kernel
theorem dX6_append_93 : decode cX6_append 93 = .ok (.getfield 26, 3) := by decide +kernel
theorem dX6_append_96 : decode cX6_append 96 = .ok (.iconst 1, 1) := by decide +kernel
theorem dX6_append_97 : decode cX6_append 97 = .ok (.iadd, 1) := by decide +kernel
theorem dX6_append_98 : decode cX6_append 98 = .ok (.putfield 26, 3) := by decide +kernel
theorem dX6_append_101 : decode cX6_append 101 = .ok (.iinc 4 (-1), 3) := by decide +kernel
theorem dX6_append_104 : decode cX6_append 104 = .ok (.goto (-33), 3) := by decide +kernel
theorem dX6_append_107 : decode cX6_append 107 = .ok (.aload_n 0, 1) := by decide +kernel
theorem dX6_append_108 : decode cX6_append 108 = .ok (.getfield 26, 3) := by decide +kernel
theorem dX6_append_111 : decode cX6_append 111 = .ok (.ireturn, 1) := by decide +kernel
theorem dX6_byteOf_0 : decode cX6_byteOf 0 = .ok (.lload_n 0, 1) := by decide +kernel
theorem dX6_byteOf_1 : decode cX6_byteOf 1 = .ok (.bipush 8, 2) := by decide +kernel
theorem dX6_byteOf_3 : decode cX6_byteOf 3 = .ok (.iload_n 2, 1) := by decide +kernel
theorem dX6_byteOf_4 : decode cX6_byteOf 4 = .ok (.imul, 1) := by decide +kernel
theorem dX6_byteOf_5 : decode cX6_byteOf 5 = .ok (.lushr, 1) := by decide +kernel
theorem dX6_byteOf_6 : decode cX6_byteOf 6 = .ok (.ldc2_w 30, 3) := by decide +kernel
theorem dX6_byteOf_9 : decode cX6_byteOf 9 = .ok (.land, 1) := by decide +kernel
theorem dX6_byteOf_10 : decode cX6_byteOf 10 = .ok (.l2i, 1) := by decide +kernel
theorem dX6_byteOf_11 : decode cX6_byteOf 11 = .ok (.ireturn, 1) := by decide +kernel
theorem dX6_read_0 : decode cX6_read 0 = .ok (.aload_n 0, 1) := by decide +kernel
theorem dX6_read_1 : decode cX6_read 1 = .ok (.iconst 0, 1) := by decide +kernel
theorem dX6_read_2 : decode cX6_read 2 = .ok (.putfield 32, 3) := by decide +kernel
theorem dX6_read_5 : decode cX6_read 5 = .ok (.iconst 0, 1) := by decide +kernel
theorem dX6_read_6 : decode cX6_read 6 = .ok (.istore_n 1, 1) := by decide +kernel
theorem dX6_read_7 : decode cX6_read 7 = .ok (.iload_n 1, 1) := by decide +kernel
theorem dX6_read_8 : decode cX6_read 8 = .ok (.bipush 8, 2) := by decide +kernel
theorem dX6_read_10 : decode cX6_read 10 = .ok (.if_icmp .ge 65, 3) := by decide +kernel
theorem dX6_read_13 : decode cX6_read 13 = .ok (.aload_n 0, 1) := by decide +kernel
theorem dX6_read_14 : decode cX6_read 14 = .ok (.aload_n 0, 1) := by decide +kernel
theorem dX6_read_15 : decode cX6_read 15 = .ok (.getfield 17, 3) := by decide +kernel
theorem dX6_read_18 : decode cX6_read 18 = .ok (.iload_n 1, 1) := by decide +kernel
theorem dX6_read_19 : decode cX6_read 19 = .ok (.aaload, 1) := by decide +kernel
theorem dX6_read_20 : decode cX6_read 20 = .ok (.invokevirtual 35, 3) := by decide +kernel
theorem dX6_read_23 : decode cX6_read 23 = .ok (.istore_n 2, 1) := by decide +kernel
theorem dX6_read_24 : decode cX6_read 24 = .ok (.iload_n 2, 1) := by decide +kernel
theorem dX6_read_25 : decode cX6_read 25 = .ok (.ifCond .eq 5, 3) := by decide +kernel
theorem dX6_read_28 : decode cX6_read 28 = .ok (.iload_n 2, 1) := by decide +kernel
theorem dX6_read_29 : decode cX6_read 29 = .ok (.ireturn, 1) := by decide +kernel
theorem dX6_read_30 : decode cX6_read 30 = .ok (.aload_n 0, 1) := by decide +kernel
theorem dX6_read_31 : decode cX6_read 31 = .ok (.invokevirtual 39, 3) := by decide +kernel
theorem dX6_read_34 : decode cX6_read 34 = .ok (.istore_n 3, 1) := by decide +kernel
theorem dX6_read_35 : decode cX6_read 35 = .ok (.iload_n 3, 1) := by decide +kernel
theorem dX6_read_36 : decode cX6_read 36 = .ok (.iconst (-1), 1) := by decide +kernel
theorem dX6_read_37 : decode cX6_read 37 = .ok (.if_icmp .ne 7, 3) := by decide +kernel
theorem dX6_read_40 : decode cX6_read 40 = .ok (.iload_n 1, 1) := by decide +kernel
theorem dX6_read_41 : decode cX6_read 41 = .ok (.iconst 1, 1) := by decide +kernel
theorem dX6_read_42 : decode cX6_read 42 = .ok (.iadd, 1) := by decide +kernel
theorem dX6_read_43 : decode cX6_read 43 = .ok (.ireturn, 1) := by decide +kernel
theorem dX6_read_44 : decode cX6_read 44 = .ok (.iload_n 3, 1) := by decide +kernel
theorem dX6_read_45 : decode cX6_read 45 = .ok (.bipush 44, 2) := by decide +kernel
theorem dX6_read_47 : decode cX6_read 47 = .ok (.if_icmp .ne 28, 3) := by decide +kernel
theorem dX6_read_50 : decode cX6_read 50 = .ok (.iload_n 1, 1) := by decide +kernel
theorem dX6_read_51 : decode cX6_read 51 = .ok (.bipush 7, 2) := by decide +kernel
theorem dX6_read_53 : decode cX6_read 53 = .ok (.if_icmp .ne 6, 3) := by decide +kernel
theorem dX6_read_56 : decode cX6_read 56 = .ok (.goto 19, 3) := by decide +kernel
theorem dX6_read_59 : decode cX6_read 59 = .ok (.aload_n 0, 1) := by decide +kernel
theorem dX6_read_60 : decode cX6_read 60 = .ok (.dup, 1) := by decide +kernel
theorem dX6_read_61 : decode cX6_read 61 = .ok (.getfield 32, 3) := by decide +kernel
theorem dX6_read_64 : decode cX6_read 64 = .ok (.iconst 1, 1) := by decide +kernel
theorem dX6_read_65 : decode cX6_read 65 = .ok (.iadd, 1) := by decide +kernel
theorem dX6_read_66 : decode cX6_read 66 = .ok (.putfield 32, 3) := by decide +kernel
theorem dX6_read_69 : decode cX6_read 69 = .ok (.iinc 1 1, 3) := by decide +kernel
theorem dX6_read_72 : decode cX6_read 72 = .ok (.goto (-65), 3) := by decide +kernel
theorem dX6_read_75 : decode cX6_read 75 = .ok (.bipush (-20), 2) := by decide +kernel
theorem dX6_read_77 : decode cX6_read 77 = .ok (.aload_n 0, 1) := by decide +kernel
theorem dX6_read_78 : decode cX6_read 78 = .ok (.getfield 32, 3) := by decide +kernel
theorem dX6_read_81 : decode cX6_read 81 = .ok (.isub, 1) := by decide +kernel
theorem dX6_read_82 : decode cX6_read 82 = .ok (.ireturn, 1) := by decide +kernel
theorem dX6_readSock_0 : decode cX6_readSock 0 = .ok (.aload_n 0, 1) := by decide +kernel
theorem dX6_readSock_1 : decode cX6_readSock 1 = .ok (.invokevirtual 43, 3) := by decide +kernel
theorem dX6_readSock_4 : decode cX6_readSock 4 = .ok (.istore_n 2, 1) := by decide +kernel
theorem dX6_readSock_5 : decode cX6_readSock 5 = .ok (.iload_n 2, 1) := by decide +kernel
theorem dX6_readSock_6 : decode cX6_readSock 6 = .ok (.ifCond .ge 5, 3) := by decide +kernel
theorem dX6_readSock_9 : decode cX6_readSock 9 = .ok (.iload_n 2, 1) := by decide +kernel
theorem dX6_readSock_10 : decode cX6_readSock 10 = .ok (.ireturn, 1) := by decide +kernel
theorem dX6_readSock_11 : decode cX6_readSock 11 = .ok (.aload_n 0, 1) := by decide +kernel
theorem dX6_readSock_12 : decode cX6_readSock 12 = .ok (.invokevirtual 46, 3) := by decide +kernel
theorem dX6_readSock_15 : decode cX6_readSock 15 = .ok (.istore_n 3, 1) := by decide +kernel
theorem dX6_readSock_16 : decode cX6_readSock 16 = .ok (.iload_n 3, 1) := by decide +kernel
theorem dX6_readSock_17 : decode cX6_readSock 17 = .ok (.ifCond .ge 5, 3) := by decide +kernel
theorem dX6_readSock_20 : decode cX6_readSock 20 = .ok (.iload_n 3, 1) := by decide +kernel
theorem dX6_readSock_21 : decode cX6_readSock 21 = .ok (.ireturn, 1) := by decide +kernel
theorem dX6_readSock_22 : decode cX6_readSock 22 = .ok (.aload_n 0, 1) := by decide +kernel
theorem dX6_readSock_23 : decode cX6_readSock 23 = .ok (.iconst 0, 1) := by decide +kernel
theorem dX6_readSock_24 : decode cX6_readSock 24 = .ok (.invokevirtual 49, 3) := by decide +kernel
theorem dX6_readSock_27 : decode cX6_readSock 27 = .ok (.istore 4, 2) := by decide +kernel
theorem dX6_readSock_29 : decode cX6_readSock 29 = .ok (.iload 4, 2) := by decide +kernel
theorem dX6_readSock_31 : decode cX6_readSock 31 = .ok (.ifCond .ge 6, 3) := by decide +kernel
theorem dX6_readSock_34 : decode cX6_readSock 34 = .ok (.iload 4, 2) := by decide +kernel
theorem dX6_readSock_36 : decode cX6_readSock 36 = .ok (.ireturn, 1) := by decide +kernel
theorem dX6_readSock_37 : decode cX6_readSock 37 = .ok (.aload_n 0, 1) := by decide +kernel
theorem dX6_readSock_38 : decode cX6_readSock 38 = .ok (.bipush 45, 2) := by decide +kernel
theorem dX6_readSock_40 : decode cX6_readSock 40 = .ok (.invokevirtual 53, 3) := by decide +kernel
theorem dX6_readSock_43 : decode cX6_readSock 43 = .ok (.ifCond .eq 12, 3) := by decide +kernel
theorem dX6_readSock_46 : decode cX6_readSock 46 = .ok (.aload_n 0, 1) := by decide +kernel
theorem dX6_readSock_47 : decode cX6_readSock 47 = .ok (.iload 4, 2) := by decide +kernel
theorem dX6_readSock_49 : decode cX6_readSock 49 = .ok (.invokevirtual 49, 3) := by decide +kernel
theorem dX6_readSock_52 : decode cX6_readSock 52 = .ok (.goto 5, 3) := by decide +kernel
theorem dX6_readSock_55 : decode cX6_readSock 55 = .ok (.iload 4, 2) := by decide +kernel
theorem dX6_readSock_57 : decode cX6_readSock 57 = .ok (.istore 5, 2) := by decide +kernel
theorem dX6_readSock_59 : decode cX6_readSock 59 = .ok (.iload 5, 2) := by decide +kernel
theorem dX6_readSock_61 : decode cX6_readSock 61 = .ok (.ifCond .ge 6, 3) := by decide +kernel
theorem dX6_readSock_64 : decode cX6_readSock 64 = .ok (.iload 5, 2) := by decide +kernel
theorem dX6_readSock_66 : decode cX6_readSock 66 = .ok (.ireturn, 1) := by decide +kernel
theorem dX6_readSock_67 : decode cX6_readSock 67 = .ok (.aload_n 0, 1) := by decide +kernel
theorem dX6_readSock_68 : decode cX6_readSock 68 = .ok (.bipush 58, 2) := by decide +kernel
theorem dX6_readSock_70 : decode cX6_readSock 70 = .ok (.invokevirtual 53, 3) := by decide +kernel
theorem dX6_readSock_73 : decode cX6_readSock 73 = .ok (.ifCond .eq 10, 3) := by decide +kernel
theorem dX6_readSock_76 : decode cX6_readSock 76 = .ok (.aload_n 0, 1) := by decide +kernel
theorem dX6_readSock_77 : decode cX6_readSock 77 = .ok (.invokevirtual 57, 3) := by decide +kernel
theorem dX6_readSock_80 : decode cX6_readSock 80 = .ok (.goto 5, 3) := by decide +kernel
theorem dX6_readSock_83 : decode cX6_readSock 83 = .ok (.bipush 7, 2) := by decide +kernel
theorem dX6_readSock_85 : decode cX6_readSock 85 = .ok (.istore 6, 2) := by decide +kernel
theorem dX6_readSock_87 : decode cX6_readSock 87 = .ok (.iload 6, 2) := by decide +kernel
theorem dX6_readSock_89 : decode cX6_readSock 89 = .ok (.ifCond .ge 6, 3) := by decide +kernel
theorem dX6_readSock_92 : decode cX6_readSock 92 = .ok (.iload 6, 2) := by decide +kernel
theorem dX6_readSock_94 : decode cX6_readSock 94 = .ok (.ireturn, 1) := by decide +kernel
theorem dX6_readSock_95 : decode cX6_readSock 95 = .ok (.aload_n 1, 1) := by decide +kernel
theorem dX6_readSock_96 : decode cX6_readSock 96 = .ok (.iload_n 2, 1) := by decide +kernel
theorem dX6_readSock_97 : decode cX6_readSock 97 = .ok (.iload_n 3, 1) := by decide +kernel
theorem dX6_readSock_98 : decode cX6_readSock 98 = .ok (.iload 4, 2) := by decide +kernel
theorem dX6_readSock_100 : decode cX6_readSock 100 = .ok (.iload 5, 2) := by decide +kernel
theorem dX6_readSock_102 : decode cX6_readSock 102 = .ok (.iload 6, 2) := by decide +kernel
theorem dX6_readSock_104 : decode cX6_readSock 104 = .ok (.invokevirtual 60, 3) := by decide +kernel
theorem dX6_readSock_107 : decode cX6_readSock 107 = .ok (.iconst 0, 1) := by decide +kernel
theorem dX6_readSock_108 : decode cX6_readSock 108 = .ok (.ireturn, 1) := by decide +kernel
theorem dX6_nextSign_0 : decode cX6_nextSign 0 = .ok (.aload_n 0, 1) := by decide +kernel
theorem dX6_nextSign_1 : decode cX6_nextSign 1 = .ok (.getfield 32, 3) := by decide +kernel
theorem dX6_nextSign_4 : decode cX6_nextSign 4 = .ok (.aload_n 0, 1) := by decide +kernel
theorem dX6_nextSign_5 : decode cX6_nextSign 5 = .ok (.getfield 26, 3) := by decide +kernel
theorem dX6_nextSign_8 : decode cX6_nextSign 8 = .ok (.if_icmp .ge 30, 3) := by decide +kernel
theorem dX6_nextSign_11 : decode cX6_nextSign 11 = .ok (.aload_n 0, 1) := by decide +kernel
theorem dX6_nextSign_12 : decode cX6_nextSign 12 = .ok (.getfield 11, 3) := by decide +kernel
theorem dX6_nextSign_15 : decode cX6_nextSign 15 = .ok (.aload_n 0, 1) := by decide +kernel
theorem dX6_nextSign_16 : decode cX6_nextSign 16 = .ok (.getfield 32, 3) := by decide +kernel
theorem dX6_nextSign_19 : decode cX6_nextSign 19 = .ok (.iaload, 1) := by decide +kernel
theorem dX6_nextSign_20 : decode cX6_nextSign 20 = .ok (.bipush 32, 2) := by decide +kernel
theorem dX6_nextSign_22 : decode cX6_nextSign 22 = .ok (.if_icmp .ne 16, 3) := by decide +kernel
theorem dX6_nextSign_25 : decode cX6_nextSign 25 = .ok (.aload_n 0, 1) := by decide +kernel
theorem dX6_nextSign_26 : decode cX6_nextSign 26 = .ok (.dup, 1) := by decide +kernel
theorem dX6_nextSign_27 : decode cX6_nextSign 27 = .ok (.getfield 32, 3) := by decide +kernel
theorem dX6_nextSign_30 : decode cX6_nextSign 30 = .ok (.iconst 1, 1) := by decide +kernel
theorem dX6_nextSign_31 : decode cX6_nextSign 31 = .ok (.iadd, 1) := by decide +kernel
theorem dX6_nextSign_32 : decode cX6_nextSign 32 = .ok (.putfield 32, 3) := by decide +kernel
theorem dX6_nextSign_35 : decode cX6_nextSign 35 = .ok (.goto (-35), 3) := by decide +kernel
theorem dX6_nextSign_38 : decode cX6_nextSign 38 = .ok (.aload_n 0, 1) := by decide +kernel
theorem dX6_nextSign_39 : decode cX6_nextSign 39 = .ok (.getfield 32, 3) := by decide +kernel
theorem dX6_nextSign_42 : decode cX6_nextSign 42 = .ok (.aload_n 0, 1) := by decide +kernel
theorem dX6_nextSign_43 : decode cX6_nextSign 43 = .ok (.getfield 26, 3) := by decide +kernel
theorem dX6_nextSign_46 : decode cX6_nextSign 46 = .ok (.if_icmp .ge 15, 3) := by decide +kernel
theorem dX6_nextSign_49 : decode cX6_nextSign 49 = .ok (.aload_n 0, 1) := by decide +kernel
theorem dX6_nextSign_50 : decode cX6_nextSign 50 = .ok (.getfield 11, 3) := by decide +kernel
theorem dX6_nextSign_53 : decode cX6_nextSign 53 = .ok (.aload_n 0, 1) := by decide +kernel
theorem dX6_nextSign_54 : decode cX6_nextSign 54 = .ok (.getfield 32, 3) := by decide +kernel
theorem dX6_nextSign_57 : decode cX6_nextSign 57 = .ok (.iaload, 1) := by decide +kernel
theorem dX6_nextSign_58 : decode cX6_nextSign 58 = .ok (.goto 4, 3) := by decide +kernel
theorem dX6_nextSign_61 : decode cX6_nextSign 61 = .ok (.iconst (-1), 1) := by decide +kernel
theorem dX6_nextSign_62 : decode cX6_nextSign 62 = .ok (.ireturn, 1) := by decide +kernel
theorem dX6_skipSign_0 : decode cX6_skipSign 0 = .ok (.aload_n 0, 1) := by decide +kernel
theorem dX6_skipSign_1 : decode cX6_skipSign 1 = .ok (.invokevirtual 39, 3) := by decide +kernel
theorem dX6_skipSign_4 : decode cX6_skipSign 4 = .ok (.iload_n 1, 1) := by decide +kernel
theorem dX6_skipSign_5 : decode cX6_skipSign 5 = .ok (.if_icmp .eq 5, 3) := by decide +kernel
theorem dX6_skipSign_8 : decode cX6_skipSign 8 = .ok (.iconst 0, 1) := by decide +kernel
theorem dX6_skipSign_9 : decode cX6_skipSign 9 = .ok (.ireturn, 1) := by decide +kernel
theorem dX6_skipSign_10 : decode cX6_skipSign 10 = .ok (.aload_n 0, 1) := by decide +kernel
theorem dX6_skipSign_11 : decode cX6_skipSign 11 = .ok (.dup, 1) := by decide +kernel
theorem dX6_skipSign_12 : decode cX6_skipSign 12 = .ok (.getfield 32, 3) := by decide +kernel
theorem dX6_skipSign_15 : decode cX6_skipSign 15 = .ok (.iconst 1, 1) := by decide +kernel
theorem dX6_skipSign_16 : decode cX6_skipSign 16 = .ok (.iadd, 1) := by decide +kernel
theorem dX6_skipSign_17 : decode cX6_skipSign 17 = .ok (.putfield 32, 3) := by decide +kernel
theorem dX6_skipSign_20 : decode cX6_skipSign 20 = .ok (.iconst 1, 1) := by decide +kernel
theorem dX6_skipSign_21 : decode cX6_skipSign 21 = .ok (.ireturn, 1) := by decide +kernel
theorem dX6_readKind_0 : decode cX6_readKind 0 = .ok (.aload_n 0, 1) := by decide +kernel
theorem dX6_readKind_1 : decode cX6_readKind 1 = .ok (.invokevirtual 39, 3) := by decide +kernel
theorem dX6_readKind_4 : decode cX6_readKind 4 = .ok (.istore_n 1, 1) := by decide +kernel
theorem dX6_readKind_5 : decode cX6_readKind 5 = .ok (.iload_n 1, 1) := by decide +kernel
theorem dX6_readKind_6 : decode cX6_readKind 6 = .ok (.bipush 97, 2) := by decide +kernel
theorem dX6_readKind_8 : decode cX6_readKind 8 = .ok (.if_icmp .lt 9, 3) := by decide +kernel
theorem dX6_readKind_11 : decode cX6_readKind 11 = .ok (.iload_n 1, 1) := by decide +kernel
theorem dX6_readKind_12 : decode cX6_readKind 12 = .ok (.bipush 102, 2) := by decide +kernel
theorem dX6_readKind_14 : decode cX6_readKind 14 = .ok (.if_icmp .le 11, 3) := by decide +kernel
theorem dX6_readKind_17 : decode cX6_readKind 17 = .ok (.bipush (-20), 2) := by decide +kernel
theorem dX6_readKind_19 : decode cX6_readKind 19 = .ok (.aload_n 0, 1) := by decide +kernel
theorem dX6_readKind_20 : decode cX6_readKind 20 = .ok (.getfield 32, 3) := by decide +kernel
theorem dX6_readKind_23 : decode cX6_readKind 23 = .ok (.isub, 1) := by decide +kernel
theorem dX6_readKind_24 : decode cX6_readKind 24 = .ok (.ireturn, 1) := by decide +kernel
theorem dX6_readKind_25 : decode cX6_readKind 25 = .ok (.aload_n 0, 1) := by decide +kernel
theorem dX6_readKind_26 : decode cX6_readKind 26 = .ok (.dup, 1) := by decide +kernel
theorem dX6_readKind_27 : decode cX6_readKind 27 = .ok (.getfield 32, 3) := by decide +kernel
theorem dX6_readKind_30 : decode cX6_readKind 30 = .ok (.iconst 1, 1) := by decide +kernel
theorem dX6_readKind_31 : decode cX6_readKind 31 = .ok (.iadd, 1) := by decide +kernel
theorem dX6_readKind_32 : decode cX6_readKind 32 = .ok (.putfield 32, 3) := by decide +kernel
theorem dX6_readKind_35 : decode cX6_readKind 35 = .ok (.iload_n 1, 1) := by decide +kernel
theorem dX6_readKind_36 : decode cX6_readKind 36 = .ok (.bipush 97, 2) := by decide +kernel
theorem dX6_readKind_38 : decode cX6_readKind 38 = .ok (.isub, 1) := by decide +kernel
theorem dX6_readKind_39 : decode cX6_readKind 39 = .ok (.ireturn, 1) := by decide +kernel
theorem dX6_readHand_0 : decode cX6_readHand 0 = .ok (.aload_n 0, 1) := by decide +kernel
theorem dX6_readHand_1 : decode cX6_readHand 1 = .ok (.bipush 108, 2) := by decide +kernel
theorem dX6_readHand_3 : decode cX6_readHand 3 = .ok (.invokevirtual 53, 3) := by decide +kernel
theorem dX6_readHand_6 : decode cX6_readHand 6 = .ok (.ifCond .eq 5, 3) := by decide +kernel
theorem dX6_readHand_9 : decode cX6_readHand 9 = .ok (.iconst 0, 1) := by decide +kernel
theorem dX6_readHand_10 : decode cX6_readHand 10 = .ok (.ireturn, 1) := by decide +kernel
theorem dX6_readHand_11 : decode cX6_readHand 11 = .ok (.aload_n 0, 1) := by decide +kernel
theorem dX6_readHand_12 : decode cX6_readHand 12 = .ok (.bipush 114, 2) := by decide +kernel
theorem dX6_readHand_14 : decode cX6_readHand 14 = .ok (.invokevirtual 53, 3) := by decide +kernel
theorem dX6_readHand_17 : decode cX6_readHand 17 = .ok (.ifCond .eq 7, 3) := by decide +kernel
theorem dX6_readHand_20 : decode cX6_readHand 20 = .ok (.iconst 1, 1) := by decide +kernel
theorem dX6_readHand_21 : decode cX6_readHand 21 = .ok (.goto 10, 3) := by decide +kernel
theorem dX6_readHand_24 : decode cX6_readHand 24 = .ok (.bipush (-20), 2) := by decide +kernel
theorem dX6_readHand_26 : decode cX6_readHand 26 = .ok (.aload_n 0, 1) := by decide +kernel
theorem dX6_readHand_27 : decode cX6_readHand 27 = .ok (.getfield 32, 3) := by decide +kernel
theorem dX6_readHand_30 : decode cX6_readHand 30 = .ok (.isub, 1) := by decide +kernel
theorem dX6_readHand_31 : decode cX6_readHand 31 = .ok (.ireturn, 1) := by decide +kernel
theorem dX6_readNumber_0 : decode cX6_readNumber 0 = .ok (.aload_n 0, 1) := by decide +kernel
theorem dX6_readNumber_1 : decode cX6_readNumber 1 = .ok (.invokevirtual 39, 3) := by decide +kernel
theorem dX6_readNumber_4 : decode cX6_readNumber 4 = .ok (.istore_n 2, 1) := by decide +kernel
theorem dX6_readNumber_5 : decode cX6_readNumber 5 = .ok (.aload_n 0, 1) := by decide +kernel
theorem dX6_readNumber_6 : decode cX6_readNumber 6 = .ok (.getfield 32, 3) := by decide +kernel
theorem dX6_readNumber_9 : decode cX6_readNumber 9 = .ok (.istore_n 3, 1) := by decide +kernel
theorem dX6_readNumber_10 : decode cX6_readNumber 10 = .ok (.iload_n 2, 1) := by decide +kernel
theorem dX6_readNumber_11 : decode cX6_readNumber 11 = .ok (.bipush 48, 2) := by decide +kernel
theorem dX6_readNumber_13 : decode cX6_readNumber 13 = .ok (.if_icmp .lt 13, 3) := by decide +kernel
theorem dX6_readNumber_16 : decode cX6_readNumber 16 = .ok (.iload_n 2, 1) := by decide +kernel
theorem dX6_readNumber_17 : decode cX6_readNumber 17 = .ok (.bipush 57, 2) := by decide +kernel
theorem dX6_readNumber_19 : decode cX6_readNumber 19 = .ok (.if_icmp .gt 7, 3) := by decide +kernel
theorem dX6_readNumber_22 : decode cX6_readNumber 22 = .ok (.iconst 0, 1) := by decide +kernel
theorem dX6_readNumber_23 : decode cX6_readNumber 23 = .ok (.goto 4, 3) := by decide +kernel
theorem dX6_readNumber_26 : decode cX6_readNumber 26 = .ok (.iconst (-1), 1) := by decide +kernel
theorem dX6_readNumber_27 : decode cX6_readNumber 27 = .ok (.istore 4, 2) := by decide +kernel
theorem dX6_readNumber_29 : decode cX6_readNumber 29 = .ok (.aload_n 0, 1) := by decide +kernel
theorem dX6_readNumber_30 : decode cX6_readNumber 30 = .ok (.getfield 32, 3) := by decide +kernel
theorem dX6_readNumber_33 : decode cX6_readNumber 33 = .ok (.aload_n 0, 1) := by decide +kernel
theorem dX6_readNumber_34 : decode cX6_readNumber 34 = .ok (.getfield 26, 3) := by decide +kernel
theorem dX6_readNumber_37 : decode cX6_readNumber 37 = .ok (.if_icmp .ge 69, 3) := by decide +kernel
theorem dX6_readNumber_40 : decode cX6_readNumber 40 = .ok (.aload_n 0, 1) := by decide +kernel
theorem dX6_readNumber_41 : decode cX6_readNumber 41 = .ok (.getfield 11, 3) := by decide +kernel
theorem dX6_readNumber_44 : decode cX6_readNumber 44 = .ok (.aload_n 0, 1) := by decide +kernel
theorem dX6_readNumber_45 : decode cX6_readNumber 45 = .ok (.getfield 32, 3) := by decide +kernel
theorem dX6_readNumber_48 : decode cX6_readNumber 48 = .ok (.iaload, 1) := by decide +kernel
theorem dX6_readNumber_49 : decode cX6_readNumber 49 = .ok (.bipush 48, 2) := by decide +kernel
theorem dX6_readNumber_51 : decode cX6_readNumber 51 = .ok (.if_icmp .lt 55, 3) := by decide +kernel
theorem dX6_readNumber_54 : decode cX6_readNumber 54 = .ok (.aload_n 0, 1) := by decide +kernel
theorem dX6_readNumber_55 : decode cX6_readNumber 55 = .ok (.getfield 11, 3) := by decide +kernel
theorem dX6_readNumber_58 : decode cX6_readNumber 58 = .ok (.aload_n 0, 1) := by decide +kernel
theorem dX6_readNumber_59 : decode cX6_readNumber 59 = .ok (.getfield 32, 3) := by decide +kernel
theorem dX6_readNumber_62 : decode cX6_readNumber 62 = .ok (.iaload, 1) := by decide +kernel
theorem dX6_readNumber_63 : decode cX6_readNumber 63 = .ok (.bipush 57, 2) := by decide +kernel
theorem dX6_readNumber_65 : decode cX6_readNumber 65 = .ok (.if_icmp .gt 41, 3) := by decide +kernel
theorem dX6_readNumber_68 : decode cX6_readNumber 68 = .ok (.bipush 100, 2) := by decide +kernel
theorem dX6_readNumber_70 : decode cX6_readNumber 70 = .ok (.iload 4, 2) := by decide +kernel
theorem dX6_readNumber_72 : decode cX6_readNumber 72 = .ok (.bipush 10, 2) := by decide +kernel
theorem dX6_readNumber_74 : decode cX6_readNumber 74 = .ok (.imul, 1) := by decide +kernel
theorem dX6_readNumber_75 : decode cX6_readNumber 75 = .ok (.aload_n 0, 1) := by decide +kernel
theorem dX6_readNumber_76 : decode cX6_readNumber 76 = .ok (.getfield 11, 3) := by decide +kernel
theorem dX6_readNumber_79 : decode cX6_readNumber 79 = .ok (.aload_n 0, 1) := by decide +kernel
theorem dX6_readNumber_80 : decode cX6_readNumber 80 = .ok (.getfield 32, 3) := by decide +kernel
theorem dX6_readNumber_83 : decode cX6_readNumber 83 = .ok (.iaload, 1) := by decide +kernel
theorem dX6_readNumber_84 : decode cX6_readNumber 84 = .ok (.iadd, 1) := by decide +kernel
theorem dX6_readNumber_85 : decode cX6_readNumber 85 = .ok (.bipush 48, 2) := by decide +kernel
theorem dX6_readNumber_87 : decode cX6_readNumber 87 = .ok (.isub, 1) := by decide +kernel
theorem dX6_readNumber_88 : decode cX6_readNumber 88 = .ok (.invokestatic 64, 3) := by decide +kernel
theorem dX6_readNumber_91 : decode cX6_readNumber 91 = .ok (.istore 4, 2) := by decide +kernel
theorem dX6_readNumber_93 : decode cX6_readNumber 93 = .ok (.aload_n 0, 1) := by decide +kernel
theorem dX6_readNumber_94 : decode cX6_readNumber 94 = .ok (.dup, 1) := by decide +kernel
theorem dX6_readNumber_95 : decode cX6_readNumber 95 = .ok (.getfield 32, 3) := by decide +kernel
theorem dX6_readNumber_98 : decode cX6_readNumber 98 = .ok (.iconst 1, 1) := by decide +kernel
theorem dX6_readNumber_99 : decode cX6_readNumber 99 = .ok (.iadd, 1) := by decide +kernel
theorem dX6_readNumber_100 : decode cX6_readNumber 100 = .ok (.putfield 32, 3) := by decide +kernel
theorem dX6_readNumber_103 : decode cX6_readNumber 103 = .ok (.goto (-74), 3) := by decide +kernel
theorem dX6_readNumber_106 : decode cX6_readNumber 106 = .ok (.iload 4, 2) := by decide +kernel
theorem dX6_readNumber_108 : decode cX6_readNumber 108 = .ok (.iload_n 1, 1) := by decide +kernel
theorem dX6_readNumber_109 : decode cX6_readNumber 109 = .ok (.if_icmp .lt 10, 3) := by decide +kernel
theorem dX6_readNumber_112 : decode cX6_readNumber 112 = .ok (.iload 4, 2) := by decide +kernel
theorem dX6_readNumber_114 : decode cX6_readNumber 114 = .ok (.bipush 99, 2) := by decide +kernel
theorem dX6_readNumber_116 : decode cX6_readNumber 116 = .ok (.if_icmp .le 10, 3) := by decide +kernel
theorem dX6_readNumber_119 : decode cX6_readNumber 119 = .ok (.bipush (-20), 2) := by decide +kernel
theorem dX6_readNumber_121 : decode cX6_readNumber 121 = .ok (.iload_n 3, 1) := by decide +kernel
theorem dX6_readNumber_122 : decode cX6_readNumber 122 = .ok (.isub, 1) := by decide +kernel
theorem dX6_readNumber_123 : decode cX6_readNumber 123 = .ok (.goto 5, 3) := by decide +kernel
theorem dX6_readNumber_126 : decode cX6_readNumber 126 = .ok (.iload 4, 2) := by decide +kernel
theorem dX6_readNumber_128 : decode cX6_readNumber 128 = .ok (.ireturn, 1) := by decide +kernel
theorem dX6_readLodgers_0 : decode cX6_readLodgers 0 = .ok (.iconst 0, 1) := by decide +kernel
theorem dX6_readLodgers_1 : decode cX6_readLodgers 1 = .ok (.istore_n 1, 1) := by decide +kernel
theorem dX6_readLodgers_2 : decode cX6_readLodgers 2 = .ok (.iconst 0, 1) := by decide +kernel
theorem dX6_readLodgers_3 : decode cX6_readLodgers 3 = .ok (.istore_n 2, 1) := by decide +kernel
theorem dX6_readLodgers_4 : decode cX6_readLodgers 4 = .ok (.iload_n 2, 1) := by decide +kernel
theorem dX6_readLodgers_5 : decode cX6_readLodgers 5 = .ok (.iconst 3, 1) := by decide +kernel
theorem dX6_readLodgers_6 : decode cX6_readLodgers 6 = .ok (.if_icmp .gt 66, 3) := by decide +kernel
theorem dX6_readLodgers_9 : decode cX6_readLodgers 9 = .ok (.aload_n 0, 1) := by decide +kernel
theorem dX6_readLodgers_10 : decode cX6_readLodgers 10 = .ok (.invokevirtual 39, 3) := by decide +kernel
theorem dX6_readLodgers_13 : decode cX6_readLodgers 13 = .ok (.istore_n 3, 1) := by decide +kernel
theorem dX6_readLodgers_14 : decode cX6_readLodgers 14 = .ok (.iload_n 3, 1) := by decide +kernel
theorem dX6_readLodgers_15 : decode cX6_readLodgers 15 = .ok (.bipush 120, 2) := by decide +kernel
theorem dX6_readLodgers_17 : decode cX6_readLodgers 17 = .ok (.if_icmp .lt 55, 3) := by decide +kernel
theorem dX6_readLodgers_20 : decode cX6_readLodgers 20 = .ok (.iload_n 3, 1) := by decide +kernel
theorem dX6_readLodgers_21 : decode cX6_readLodgers 21 = .ok (.bipush 122, 2) := by decide +kernel
theorem dX6_readLodgers_23 : decode cX6_readLodgers 23 = .ok (.if_icmp .le 6, 3) := by decide +kernel
theorem dX6_readLodgers_26 : decode cX6_readLodgers 26 = .ok (.goto 46, 3) := by decide +kernel
theorem dX6_readLodgers_29 : decode cX6_readLodgers 29 = .ok (.iconst 1, 1) := by decide +kernel
theorem dX6_readLodgers_30 : decode cX6_readLodgers 30 = .ok (.iload_n 3, 1) := by decide +kernel
theorem dX6_readLodgers_31 : decode cX6_readLodgers 31 = .ok (.bipush 120, 2) := by decide +kernel
theorem dX6_readLodgers_33 : decode cX6_readLodgers 33 = .ok (.isub, 1) := by decide +kernel
theorem dX6_readLodgers_34 : decode cX6_readLodgers 34 = .ok (.ishl, 1) := by decide +kernel
theorem dX6_readLodgers_35 : decode cX6_readLodgers 35 = .ok (.istore 4, 2) := by decide +kernel
theorem dX6_readLodgers_37 : decode cX6_readLodgers 37 = .ok (.iload 4, 2) := by decide +kernel
theorem dX6_readLodgers_39 : decode cX6_readLodgers 39 = .ok (.iload_n 1, 1) := by decide +kernel
theorem dX6_readLodgers_40 : decode cX6_readLodgers 40 = .ok (.if_icmp .gt 11, 3) := by decide +kernel
theorem dX6_readLodgers_43 : decode cX6_readLodgers 43 = .ok (.bipush (-20), 2) := by decide +kernel
theorem dX6_readLodgers_45 : decode cX6_readLodgers 45 = .ok (.aload_n 0, 1) := by decide +kernel
theorem dX6_readLodgers_46 : decode cX6_readLodgers 46 = .ok (.getfield 32, 3) := by decide +kernel
theorem dX6_readLodgers_49 : decode cX6_readLodgers 49 = .ok (.isub, 1) := by decide +kernel
theorem dX6_readLodgers_50 : decode cX6_readLodgers 50 = .ok (.ireturn, 1) := by decide +kernel
theorem dX6_readLodgers_51 : decode cX6_readLodgers 51 = .ok (.iload_n 1, 1) := by decide +kernel
theorem dX6_readLodgers_52 : decode cX6_readLodgers 52 = .ok (.iload 4, 2) := by decide +kernel
theorem dX6_readLodgers_54 : decode cX6_readLodgers 54 = .ok (.ior, 1) := by decide +kernel
theorem dX6_readLodgers_55 : decode cX6_readLodgers 55 = .ok (.istore_n 1, 1) := by decide +kernel
theorem dX6_readLodgers_56 : decode cX6_readLodgers 56 = .ok (.aload_n 0, 1) := by decide +kernel
theorem dX6_readLodgers_57 : decode cX6_readLodgers 57 = .ok (.dup, 1) := by decide +kernel
theorem dX6_readLodgers_58 : decode cX6_readLodgers 58 = .ok (.getfield 32, 3) := by decide +kernel
theorem dX6_readLodgers_61 : decode cX6_readLodgers 61 = .ok (.iconst 1, 1) := by decide +kernel
theorem dX6_readLodgers_62 : decode cX6_readLodgers 62 = .ok (.iadd, 1) := by decide +kernel
theorem dX6_readLodgers_63 : decode cX6_readLodgers 63 = .ok (.putfield 32, 3) := by decide +kernel
theorem dX6_readLodgers_66 : decode cX6_readLodgers 66 = .ok (.iinc 2 1, 3) := by decide +kernel
theorem dX6_readLodgers_69 : decode cX6_readLodgers 69 = .ok (.goto (-65), 3) := by decide +kernel
theorem dX6_readLodgers_72 : decode cX6_readLodgers 72 = .ok (.iload_n 1, 1) := by decide +kernel
theorem dX6_readLodgers_73 : decode cX6_readLodgers 73 = .ok (.ifCond .ne 13, 3) := by decide +kernel
theorem dX6_readLodgers_76 : decode cX6_readLodgers 76 = .ok (.bipush (-20), 2) := by decide +kernel
theorem dX6_readLodgers_78 : decode cX6_readLodgers 78 = .ok (.aload_n 0, 1) := by decide +kernel
theorem dX6_readLodgers_79 : decode cX6_readLodgers 79 = .ok (.getfield 32, 3) := by decide +kernel
theorem dX6_readLodgers_82 : decode cX6_readLodgers 82 = .ok (.isub, 1) := by decide +kernel
theorem dX6_readLodgers_83 : decode cX6_readLodgers 83 = .ok (.goto 4, 3) := by decide +kernel
theorem dX6_readLodgers_86 : decode cX6_readLodgers 86 = .ok (.iload_n 1, 1) := by decide +kernel
theorem dX6_readLodgers_87 : decode cX6_readLodgers 87 = .ok (.ireturn, 1) := by decide +kernel
theorem dX7_init_0 : decode cX7_init 0 = .ok (.aload_n 0, 1) := by decide +kernel
theorem dX7_init_1 : decode cX7_init 1 = .ok (.invokespecial 3, 3) := by decide +kernel
theorem dX7_init_4 : decode cX7_init 4 = .ok (.aload_n 0, 1) := by decide +kernel
theorem dX7_init_5 : decode cX7_init 5 = .ok (.bipush 20, 2) := by decide +kernel
theorem dX7_init_7 : decode cX7_init 7 = .ok (.newarray .int, 2) := by decide +kernel
theorem dX7_init_9 : decode cX7_init 9 = .ok (.putfield 11, 3) := by decide +kernel
theorem dX7_init_12 : decode cX7_init 12 = .ok (.aload_n 0, 1) := by decide +kernel
theorem dX7_init_13 : decode cX7_init 13 = .ok (.bipush 100, 2) := by decide +kernel
theorem dX7_init_15 : decode cX7_init 15 = .ok (.newarray .int, 2) := by decide +kernel
theorem dX7_init_17 : decode cX7_init 17 = .ok (.putfield 15, 3) := by decide +kernel
theorem dX7_init_20 : decode cX7_init 20 = .ok (.aload_n 0, 1) := by decide +kernel
theorem dX7_init_21 : decode cX7_init 21 = .ok (.iconst 5, 1) := by decide +kernel
theorem dX7_init_22 : decode cX7_init 22 = .ok (.newarray .int, 2) := by decide +kernel
theorem dX7_init_24 : decode cX7_init 24 = .ok (.putfield 18, 3) := by decide +kernel
theorem dX7_init_27 : decode cX7_init 27 = .ok (.aload_n 0, 1) := by decide +kernel
theorem dX7_init_28 : decode cX7_init 28 = .ok (.bipush 64, 2) := by decide +kernel
theorem dX7_init_30 : decode cX7_init 30 = .ok (.newarray .long, 2) := by decide +kernel
theorem dX7_init_32 : decode cX7_init 32 = .ok (.putfield 21, 3) := by decide +kernel
theorem dX7_init_35 : decode cX7_init 35 = .ok (.return_, 1) := by decide +kernel
theorem dX7_fewest_0 : decode cX7_fewest 0 = .ok (.iload_n 1, 1) := by decide +kernel
theorem dX7_fewest_1 : decode cX7_fewest 1 = .ok (.iconst 1, 1) := by decide +kernel
theorem dX7_fewest_2 : decode cX7_fewest 2 = .ok (.isub, 1) := by decide +kernel
theorem dX7_fewest_3 : decode cX7_fewest 3 = .ok (.iconst 4, 1) := by decide +kernel
theorem dX7_fewest_4 : decode cX7_fewest 4 = .ok (.imul, 1) := by decide +kernel
theorem dX7_fewest_5 : decode cX7_fewest 5 = .ok (.iload_n 2, 1) := by decide +kernel
theorem dX7_fewest_6 : decode cX7_fewest 6 = .ok (.iadd, 1) := by decide +kernel
