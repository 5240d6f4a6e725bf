theorem dX7_fewest_7 : decode cX7_fewest 7 = .ok (.istore_n 3, 1) := by decide +kernel
theorem dX7_fewest_8 : decode cX7_fewest 8 = .ok (.aload_n 0, 1) := by decide +kernel
theorem dX7_fewest_9 : decode cX7_fewest 9 = .ok (.getfield 11, 3) := by decide +kernel
theorem dX7_fewest_12 : decode cX7_fewest 12 = .ok (.iload_n 3, 1) := by decide +kernel
theorem dX7_fewest_13 : decode cX7_fewest 13 = .ok (.iaload, 1) := by decide +kernel
theorem dX7_fewest_14 : decode cX7_fewest 14 = .ok (.ifCond .ne 31, 3) := by decide +kernel
theorem dX7_fewest_17 : decode cX7_fewest 17 = .ok (.aload_n 0, 1) := by decide +kernel
theorem dX7_fewest_18 : decode cX7_fewest 18 = .ok (.getfield 11, 3) := by decide +kernel
theorem dX7_fewest_21 : decode cX7_fewest 21 = .ok (.iload_n 3, 1) := by decide +kernel
theorem dX7_fewest_22 : decode cX7_fewest 22 = .ok (.aload_n 0, 1) := by decide +kernel
theorem dX7_fewest_23 : decode cX7_fewest 23 = .ok (.iload_n 1, 1) := by decide +kernel
theorem dX7_fewest_24 : decode cX7_fewest 24 = .ok (.iload_n 2, 1) := by decide +kernel
theorem dX7_fewest_25 : decode cX7_fewest 25 = .ok (.invokevirtual 25, 3) := by decide +kernel
theorem dX7_fewest_28 : decode cX7_fewest 28 = .ok (.iastore, 1) := by decide +kernel
theorem dX7_fewest_29 : decode cX7_fewest 29 = .ok (.aload_n 0, 1) := by decide +kernel
theorem dX7_fewest_30 : decode cX7_fewest 30 = .ok (.getfield 18, 3) := by decide +kernel
theorem dX7_fewest_33 : decode cX7_fewest 33 = .ok (.iconst 0, 1) := by decide +kernel
theorem dX7_fewest_34 : decode cX7_fewest 34 = .ok (.aload_n 0, 1) := by decide +kernel
theorem dX7_fewest_35 : decode cX7_fewest 35 = .ok (.getfield 15, 3) := by decide +kernel
theorem dX7_fewest_38 : decode cX7_fewest 38 = .ok (.iload_n 3, 1) := by decide +kernel
theorem dX7_fewest_39 : decode cX7_fewest 39 = .ok (.iconst 5, 1) := by decide +kernel
theorem dX7_fewest_40 : decode cX7_fewest 40 = .ok (.imul, 1) := by decide +kernel
theorem dX7_fewest_41 : decode cX7_fewest 41 = .ok (.iload_n 1, 1) := by decide +kernel
theorem dX7_fewest_42 : decode cX7_fewest 42 = .ok (.invokestatic 29, 3) := by decide +kernel
theorem dX7_fewest_45 : decode cX7_fewest 45 = .ok (.aload_n 0, 1) := by decide +kernel
theorem dX7_fewest_46 : decode cX7_fewest 46 = .ok (.getfield 11, 3) := by decide +kernel
theorem dX7_fewest_49 : decode cX7_fewest 49 = .ok (.iload_n 3, 1) := by decide +kernel
theorem dX7_fewest_50 : decode cX7_fewest 50 = .ok (.iaload, 1) := by decide +kernel
theorem dX7_fewest_51 : decode cX7_fewest 51 = .ok (.ireturn, 1) := by decide +kernel
theorem dX7_markOf_0 : decode cX7_markOf 0 = .ok (.aload_n 0, 1) := by decide +kernel
theorem dX7_markOf_1 : decode cX7_markOf 1 = .ok (.getfield 15, 3) := by decide +kernel
theorem dX7_markOf_4 : decode cX7_markOf 4 = .ok (.iload_n 1, 1) := by decide +kernel
theorem dX7_markOf_5 : decode cX7_markOf 5 = .ok (.iconst 1, 1) := by decide +kernel
theorem dX7_markOf_6 : decode cX7_markOf 6 = .ok (.isub, 1) := by decide +kernel
theorem dX7_markOf_7 : decode cX7_markOf 7 = .ok (.iconst 4, 1) := by decide +kernel
theorem dX7_markOf_8 : decode cX7_markOf 8 = .ok (.imul, 1) := by decide +kernel
theorem dX7_markOf_9 : decode cX7_markOf 9 = .ok (.iload_n 2, 1) := by decide +kernel
theorem dX7_markOf_10 : decode cX7_markOf 10 = .ok (.iadd, 1) := by decide +kernel
theorem dX7_markOf_11 : decode cX7_markOf 11 = .ok (.iconst 5, 1) := by decide +kernel
theorem dX7_markOf_12 : decode cX7_markOf 12 = .ok (.imul, 1) := by decide +kernel
theorem dX7_markOf_13 : decode cX7_markOf 13 = .ok (.iload_n 3, 1) := by decide +kernel
theorem dX7_markOf_14 : decode cX7_markOf 14 = .ok (.iadd, 1) := by decide +kernel
theorem dX7_markOf_15 : decode cX7_markOf 15 = .ok (.iaload, 1) := by decide +kernel
theorem dX7_markOf_16 : decode cX7_markOf 16 = .ok (.ireturn, 1) := by decide +kernel
theorem dX7_search_0 : decode cX7_search 0 = .ok (.iconst 1, 1) := by decide +kernel
theorem dX7_search_1 : decode cX7_search 1 = .ok (.istore_n 3, 1) := by decide +kernel
theorem dX7_search_2 : decode cX7_search 2 = .ok (.iload_n 3, 1) := by decide +kernel
theorem dX7_search_3 : decode cX7_search 3 = .ok (.bipush 6, 2) := by decide +kernel
theorem dX7_search_5 : decode cX7_search 5 = .ok (.if_icmp .gt 48, 3) := by decide +kernel
theorem dX7_search_8 : decode cX7_search 8 = .ok (.iconst 1, 1) := by decide +kernel
theorem dX7_search_9 : decode cX7_search 9 = .ok (.iload_n 3, 1) := by decide +kernel
theorem dX7_search_10 : decode cX7_search 10 = .ok (.ishl, 1) := by decide +kernel
theorem dX7_search_11 : decode cX7_search 11 = .ok (.istore 4, 2) := by decide +kernel
theorem dX7_search_13 : decode cX7_search 13 = .ok (.aload_n 0, 1) := by decide +kernel
theorem dX7_search_14 : decode cX7_search 14 = .ok (.iload 4, 2) := by decide +kernel
theorem dX7_search_16 : decode cX7_search 16 = .ok (.iload_n 2, 1) := by decide +kernel
theorem dX7_search_17 : decode cX7_search 17 = .ok (.invokevirtual 35, 3) := by decide +kernel
theorem dX7_search_20 : decode cX7_search 20 = .ok (.iconst 0, 1) := by decide +kernel
theorem dX7_search_21 : decode cX7_search 21 = .ok (.iload_n 1, 1) := by decide +kernel
theorem dX7_search_22 : decode cX7_search 22 = .ok (.ldc2_w 39, 3) := by decide +kernel
theorem dX7_search_25 : decode cX7_search 25 = .ok (.bipush 64, 2) := by decide +kernel
theorem dX7_search_27 : decode cX7_search 27 = .ok (.iload 4, 2) := by decide +kernel
theorem dX7_search_29 : decode cX7_search 29 = .ok (.isub, 1) := by decide +kernel
theorem dX7_search_30 : decode cX7_search 30 = .ok (.lushr, 1) := by decide +kernel
theorem dX7_search_31 : decode cX7_search 31 = .ok (.aload_n 0, 1) := by decide +kernel
theorem dX7_search_32 : decode cX7_search 32 = .ok (.getfield 21, 3) := by decide +kernel
theorem dX7_search_35 : decode cX7_search 35 = .ok (.aload_n 0, 1) := by decide +kernel
theorem dX7_search_36 : decode cX7_search 36 = .ok (.getfield 18, 3) := by decide +kernel
theorem dX7_search_39 : decode cX7_search 39 = .ok (.invokestatic 41, 3) := by decide +kernel
theorem dX7_search_42 : decode cX7_search 42 = .ok (.ifCond .eq 5, 3) := by decide +kernel
theorem dX7_search_45 : decode cX7_search 45 = .ok (.iload_n 3, 1) := by decide +kernel
theorem dX7_search_46 : decode cX7_search 46 = .ok (.ireturn, 1) := by decide +kernel
theorem dX7_search_47 : decode cX7_search 47 = .ok (.iinc 3 1, 3) := by decide +kernel
theorem dX7_search_50 : decode cX7_search 50 = .ok (.goto (-48), 3) := by decide +kernel
theorem dX7_search_53 : decode cX7_search 53 = .ok (.bipush (-4), 2) := by decide +kernel
theorem dX7_search_55 : decode cX7_search 55 = .ok (.ireturn, 1) := by decide +kernel
theorem dX7_compare_0 : decode cX7_compare 0 = .ok (.iconst 0, 1) := by decide +kernel
theorem dX7_compare_1 : decode cX7_compare 1 = .ok (.istore_n 3, 1) := by decide +kernel
theorem dX7_compare_2 : decode cX7_compare 2 = .ok (.iload_n 3, 1) := by decide +kernel
theorem dX7_compare_3 : decode cX7_compare 3 = .ok (.iload_n 1, 1) := by decide +kernel
theorem dX7_compare_4 : decode cX7_compare 4 = .ok (.if_icmp .ge 71, 3) := by decide +kernel
theorem dX7_compare_7 : decode cX7_compare 7 = .ok (.aload_n 0, 1) := by decide +kernel
theorem dX7_compare_8 : decode cX7_compare 8 = .ok (.getfield 21, 3) := by decide +kernel
theorem dX7_compare_11 : decode cX7_compare 11 = .ok (.iload_n 3, 1) := by decide +kernel
theorem dX7_compare_12 : decode cX7_compare 12 = .ok (.lconst 0, 1) := by decide +kernel
theorem dX7_compare_13 : decode cX7_compare 13 = .ok (.lastore, 1) := by decide +kernel
theorem dX7_compare_14 : decode cX7_compare 14 = .ok (.iload_n 3, 1) := by decide +kernel
theorem dX7_compare_15 : decode cX7_compare 15 = .ok (.iconst 1, 1) := by decide +kernel
theorem dX7_compare_16 : decode cX7_compare 16 = .ok (.iadd, 1) := by decide +kernel
theorem dX7_compare_17 : decode cX7_compare 17 = .ok (.istore 4, 2) := by decide +kernel
theorem dX7_compare_19 : decode cX7_compare 19 = .ok (.iload 4, 2) := by decide +kernel
theorem dX7_compare_21 : decode cX7_compare 21 = .ok (.iload_n 1, 1) := by decide +kernel
theorem dX7_compare_22 : decode cX7_compare 22 = .ok (.if_icmp .ge 47, 3) := by decide +kernel
theorem dX7_compare_25 : decode cX7_compare 25 = .ok (.iload_n 3, 1) := by decide +kernel
theorem dX7_compare_26 : decode cX7_compare 26 = .ok (.iload 4, 2) := by decide +kernel
theorem dX7_compare_28 : decode cX7_compare 28 = .ok (.iconst (-1), 1) := by decide +kernel
theorem dX7_compare_29 : decode cX7_compare 29 = .ok (.ixor, 1) := by decide +kernel
theorem dX7_compare_30 : decode cX7_compare 30 = .ok (.iand, 1) := by decide +kernel
theorem dX7_compare_31 : decode cX7_compare 31 = .ok (.invokestatic 45, 3) := by decide +kernel
theorem dX7_compare_34 : decode cX7_compare 34 = .ok (.iload 4, 2) := by decide +kernel
theorem dX7_compare_36 : decode cX7_compare 36 = .ok (.iload_n 3, 1) := by decide +kernel
theorem dX7_compare_37 : decode cX7_compare 37 = .ok (.iconst (-1), 1) := by decide +kernel
theorem dX7_compare_38 : decode cX7_compare 38 = .ok (.ixor, 1) := by decide +kernel
theorem dX7_compare_39 : decode cX7_compare 39 = .ok (.iand, 1) := by decide +kernel
theorem dX7_compare_40 : decode cX7_compare 40 = .ok (.invokestatic 45, 3) := by decide +kernel
theorem dX7_compare_43 : decode cX7_compare 43 = .ok (.invokestatic 51, 3) := by decide +kernel
theorem dX7_compare_46 : decode cX7_compare 46 = .ok (.iload_n 2, 1) := by decide +kernel
theorem dX7_compare_47 : decode cX7_compare 47 = .ok (.if_icmp .le 16, 3) := by decide +kernel
theorem dX7_compare_50 : decode cX7_compare 50 = .ok (.aload_n 0, 1) := by decide +kernel
theorem dX7_compare_51 : decode cX7_compare 51 = .ok (.getfield 21, 3) := by decide +kernel
theorem dX7_compare_54 : decode cX7_compare 54 = .ok (.iload_n 3, 1) := by decide +kernel
theorem dX7_compare_55 : decode cX7_compare 55 = .ok (.dup2, 1) := by decide +kernel
theorem dX7_compare_56 : decode cX7_compare 56 = .ok (.laload, 1) := by decide +kernel
theorem dX7_compare_57 : decode cX7_compare 57 = .ok (.lconst 1, 1) := by decide +kernel
theorem dX7_compare_58 : decode cX7_compare 58 = .ok (.iload 4, 2) := by decide +kernel
theorem dX7_compare_60 : decode cX7_compare 60 = .ok (.lshl, 1) := by decide +kernel
theorem dX7_compare_61 : decode cX7_compare 61 = .ok (.lor, 1) := by decide +kernel
theorem dX7_compare_62 : decode cX7_compare 62 = .ok (.lastore, 1) := by decide +kernel
theorem dX7_compare_63 : decode cX7_compare 63 = .ok (.iinc 4 1, 3) := by decide +kernel
theorem dX7_compare_66 : decode cX7_compare 66 = .ok (.goto (-47), 3) := by decide +kernel
theorem dX7_compare_69 : decode cX7_compare 69 = .ok (.iinc 3 1, 3) := by decide +kernel
theorem dX7_compare_72 : decode cX7_compare 72 = .ok (.goto (-70), 3) := by decide +kernel
theorem dX7_compare_75 : decode cX7_compare 75 = .ok (.return_, 1) := by decide +kernel
theorem dX7_extend_0 : decode cX7_extend 0 = .ok (.iload_n 0, 1) := by decide +kernel
theorem dX7_extend_1 : decode cX7_extend 1 = .ok (.iload_n 1, 1) := by decide +kernel
theorem dX7_extend_2 : decode cX7_extend 2 = .ok (.if_icmp .lt 5, 3) := by decide +kernel
theorem dX7_extend_5 : decode cX7_extend 5 = .ok (.iconst 1, 1) := by decide +kernel
theorem dX7_extend_6 : decode cX7_extend 6 = .ok (.ireturn, 1) := by decide +kernel
theorem dX7_extend_7 : decode cX7_extend 7 = .ok (.lload_n 2, 1) := by decide +kernel
theorem dX7_extend_8 : decode cX7_extend 8 = .ok (.invokestatic 56, 3) := by decide +kernel
theorem dX7_extend_11 : decode cX7_extend 11 = .ok (.iload_n 1, 1) := by decide +kernel
theorem dX7_extend_12 : decode cX7_extend 12 = .ok (.iload_n 0, 1) := by decide +kernel
theorem dX7_extend_13 : decode cX7_extend 13 = .ok (.isub, 1) := by decide +kernel
theorem dX7_extend_14 : decode cX7_extend 14 = .ok (.if_icmp .ge 5, 3) := by decide +kernel
theorem dX7_extend_17 : decode cX7_extend 17 = .ok (.iconst 0, 1) := by decide +kernel
theorem dX7_extend_18 : decode cX7_extend 18 = .ok (.ireturn, 1) := by decide +kernel
theorem dX7_extend_19 : decode cX7_extend 19 = .ok (.iconst 0, 1) := by decide +kernel
theorem dX7_extend_20 : decode cX7_extend 20 = .ok (.istore 6, 2) := by decide +kernel
theorem dX7_extend_22 : decode cX7_extend 22 = .ok (.iload 6, 2) := by decide +kernel
theorem dX7_extend_24 : decode cX7_extend 24 = .ok (.bipush 64, 2) := by decide +kernel
theorem dX7_extend_26 : decode cX7_extend 26 = .ok (.if_icmp .ge 49, 3) := by decide +kernel
theorem dX7_extend_29 : decode cX7_extend 29 = .ok (.lload_n 2, 1) := by decide +kernel
theorem dX7_extend_30 : decode cX7_extend 30 = .ok (.iload 6, 2) := by decide +kernel
theorem dX7_extend_32 : decode cX7_extend 32 = .ok (.lushr, 1) := by decide +kernel
theorem dX7_extend_33 : decode cX7_extend 33 = .ok (.lconst 1, 1) := by decide +kernel
theorem dX7_extend_34 : decode cX7_extend 34 = .ok (.land, 1) := by decide +kernel
theorem dX7_extend_35 : decode cX7_extend 35 = .ok (.lconst 1, 1) := by decide +kernel
theorem dX7_extend_36 : decode cX7_extend 36 = .ok (.lcmp, 1) := by decide +kernel
theorem dX7_extend_37 : decode cX7_extend 37 = .ok (.ifCond .ne 32, 3) := by decide +kernel
theorem dX7_extend_40 : decode cX7_extend 40 = .ok (.aload 5, 2) := by decide +kernel
theorem dX7_extend_42 : decode cX7_extend 42 = .ok (.iload_n 0, 1) := by decide +kernel
theorem dX7_extend_43 : decode cX7_extend 43 = .ok (.iload 6, 2) := by decide +kernel
theorem dX7_extend_45 : decode cX7_extend 45 = .ok (.iastore, 1) := by decide +kernel
theorem dX7_extend_46 : decode cX7_extend 46 = .ok (.iload_n 0, 1) := by decide +kernel
theorem dX7_extend_47 : decode cX7_extend 47 = .ok (.iconst 1, 1) := by decide +kernel
theorem dX7_extend_48 : decode cX7_extend 48 = .ok (.iadd, 1) := by decide +kernel
theorem dX7_extend_49 : decode cX7_extend 49 = .ok (.iload_n 1, 1) := by decide +kernel
theorem dX7_extend_50 : decode cX7_extend 50 = .ok (.lload_n 2, 1) := by decide +kernel
theorem dX7_extend_51 : decode cX7_extend 51 = .ok (.aload 4, 2) := by decide +kernel
theorem dX7_extend_53 : decode cX7_extend 53 = .ok (.iload 6, 2) := by decide +kernel
theorem dX7_extend_55 : decode cX7_extend 55 = .ok (.laload, 1) := by decide +kernel
theorem dX7_extend_56 : decode cX7_extend 56 = .ok (.land, 1) := by decide +kernel
theorem dX7_extend_57 : decode cX7_extend 57 = .ok (.aload 4, 2) := by decide +kernel
theorem dX7_extend_59 : decode cX7_extend 59 = .ok (.aload 5, 2) := by decide +kernel
theorem dX7_extend_61 : decode cX7_extend 61 = .ok (.invokestatic 41, 3) := by decide +kernel
theorem dX7_extend_64 : decode cX7_extend 64 = .ok (.ifCond .eq 5, 3) := by decide +kernel
theorem dX7_extend_67 : decode cX7_extend 67 = .ok (.iconst 1, 1) := by decide +kernel
theorem dX7_extend_68 : decode cX7_extend 68 = .ok (.ireturn, 1) := by decide +kernel
theorem dX7_extend_69 : decode cX7_extend 69 = .ok (.iinc 6 1, 3) := by decide +kernel
theorem dX7_extend_72 : decode cX7_extend 72 = .ok (.goto (-50), 3) := by decide +kernel
theorem dX7_extend_75 : decode cX7_extend 75 = .ok (.iconst 0, 1) := by decide +kernel
theorem dX7_extend_76 : decode cX7_extend 76 = .ok (.ireturn, 1) := by decide +kernel
theorem dX8_init_0 : decode cX8_init 0 = .ok (.aload_n 0, 1) := by decide +kernel
theorem dX8_init_1 : decode cX8_init 1 = .ok (.invokespecial 3, 3) := by decide +kernel
theorem dX8_init_4 : decode cX8_init 4 = .ok (.aload_n 0, 1) := by decide +kernel
theorem dX8_init_5 : decode cX8_init 5 = .ok (.bipush 8, 2) := by decide +kernel
theorem dX8_init_7 : decode cX8_init 7 = .ok (.newarray .int, 2) := by decide +kernel
theorem dX8_init_9 : decode cX8_init 9 = .ok (.putfield 9, 3) := by decide +kernel
theorem dX8_init_12 : decode cX8_init 12 = .ok (.aload_n 0, 1) := by decide +kernel
theorem dX8_init_13 : decode cX8_init 13 = .ok (.bipush 9, 2) := by decide +kernel
theorem dX8_init_15 : decode cX8_init 15 = .ok (.newarray .long, 2) := by decide +kernel
theorem dX8_init_17 : decode cX8_init 17 = .ok (.putfield 15, 3) := by decide +kernel
theorem dX8_init_20 : decode cX8_init 20 = .ok (.aload_n 0, 1) := by decide +kernel
theorem dX8_init_21 : decode cX8_init 21 = .ok (.lconst 1, 1) := by decide +kernel
theorem dX8_init_22 : decode cX8_init 22 = .ok (.putfield 19, 3) := by decide +kernel
theorem dX8_init_25 : decode cX8_init 25 = .ok (.return_, 1) := by decide +kernel
theorem dX8_takeChances_0 : decode cX8_takeChances 0 = .ok (.aload_n 0, 1) := by decide +kernel
theorem dX8_takeChances_1 : decode cX8_takeChances 1 = .ok (.iload_n 3, 1) := by decide +kernel
theorem dX8_takeChances_2 : decode cX8_takeChances 2 = .ok (.putfield 23, 3) := by decide +kernel
theorem dX8_takeChances_5 : decode cX8_takeChances 5 = .ok (.iconst 0, 1) := by decide +kernel
theorem dX8_takeChances_6 : decode cX8_takeChances 6 = .ok (.istore 4, 2) := by decide +kernel
theorem dX8_takeChances_8 : decode cX8_takeChances 8 = .ok (.iload 4, 2) := by decide +kernel
theorem dX8_takeChances_10 : decode cX8_takeChances 10 = .ok (.aload_n 0, 1) := by decide +kernel
theorem dX8_takeChances_11 : decode cX8_takeChances 11 = .ok (.getfield 23, 3) := by decide +kernel
theorem dX8_takeChances_14 : decode cX8_takeChances 14 = .ok (.if_icmp .ge 42, 3) := by decide +kernel
theorem dX8_takeChances_17 : decode cX8_takeChances 17 = .ok (.aload_n 0, 1) := by decide +kernel
theorem dX8_takeChances_18 : decode cX8_takeChances 18 = .ok (.getfield 9, 3) := by decide +kernel
theorem dX8_takeChances_21 : decode cX8_takeChances 21 = .ok (.iload 4, 2) := by decide +kernel
theorem dX8_takeChances_23 : decode cX8_takeChances 23 = .ok (.aload_n 1, 1) := by decide +kernel
theorem dX8_takeChances_24 : decode cX8_takeChances 24 = .ok (.getfield 27, 3) := by decide +kernel
theorem dX8_takeChances_27 : decode cX8_takeChances 27 = .ok (.iload_n 2, 1) := by decide +kernel
theorem dX8_takeChances_28 : decode cX8_takeChances 28 = .ok (.iload 4, 2) := by decide +kernel
theorem dX8_takeChances_30 : decode cX8_takeChances 30 = .ok (.iadd, 1) := by decide +kernel
theorem dX8_takeChances_31 : decode cX8_takeChances 31 = .ok (.iaload, 1) := by decide +kernel
theorem dX8_takeChances_32 : decode cX8_takeChances 32 = .ok (.iastore, 1) := by decide +kernel
theorem dX8_takeChances_33 : decode cX8_takeChances 33 = .ok (.aload_n 0, 1) := by decide +kernel
theorem dX8_takeChances_34 : decode cX8_takeChances 34 = .ok (.getfield 9, 3) := by decide +kernel
theorem dX8_takeChances_37 : decode cX8_takeChances 37 = .ok (.iload 4, 2) := by decide +kernel
theorem dX8_takeChances_39 : decode cX8_takeChances 39 = .ok (.iaload, 1) := by decide +kernel
theorem dX8_takeChances_40 : decode cX8_takeChances 40 = .ok (.bipush 13, 2) := by decide +kernel
theorem dX8_takeChances_42 : decode cX8_takeChances 42 = .ok (.invokestatic 32, 3) := by decide +kernel
theorem dX8_takeChances_45 : decode cX8_takeChances 45 = .ok (.ifCond .ne 5, 3) := by decide +kernel
theorem dX8_takeChances_48 : decode cX8_takeChances 48 = .ok (.iconst 0, 1) := by decide +kernel
theorem dX8_takeChances_49 : decode cX8_takeChances 49 = .ok (.ireturn, 1) := by decide +kernel
theorem dX8_takeChances_50 : decode cX8_takeChances 50 = .ok (.iinc 4 1, 3) := by decide +kernel
theorem dX8_takeChances_53 : decode cX8_takeChances 53 = .ok (.goto (-45), 3) := by decide +kernel
theorem dX8_takeChances_56 : decode cX8_takeChances 56 = .ok (.iconst 1, 1) := by decide +kernel
theorem dX8_takeChances_57 : decode cX8_takeChances 57 = .ok (.ireturn, 1) := by decide +kernel
theorem dX8_reckon_0 : decode cX8_reckon 0 = .ok (.aload_n 0, 1) := by decide +kernel
theorem dX8_reckon_1 : decode cX8_reckon 1 = .ok (.getfield 15, 3) := by decide +kernel
theorem dX8_reckon_4 : decode cX8_reckon 4 = .ok (.aload_n 0, 1) := by decide +kernel
theorem dX8_reckon_5 : decode cX8_reckon 5 = .ok (.getfield 23, 3) := by decide +kernel
theorem dX8_reckon_8 : decode cX8_reckon 8 = .ok (.lconst 0, 1) := by decide +kernel
theorem dX8_reckon_9 : decode cX8_reckon 9 = .ok (.lastore, 1) := by decide +kernel
theorem dX8_reckon_10 : decode cX8_reckon 10 = .ok (.aload_n 0, 1) := by decide +kernel
theorem dX8_reckon_11 : decode cX8_reckon 11 = .ok (.lconst 1, 1) := by decide +kernel
theorem dX8_reckon_12 : decode cX8_reckon 12 = .ok (.putfield 19, 3) := by decide +kernel
theorem dX8_reckon_15 : decode cX8_reckon 15 = .ok (.aload_n 0, 1) := by decide +kernel
theorem dX8_reckon_16 : decode cX8_reckon 16 = .ok (.getfield 23, 3) := by decide +kernel
theorem dX8_reckon_19 : decode cX8_reckon 19 = .ok (.iconst 1, 1) := by decide +kernel
theorem dX8_reckon_20 : decode cX8_reckon 20 = .ok (.isub, 1) := by decide +kernel
theorem dX8_reckon_21 : decode cX8_reckon 21 = .ok (.istore_n 3, 1) := by decide +kernel
theorem dX8_reckon_22 : decode cX8_reckon 22 = .ok (.iload_n 3, 1) := by decide +kernel
theorem dX8_reckon_23 : decode cX8_reckon 23 = .ok (.ifCond .lt 82, 3) := by decide +kernel
theorem dX8_reckon_26 : decode cX8_reckon 26 = .ok (.aload_n 0, 1) := by decide +kernel
theorem dX8_reckon_27 : decode cX8_reckon 27 = .ok (.getfield 19, 3) := by decide +kernel
theorem dX8_reckon_30 : decode cX8_reckon 30 = .ok (.iload_n 1, 1) := by decide +kernel
theorem dX8_reckon_31 : decode cX8_reckon 31 = .ok (.i2l, 1) := by decide +kernel
theorem dX8_reckon_32 : decode cX8_reckon 32 = .ok (.lmul, 1) := by decide +kernel
theorem dX8_reckon_33 : decode cX8_reckon 33 = .ok (.aload_n 0, 1) := by decide +kernel
theorem dX8_reckon_34 : decode cX8_reckon 34 = .ok (.getfield 9, 3) := by decide +kernel
theorem dX8_reckon_37 : decode cX8_reckon 37 = .ok (.iload_n 3, 1) := by decide +kernel
theorem dX8_reckon_38 : decode cX8_reckon 38 = .ok (.iaload, 1) := by decide +kernel
theorem dX8_reckon_39 : decode cX8_reckon 39 = .ok (.i2l, 1) := by decide +kernel
theorem dX8_reckon_40 : decode cX8_reckon 40 = .ok (.lmul, 1) := by decide +kernel
theorem dX8_reckon_41 : decode cX8_reckon 41 = .ok (.lstore 4, 2) := by decide +kernel
theorem dX8_reckon_43 : decode cX8_reckon 43 = .ok (.aload_n 0, 1) := by decide +kernel
theorem dX8_reckon_44 : decode cX8_reckon 44 = .ok (.getfield 15, 3) := by decide +kernel
theorem dX8_reckon_47 : decode cX8_reckon 47 = .ok (.iload_n 3, 1) := by decide +kernel
theorem dX8_reckon_48 : decode cX8_reckon 48 = .ok (.iconst 1, 1) := by decide +kernel
theorem dX8_reckon_49 : decode cX8_reckon 49 = .ok (.iadd, 1) := by decide +kernel
theorem dX8_reckon_50 : decode cX8_reckon 50 = .ok (.laload, 1) := by decide +kernel
theorem dX8_reckon_51 : decode cX8_reckon 51 = .ok (.bipush 12, 2) := by decide +kernel
theorem dX8_reckon_53 : decode cX8_reckon 53 = .ok (.aload_n 0, 1) := by decide +kernel
theorem dX8_reckon_54 : decode cX8_reckon 54 = .ok (.getfield 9, 3) := by decide +kernel
theorem dX8_reckon_57 : decode cX8_reckon 57 = .ok (.iload_n 3, 1) := by decide +kernel
theorem dX8_reckon_58 : decode cX8_reckon 58 = .ok (.iaload, 1) := by decide +kernel
theorem dX8_reckon_59 : decode cX8_reckon 59 = .ok (.isub, 1) := by decide +kernel
theorem dX8_reckon_60 : decode cX8_reckon 60 = .ok (.i2l, 1) := by decide +kernel
theorem dX8_reckon_61 : decode cX8_reckon 61 = .ok (.lmul, 1) := by decide +kernel
theorem dX8_reckon_62 : decode cX8_reckon 62 = .ok (.lstore 6, 2) := by decide +kernel
theorem dX8_reckon_64 : decode cX8_reckon 64 = .ok (.aload_n 0, 1) := by decide +kernel
theorem dX8_reckon_65 : decode cX8_reckon 65 = .ok (.dup, 1) := by decide +kernel
theorem dX8_reckon_66 : decode cX8_reckon 66 = .ok (.getfield 19, 3) := by decide +kernel
theorem dX8_reckon_69 : decode cX8_reckon 69 = .ok (.ldc2_w 36, 3) := by decide +kernel
theorem dX8_reckon_72 : decode cX8_reckon 72 = .ok (.lmul, 1) := by decide +kernel
theorem dX8_reckon_73 : decode cX8_reckon 73 = .ok (.putfield 19, 3) := by decide +kernel
theorem dX8_reckon_76 : decode cX8_reckon 76 = .ok (.aload_n 0, 1) := by decide +kernel
theorem dX8_reckon_77 : decode cX8_reckon 77 = .ok (.getfield 15, 3) := by decide +kernel
theorem dX8_reckon_80 : decode cX8_reckon 80 = .ok (.iload_n 3, 1) := by decide +kernel
theorem dX8_reckon_81 : decode cX8_reckon 81 = .ok (.lconst 0, 1) := by decide +kernel
theorem dX8_reckon_82 : decode cX8_reckon 82 = .ok (.lload 4, 2) := by decide +kernel
theorem dX8_reckon_84 : decode cX8_reckon 84 = .ok (.lload 6, 2) := by decide +kernel
theorem dX8_reckon_86 : decode cX8_reckon 86 = .ok (.ladd, 1) := by decide +kernel
theorem dX8_reckon_87 : decode cX8_reckon 87 = .ok (.aload_n 0, 1) := by decide +kernel
theorem dX8_reckon_88 : decode cX8_reckon 88 = .ok (.getfield 19, 3) := by decide +kernel
theorem dX8_reckon_91 : decode cX8_reckon 91 = .ok (.iload_n 2, 1) := by decide +kernel
theorem dX8_reckon_92 : decode cX8_reckon 92 = .ok (.i2l, 1) := by decide +kernel
theorem dX8_reckon_93 : decode cX8_reckon 93 = .ok (.lmul, 1) := by decide +kernel
theorem dX8_reckon_94 : decode cX8_reckon 94 = .ok (.lsub, 1) := by decide +kernel
theorem dX8_reckon_95 : decode cX8_reckon 95 = .ok (.invokestatic 38, 3) := by decide +kernel
theorem dX8_reckon_98 : decode cX8_reckon 98 = .ok (.lastore, 1) := by decide +kernel
theorem dX8_reckon_99 : decode cX8_reckon 99 = .ok (.iinc 3 (-1), 3) := by decide +kernel
theorem dX8_reckon_102 : decode cX8_reckon 102 = .ok (.goto (-80), 3) := by decide +kernel
theorem dX8_reckon_105 : decode cX8_reckon 105 = .ok (.return_, 1) := by decide +kernel
theorem dX8_firstWorthless_0 : decode cX8_firstWorthless 0 = .ok (.iconst 0, 1) := by decide +kernel
theorem dX8_firstWorthless_1 : decode cX8_firstWorthless 1 = .ok (.istore_n 1, 1) := by decide +kernel
theorem dX8_firstWorthless_2 : decode cX8_firstWorthless 2 = .ok (.iload_n 1, 1) := by decide +kernel
theorem dX8_firstWorthless_3 : decode cX8_firstWorthless 3 = .ok (.aload_n 0, 1) := by decide +kernel
theorem dX8_firstWorthless_4 : decode cX8_firstWorthless 4 = .ok (.getfield 23, 3) := by decide +kernel
theorem dX8_firstWorthless_7 : decode cX8_firstWorthless 7 = .ok (.if_icmp .ge 22, 3) := by decide +kernel
theorem dX8_firstWorthless_10 : decode cX8_firstWorthless 10 = .ok (.aload_n 0, 1) := by decide +kernel
theorem dX8_firstWorthless_11 : decode cX8_firstWorthless 11 = .ok (.getfield 15, 3) := by decide +kernel
theorem dX8_firstWorthless_14 : decode cX8_firstWorthless 14 = .ok (.iload_n 1, 1) := by decide +kernel
theorem dX8_firstWorthless_15 : decode cX8_firstWorthless 15 = .ok (.laload, 1) := by decide +kernel
theorem dX8_firstWorthless_16 : decode cX8_firstWorthless 16 = .ok (.lconst 0, 1) := by decide +kernel
theorem dX8_firstWorthless_17 : decode cX8_firstWorthless 17 = .ok (.lcmp, 1) := by decide +kernel
theorem dX8_firstWorthless_18 : decode cX8_firstWorthless 18 = .ok (.ifCond .ne 5, 3) := by decide +kernel
theorem dX8_firstWorthless_21 : decode cX8_firstWorthless 21 = .ok (.iload_n 1, 1) := by decide +kernel
theorem dX8_firstWorthless_22 : decode cX8_firstWorthless 22 = .ok (.ireturn, 1) := by decide +kernel
theorem dX8_firstWorthless_23 : decode cX8_firstWorthless 23 = .ok (.iinc 1 1, 3) := by decide +kernel
theorem dX8_firstWorthless_26 : decode cX8_firstWorthless 26 = .ok (.goto (-24), 3) := by decide +kernel
theorem dX8_firstWorthless_29 : decode cX8_firstWorthless 29 = .ok (.bipush (-4), 2) := by decide +kernel
theorem dX8_firstWorthless_31 : decode cX8_firstWorthless 31 = .ok (.ireturn, 1) := by decide +kernel
theorem dX9_init_0 : decode cX9_init 0 = .ok (.aload_n 0, 1) := by decide +kernel
theorem dX9_init_1 : decode cX9_init 1 = .ok (.invokespecial 1, 3) := by decide +kernel
theorem dX9_init_4 : decode cX9_init 4 = .ok (.aload_n 0, 1) := by decide +kernel
theorem dX9_init_5 : decode cX9_init 5 = .ok (.new 7, 3) := by decide +kernel
theorem dX9_init_8 : decode cX9_init 8 = .ok (.dup, 1) := by decide +kernel
theorem dX9_init_9 : decode cX9_init 9 = .ok (.invokespecial 9, 3) := by decide +kernel
theorem dX9_init_12 : decode cX9_init 12 = .ok (.putfield 10, 3) := by decide +kernel
theorem dX9_init_15 : decode cX9_init 15 = .ok (.aload_n 0, 1) := by decide +kernel
theorem dX9_init_16 : decode cX9_init 16 = .ok (.new 7, 3) := by decide +kernel
theorem dX9_init_19 : decode cX9_init 19 = .ok (.dup, 1) := by decide +kernel
theorem dX9_init_20 : decode cX9_init 20 = .ok (.invokespecial 9, 3) := by decide +kernel
theorem dX9_init_23 : decode cX9_init 23 = .ok (.putfield 16, 3) := by decide +kernel
theorem dX9_init_26 : decode cX9_init 26 = .ok (.aload_n 0, 1) := by decide +kernel
theorem dX9_init_27 : decode cX9_init 27 = .ok (.new 19, 3) := by decide +kernel
theorem dX9_init_30 : decode cX9_init 30 = .ok (.dup, 1) := by decide +kernel
theorem dX9_init_31 : decode cX9_init 31 = .ok (.invokespecial 21, 3) := by decide +kernel
theorem dX9_init_34 : decode cX9_init 34 = .ok (.putfield 22, 3) := by decide +kernel
theorem dX9_init_37 : decode cX9_init 37 = .ok (.aload_n 0, 1) := by decide +kernel
theorem dX9_init_38 : decode cX9_init 38 = .ok (.new 26, 3) := by decide +kernel
theorem dX9_init_41 : decode cX9_init 41 = .ok (.dup, 1) := by decide +kernel
theorem dX9_init_42 : decode cX9_init 42 = .ok (.invokespecial 28, 3) := by decide +kernel
theorem dX9_init_45 : decode cX9_init 45 = .ok (.putfield 29, 3) := by decide +kernel
theorem dX9_init_48 : decode cX9_init 48 = .ok (.aload_n 0, 1) := by decide +kernel
theorem dX9_init_49 : decode cX9_init 49 = .ok (.new 33, 3) := by decide +kernel
theorem dX9_init_52 : decode cX9_init 52 = .ok (.dup, 1) := by decide +kernel
theorem dX9_init_53 : decode cX9_init 53 = .ok (.invokespecial 35, 3) := by decide +kernel
theorem dX9_init_56 : decode cX9_init 56 = .ok (.putfield 36, 3) := by decide +kernel
theorem dX9_init_59 : decode cX9_init 59 = .ok (.aload_n 0, 1) := by decide +kernel
theorem dX9_init_60 : decode cX9_init 60 = .ok (.new 40, 3) := by decide +kernel
theorem dX9_init_63 : decode cX9_init 63 = .ok (.dup, 1) := by decide +kernel
theorem dX9_init_64 : decode cX9_init 64 = .ok (.invokespecial 42, 3) := by decide +kernel
theorem dX9_init_67 : decode cX9_init 67 = .ok (.putfield 43, 3) := by decide +kernel
theorem dX9_init_70 : decode cX9_init 70 = .ok (.aload_n 0, 1) := by decide +kernel
theorem dX9_init_71 : decode cX9_init 71 = .ok (.new 47, 3) := by decide +kernel
theorem dX9_init_74 : decode cX9_init 74 = .ok (.dup, 1) := by decide +kernel
theorem dX9_init_75 : decode cX9_init 75 = .ok (.invokespecial 49, 3) := by decide +kernel
theorem dX9_init_78 : decode cX9_init 78 = .ok (.putfield 50, 3) := by decide +kernel
theorem dX9_init_81 : decode cX9_init 81 = .ok (.aload_n 0, 1) := by decide +kernel
theorem dX9_init_82 : decode cX9_init 82 = .ok (.new 54, 3) := by decide +kernel
theorem dX9_init_85 : decode cX9_init 85 = .ok (.dup, 1) := by decide +kernel
theorem dX9_init_86 : decode cX9_init 86 = .ok (.invokespecial 56, 3) := by decide +kernel
theorem dX9_init_89 : decode cX9_init 89 = .ok (.putfield 57, 3) := by decide +kernel
theorem dX9_init_92 : decode cX9_init 92 = .ok (.aload_n 0, 1) := by decide +kernel
theorem dX9_init_93 : decode cX9_init 93 = .ok (.new 61, 3) := by decide +kernel
theorem dX9_init_96 : decode cX9_init 96 = .ok (.dup, 1) := by decide +kernel
theorem dX9_init_97 : decode cX9_init 97 = .ok (.invokespecial 63, 3) := by decide +kernel
theorem dX9_init_100 : decode cX9_init 100 = .ok (.putfield 64, 3) := by decide +kernel
theorem dX9_init_103 : decode cX9_init 103 = .ok (.aload_n 0, 1) := by decide +kernel
theorem dX9_init_104 : decode cX9_init 104 = .ok (.iconst 4, 1) := by decide +kernel
theorem dX9_init_105 : decode cX9_init 105 = .ok (.anewarray 68, 3) := by decide +kernel
theorem dX9_init_108 : decode cX9_init 108 = .ok (.putfield 70, 3) := by decide +kernel
theorem dX9_init_111 : decode cX9_init 111 = .ok (.iconst 0, 1) := by decide +kernel
theorem dX9_init_112 : decode cX9_init 112 = .ok (.istore_n 1, 1) := by decide +kernel
theorem dX9_init_113 : decode cX9_init 113 = .ok (.iload_n 1, 1) := by decide +kernel
theorem dX9_init_114 : decode cX9_init 114 = .ok (.iconst 4, 1) := by decide +kernel
theorem dX9_init_115 : decode cX9_init 115 = .ok (.if_icmp .ge 22, 3) := by decide +kernel
theorem dX9_init_118 : decode cX9_init 118 = .ok (.aload_n 0, 1) := by decide +kernel
theorem dX9_init_119 : decode cX9_init 119 = .ok (.getfield 70, 3) := by decide +kernel
theorem dX9_init_122 : decode cX9_init 122 = .ok (.iload_n 1, 1) := by decide +kernel
theorem dX9_init_123 : decode cX9_init 123 = .ok (.new 68, 3) := by decide +kernel
theorem dX9_init_126 : decode cX9_init 126 = .ok (.dup, 1) := by decide +kernel
theorem dX9_init_127 : decode cX9_init 127 = .ok (.invokespecial 74, 3) := by decide +kernel
theorem dX9_init_130 : decode cX9_init 130 = .ok (.aastore, 1) := by decide +kernel
theorem dX9_init_131 : decode cX9_init 131 = .ok (.iinc 1 1, 3) := by decide +kernel
theorem dX9_init_134 : decode cX9_init 134 = .ok (.goto (-21), 3) := by decide +kernel
theorem dX9_init_137 : decode cX9_init 137 = .ok (.return_, 1) := by decide +kernel
theorem dX9_sock_0 : decode cX9_sock 0 = .ok (.iload_n 1, 1) := by decide +kernel
theorem dX9_sock_1 : decode cX9_sock 1 = .ok (.bipush 6, 2) := by decide +kernel
theorem dX9_sock_3 : decode cX9_sock 3 = .ok (.invokestatic 75, 3) := by decide +kernel
theorem dX9_sock_6 : decode cX9_sock 6 = .ok (.ifCond .eq 11, 3) := by decide +kernel
theorem dX9_sock_9 : decode cX9_sock 9 = .ok (.iload_n 2, 1) := by decide +kernel
theorem dX9_sock_10 : decode cX9_sock 10 = .ok (.iconst 2, 1) := by decide +kernel
theorem dX9_sock_11 : decode cX9_sock 11 = .ok (.invokestatic 75, 3) := by decide +kernel
theorem dX9_sock_14 : decode cX9_sock 14 = .ok (.ifCond .ne 5, 3) := by decide +kernel
theorem dX9_sock_17 : decode cX9_sock 17 = .ok (.iconst (-1), 1) := by decide +kernel
theorem dX9_sock_18 : decode cX9_sock 18 = .ok (.ireturn, 1) := by decide +kernel
theorem dX9_sock_19 : decode cX9_sock 19 = .ok (.iload_n 3, 1) := by decide +kernel
theorem dX9_sock_20 : decode cX9_sock 20 = .ok (.ifCond .lt 16, 3) := by decide +kernel
theorem dX9_sock_23 : decode cX9_sock 23 = .ok (.iload 4, 2) := by decide +kernel
theorem dX9_sock_25 : decode cX9_sock 25 = .ok (.bipush 99, 2) := by decide +kernel
theorem dX9_sock_27 : decode cX9_sock 27 = .ok (.if_icmp .gt 9, 3) := by decide +kernel
theorem dX9_sock_30 : decode cX9_sock 30 = .ok (.iload_n 3, 1) := by decide +kernel
theorem dX9_sock_31 : decode cX9_sock 31 = .ok (.iload 4, 2) := by decide +kernel
theorem dX9_sock_33 : decode cX9_sock 33 = .ok (.if_icmp .le 5, 3) := by decide +kernel
theorem dX9_sock_36 : decode cX9_sock 36 = .ok (.iconst (-1), 1) := by decide +kernel
theorem dX9_sock_37 : decode cX9_sock 37 = .ok (.ireturn, 1) := by decide +kernel
theorem dX9_sock_38 : decode cX9_sock 38 = .ok (.aload_n 0, 1) := by decide +kernel
theorem dX9_sock_39 : decode cX9_sock 39 = .ok (.getfield 29, 3) := by decide +kernel
theorem dX9_sock_42 : decode cX9_sock 42 = .ok (.iload_n 1, 1) := by decide +kernel
theorem dX9_sock_43 : decode cX9_sock 43 = .ok (.iload_n 2, 1) := by decide +kernel
theorem dX9_sock_44 : decode cX9_sock 44 = .ok (.iload_n 3, 1) := by decide +kernel
theorem dX9_sock_45 : decode cX9_sock 45 = .ok (.iload 4, 2) := by decide +kernel
theorem dX9_sock_47 : decode cX9_sock 47 = .ok (.bipush 7, 2) := by decide +kernel
theorem dX9_sock_49 : decode cX9_sock 49 = .ok (.invokevirtual 79, 3) := by decide +kernel
theorem dX9_sock_52 : decode cX9_sock 52 = .ok (.aload_n 0, 1) := by decide +kernel
theorem dX9_sock_53 : decode cX9_sock 53 = .ok (.getfield 10, 3) := by decide +kernel
theorem dX9_sock_56 : decode cX9_sock 56 = .ok (.aload_n 0, 1) := by decide +kernel
theorem dX9_sock_57 : decode cX9_sock 57 = .ok (.getfield 29, 3) := by decide +kernel
theorem dX9_sock_60 : decode cX9_sock 60 = .ok (.invokevirtual 83, 3) := by decide +kernel
theorem dX9_sock_63 : decode cX9_sock 63 = .ok (.ireturn, 1) := by decide +kernel
theorem dX9_type_0 : decode cX9_type 0 = .ok (.aload_n 0, 1) := by decide +kernel
theorem dX9_type_1 : decode cX9_type 1 = .ok (.getfield 22, 3) := by decide +kernel
theorem dX9_type_4 : decode cX9_type 4 = .ok (.lload_n 1, 1) := by decide +kernel
theorem dX9_type_5 : decode cX9_type 5 = .ok (.iload_n 3, 1) := by decide +kernel
theorem dX9_type_6 : decode cX9_type 6 = .ok (.invokevirtual 87, 3) := by decide +kernel
theorem dX9_type_9 : decode cX9_type 9 = .ok (.ireturn, 1) := by decide +kernel
theorem dX9_socks_0 : decode cX9_socks 0 = .ok (.aload_n 0, 1) := by decide +kernel
theorem dX9_socks_1 : decode cX9_socks 1 = .ok (.getfield 22, 3) := by decide +kernel
theorem dX9_socks_4 : decode cX9_socks 4 = .ok (.invokevirtual 91, 3) := by decide +kernel
theorem dX9_socks_7 : decode cX9_socks 7 = .ok (.istore_n 1, 1) := by decide +kernel
theorem dX9_socks_8 : decode cX9_socks 8 = .ok (.aload_n 0, 1) := by decide +kernel
theorem dX9_socks_9 : decode cX9_socks 9 = .ok (.getfield 22, 3) := by decide +kernel
theorem dX9_socks_12 : decode cX9_socks 12 = .ok (.iconst 0, 1) := by decide +kernel
theorem dX9_socks_13 : decode cX9_socks 13 = .ok (.putfield 95, 3) := by decide +kernel
theorem dX9_socks_16 : decode cX9_socks 16 = .ok (.iload_n 1, 1) := by decide +kernel
theorem dX9_socks_17 : decode cX9_socks 17 = .ok (.ifCond .ge 5, 3) := by decide +kernel
theorem dX9_socks_20 : decode cX9_socks 20 = .ok (.iload_n 1, 1) := by decide +kernel
theorem dX9_socks_21 : decode cX9_socks 21 = .ok (.ireturn, 1) := by decide +kernel
theorem dX9_socks_22 : decode cX9_socks 22 = .ok (.aload_n 0, 1) := by decide +kernel
theorem dX9_socks_23 : decode cX9_socks 23 = .ok (.getfield 10, 3) := by decide +kernel
theorem dX9_socks_26 : decode cX9_socks 26 = .ok (.getfield 99, 3) := by decide +kernel
theorem dX9_socks_29 : decode cX9_socks 29 = .ok (.iload_n 1, 1) := by decide +kernel
theorem dX9_socks_30 : decode cX9_socks 30 = .ok (.iadd, 1) := by decide +kernel
theorem dX9_socks_31 : decode cX9_socks 31 = .ok (.bipush 12, 2) := by decide +kernel
theorem dX9_socks_33 : decode cX9_socks 33 = .ok (.if_icmp .le 6, 3) := by decide +kernel
theorem dX9_socks_36 : decode cX9_socks 36 = .ok (.bipush (-3), 2) := by decide +kernel
theorem dX9_socks_38 : decode cX9_socks 38 = .ok (.ireturn, 1) := by decide +kernel
theorem dX9_socks_39 : decode cX9_socks 39 = .ok (.iconst 0, 1) := by decide +kernel
theorem dX9_socks_40 : decode cX9_socks 40 = .ok (.istore_n 2, 1) := by decide +kernel
theorem dX9_socks_41 : decode cX9_socks 41 = .ok (.iload_n 2, 1) := by decide +kernel
theorem dX9_socks_42 : decode cX9_socks 42 = .ok (.iload_n 1, 1) := by decide +kernel
theorem dX9_socks_43 : decode cX9_socks 43 = .ok (.if_icmp .ge 26, 3) := by decide +kernel
theorem dX9_socks_46 : decode cX9_socks 46 = .ok (.aload_n 0, 1) := by decide +kernel
theorem dX9_socks_47 : decode cX9_socks 47 = .ok (.getfield 10, 3) := by decide +kernel
theorem dX9_socks_50 : decode cX9_socks 50 = .ok (.aload_n 0, 1) := by decide +kernel
theorem dX9_socks_51 : decode cX9_socks 51 = .ok (.getfield 22, 3) := by decide +kernel
theorem dX9_socks_54 : decode cX9_socks 54 = .ok (.getfield 102, 3) := by decide +kernel
theorem dX9_socks_57 : decode cX9_socks 57 = .ok (.iload_n 2, 1) := by decide +kernel
theorem dX9_socks_58 : decode cX9_socks 58 = .ok (.aaload, 1) := by decide +kernel
theorem dX9_socks_59 : decode cX9_socks 59 = .ok (.invokevirtual 83, 3) := by decide +kernel
theorem dX9_socks_62 : decode cX9_socks 62 = .ok (.pop, 1) := by decide +kernel
theorem dX9_socks_63 : decode cX9_socks 63 = .ok (.iinc 2 1, 3) := by decide +kernel
theorem dX9_socks_66 : decode cX9_socks 66 = .ok (.goto (-25), 3) := by decide +kernel
theorem dX9_socks_69 : decode cX9_socks 69 = .ok (.iload_n 1, 1) := by decide +kernel
theorem dX9_socks_70 : decode cX9_socks 70 = .ok (.ireturn, 1) := by decide +kernel
theorem dX9_told_0 : decode cX9_told 0 = .ok (.aload_n 0, 1) := by decide +kernel
theorem dX9_told_1 : decode cX9_told 1 = .ok (.iload_n 1, 1) := by decide +kernel
theorem dX9_told_2 : decode cX9_told 2 = .ok (.invokevirtual 106, 3) := by decide +kernel
theorem dX9_told_5 : decode cX9_told 5 = .ok (.ifCond .eq 12, 3) := by decide +kernel
theorem dX9_told_8 : decode cX9_told 8 = .ok (.iload_n 2, 1) := by decide +kernel
theorem dX9_told_9 : decode cX9_told 9 = .ok (.bipush 8, 2) := by decide +kernel
theorem dX9_told_11 : decode cX9_told 11 = .ok (.invokestatic 75, 3) := by decide +kernel
theorem dX9_told_14 : decode cX9_told 14 = .ok (.ifCond .ne 5, 3) := by decide +kernel
theorem dX9_told_17 : decode cX9_told 17 = .ok (.iconst (-1), 1) := by decide +kernel
theorem dX9_told_18 : decode cX9_told 18 = .ok (.ireturn, 1) := by decide +kernel
theorem dX9_told_19 : decode cX9_told 19 = .ok (.iload_n 2, 1) := by decide +kernel
theorem dX9_told_20 : decode cX9_told 20 = .ok (.bipush 6, 2) := by decide +kernel
theorem dX9_told_22 : decode cX9_told 22 = .ok (.if_icmp .ne 14, 3) := by decide +kernel
theorem dX9_told_25 : decode cX9_told 25 = .ok (.aload_n 0, 1) := by decide +kernel
theorem dX9_told_26 : decode cX9_told 26 = .ok (.getfield 10, 3) := by decide +kernel
theorem dX9_told_29 : decode cX9_told 29 = .ok (.iload_n 1, 1) := by decide +kernel
theorem dX9_told_30 : decode cX9_told 30 = .ok (.invokevirtual 110, 3) := by decide +kernel
theorem dX9_told_33 : decode cX9_told 33 = .ok (.goto 16, 3) := by decide +kernel
theorem dX9_told_36 : decode cX9_told 36 = .ok (.aload_n 0, 1) := by decide +kernel
theorem dX9_told_37 : decode cX9_told 37 = .ok (.getfield 10, 3) := by decide +kernel
theorem dX9_told_40 : decode cX9_told 40 = .ok (.getfield 114, 3) := by decide +kernel
theorem dX9_told_43 : decode cX9_told 43 = .ok (.iload_n 1, 1) := by decide +kernel
theorem dX9_told_44 : decode cX9_told 44 = .ok (.aaload, 1) := by decide +kernel
theorem dX9_told_45 : decode cX9_told 45 = .ok (.iload_n 2, 1) := by decide +kernel
theorem dX9_told_46 : decode cX9_told 46 = .ok (.invokevirtual 117, 3) := by decide +kernel
theorem dX9_told_49 : decode cX9_told 49 = .ok (.ireturn, 1) := by decide +kernel
theorem dX9_fade_0 : decode cX9_fade 0 = .ok (.iload_n 1, 1) := by decide +kernel
theorem dX9_fade_1 : decode cX9_fade 1 = .ok (.bipush 6, 2) := by decide +kernel
theorem dX9_fade_3 : decode cX9_fade 3 = .ok (.invokestatic 75, 3) := by decide +kernel
theorem dX9_fade_6 : decode cX9_fade 6 = .ok (.ifCond .eq 12, 3) := by decide +kernel
theorem dX9_fade_9 : decode cX9_fade 9 = .ok (.iload_n 2, 1) := by decide +kernel
theorem dX9_fade_10 : decode cX9_fade 10 = .ok (.bipush 10, 2) := by decide +kernel
theorem dX9_fade_12 : decode cX9_fade 12 = .ok (.invokestatic 75, 3) := by decide +kernel
theorem dX9_fade_15 : decode cX9_fade 15 = .ok (.ifCond .ne 5, 3) := by decide +kernel
theorem dX9_fade_18 : decode cX9_fade 18 = .ok (.iconst (-1), 1) := by decide +kernel
theorem dX9_fade_19 : decode cX9_fade 19 = .ok (.ireturn, 1) := by decide +kernel
theorem dX9_fade_20 : decode cX9_fade 20 = .ok (.aload_n 0, 1) := by decide +kernel
theorem dX9_fade_21 : decode cX9_fade 21 = .ok (.getfield 10, 3) := by decide +kernel
theorem dX9_fade_24 : decode cX9_fade 24 = .ok (.getfield 120, 3) := by decide +kernel
theorem dX9_fade_27 : decode cX9_fade 27 = .ok (.iload_n 1, 1) := by decide +kernel
theorem dX9_fade_28 : decode cX9_fade 28 = .ok (.iaload, 1) := by decide +kernel
theorem dX9_fade_29 : decode cX9_fade 29 = .ok (.istore_n 3, 1) := by decide +kernel
theorem dX9_fade_30 : decode cX9_fade 30 = .ok (.aload_n 0, 1) := by decide +kernel
theorem dX9_fade_31 : decode cX9_fade 31 = .ok (.getfield 10, 3) := by decide +kernel
theorem dX9_fade_34 : decode cX9_fade 34 = .ok (.getfield 120, 3) := by decide +kernel
theorem dX9_fade_37 : decode cX9_fade 37 = .ok (.iload_n 1, 1) := by decide +kernel
theorem dX9_fade_38 : decode cX9_fade 38 = .ok (.iload_n 2, 1) := by decide +kernel
theorem dX9_fade_39 : decode cX9_fade 39 = .ok (.iastore, 1) := by decide +kernel
theorem dX9_fade_40 : decode cX9_fade 40 = .ok (.iload_n 3, 1) := by decide +kernel
theorem dX9_fade_41 : decode cX9_fade 41 = .ok (.ireturn, 1) := by decide +kernel
theorem dX9_set_0 : decode cX9_set 0 = .ok (.iload_n 1, 1) := by decide +kernel
theorem dX9_set_1 : decode cX9_set 1 = .ok (.ifCond .ne 30, 3) := by decide +kernel
theorem dX9_set_4 : decode cX9_set 4 = .ok (.iload_n 2, 1) := by decide +kernel
theorem dX9_set_5 : decode cX9_set 5 = .ok (.bipush 21, 2) := by decide +kernel
theorem dX9_set_7 : decode cX9_set 7 = .ok (.invokestatic 75, 3) := by decide +kernel
theorem dX9_set_10 : decode cX9_set 10 = .ok (.ifCond .eq 21, 3) := by decide +kernel
theorem dX9_set_13 : decode cX9_set 13 = .ok (.aload_n 0, 1) := by decide +kernel
theorem dX9_set_14 : decode cX9_set 14 = .ok (.getfield 10, 3) := by decide +kernel
theorem dX9_set_17 : decode cX9_set 17 = .ok (.getfield 124, 3) := by decide +kernel
theorem dX9_set_20 : decode cX9_set 20 = .ok (.istore_n 3, 1) := by decide +kernel
theorem dX9_set_21 : decode cX9_set 21 = .ok (.aload_n 0, 1) := by decide +kernel
theorem dX9_set_22 : decode cX9_set 22 = .ok (.getfield 10, 3) := by decide +kernel
theorem dX9_set_25 : decode cX9_set 25 = .ok (.iload_n 2, 1) := by decide +kernel
theorem dX9_set_26 : decode cX9_set 26 = .ok (.putfield 124, 3) := by decide +kernel
theorem dX9_set_29 : decode cX9_set 29 = .ok (.iload_n 3, 1) := by decide +kernel
theorem dX9_set_30 : decode cX9_set 30 = .ok (.ireturn, 1) := by decide +kernel
theorem dX9_set_31 : decode cX9_set 31 = .ok (.iload_n 1, 1) := by decide +kernel
theorem dX9_set_32 : decode cX9_set 32 = .ok (.iconst 1, 1) := by decide +kernel
theorem dX9_set_33 : decode cX9_set 33 = .ok (.if_icmp .ne 29, 3) := by decide +kernel
theorem dX9_set_36 : decode cX9_set 36 = .ok (.iload_n 2, 1) := by decide +kernel
theorem dX9_set_37 : decode cX9_set 37 = .ok (.iconst 2, 1) := by decide +kernel
theorem dX9_set_38 : decode cX9_set 38 = .ok (.invokestatic 75, 3) := by decide +kernel
theorem dX9_set_41 : decode cX9_set 41 = .ok (.ifCond .eq 21, 3) := by decide +kernel
theorem dX9_set_44 : decode cX9_set 44 = .ok (.aload_n 0, 1) := by decide +kernel
theorem dX9_set_45 : decode cX9_set 45 = .ok (.getfield 10, 3) := by decide +kernel
theorem dX9_set_48 : decode cX9_set 48 = .ok (.getfield 127, 3) := by decide +kernel
theorem dX9_set_51 : decode cX9_set 51 = .ok (.istore_n 3, 1) := by decide +kernel
theorem dX9_set_52 : decode cX9_set 52 = .ok (.aload_n 0, 1) := by decide +kernel
theorem dX9_set_53 : decode cX9_set 53 = .ok (.getfield 10, 3) := by decide +kernel
theorem dX9_set_56 : decode cX9_set 56 = .ok (.iload_n 2, 1) := by decide +kernel
theorem dX9_set_57 : decode cX9_set 57 = .ok (.putfield 127, 3) := by decide +kernel
theorem dX9_set_60 : decode cX9_set 60 = .ok (.iload_n 3, 1) := by decide +kernel
theorem dX9_set_61 : decode cX9_set 61 = .ok (.ireturn, 1) := by decide +kernel
theorem dX9_set_62 : decode cX9_set 62 = .ok (.iconst (-1), 1) := by decide +kernel
theorem dX9_set_63 : decode cX9_set 63 = .ok (.ireturn, 1) := by decide +kernel
theorem dX9_monday_0 : decode cX9_monday 0 = .ok (.iload_n 1, 1) := by decide +kernel
theorem dX9_monday_1 : decode cX9_monday 1 = .ok (.aload_n 0, 1) := by decide +kernel
theorem dX9_monday_2 : decode cX9_monday 2 = .ok (.getfield 10, 3) := by decide +kernel
theorem dX9_monday_5 : decode cX9_monday 5 = .ok (.invokevirtual 130, 3) := by decide +kernel
theorem dX9_monday_8 : decode cX9_monday 8 = .ok (.iconst (-1), 1) := by decide +kernel
theorem dX9_monday_9 : decode cX9_monday 9 = .ok (.ixor, 1) := by decide +kernel
theorem dX9_monday_10 : decode cX9_monday 10 = .ok (.iand, 1) := by decide +kernel
theorem dX9_monday_11 : decode cX9_monday 11 = .ok (.ifCond .ne 11, 3) := by decide +kernel
theorem dX9_monday_14 : decode cX9_monday 14 = .ok (.iload_n 2, 1) := by decide +kernel
theorem dX9_monday_15 : decode cX9_monday 15 = .ok (.iload_n 1, 1) := by decide +kernel
theorem dX9_monday_16 : decode cX9_monday 16 = .ok (.iconst (-1), 1) := by decide +kernel
theorem dX9_monday_17 : decode cX9_monday 17 = .ok (.ixor, 1) := by decide +kernel
theorem dX9_monday_18 : decode cX9_monday 18 = .ok (.iand, 1) := by decide +kernel
theorem dX9_monday_19 : decode cX9_monday 19 = .ok (.ifCond .eq 5, 3) := by decide +kernel
theorem dX9_monday_22 : decode cX9_monday 22 = .ok (.iconst (-1), 1) := by decide +kernel
theorem dX9_monday_23 : decode cX9_monday 23 = .ok (.ireturn, 1) := by decide +kernel
theorem dX9_monday_24 : decode cX9_monday 24 = .ok (.aload_n 0, 1) := by decide +kernel
theorem dX9_monday_25 : decode cX9_monday 25 = .ok (.getfield 10, 3) := by decide +kernel
theorem dX9_monday_28 : decode cX9_monday 28 = .ok (.iload_n 1, 1) := by decide +kernel
theorem dX9_monday_29 : decode cX9_monday 29 = .ok (.invokevirtual 133, 3) := by decide +kernel
theorem dX9_monday_32 : decode cX9_monday 32 = .ok (.ifCond .ne 6, 3) := by decide +kernel
theorem dX9_monday_35 : decode cX9_monday 35 = .ok (.bipush (-2), 2) := by decide +kernel
theorem dX9_monday_37 : decode cX9_monday 37 = .ok (.ireturn, 1) := by decide +kernel
theorem dX9_monday_38 : decode cX9_monday 38 = .ok (.aload_n 0, 1) := by decide +kernel
theorem dX9_monday_39 : decode cX9_monday 39 = .ok (.getfield 10, 3) := by decide +kernel
theorem dX9_monday_42 : decode cX9_monday 42 = .ok (.iload_n 1, 1) := by decide +kernel
theorem dX9_monday_43 : decode cX9_monday 43 = .ok (.iload_n 2, 1) := by decide +kernel
theorem dX9_monday_44 : decode cX9_monday 44 = .ok (.invokevirtual 136, 3) := by decide +kernel
theorem dX9_monday_47 : decode cX9_monday 47 = .ok (.ireturn, 1) := by decide +kernel
theorem dX9_found_0 : decode cX9_found 0 = .ok (.aload_n 0, 1) := by decide +kernel
theorem dX9_found_1 : decode cX9_found 1 = .ok (.iload_n 1, 1) := by decide +kernel
theorem dX9_found_2 : decode cX9_found 2 = .ok (.invokevirtual 106, 3) := by decide +kernel
theorem dX9_found_5 : decode cX9_found 5 = .ok (.ifCond .ne 5, 3) := by decide +kernel
theorem dX9_found_8 : decode cX9_found 8 = .ok (.iconst (-1), 1) := by decide +kernel
theorem dX9_found_9 : decode cX9_found 9 = .ok (.ireturn, 1) := by decide +kernel
theorem dX9_found_10 : decode cX9_found 10 = .ok (.aload_n 0, 1) := by decide +kernel
theorem dX9_found_11 : decode cX9_found 11 = .ok (.getfield 10, 3) := by decide +kernel
theorem dX9_found_14 : decode cX9_found 14 = .ok (.getfield 114, 3) := by decide +kernel
theorem dX9_found_17 : decode cX9_found 17 = .ok (.iload_n 1, 1) := by decide +kernel
theorem dX9_found_18 : decode cX9_found 18 = .ok (.aaload, 1) := by decide +kernel
theorem dX9_found_19 : decode cX9_found 19 = .ok (.astore_n 2, 1) := by decide +kernel
theorem dX9_found_20 : decode cX9_found 20 = .ok (.aload_n 2, 1) := by decide +kernel
theorem dX9_found_21 : decode cX9_found 21 = .ok (.getfield 140, 3) := by decide +kernel
theorem dX9_found_24 : decode cX9_found 24 = .ok (.iconst 1, 1) := by decide +kernel
theorem dX9_found_25 : decode cX9_found 25 = .ok (.if_icmp .eq 6, 3) := by decide +kernel
theorem dX9_found_28 : decode cX9_found 28 = .ok (.bipush (-2), 2) := by decide +kernel
theorem dX9_found_30 : decode cX9_found 30 = .ok (.ireturn, 1) := by decide +kernel
theorem dX9_found_31 : decode cX9_found 31 = .ok (.aload_n 2, 1) := by decide +kernel
theorem dX9_found_32 : decode cX9_found 32 = .ok (.getfield 143, 3) := by decide +kernel
theorem dX9_found_35 : decode cX9_found 35 = .ok (.istore_n 3, 1) := by decide +kernel
theorem dX9_found_36 : decode cX9_found 36 = .ok (.aload_n 2, 1) := by decide +kernel
theorem dX9_found_37 : decode cX9_found 37 = .ok (.invokevirtual 146, 3) := by decide +kernel
theorem dX9_found_40 : decode cX9_found 40 = .ok (.iload_n 3, 1) := by decide +kernel
theorem dX9_found_41 : decode cX9_found 41 = .ok (.ireturn, 1) := by decide +kernel
theorem dX9_alike_0 : decode cX9_alike 0 = .ok (.aload_n 0, 1) := by decide +kernel
theorem dX9_alike_1 : decode cX9_alike 1 = .ok (.iload_n 1, 1) := by decide +kernel
theorem dX9_alike_2 : decode cX9_alike 2 = .ok (.iload_n 2, 1) := by decide +kernel
theorem dX9_alike_3 : decode cX9_alike 3 = .ok (.invokevirtual 149, 3) := by decide +kernel
theorem dX9_alike_6 : decode cX9_alike 6 = .ok (.ifCond .eq 15, 3) := by decide +kernel
theorem dX9_alike_9 : decode cX9_alike 9 = .ok (.aload_n 0, 1) := by decide +kernel
theorem dX9_alike_10 : decode cX9_alike 10 = .ok (.getfield 10, 3) := by decide +kernel
theorem dX9_alike_13 : decode cX9_alike 13 = .ok (.iload_n 1, 1) := by decide +kernel
theorem dX9_alike_14 : decode cX9_alike 14 = .ok (.iload_n 2, 1) := by decide +kernel
theorem dX9_alike_15 : decode cX9_alike 15 = .ok (.invokevirtual 152, 3) := by decide +kernel
theorem dX9_alike_18 : decode cX9_alike 18 = .ok (.goto 4, 3) := by decide +kernel
theorem dX9_alike_21 : decode cX9_alike 21 = .ok (.iconst (-1), 1) := by decide +kernel
theorem dX9_alike_22 : decode cX9_alike 22 = .ok (.ireturn, 1) := by decide +kernel
theorem dX9_fellows_0 : decode cX9_fellows 0 = .ok (.aload_n 0, 1) := by decide +kernel
theorem dX9_fellows_1 : decode cX9_fellows 1 = .ok (.iload_n 1, 1) := by decide +kernel
theorem dX9_fellows_2 : decode cX9_fellows 2 = .ok (.iload_n 2, 1) := by decide +kernel
theorem dX9_fellows_3 : decode cX9_fellows 3 = .ok (.invokevirtual 149, 3) := by decide +kernel
theorem dX9_fellows_6 : decode cX9_fellows 6 = .ok (.ifCond .eq 15, 3) := by decide +kernel
theorem dX9_fellows_9 : decode cX9_fellows 9 = .ok (.aload_n 0, 1) := by decide +kernel
theorem dX9_fellows_10 : decode cX9_fellows 10 = .ok (.getfield 10, 3) := by decide +kernel
theorem dX9_fellows_13 : decode cX9_fellows 13 = .ok (.iload_n 1, 1) := by decide +kernel
theorem dX9_fellows_14 : decode cX9_fellows 14 = .ok (.iload_n 2, 1) := by decide +kernel
theorem dX9_fellows_15 : decode cX9_fellows 15 = .ok (.invokevirtual 155, 3) := by decide +kernel
theorem dX9_fellows_18 : decode cX9_fellows 18 = .ok (.goto 4, 3) := by decide +kernel
theorem dX9_fellows_21 : decode cX9_fellows 21 = .ok (.iconst (-1), 1) := by decide +kernel
theorem dX9_fellows_22 : decode cX9_fellows 22 = .ok (.ireturn, 1) := by decide +kernel
theorem dX9_count_0 : decode cX9_count 0 = .ok (.iload_n 1, 1) := by decide +kernel
theorem dX9_count_1 : decode cX9_count 1 = .ok (.tableswitch 113 0 5 #[39, 47, 59, 71, 83, 91], 39) := by decide +kernel
theorem dX9_count_40 : decode cX9_count 40 = .ok (.aload_n 0, 1) := by decide +kernel
theorem dX9_count_41 : decode cX9_count 41 = .ok (.getfield 10, 3) := by decide +kernel
theorem dX9_count_44 : decode cX9_count 44 = .ok (.getfield 99, 3) := by decide +kernel
theorem dX9_count_47 : decode cX9_count 47 = .ok (.ireturn, 1) := by decide +kernel
theorem dX9_count_48 : decode cX9_count 48 = .ok (.aload_n 0, 1) := by decide +kernel
theorem dX9_count_49 : decode cX9_count 49 = .ok (.getfield 10, 3) := by decide +kernel
theorem dX9_count_52 : decode cX9_count 52 = .ok (.iconst 0, 1) := by decide +kernel
theorem dX9_count_53 : decode cX9_count 53 = .ok (.invokevirtual 158, 3) := by decide +kernel
theorem dX9_count_56 : decode cX9_count 56 = .ok (.invokestatic 161, 3) := by decide +kernel
theorem dX9_count_59 : decode cX9_count 59 = .ok (.ireturn, 1) := by decide +kernel
theorem dX9_count_60 : decode cX9_count 60 = .ok (.aload_n 0, 1) := by decide +kernel
theorem dX9_count_61 : decode cX9_count 61 = .ok (.getfield 10, 3) := by decide +kernel
theorem dX9_count_64 : decode cX9_count 64 = .ok (.iconst 1, 1) := by decide +kernel
theorem dX9_count_65 : decode cX9_count 65 = .ok (.invokevirtual 158, 3) := by decide +kernel
theorem dX9_count_68 : decode cX9_count 68 = .ok (.invokestatic 161, 3) := by decide +kernel
theorem dX9_count_71 : decode cX9_count 71 = .ok (.ireturn, 1) := by decide +kernel
theorem dX9_count_72 : decode cX9_count 72 = .ok (.aload_n 0, 1) := by decide +kernel
theorem dX9_count_73 : decode cX9_count 73 = .ok (.getfield 10, 3) := by decide +kernel
theorem dX9_count_76 : decode cX9_count 76 = .ok (.iconst 2, 1) := by decide +kernel
theorem dX9_count_77 : decode cX9_count 77 = .ok (.invokevirtual 158, 3) := by decide +kernel
theorem dX9_count_80 : decode cX9_count 80 = .ok (.invokestatic 161, 3) := by decide +kernel
theorem dX9_count_83 : decode cX9_count 83 = .ok (.ireturn, 1) := by decide +kernel
theorem dX9_count_84 : decode cX9_count 84 = .ok (.aload_n 0, 1) := by decide +kernel
theorem dX9_count_85 : decode cX9_count 85 = .ok (.getfield 10, 3) := by decide +kernel
theorem dX9_count_88 : decode cX9_count 88 = .ok (.getfield 166, 3) := by decide +kernel
theorem dX9_count_91 : decode cX9_count 91 = .ok (.ireturn, 1) := by decide +kernel
theorem dX9_count_92 : decode cX9_count 92 = .ok (.aload_n 0, 1) := by decide +kernel
theorem dX9_count_93 : decode cX9_count 93 = .ok (.getfield 10, 3) := by decide +kernel
theorem dX9_count_96 : decode cX9_count 96 = .ok (.iconst 1, 1) := by decide +kernel
theorem dX9_count_97 : decode cX9_count 97 = .ok (.invokevirtual 158, 3) := by decide +kernel
theorem dX9_count_100 : decode cX9_count 100 = .ok (.aload_n 0, 1) := by decide +kernel
theorem dX9_count_101 : decode cX9_count 101 = .ok (.getfield 10, 3) := by decide +kernel
theorem dX9_count_104 : decode cX9_count 104 = .ok (.iconst 1, 1) := by decide +kernel
theorem dX9_count_105 : decode cX9_count 105 = .ok (.iconst 0, 1) := by decide +kernel
theorem dX9_count_106 : decode cX9_count 106 = .ok (.invokevirtual 169, 3) := by decide +kernel
theorem dX9_count_109 : decode cX9_count 109 = .ok (.iand, 1) := by decide +kernel
theorem dX9_count_110 : decode cX9_count 110 = .ok (.invokestatic 161, 3) := by decide +kernel
theorem dX9_count_113 : decode cX9_count 113 = .ok (.ireturn, 1) := by decide +kernel
theorem dX9_count_114 : decode cX9_count 114 = .ok (.iconst (-1), 1) := by decide +kernel
theorem dX9_count_115 : decode cX9_count 115 = .ok (.ireturn, 1) := by decide +kernel
theorem dX9_pairs_0 : decode cX9_pairs 0 = .ok (.iload_n 1, 1) := by decide +kernel
theorem dX9_pairs_1 : decode cX9_pairs 1 = .ok (.iconst 2, 1) := by decide +kernel
theorem dX9_pairs_2 : decode cX9_pairs 2 = .ok (.invokestatic 75, 3) := by decide +kernel
theorem dX9_pairs_5 : decode cX9_pairs 5 = .ok (.ifCond .ne 5, 3) := by decide +kernel
theorem dX9_pairs_8 : decode cX9_pairs 8 = .ok (.iconst (-1), 1) := by decide +kernel
theorem dX9_pairs_9 : decode cX9_pairs 9 = .ok (.ireturn, 1) := by decide +kernel
theorem dX9_pairs_10 : decode cX9_pairs 10 = .ok (.aload_n 0, 1) := by decide +kernel
theorem dX9_pairs_11 : decode cX9_pairs 11 = .ok (.getfield 36, 3) := by decide +kernel
theorem dX9_pairs_14 : decode cX9_pairs 14 = .ok (.aload_n 0, 1) := by decide +kernel
theorem dX9_pairs_15 : decode cX9_pairs 15 = .ok (.getfield 10, 3) := by decide +kernel
theorem dX9_pairs_18 : decode cX9_pairs 18 = .ok (.invokevirtual 172, 3) := by decide +kernel
theorem dX9_pairs_21 : decode cX9_pairs 21 = .ok (.iload_n 1, 1) := by decide +kernel
theorem dX9_pairs_22 : decode cX9_pairs 22 = .ok (.ifCond .ne 13, 3) := by decide +kernel
theorem dX9_pairs_25 : decode cX9_pairs 25 = .ok (.aload_n 0, 1) := by decide +kernel
theorem dX9_pairs_26 : decode cX9_pairs 26 = .ok (.getfield 36, 3) := by decide +kernel
theorem dX9_pairs_29 : decode cX9_pairs 29 = .ok (.getfield 176, 3) := by decide +kernel
theorem dX9_pairs_32 : decode cX9_pairs 32 = .ok (.goto 10, 3) := by decide +kernel
theorem dX9_pairs_35 : decode cX9_pairs 35 = .ok (.aload_n 0, 1) := by decide +kernel
theorem dX9_pairs_36 : decode cX9_pairs 36 = .ok (.getfield 36, 3) := by decide +kernel
theorem dX9_pairs_39 : decode cX9_pairs 39 = .ok (.getfield 179, 3) := by decide +kernel
theorem dX9_pairs_42 : decode cX9_pairs 42 = .ok (.ireturn, 1) := by decide +kernel
theorem dX9_fellow_0 : decode cX9_fellow 0 = .ok (.aload_n 0, 1) := by decide +kernel
theorem dX9_fellow_1 : decode cX9_fellow 1 = .ok (.iload_n 1, 1) := by decide +kernel
theorem dX9_fellow_2 : decode cX9_fellow 2 = .ok (.invokevirtual 106, 3) := by decide +kernel
theorem dX9_fellow_5 : decode cX9_fellow 5 = .ok (.ifCond .ne 5, 3) := by decide +kernel
theorem dX9_fellow_8 : decode cX9_fellow 8 = .ok (.iconst (-1), 1) := by decide +kernel
theorem dX9_fellow_9 : decode cX9_fellow 9 = .ok (.ireturn, 1) := by decide +kernel
theorem dX9_fellow_10 : decode cX9_fellow 10 = .ok (.aload_n 0, 1) := by decide +kernel
theorem dX9_fellow_11 : decode cX9_fellow 11 = .ok (.getfield 36, 3) := by decide +kernel
theorem dX9_fellow_14 : decode cX9_fellow 14 = .ok (.aload_n 0, 1) := by decide +kernel
theorem dX9_fellow_15 : decode cX9_fellow 15 = .ok (.getfield 10, 3) := by decide +kernel
theorem dX9_fellow_18 : decode cX9_fellow 18 = .ok (.invokevirtual 172, 3) := by decide +kernel
theorem dX9_fellow_21 : decode cX9_fellow 21 = .ok (.aload_n 0, 1) := by decide +kernel
theorem dX9_fellow_22 : decode cX9_fellow 22 = .ok (.getfield 36, 3) := by decide +kernel
theorem dX9_fellow_25 : decode cX9_fellow 25 = .ok (.getfield 182, 3) := by decide +kernel
theorem dX9_fellow_28 : decode cX9_fellow 28 = .ok (.iload_n 1, 1) := by decide +kernel
theorem dX9_fellow_29 : decode cX9_fellow 29 = .ok (.iaload, 1) := by decide +kernel
theorem dX9_fellow_30 : decode cX9_fellow 30 = .ok (.ireturn, 1) := by decide +kernel
theorem dX9_pairUp_0 : decode cX9_pairUp 0 = .ok (.aload_n 0, 1) := by decide +kernel
theorem dX9_pairUp_1 : decode cX9_pairUp 1 = .ok (.getfield 36, 3) := by decide +kernel
theorem dX9_pairUp_4 : decode cX9_pairUp 4 = .ok (.aload_n 0, 1) := by decide +kernel
theorem dX9_pairUp_5 : decode cX9_pairUp 5 = .ok (.getfield 10, 3) := by decide +kernel
theorem dX9_pairUp_8 : decode cX9_pairUp 8 = .ok (.invokevirtual 172, 3) := by decide +kernel
theorem dX9_pairUp_11 : decode cX9_pairUp 11 = .ok (.iconst 0, 1) := by decide +kernel
theorem dX9_pairUp_12 : decode cX9_pairUp 12 = .ok (.istore_n 1, 1) := by decide +kernel
theorem dX9_pairUp_13 : decode cX9_pairUp 13 = .ok (.iload_n 1, 1) := by decide +kernel
theorem dX9_pairUp_14 : decode cX9_pairUp 14 = .ok (.aload_n 0, 1) := by decide +kernel
theorem dX9_pairUp_15 : decode cX9_pairUp 15 = .ok (.getfield 10, 3) := by decide +kernel
theorem dX9_pairUp_18 : decode cX9_pairUp 18 = .ok (.getfield 99, 3) := by decide +kernel
theorem dX9_pairUp_21 : decode cX9_pairUp 21 = .ok (.if_icmp .ge 44, 3) := by decide +kernel
theorem dX9_pairUp_24 : decode cX9_pairUp 24 = .ok (.aload_n 0, 1) := by decide +kernel
theorem dX9_pairUp_25 : decode cX9_pairUp 25 = .ok (.getfield 36, 3) := by decide +kernel
theorem dX9_pairUp_28 : decode cX9_pairUp 28 = .ok (.getfield 182, 3) := by decide +kernel
theorem dX9_pairUp_31 : decode cX9_pairUp 31 = .ok (.iload_n 1, 1) := by decide +kernel
theorem dX9_pairUp_32 : decode cX9_pairUp 32 = .ok (.iaload, 1) := by decide +kernel
theorem dX9_pairUp_33 : decode cX9_pairUp 33 = .ok (.bipush (-4), 2) := by decide +kernel
theorem dX9_pairUp_35 : decode cX9_pairUp 35 = .ok (.if_icmp .eq 24, 3) := by decide +kernel
theorem dX9_pairUp_38 : decode cX9_pairUp 38 = .ok (.aload_n 0, 1) := by decide +kernel
theorem dX9_pairUp_39 : decode cX9_pairUp 39 = .ok (.getfield 10, 3) := by decide +kernel
theorem dX9_pairUp_42 : decode cX9_pairUp 42 = .ok (.getfield 114, 3) := by decide +kernel
theorem dX9_pairUp_45 : decode cX9_pairUp 45 = .ok (.iload_n 1, 1) := by decide +kernel
theorem dX9_pairUp_46 : decode cX9_pairUp 46 = .ok (.aaload, 1) := by decide +kernel
theorem dX9_pairUp_47 : decode cX9_pairUp 47 = .ok (.aload_n 0, 1) := by decide +kernel
theorem dX9_pairUp_48 : decode cX9_pairUp 48 = .ok (.getfield 36, 3) := by decide +kernel
theorem dX9_pairUp_51 : decode cX9_pairUp 51 = .ok (.getfield 182, 3) := by decide +kernel
theorem dX9_pairUp_54 : decode cX9_pairUp 54 = .ok (.iload_n 1, 1) := by decide +kernel
theorem dX9_pairUp_55 : decode cX9_pairUp 55 = .ok (.iaload, 1) := by decide +kernel
theorem dX9_pairUp_56 : decode cX9_pairUp 56 = .ok (.invokevirtual 185, 3) := by decide +kernel
theorem dX9_pairUp_59 : decode cX9_pairUp 59 = .ok (.iinc 1 1, 3) := by decide +kernel
theorem dX9_pairUp_62 : decode cX9_pairUp 62 = .ok (.goto (-49), 3) := by decide +kernel
theorem dX9_pairUp_65 : decode cX9_pairUp 65 = .ok (.aload_n 0, 1) := by decide +kernel
theorem dX9_pairUp_66 : decode cX9_pairUp 66 = .ok (.getfield 36, 3) := by decide +kernel
theorem dX9_pairUp_69 : decode cX9_pairUp 69 = .ok (.getfield 176, 3) := by decide +kernel
theorem dX9_pairUp_72 : decode cX9_pairUp 72 = .ok (.ireturn, 1) := by decide +kernel
theorem dX9_part_0 : decode cX9_part 0 = .ok (.aload_n 0, 1) := by decide +kernel
theorem dX9_part_1 : decode cX9_part 1 = .ok (.iload_n 1, 1) := by decide +kernel
theorem dX9_part_2 : decode cX9_part 2 = .ok (.invokevirtual 106, 3) := by decide +kernel
theorem dX9_part_5 : decode cX9_part 5 = .ok (.ifCond .ne 5, 3) := by decide +kernel
theorem dX9_part_8 : decode cX9_part 8 = .ok (.iconst (-1), 1) := by decide +kernel
theorem dX9_part_9 : decode cX9_part 9 = .ok (.ireturn, 1) := by decide +kernel
theorem dX9_part_10 : decode cX9_part 10 = .ok (.aload_n 0, 1) := by decide +kernel
theorem dX9_part_11 : decode cX9_part 11 = .ok (.getfield 10, 3) := by decide +kernel
theorem dX9_part_14 : decode cX9_part 14 = .ok (.iload_n 1, 1) := by decide +kernel
theorem dX9_part_15 : decode cX9_part 15 = .ok (.invokevirtual 189, 3) := by decide +kernel
theorem dX9_part_18 : decode cX9_part 18 = .ok (.ireturn, 1) := by decide +kernel
theorem dX9_judge_0 : decode cX9_judge 0 = .ok (.iload_n 1, 1) := by decide +kernel
theorem dX9_judge_1 : decode cX9_judge 1 = .ok (.iconst 4, 1) := by decide +kernel
theorem dX9_judge_2 : decode cX9_judge 2 = .ok (.invokestatic 75, 3) := by decide +kernel
theorem dX9_judge_5 : decode cX9_judge 5 = .ok (.ifCond .eq 11, 3) := by decide +kernel
theorem dX9_judge_8 : decode cX9_judge 8 = .ok (.iload_n 2, 1) := by decide +kernel
theorem dX9_judge_9 : decode cX9_judge 9 = .ok (.iconst 3, 1) := by decide +kernel
theorem dX9_judge_10 : decode cX9_judge 10 = .ok (.invokestatic 75, 3) := by decide +kernel
theorem dX9_judge_13 : decode cX9_judge 13 = .ok (.ifCond .ne 5, 3) := by decide +kernel
theorem dX9_judge_16 : decode cX9_judge 16 = .ok (.iconst (-1), 1) := by decide +kernel
theorem dX9_judge_17 : decode cX9_judge 17 = .ok (.ireturn, 1) := by decide +kernel
theorem dX9_judge_18 : decode cX9_judge 18 = .ok (.aload_n 0, 1) := by decide +kernel
theorem dX9_judge_19 : decode cX9_judge 19 = .ok (.getfield 70, 3) := by decide +kernel
theorem dX9_judge_22 : decode cX9_judge 22 = .ok (.iload_n 1, 1) := by decide +kernel
theorem dX9_judge_23 : decode cX9_judge 23 = .ok (.aaload, 1) := by decide +kernel
theorem dX9_judge_24 : decode cX9_judge 24 = .ok (.astore 4, 2) := by decide +kernel
theorem dX9_judge_26 : decode cX9_judge 26 = .ok (.aload 4, 2) := by decide +kernel
theorem dX9_judge_28 : decode cX9_judge 28 = .ok (.iload_n 2, 1) := by decide +kernel
theorem dX9_judge_29 : decode cX9_judge 29 = .ok (.iload_n 3, 1) := by decide +kernel
theorem dX9_judge_30 : decode cX9_judge 30 = .ok (.aload_n 0, 1) := by decide +kernel
theorem dX9_judge_31 : decode cX9_judge 31 = .ok (.getfield 10, 3) := by decide +kernel
theorem dX9_judge_34 : decode cX9_judge 34 = .ok (.getfield 99, 3) := by decide +kernel
theorem dX9_judge_37 : decode cX9_judge 37 = .ok (.invokevirtual 192, 3) := by decide +kernel
theorem dX9_judge_40 : decode cX9_judge 40 = .ok (.istore 5, 2) := by decide +kernel
theorem dX9_judge_42 : decode cX9_judge 42 = .ok (.iload 5, 2) := by decide +kernel
theorem dX9_judge_44 : decode cX9_judge 44 = .ok (.ifCond .eq 6, 3) := by decide +kernel
theorem dX9_judge_47 : decode cX9_judge 47 = .ok (.iload 5, 2) := by decide +kernel
theorem dX9_judge_49 : decode cX9_judge 49 = .ok (.ireturn, 1) := by decide +kernel
theorem dX9_judge_50 : decode cX9_judge 50 = .ok (.iconst 0, 1) := by decide +kernel
theorem dX9_judge_51 : decode cX9_judge 51 = .ok (.istore 6, 2) := by decide +kernel
theorem dX9_judge_53 : decode cX9_judge 53 = .ok (.iload 6, 2) := by decide +kernel
theorem dX9_judge_55 : decode cX9_judge 55 = .ok (.aload_n 0, 1) := by decide +kernel
theorem dX9_judge_56 : decode cX9_judge 56 = .ok (.getfield 10, 3) := by decide +kernel
theorem dX9_judge_59 : decode cX9_judge 59 = .ok (.getfield 99, 3) := by decide +kernel
theorem dX9_judge_62 : decode cX9_judge 62 = .ok (.if_icmp .ge 24, 3) := by decide +kernel
theorem dX9_judge_65 : decode cX9_judge 65 = .ok (.aload_n 0, 1) := by decide +kernel
theorem dX9_judge_66 : decode cX9_judge 66 = .ok (.aload 4, 2) := by decide +kernel
theorem dX9_judge_68 : decode cX9_judge 68 = .ok (.iload_n 3, 1) := by decide +kernel
theorem dX9_judge_69 : decode cX9_judge 69 = .ok (.iload 6, 2) := by decide +kernel
theorem dX9_judge_71 : decode cX9_judge 71 = .ok (.invokevirtual 196, 3) := by decide +kernel
theorem dX9_judge_74 : decode cX9_judge 74 = .ok (.ifCond .ne 6, 3) := by decide +kernel
theorem dX9_judge_77 : decode cX9_judge 77 = .ok (.iload 6, 2) := by decide +kernel
theorem dX9_judge_79 : decode cX9_judge 79 = .ok (.ireturn, 1) := by decide +kernel
theorem dX9_judge_80 : decode cX9_judge 80 = .ok (.iinc 6 1, 3) := by decide +kernel
theorem dX9_judge_83 : decode cX9_judge 83 = .ok (.goto (-30), 3) := by decide +kernel
theorem dX9_judge_86 : decode cX9_judge 86 = .ok (.bipush (-4), 2) := by decide +kernel
theorem dX9_judge_88 : decode cX9_judge 88 = .ok (.ireturn, 1) := by decide +kernel
theorem dX9_thrown_0 : decode cX9_thrown 0 = .ok (.aload_n 0, 1) := by decide +kernel
theorem dX9_thrown_1 : decode cX9_thrown 1 = .ok (.iload_n 1, 1) := by decide +kernel
theorem dX9_thrown_2 : decode cX9_thrown 2 = .ok (.iload_n 2, 1) := by decide +kernel
theorem dX9_thrown_3 : decode cX9_thrown 3 = .ok (.iload_n 3, 1) := by decide +kernel
theorem dX9_thrown_4 : decode cX9_thrown 4 = .ok (.iload 4, 2) := by decide +kernel
theorem dX9_thrown_6 : decode cX9_thrown 6 = .ok (.iload 5, 2) := by decide +kernel
theorem dX9_thrown_8 : decode cX9_thrown 8 = .ok (.iload 6, 2) := by decide +kernel
theorem dX9_thrown_10 : decode cX9_thrown 10 = .ok (.invokevirtual 200, 3) := by decide +kernel
theorem dX9_thrown_13 : decode cX9_thrown 13 = .ok (.istore 7, 2) := by decide +kernel
theorem dX9_thrown_15 : decode cX9_thrown 15 = .ok (.iload 7, 2) := by decide +kernel
theorem dX9_thrown_17 : decode cX9_thrown 17 = .ok (.ifCond .eq 8, 3) := by decide +kernel
theorem dX9_thrown_20 : decode cX9_thrown 20 = .ok (.iload 7, 2) := by decide +kernel
theorem dX9_thrown_22 : decode cX9_thrown 22 = .ok (.goto 10, 3) := by decide +kernel
theorem dX9_thrown_25 : decode cX9_thrown 25 = .ok (.aload_n 0, 1) := by decide +kernel
theorem dX9_thrown_26 : decode cX9_thrown 26 = .ok (.getfield 43, 3) := by decide +kernel
theorem dX9_thrown_29 : decode cX9_thrown 29 = .ok (.invokevirtual 204, 3) := by decide +kernel
theorem dX9_thrown_32 : decode cX9_thrown 32 = .ok (.ireturn, 1) := by decide +kernel
theorem dX9_worth_0 : decode cX9_worth 0 = .ok (.iload 7, 2) := by decide +kernel
theorem dX9_worth_2 : decode cX9_worth 2 = .ok (.iconst 2, 1) := by decide +kernel
theorem dX9_worth_3 : decode cX9_worth 3 = .ok (.invokestatic 75, 3) := by decide +kernel
theorem dX9_worth_6 : decode cX9_worth 6 = .ok (.ifCond .ne 7, 3) := by decide +kernel
theorem dX9_worth_9 : decode cX9_worth 9 = .ok (.ldc2_w 207, 3) := by decide +kernel
theorem dX9_worth_12 : decode cX9_worth 12 = .ok (.lreturn, 1) := by decide +kernel
theorem dX9_worth_13 : decode cX9_worth 13 = .ok (.aload_n 0, 1) := by decide +kernel
theorem dX9_worth_14 : decode cX9_worth 14 = .ok (.iload_n 1, 1) := by decide +kernel
theorem dX9_worth_15 : decode cX9_worth 15 = .ok (.iload_n 2, 1) := by decide +kernel
theorem dX9_worth_16 : decode cX9_worth 16 = .ok (.iload_n 3, 1) := by decide +kernel
theorem dX9_worth_17 : decode cX9_worth 17 = .ok (.iload 4, 2) := by decide +kernel
theorem dX9_worth_19 : decode cX9_worth 19 = .ok (.iload 5, 2) := by decide +kernel
theorem dX9_worth_21 : decode cX9_worth 21 = .ok (.iload 6, 2) := by decide +kernel
theorem dX9_worth_23 : decode cX9_worth 23 = .ok (.invokevirtual 200, 3) := by decide +kernel
theorem dX9_worth_26 : decode cX9_worth 26 = .ok (.istore 8, 2) := by decide +kernel
theorem dX9_worth_28 : decode cX9_worth 28 = .ok (.iload 8, 2) := by decide +kernel
theorem dX9_worth_30 : decode cX9_worth 30 = .ok (.ifCond .eq 9, 3) := by decide +kernel
theorem dX9_worth_33 : decode cX9_worth 33 = .ok (.iload 8, 2) := by decide +kernel
theorem dX9_worth_35 : decode cX9_worth 35 = .ok (.i2l, 1) := by decide +kernel
theorem dX9_worth_36 : decode cX9_worth 36 = .ok (.goto 24, 3) := by decide +kernel
theorem dX9_worth_39 : decode cX9_worth 39 = .ok (.aload_n 0, 1) := by decide +kernel
theorem dX9_worth_40 : decode cX9_worth 40 = .ok (.getfield 43, 3) := by decide +kernel
theorem dX9_worth_43 : decode cX9_worth 43 = .ok (.getfield 209, 3) := by decide +kernel
theorem dX9_worth_46 : decode cX9_worth 46 = .ok (.iconst 0, 1) := by decide +kernel
theorem dX9_worth_47 : decode cX9_worth 47 = .ok (.laload, 1) := by decide +kernel
theorem dX9_worth_48 : decode cX9_worth 48 = .ok (.aload_n 0, 1) := by decide +kernel
theorem dX9_worth_49 : decode cX9_worth 49 = .ok (.getfield 43, 3) := by decide +kernel
theorem dX9_worth_52 : decode cX9_worth 52 = .ok (.getfield 213, 3) := by decide +kernel
theorem dX9_worth_55 : decode cX9_worth 55 = .ok (.iload 7, 2) := by decide +kernel
theorem dX9_worth_57 : decode cX9_worth 57 = .ok (.invokestatic 217, 3) := by decide +kernel
theorem dX9_worth_60 : decode cX9_worth 60 = .ok (.lreturn, 1) := by decide +kernel
theorem dX9_worst_0 : decode cX9_worst 0 = .ok (.aload_n 0, 1) := by decide +kernel
theorem dX9_worst_1 : decode cX9_worst 1 = .ok (.getfield 50, 3) := by decide +kernel
theorem dX9_worst_4 : decode cX9_worst 4 = .ok (.aload_n 0, 1) := by decide +kernel
theorem dX9_worst_5 : decode cX9_worst 5 = .ok (.getfield 10, 3) := by decide +kernel
theorem dX9_worst_8 : decode cX9_worst 8 = .ok (.invokevirtual 221, 3) := by decide +kernel
theorem dX9_worst_11 : decode cX9_worst 11 = .ok (.aload_n 0, 1) := by decide +kernel
theorem dX9_worst_12 : decode cX9_worst 12 = .ok (.getfield 50, 3) := by decide +kernel
theorem dX9_worst_15 : decode cX9_worst 15 = .ok (.invokevirtual 224, 3) := by decide +kernel
theorem dX9_worst_18 : decode cX9_worst 18 = .ok (.iconst 1, 1) := by decide +kernel
theorem dX9_worst_19 : decode cX9_worst 19 = .ok (.iadd, 1) := by decide +kernel
theorem dX9_worst_20 : decode cX9_worst 20 = .ok (.istore_n 1, 1) := by decide +kernel
theorem dX9_worst_21 : decode cX9_worst 21 = .ok (.iload_n 1, 1) := by decide +kernel
theorem dX9_worst_22 : decode cX9_worst 22 = .ok (.aload_n 0, 1) := by decide +kernel
theorem dX9_worst_23 : decode cX9_worst 23 = .ok (.getfield 50, 3) := by decide +kernel
theorem dX9_worst_26 : decode cX9_worst 26 = .ok (.getfield 227, 3) := by decide +kernel
theorem dX9_worst_29 : decode cX9_worst 29 = .ok (.if_icmp .le 8, 3) := by decide +kernel
theorem dX9_worst_32 : decode cX9_worst 32 = .ok (.bipush (-4), 2) := by decide +kernel
theorem dX9_worst_34 : decode cX9_worst 34 = .ok (.goto 4, 3) := by decide +kernel
theorem dX9_worst_37 : decode cX9_worst 37 = .ok (.iload_n 1, 1) := by decide +kernel
theorem dX9_worst_38 : decode cX9_worst 38 = .ok (.ireturn, 1) := by decide +kernel
theorem dX9_odds_0 : decode cX9_odds 0 = .ok (.iload_n 1, 1) := by decide +kernel
theorem dX9_odds_1 : decode cX9_odds 1 = .ok (.bipush 13, 2) := by decide +kernel
theorem dX9_odds_3 : decode cX9_odds 3 = .ok (.invokestatic 75, 3) := by decide +kernel
theorem dX9_odds_6 : decode cX9_odds 6 = .ok (.ifCond .eq 11, 3) := by decide +kernel
theorem dX9_odds_9 : decode cX9_odds 9 = .ok (.iload_n 2, 1) := by decide +kernel
theorem dX9_odds_10 : decode cX9_odds 10 = .ok (.iconst 2, 1) := by decide +kernel
theorem dX9_odds_11 : decode cX9_odds 11 = .ok (.invokestatic 75, 3) := by decide +kernel
theorem dX9_odds_14 : decode cX9_odds 14 = .ok (.ifCond .ne 5, 3) := by decide +kernel
theorem dX9_odds_17 : decode cX9_odds 17 = .ok (.iconst (-1), 1) := by decide +kernel
theorem dX9_odds_18 : decode cX9_odds 18 = .ok (.ireturn, 1) := by decide +kernel
theorem dX9_odds_19 : decode cX9_odds 19 = .ok (.aload_n 0, 1) := by decide +kernel
theorem dX9_odds_20 : decode cX9_odds 20 = .ok (.getfield 50, 3) := by decide +kernel
theorem dX9_odds_23 : decode cX9_odds 23 = .ok (.aload_n 0, 1) := by decide +kernel
theorem dX9_odds_24 : decode cX9_odds 24 = .ok (.getfield 10, 3) := by decide +kernel
theorem dX9_odds_27 : decode cX9_odds 27 = .ok (.invokevirtual 221, 3) := by decide +kernel
theorem dX9_odds_30 : decode cX9_odds 30 = .ok (.iload_n 1, 1) := by decide +kernel
theorem dX9_odds_31 : decode cX9_odds 31 = .ok (.aload_n 0, 1) := by decide +kernel
theorem dX9_odds_32 : decode cX9_odds 32 = .ok (.getfield 50, 3) := by decide +kernel
theorem dX9_odds_35 : decode cX9_odds 35 = .ok (.getfield 227, 3) := by decide +kernel
theorem dX9_odds_38 : decode cX9_odds 38 = .ok (.if_icmp .le 6, 3) := by decide +kernel
theorem dX9_odds_41 : decode cX9_odds 41 = .ok (.bipush (-2), 2) := by decide +kernel
theorem dX9_odds_43 : decode cX9_odds 43 = .ok (.ireturn, 1) := by decide +kernel
theorem dX9_odds_44 : decode cX9_odds 44 = .ok (.aload_n 0, 1) := by decide +kernel
theorem dX9_odds_45 : decode cX9_odds 45 = .ok (.getfield 50, 3) := by decide +kernel
theorem dX9_odds_48 : decode cX9_odds 48 = .ok (.getfield 227, 3) := by decide +kernel
theorem dX9_odds_51 : decode cX9_odds 51 = .ok (.iload_n 1, 1) := by decide +kernel
theorem dX9_odds_52 : decode cX9_odds 52 = .ok (.invokestatic 230, 3) := by decide +kernel
theorem dX9_odds_55 : decode cX9_odds 55 = .ok (.lstore_n 3, 1) := by decide +kernel
theorem dX9_odds_56 : decode cX9_odds 56 = .ok (.lload_n 3, 1) := by decide +kernel
theorem dX9_odds_57 : decode cX9_odds 57 = .ok (.aload_n 0, 1) := by decide +kernel
theorem dX9_odds_58 : decode cX9_odds 58 = .ok (.getfield 50, 3) := by decide +kernel
theorem dX9_odds_61 : decode cX9_odds 61 = .ok (.getfield 234, 3) := by decide +kernel
theorem dX9_odds_64 : decode cX9_odds 64 = .ok (.iload_n 1, 1) := by decide +kernel
theorem dX9_odds_65 : decode cX9_odds 65 = .ok (.laload, 1) := by decide +kernel
theorem dX9_odds_66 : decode cX9_odds 66 = .ok (.lsub, 1) := by decide +kernel
theorem dX9_odds_67 : decode cX9_odds 67 = .ok (.lload_n 3, 1) := by decide +kernel
theorem dX9_odds_68 : decode cX9_odds 68 = .ok (.iload_n 2, 1) := by decide +kernel
theorem dX9_odds_69 : decode cX9_odds 69 = .ok (.invokestatic 217, 3) := by decide +kernel
theorem dX9_odds_72 : decode cX9_odds 72 = .ok (.l2i, 1) := by decide +kernel
theorem dX9_odds_73 : decode cX9_odds 73 = .ok (.ireturn, 1) := by decide +kernel
theorem dX9_owns_0 : decode cX9_owns 0 = .ok (.iload_n 1, 1) := by decide +kernel
theorem dX9_owns_1 : decode cX9_owns 1 = .ok (.iconst 3, 1) := by decide +kernel
theorem dX9_owns_2 : decode cX9_owns 2 = .ok (.invokestatic 75, 3) := by decide +kernel
theorem dX9_owns_5 : decode cX9_owns 5 = .ok (.ifCond .eq 12, 3) := by decide +kernel
theorem dX9_owns_8 : decode cX9_owns 8 = .ok (.iload_n 2, 1) := by decide +kernel
theorem dX9_owns_9 : decode cX9_owns 9 = .ok (.bipush 6, 2) := by decide +kernel
theorem dX9_owns_11 : decode cX9_owns 11 = .ok (.invokestatic 75, 3) := by decide +kernel
theorem dX9_owns_14 : decode cX9_owns 14 = .ok (.ifCond .ne 5, 3) := by decide +kernel
theorem dX9_owns_17 : decode cX9_owns 17 = .ok (.iconst (-1), 1) := by decide +kernel
theorem dX9_owns_18 : decode cX9_owns 18 = .ok (.ireturn, 1) := by decide +kernel
theorem dX9_owns_19 : decode cX9_owns 19 = .ok (.iload_n 3, 1) := by decide +kernel
theorem dX9_owns_20 : decode cX9_owns 20 = .ok (.ifCond .lt 16, 3) := by decide +kernel
theorem dX9_owns_23 : decode cX9_owns 23 = .ok (.iload 4, 2) := by decide +kernel
theorem dX9_owns_25 : decode cX9_owns 25 = .ok (.bipush 12, 2) := by decide +kernel
theorem dX9_owns_27 : decode cX9_owns 27 = .ok (.if_icmp .gt 9, 3) := by decide +kernel
theorem dX9_owns_30 : decode cX9_owns 30 = .ok (.iload_n 3, 1) := by decide +kernel
theorem dX9_owns_31 : decode cX9_owns 31 = .ok (.iload 4, 2) := by decide +kernel
theorem dX9_owns_33 : decode cX9_owns 33 = .ok (.if_icmp .le 5, 3) := by decide +kernel
theorem dX9_owns_36 : decode cX9_owns 36 = .ok (.iconst (-1), 1) := by decide +kernel
theorem dX9_owns_37 : decode cX9_owns 37 = .ok (.ireturn, 1) := by decide +kernel
theorem dX9_owns_38 : decode cX9_owns 38 = .ok (.iload_n 1, 1) := by decide +kernel
theorem dX9_owns_39 : decode cX9_owns 39 = .ok (.bipush 6, 2) := by decide +kernel
theorem dX9_owns_41 : decode cX9_owns 41 = .ok (.imul, 1) := by decide +kernel
theorem dX9_owns_42 : decode cX9_owns 42 = .ok (.iload_n 2, 1) := by decide +kernel
theorem dX9_owns_43 : decode cX9_owns 43 = .ok (.iadd, 1) := by decide +kernel
theorem dX9_owns_44 : decode cX9_owns 44 = .ok (.istore 5, 2) := by decide +kernel
theorem dX9_owns_46 : decode cX9_owns 46 = .ok (.aload_n 0, 1) := by decide +kernel
theorem dX9_owns_47 : decode cX9_owns 47 = .ok (.getfield 10, 3) := by decide +kernel
theorem dX9_owns_50 : decode cX9_owns 50 = .ok (.getfield 237, 3) := by decide +kernel
theorem dX9_owns_53 : decode cX9_owns 53 = .ok (.iload 5, 2) := by decide +kernel
theorem dX9_owns_55 : decode cX9_owns 55 = .ok (.iaload, 1) := by decide +kernel
theorem dX9_owns_56 : decode cX9_owns 56 = .ok (.bipush 16, 2) := by decide +kernel
theorem dX9_owns_58 : decode cX9_owns 58 = .ok (.aload_n 0, 1) := by decide +kernel
theorem dX9_owns_59 : decode cX9_owns 59 = .ok (.getfield 10, 3) := by decide +kernel
theorem dX9_owns_62 : decode cX9_owns 62 = .ok (.getfield 240, 3) := by decide +kernel
theorem dX9_owns_65 : decode cX9_owns 65 = .ok (.iload 5, 2) := by decide +kernel
theorem dX9_owns_67 : decode cX9_owns 67 = .ok (.iaload, 1) := by decide +kernel
theorem dX9_owns_68 : decode cX9_owns 68 = .ok (.imul, 1) := by decide +kernel
theorem dX9_owns_69 : decode cX9_owns 69 = .ok (.iadd, 1) := by decide +kernel
theorem dX9_owns_70 : decode cX9_owns 70 = .ok (.istore 6, 2) := by decide +kernel
theorem dX9_owns_72 : decode cX9_owns 72 = .ok (.aload_n 0, 1) := by decide +kernel
theorem dX9_owns_73 : decode cX9_owns 73 = .ok (.getfield 10, 3) := by decide +kernel
theorem dX9_owns_76 : decode cX9_owns 76 = .ok (.getfield 237, 3) := by decide +kernel
theorem dX9_owns_79 : decode cX9_owns 79 = .ok (.iload 5, 2) := by decide +kernel
theorem dX9_owns_81 : decode cX9_owns 81 = .ok (.iload_n 3, 1) := by decide +kernel
theorem dX9_owns_82 : decode cX9_owns 82 = .ok (.iastore, 1) := by decide +kernel
theorem dX9_owns_83 : decode cX9_owns 83 = .ok (.aload_n 0, 1) := by decide +kernel
theorem dX9_owns_84 : decode cX9_owns 84 = .ok (.getfield 10, 3) := by decide +kernel
theorem dX9_owns_87 : decode cX9_owns 87 = .ok (.getfield 240, 3) := by decide +kernel
theorem dX9_owns_90 : decode cX9_owns 90 = .ok (.iload 5, 2) := by decide +kernel
theorem dX9_owns_92 : decode cX9_owns 92 = .ok (.iload 4, 2) := by decide +kernel
theorem dX9_owns_94 : decode cX9_owns 94 = .ok (.iastore, 1) := by decide +kernel
theorem dX9_owns_95 : decode cX9_owns 95 = .ok (.iload 6, 2) := by decide +kernel
theorem dX9_owns_97 : decode cX9_owns 97 = .ok (.ireturn, 1) := by decide +kernel
theorem dX9_may_0 : decode cX9_may 0 = .ok (.aload_n 0, 1) := by decide +kernel
theorem dX9_may_1 : decode cX9_may 1 = .ok (.iload_n 1, 1) := by decide +kernel
theorem dX9_may_2 : decode cX9_may 2 = .ok (.invokevirtual 106, 3) := by decide +kernel
theorem dX9_may_5 : decode cX9_may 5 = .ok (.ifCond .eq 14, 3) := by decide +kernel
theorem dX9_may_8 : decode cX9_may 8 = .ok (.iload_n 2, 1) := by decide +kernel
theorem dX9_may_9 : decode cX9_may 9 = .ok (.iconst 1, 1) := by decide +kernel
theorem dX9_may_10 : decode cX9_may 10 = .ok (.if_icmp .lt 9, 3) := by decide +kernel
theorem dX9_may_13 : decode cX9_may 13 = .ok (.iload_n 2, 1) := by decide +kernel
theorem dX9_may_14 : decode cX9_may 14 = .ok (.bipush 7, 2) := by decide +kernel
theorem dX9_may_16 : decode cX9_may 16 = .ok (.if_icmp .le 5, 3) := by decide +kernel
theorem dX9_may_19 : decode cX9_may 19 = .ok (.iconst (-1), 1) := by decide +kernel
theorem dX9_may_20 : decode cX9_may 20 = .ok (.ireturn, 1) := by decide +kernel
theorem dX9_may_21 : decode cX9_may 21 = .ok (.aload_n 0, 1) := by decide +kernel
theorem dX9_may_22 : decode cX9_may 22 = .ok (.getfield 10, 3) := by decide +kernel
theorem dX9_may_25 : decode cX9_may 25 = .ok (.getfield 114, 3) := by decide +kernel
theorem dX9_may_28 : decode cX9_may 28 = .ok (.iload_n 1, 1) := by decide +kernel
theorem dX9_may_29 : decode cX9_may 29 = .ok (.aaload, 1) := by decide +kernel
theorem dX9_may_30 : decode cX9_may 30 = .ok (.getfield 243, 3) := by decide +kernel
theorem dX9_may_33 : decode cX9_may 33 = .ok (.istore_n 3, 1) := by decide +kernel
theorem dX9_may_34 : decode cX9_may 34 = .ok (.aload_n 0, 1) := by decide +kernel
theorem dX9_may_35 : decode cX9_may 35 = .ok (.getfield 10, 3) := by decide +kernel
theorem dX9_may_38 : decode cX9_may 38 = .ok (.getfield 114, 3) := by decide +kernel
theorem dX9_may_41 : decode cX9_may 41 = .ok (.iload_n 1, 1) := by decide +kernel
theorem dX9_may_42 : decode cX9_may 42 = .ok (.aaload, 1) := by decide +kernel
theorem dX9_may_43 : decode cX9_may 43 = .ok (.iload_n 2, 1) := by decide +kernel
theorem dX9_may_44 : decode cX9_may 44 = .ok (.putfield 243, 3) := by decide +kernel
theorem dX9_may_47 : decode cX9_may 47 = .ok (.iload_n 3, 1) := by decide +kernel
theorem dX9_may_48 : decode cX9_may 48 = .ok (.ireturn, 1) := by decide +kernel
theorem dX9_bind_0 : decode cX9_bind 0 = .ok (.aload_n 0, 1) := by decide +kernel
theorem dX9_bind_1 : decode cX9_bind 1 = .ok (.iload_n 1, 1) := by decide +kernel
theorem dX9_bind_2 : decode cX9_bind 2 = .ok (.iload_n 2, 1) := by decide +kernel
theorem dX9_bind_3 : decode cX9_bind 3 = .ok (.invokevirtual 149, 3) := by decide +kernel
theorem dX9_bind_6 : decode cX9_bind 6 = .ok (.ifCond .ne 5, 3) := by decide +kernel
theorem dX9_bind_9 : decode cX9_bind 9 = .ok (.iconst (-1), 1) := by decide +kernel
theorem dX9_bind_10 : decode cX9_bind 10 = .ok (.ireturn, 1) := by decide +kernel
theorem dX9_bind_11 : decode cX9_bind 11 = .ok (.aload_n 0, 1) := by decide +kernel
theorem dX9_bind_12 : decode cX9_bind 12 = .ok (.getfield 10, 3) := by decide +kernel
theorem dX9_bind_15 : decode cX9_bind 15 = .ok (.getfield 114, 3) := by decide +kernel
theorem dX9_bind_18 : decode cX9_bind 18 = .ok (.iload_n 1, 1) := by decide +kernel
theorem dX9_bind_19 : decode cX9_bind 19 = .ok (.aaload, 1) := by decide +kernel
theorem dX9_bind_20 : decode cX9_bind 20 = .ok (.getfield 246, 3) := by decide +kernel
theorem dX9_bind_23 : decode cX9_bind 23 = .ok (.aload_n 0, 1) := by decide +kernel
theorem dX9_bind_24 : decode cX9_bind 24 = .ok (.getfield 10, 3) := by decide +kernel
theorem dX9_bind_27 : decode cX9_bind 27 = .ok (.getfield 114, 3) := by decide +kernel
theorem dX9_bind_30 : decode cX9_bind 30 = .ok (.iload_n 2, 1) := by decide +kernel
theorem dX9_bind_31 : decode cX9_bind 31 = .ok (.aaload, 1) := by decide +kernel
theorem dX9_bind_32 : decode cX9_bind 32 = .ok (.getfield 246, 3) := by decide +kernel
theorem dX9_bind_35 : decode cX9_bind 35 = .ok (.if_icmp .eq 6, 3) := by decide +kernel
theorem dX9_bind_38 : decode cX9_bind 38 = .ok (.bipush (-2), 2) := by decide +kernel
theorem dX9_bind_40 : decode cX9_bind 40 = .ok (.ireturn, 1) := by decide +kernel
theorem dX9_bind_41 : decode cX9_bind 41 = .ok (.aload_n 0, 1) := by decide +kernel
theorem dX9_bind_42 : decode cX9_bind 42 = .ok (.getfield 10, 3) := by decide +kernel
theorem dX9_bind_45 : decode cX9_bind 45 = .ok (.iload_n 1, 1) := by decide +kernel
theorem dX9_bind_46 : decode cX9_bind 46 = .ok (.iload_n 2, 1) := by decide +kernel
theorem dX9_bind_47 : decode cX9_bind 47 = .ok (.invokevirtual 249, 3) := by decide +kernel
theorem dX9_bind_50 : decode cX9_bind 50 = .ok (.ifCond .eq 7, 3) := by decide +kernel
theorem dX9_bind_53 : decode cX9_bind 53 = .ok (.iconst 1, 1) := by decide +kernel
theorem dX9_bind_54 : decode cX9_bind 54 = .ok (.goto 5, 3) := by decide +kernel
theorem dX9_bind_57 : decode cX9_bind 57 = .ok (.bipush (-4), 2) := by decide +kernel
theorem dX9_bind_59 : decode cX9_bind 59 = .ok (.ireturn, 1) := by decide +kernel
theorem dX9_ways_0 : decode cX9_ways 0 = .ok (.aload_n 0, 1) := by decide +kernel
theorem dX9_ways_1 : decode cX9_ways 1 = .ok (.getfield 57, 3) := by decide +kernel
theorem dX9_ways_4 : decode cX9_ways 4 = .ok (.aload_n 0, 1) := by decide +kernel
theorem dX9_ways_5 : decode cX9_ways 5 = .ok (.getfield 10, 3) := by decide +kernel
theorem dX9_ways_8 : decode cX9_ways 8 = .ok (.bipush (-4), 2) := by decide +kernel
theorem dX9_ways_10 : decode cX9_ways 10 = .ok (.bipush 7, 2) := by decide +kernel
theorem dX9_ways_12 : decode cX9_ways 12 = .ok (.invokevirtual 252, 3) := by decide +kernel
theorem dX9_ways_15 : decode cX9_ways 15 = .ok (.lreturn, 1) := by decide +kernel
theorem dX9_whose_0 : decode cX9_whose 0 = .ok (.aload_n 0, 1) := by decide +kernel
theorem dX9_whose_1 : decode cX9_whose 1 = .ok (.iload_n 1, 1) := by decide +kernel
theorem dX9_whose_2 : decode cX9_whose 2 = .ok (.invokevirtual 106, 3) := by decide +kernel
theorem dX9_whose_5 : decode cX9_whose 5 = .ok (.ifCond .ne 5, 3) := by decide +kernel
theorem dX9_whose_8 : decode cX9_whose 8 = .ok (.iconst (-1), 1) := by decide +kernel
theorem dX9_whose_9 : decode cX9_whose 9 = .ok (.ireturn, 1) := by decide +kernel
theorem dX9_whose_10 : decode cX9_whose 10 = .ok (.iconst 0, 1) := by decide +kernel
theorem dX9_whose_11 : decode cX9_whose 11 = .ok (.istore_n 2, 1) := by decide +kernel
theorem dX9_whose_12 : decode cX9_whose 12 = .ok (.iconst 0, 1) := by decide +kernel
theorem dX9_whose_13 : decode cX9_whose 13 = .ok (.istore_n 3, 1) := by decide +kernel
theorem dX9_whose_14 : decode cX9_whose 14 = .ok (.iload_n 3, 1) := by decide +kernel
theorem dX9_whose_15 : decode cX9_whose 15 = .ok (.iconst 3, 1) := by decide +kernel
theorem dX9_whose_16 : decode cX9_whose 16 = .ok (.if_icmp .ge 35, 3) := by decide +kernel
theorem dX9_whose_19 : decode cX9_whose 19 = .ok (.aload_n 0, 1) := by decide +kernel
theorem dX9_whose_20 : decode cX9_whose 20 = .ok (.getfield 57, 3) := by decide +kernel
theorem dX9_whose_23 : decode cX9_whose 23 = .ok (.aload_n 0, 1) := by decide +kernel
theorem dX9_whose_24 : decode cX9_whose 24 = .ok (.getfield 10, 3) := by decide +kernel
theorem dX9_whose_27 : decode cX9_whose 27 = .ok (.iload_n 1, 1) := by decide +kernel
theorem dX9_whose_28 : decode cX9_whose 28 = .ok (.iconst 1, 1) := by decide +kernel
theorem dX9_whose_29 : decode cX9_whose 29 = .ok (.iload_n 3, 1) := by decide +kernel
theorem dX9_whose_30 : decode cX9_whose 30 = .ok (.ishl, 1) := by decide +kernel
theorem dX9_whose_31 : decode cX9_whose 31 = .ok (.invokevirtual 252, 3) := by decide +kernel
theorem dX9_whose_34 : decode cX9_whose 34 = .ok (.lconst 0, 1) := by decide +kernel
theorem dX9_whose_35 : decode cX9_whose 35 = .ok (.lcmp, 1) := by decide +kernel
theorem dX9_whose_36 : decode cX9_whose 36 = .ok (.ifCond .le 9, 3) := by decide +kernel
theorem dX9_whose_39 : decode cX9_whose 39 = .ok (.iload_n 2, 1) := by decide +kernel
theorem dX9_whose_40 : decode cX9_whose 40 = .ok (.iconst 1, 1) := by decide +kernel
theorem dX9_whose_41 : decode cX9_whose 41 = .ok (.iload_n 3, 1) := by decide +kernel
theorem dX9_whose_42 : decode cX9_whose 42 = .ok (.ishl, 1) := by decide +kernel
theorem dX9_whose_43 : decode cX9_whose 43 = .ok (.ior, 1) := by decide +kernel
theorem dX9_whose_44 : decode cX9_whose 44 = .ok (.istore_n 2, 1) := by decide +kernel
theorem dX9_whose_45 : decode cX9_whose 45 = .ok (.iinc 3 1, 3) := by decide +kernel
theorem dX9_whose_48 : decode cX9_whose 48 = .ok (.goto (-34), 3) := by decide +kernel
theorem dX9_whose_51 : decode cX9_whose 51 = .ok (.iload_n 2, 1) := by decide +kernel
theorem dX9_whose_52 : decode cX9_whose 52 = .ok (.ifCond .ne 8, 3) := by decide +kernel
theorem dX9_whose_55 : decode cX9_whose 55 = .ok (.bipush (-4), 2) := by decide +kernel
theorem dX9_whose_57 : decode cX9_whose 57 = .ok (.goto 4, 3) := by decide +kernel
theorem dX9_whose_60 : decode cX9_whose 60 = .ok (.iload_n 2, 1) := by decide +kernel
theorem dX9_whose_61 : decode cX9_whose 61 = .ok (.ireturn, 1) := by decide +kernel
theorem dX9_seldom_0 : decode cX9_seldom 0 = .ok (.iload_n 1, 1) := by decide +kernel
theorem dX9_seldom_1 : decode cX9_seldom 1 = .ok (.iconst 2, 1) := by decide +kernel
theorem dX9_seldom_2 : decode cX9_seldom 2 = .ok (.invokestatic 75, 3) := by decide +kernel
theorem dX9_seldom_5 : decode cX9_seldom 5 = .ok (.ifCond .ne 5, 3) := by decide +kernel
theorem dX9_seldom_8 : decode cX9_seldom 8 = .ok (.iconst (-1), 1) := by decide +kernel
theorem dX9_seldom_9 : decode cX9_seldom 9 = .ok (.ireturn, 1) := by decide +kernel
theorem dX9_seldom_10 : decode cX9_seldom 10 = .ok (.aload_n 0, 1) := by decide +kernel
theorem dX9_seldom_11 : decode cX9_seldom 11 = .ok (.getfield 10, 3) := by decide +kernel
theorem dX9_seldom_14 : decode cX9_seldom 14 = .ok (.iconst 1, 1) := by decide +kernel
theorem dX9_seldom_15 : decode cX9_seldom 15 = .ok (.invokevirtual 158, 3) := by decide +kernel
theorem dX9_seldom_18 : decode cX9_seldom 18 = .ok (.istore_n 2, 1) := by decide +kernel
theorem dX9_seldom_19 : decode cX9_seldom 19 = .ok (.iload_n 2, 1) := by decide +kernel
theorem dX9_seldom_20 : decode cX9_seldom 20 = .ok (.ifCond .ne 6, 3) := by decide +kernel
theorem dX9_seldom_23 : decode cX9_seldom 23 = .ok (.bipush (-2), 2) := by decide +kernel
theorem dX9_seldom_25 : decode cX9_seldom 25 = .ok (.ireturn, 1) := by decide +kernel
theorem dX9_seldom_26 : decode cX9_seldom 26 = .ok (.aload_n 0, 1) := by decide +kernel
theorem dX9_seldom_27 : decode cX9_seldom 27 = .ok (.getfield 10, 3) := by decide +kernel
theorem dX9_seldom_30 : decode cX9_seldom 30 = .ok (.iconst 1, 1) := by decide +kernel
theorem dX9_seldom_31 : decode cX9_seldom 31 = .ok (.iconst 0, 1) := by decide +kernel
theorem dX9_seldom_32 : decode cX9_seldom 32 = .ok (.invokevirtual 169, 3) := by decide +kernel
theorem dX9_seldom_35 : decode cX9_seldom 35 = .ok (.istore_n 3, 1) := by decide +kernel
theorem dX9_seldom_36 : decode cX9_seldom 36 = .ok (.iload_n 2, 1) := by decide +kernel
theorem dX9_seldom_37 : decode cX9_seldom 37 = .ok (.invokestatic 161, 3) := by decide +kernel
theorem dX9_seldom_40 : decode cX9_seldom 40 = .ok (.istore 4, 2) := by decide +kernel
theorem dX9_seldom_42 : decode cX9_seldom 42 = .ok (.iload_n 3, 1) := by decide +kernel
theorem dX9_seldom_43 : decode cX9_seldom 43 = .ok (.invokestatic 161, 3) := by decide +kernel
theorem dX9_seldom_46 : decode cX9_seldom 46 = .ok (.istore 5, 2) := by decide +kernel
theorem dX9_seldom_48 : decode cX9_seldom 48 = .ok (.lconst 0, 1) := by decide +kernel
theorem dX9_seldom_49 : decode cX9_seldom 49 = .ok (.lstore 6, 2) := by decide +kernel
theorem dX9_seldom_51 : decode cX9_seldom 51 = .ok (.iload_n 2, 1) := by decide +kernel
theorem dX9_seldom_52 : decode cX9_seldom 52 = .ok (.iload_n 3, 1) := by decide +kernel
theorem dX9_seldom_53 : decode cX9_seldom 53 = .ok (.iand, 1) := by decide +kernel
theorem dX9_seldom_54 : decode cX9_seldom 54 = .ok (.invokestatic 161, 3) := by decide +kernel
theorem dX9_seldom_57 : decode cX9_seldom 57 = .ok (.istore 8, 2) := by decide +kernel
theorem dX9_seldom_59 : decode cX9_seldom 59 = .ok (.iload 8, 2) := by decide +kernel
theorem dX9_seldom_61 : decode cX9_seldom 61 = .ok (.iload 4, 2) := by decide +kernel
theorem dX9_seldom_63 : decode cX9_seldom 63 = .ok (.if_icmp .gt 40, 3) := by decide +kernel
theorem dX9_seldom_66 : decode cX9_seldom 66 = .ok (.lload 6, 2) := by decide +kernel
theorem dX9_seldom_68 : decode cX9_seldom 68 = .ok (.iload 5, 2) := by decide +kernel
theorem dX9_seldom_70 : decode cX9_seldom 70 = .ok (.iload 8, 2) := by decide +kernel
theorem dX9_seldom_72 : decode cX9_seldom 72 = .ok (.invokestatic 230, 3) := by decide +kernel
theorem dX9_seldom_75 : decode cX9_seldom 75 = .ok (.aload_n 0, 1) := by decide +kernel
theorem dX9_seldom_76 : decode cX9_seldom 76 = .ok (.getfield 10, 3) := by decide +kernel
theorem dX9_seldom_79 : decode cX9_seldom 79 = .ok (.getfield 99, 3) := by decide +kernel
theorem dX9_seldom_82 : decode cX9_seldom 82 = .ok (.iload 5, 2) := by decide +kernel
theorem dX9_seldom_84 : decode cX9_seldom 84 = .ok (.isub, 1) := by decide +kernel
theorem dX9_seldom_85 : decode cX9_seldom 85 = .ok (.iload 4, 2) := by decide +kernel
theorem dX9_seldom_87 : decode cX9_seldom 87 = .ok (.iload 8, 2) := by decide +kernel
theorem dX9_seldom_89 : decode cX9_seldom 89 = .ok (.isub, 1) := by decide +kernel
theorem dX9_seldom_90 : decode cX9_seldom 90 = .ok (.invokestatic 230, 3) := by decide +kernel
theorem dX9_seldom_93 : decode cX9_seldom 93 = .ok (.lmul, 1) := by decide +kernel
theorem dX9_seldom_94 : decode cX9_seldom 94 = .ok (.ladd, 1) := by decide +kernel
theorem dX9_seldom_95 : decode cX9_seldom 95 = .ok (.lstore 6, 2) := by decide +kernel
theorem dX9_seldom_97 : decode cX9_seldom 97 = .ok (.iinc 8 1, 3) := by decide +kernel
theorem dX9_seldom_100 : decode cX9_seldom 100 = .ok (.goto (-41), 3) := by decide +kernel
theorem dX9_seldom_103 : decode cX9_seldom 103 = .ok (.lload 6, 2) := by decide +kernel
theorem dX9_seldom_105 : decode cX9_seldom 105 = .ok (.aload_n 0, 1) := by decide +kernel
theorem dX9_seldom_106 : decode cX9_seldom 106 = .ok (.getfield 10, 3) := by decide +kernel
theorem dX9_seldom_109 : decode cX9_seldom 109 = .ok (.getfield 99, 3) := by decide +kernel
theorem dX9_seldom_112 : decode cX9_seldom 112 = .ok (.iload 4, 2) := by decide +kernel
theorem dX9_seldom_114 : decode cX9_seldom 114 = .ok (.invokestatic 230, 3) := by decide +kernel
theorem dX9_seldom_117 : decode cX9_seldom 117 = .ok (.iload_n 1, 1) := by decide +kernel
theorem dX9_seldom_118 : decode cX9_seldom 118 = .ok (.invokestatic 217, 3) := by decide +kernel
theorem dX9_seldom_121 : decode cX9_seldom 121 = .ok (.l2i, 1) := by decide +kernel
theorem dX9_seldom_122 : decode cX9_seldom 122 = .ok (.ireturn, 1) := by decide +kernel
theorem dX9_lacks_0 : decode cX9_lacks 0 = .ok (.iload_n 1, 1) := by decide +kernel
theorem dX9_lacks_1 : decode cX9_lacks 1 = .ok (.bipush 6, 2) := by decide +kernel
theorem dX9_lacks_3 : decode cX9_lacks 3 = .ok (.invokestatic 75, 3) := by decide +kernel
theorem dX9_lacks_6 : decode cX9_lacks 6 = .ok (.ifCond .eq 11, 3) := by decide +kernel
theorem dX9_lacks_9 : decode cX9_lacks 9 = .ok (.iload_n 2, 1) := by decide +kernel
theorem dX9_lacks_10 : decode cX9_lacks 10 = .ok (.iconst 2, 1) := by decide +kernel
theorem dX9_lacks_11 : decode cX9_lacks 11 = .ok (.invokestatic 75, 3) := by decide +kernel
theorem dX9_lacks_14 : decode cX9_lacks 14 = .ok (.ifCond .ne 7, 3) := by decide +kernel
theorem dX9_lacks_17 : decode cX9_lacks 17 = .ok (.sipush (-1001), 3) := by decide +kernel
theorem dX9_lacks_20 : decode cX9_lacks 20 = .ok (.ireturn, 1) := by decide +kernel
theorem dX9_lacks_21 : decode cX9_lacks 21 = .ok (.aload_n 0, 1) := by decide +kernel
theorem dX9_lacks_22 : decode cX9_lacks 22 = .ok (.getfield 10, 3) := by decide +kernel
theorem dX9_lacks_25 : decode cX9_lacks 25 = .ok (.iconst 1, 1) := by decide +kernel
theorem dX9_lacks_26 : decode cX9_lacks 26 = .ok (.invokevirtual 158, 3) := by decide +kernel
theorem dX9_lacks_29 : decode cX9_lacks 29 = .ok (.istore_n 3, 1) := by decide +kernel
theorem dX9_lacks_30 : decode cX9_lacks 30 = .ok (.aload_n 0, 1) := by decide +kernel
theorem dX9_lacks_31 : decode cX9_lacks 31 = .ok (.getfield 10, 3) := by decide +kernel
theorem dX9_lacks_34 : decode cX9_lacks 34 = .ok (.iconst 0, 1) := by decide +kernel
theorem dX9_lacks_35 : decode cX9_lacks 35 = .ok (.iload_n 1, 1) := by decide +kernel
theorem dX9_lacks_36 : decode cX9_lacks 36 = .ok (.invokevirtual 169, 3) := by decide +kernel
theorem dX9_lacks_39 : decode cX9_lacks 39 = .ok (.iload_n 2, 1) := by decide +kernel
theorem dX9_lacks_40 : decode cX9_lacks 40 = .ok (.ifCond .ne 7, 3) := by decide +kernel
theorem dX9_lacks_43 : decode cX9_lacks 43 = .ok (.iload_n 3, 1) := by decide +kernel
theorem dX9_lacks_44 : decode cX9_lacks 44 = .ok (.goto 6, 3) := by decide +kernel
theorem dX9_lacks_47 : decode cX9_lacks 47 = .ok (.iload_n 3, 1) := by decide +kernel
theorem dX9_lacks_48 : decode cX9_lacks 48 = .ok (.iconst (-1), 1) := by decide +kernel
theorem dX9_lacks_49 : decode cX9_lacks 49 = .ok (.ixor, 1) := by decide +kernel
theorem dX9_lacks_50 : decode cX9_lacks 50 = .ok (.iand, 1) := by decide +kernel
theorem dX9_lacks_51 : decode cX9_lacks 51 = .ok (.istore 4, 2) := by decide +kernel
theorem dX9_lacks_53 : decode cX9_lacks 53 = .ok (.iload 4, 2) := by decide +kernel
theorem dX9_lacks_55 : decode cX9_lacks 55 = .ok (.aload_n 0, 1) := by decide +kernel
theorem dX9_lacks_56 : decode cX9_lacks 56 = .ok (.getfield 10, 3) := by decide +kernel
theorem dX9_lacks_59 : decode cX9_lacks 59 = .ok (.iconst 1, 1) := by decide +kernel
theorem dX9_lacks_60 : decode cX9_lacks 60 = .ok (.iconst 0, 1) := by decide +kernel
theorem dX9_lacks_61 : decode cX9_lacks 61 = .ok (.invokevirtual 169, 3) := by decide +kernel
theorem dX9_lacks_64 : decode cX9_lacks 64 = .ok (.iand, 1) := by decide +kernel
theorem dX9_lacks_65 : decode cX9_lacks 65 = .ok (.invokestatic 161, 3) := by decide +kernel
theorem dX9_lacks_68 : decode cX9_lacks 68 = .ok (.istore 5, 2) := by decide +kernel
theorem dX9_lacks_70 : decode cX9_lacks 70 = .ok (.iload 5, 2) := by decide +kernel
theorem dX9_lacks_72 : decode cX9_lacks 72 = .ok (.iload 4, 2) := by decide +kernel
theorem dX9_lacks_74 : decode cX9_lacks 74 = .ok (.invokestatic 161, 3) := by decide +kernel
theorem dX9_lacks_77 : decode cX9_lacks 77 = .ok (.iload 5, 2) := by decide +kernel
theorem dX9_lacks_79 : decode cX9_lacks 79 = .ok (.isub, 1) := by decide +kernel
theorem dX9_lacks_80 : decode cX9_lacks 80 = .ok (.isub, 1) := by decide +kernel
theorem dX9_lacks_81 : decode cX9_lacks 81 = .ok (.ireturn, 1) := by decide +kernel
theorem dX9_wish_0 : decode cX9_wish 0 = .ok (.iload_n 1, 1) := by decide +kernel
theorem dX9_wish_1 : decode cX9_wish 1 = .ok (.iconst 3, 1) := by decide +kernel
theorem dX9_wish_2 : decode cX9_wish 2 = .ok (.invokestatic 75, 3) := by decide +kernel
theorem dX9_wish_5 : decode cX9_wish 5 = .ok (.ifCond .eq 12, 3) := by decide +kernel
theorem dX9_wish_8 : decode cX9_wish 8 = .ok (.iload_n 2, 1) := by decide +kernel
theorem dX9_wish_9 : decode cX9_wish 9 = .ok (.bipush 64, 2) := by decide +kernel
theorem dX9_wish_11 : decode cX9_wish 11 = .ok (.invokestatic 75, 3) := by decide +kernel
theorem dX9_wish_14 : decode cX9_wish 14 = .ok (.ifCond .ne 5, 3) := by decide +kernel
theorem dX9_wish_17 : decode cX9_wish 17 = .ok (.iconst (-1), 1) := by decide +kernel
theorem dX9_wish_18 : decode cX9_wish 18 = .ok (.ireturn, 1) := by decide +kernel
theorem dX9_wish_19 : decode cX9_wish 19 = .ok (.aload_n 0, 1) := by decide +kernel
theorem dX9_wish_20 : decode cX9_wish 20 = .ok (.getfield 10, 3) := by decide +kernel
theorem dX9_wish_23 : decode cX9_wish 23 = .ok (.getfield 256, 3) := by decide +kernel
theorem dX9_wish_26 : decode cX9_wish 26 = .ok (.iload_n 1, 1) := by decide +kernel
theorem dX9_wish_27 : decode cX9_wish 27 = .ok (.iaload, 1) := by decide +kernel
theorem dX9_wish_28 : decode cX9_wish 28 = .ok (.istore_n 3, 1) := by decide +kernel
theorem dX9_wish_29 : decode cX9_wish 29 = .ok (.aload_n 0, 1) := by decide +kernel
theorem dX9_wish_30 : decode cX9_wish 30 = .ok (.getfield 10, 3) := by decide +kernel
theorem dX9_wish_33 : decode cX9_wish 33 = .ok (.getfield 256, 3) := by decide +kernel
theorem dX9_wish_36 : decode cX9_wish 36 = .ok (.iload_n 1, 1) := by decide +kernel
theorem dX9_wish_37 : decode cX9_wish 37 = .ok (.iload_n 2, 1) := by decide +kernel
theorem dX9_wish_38 : decode cX9_wish 38 = .ok (.iastore, 1) := by decide +kernel
theorem dX9_wish_39 : decode cX9_wish 39 = .ok (.iload_n 3, 1) := by decide +kernel
theorem dX9_wish_40 : decode cX9_wish 40 = .ok (.ireturn, 1) := by decide +kernel
theorem dX9_buy_0 : decode cX9_buy 0 = .ok (.bipush 63, 2) := by decide +kernel
theorem dX9_buy_2 : decode cX9_buy 2 = .ok (.istore_n 1, 1) := by decide +kernel
theorem dX9_buy_3 : decode cX9_buy 3 = .ok (.bipush 63, 2) := by decide +kernel
theorem dX9_buy_5 : decode cX9_buy 5 = .ok (.istore_n 2, 1) := by decide +kernel
theorem dX9_buy_6 : decode cX9_buy 6 = .ok (.iload_n 2, 1) := by decide +kernel
theorem dX9_buy_7 : decode cX9_buy 7 = .ok (.ifCond .lt 33, 3) := by decide +kernel
theorem dX9_buy_10 : decode cX9_buy 10 = .ok (.aload_n 0, 1) := by decide +kernel
theorem dX9_buy_11 : decode cX9_buy 11 = .ok (.getfield 10, 3) := by decide +kernel
theorem dX9_buy_14 : decode cX9_buy 14 = .ok (.iload_n 2, 1) := by decide +kernel
theorem dX9_buy_15 : decode cX9_buy 15 = .ok (.invokevirtual 259, 3) := by decide +kernel
theorem dX9_buy_18 : decode cX9_buy 18 = .ok (.ifCond .eq 16, 3) := by decide +kernel
theorem dX9_buy_21 : decode cX9_buy 21 = .ok (.iload_n 2, 1) := by decide +kernel
theorem dX9_buy_22 : decode cX9_buy 22 = .ok (.invokestatic 161, 3) := by decide +kernel
theorem dX9_buy_25 : decode cX9_buy 25 = .ok (.iload_n 1, 1) := by decide +kernel
theorem dX9_buy_26 : decode cX9_buy 26 = .ok (.invokestatic 161, 3) := by decide +kernel
theorem dX9_buy_29 : decode cX9_buy 29 = .ok (.if_icmp .gt 5, 3) := by decide +kernel
theorem dX9_buy_32 : decode cX9_buy 32 = .ok (.iload_n 2, 1) := by decide +kernel
theorem dX9_buy_33 : decode cX9_buy 33 = .ok (.istore_n 1, 1) := by decide +kernel
theorem dX9_buy_34 : decode cX9_buy 34 = .ok (.iinc 2 (-1), 3) := by decide +kernel
theorem dX9_buy_37 : decode cX9_buy 37 = .ok (.goto (-31), 3) := by decide +kernel
theorem dX9_buy_40 : decode cX9_buy 40 = .ok (.iload_n 1, 1) := by decide +kernel
theorem dX9_buy_41 : decode cX9_buy 41 = .ok (.ireturn, 1) := by decide +kernel
theorem dX9_marks_0 : decode cX9_marks 0 = .ok (.iload_n 1, 1) := by decide +kernel
theorem dX9_marks_1 : decode cX9_marks 1 = .ok (.iconst 1, 1) := by decide +kernel
theorem dX9_marks_2 : decode cX9_marks 2 = .ok (.if_icmp .lt 26, 3) := by decide +kernel
theorem dX9_marks_5 : decode cX9_marks 5 = .ok (.iload_n 1, 1) := by decide +kernel
theorem dX9_marks_6 : decode cX9_marks 6 = .ok (.iconst 5, 1) := by decide +kernel
theorem dX9_marks_7 : decode cX9_marks 7 = .ok (.if_icmp .gt 21, 3) := by decide +kernel
theorem dX9_marks_10 : decode cX9_marks 10 = .ok (.iload_n 2, 1) := by decide +kernel
theorem dX9_marks_11 : decode cX9_marks 11 = .ok (.iconst 4, 1) := by decide +kernel
theorem dX9_marks_12 : decode cX9_marks 12 = .ok (.invokestatic 75, 3) := by decide +kernel
theorem dX9_marks_15 : decode cX9_marks 15 = .ok (.ifCond .eq 13, 3) := by decide +kernel
theorem dX9_marks_18 : decode cX9_marks 18 = .ok (.iload_n 3, 1) := by decide +kernel
theorem dX9_marks_19 : decode cX9_marks 19 = .ok (.iconst (-1), 1) := by decide +kernel
theorem dX9_marks_20 : decode cX9_marks 20 = .ok (.if_icmp .lt 8, 3) := by decide +kernel
theorem dX9_marks_23 : decode cX9_marks 23 = .ok (.iload_n 3, 1) := by decide +kernel
theorem dX9_marks_24 : decode cX9_marks 24 = .ok (.iload_n 1, 1) := by decide +kernel
theorem dX9_marks_25 : decode cX9_marks 25 = .ok (.if_icmp .lt 5, 3) := by decide +kernel
theorem dX9_marks_28 : decode cX9_marks 28 = .ok (.iconst (-1), 1) := by decide +kernel
theorem dX9_marks_29 : decode cX9_marks 29 = .ok (.ireturn, 1) := by decide +kernel
theorem dX9_marks_30 : decode cX9_marks 30 = .ok (.aload_n 0, 1) := by decide +kernel
theorem dX9_marks_31 : decode cX9_marks 31 = .ok (.getfield 64, 3) := by decide +kernel
theorem dX9_marks_34 : decode cX9_marks 34 = .ok (.iload_n 1, 1) := by decide +kernel
theorem dX9_marks_35 : decode cX9_marks 35 = .ok (.iload_n 2, 1) := by decide +kernel
theorem dX9_marks_36 : decode cX9_marks 36 = .ok (.invokevirtual 262, 3) := by decide +kernel
theorem dX9_marks_39 : decode cX9_marks 39 = .ok (.istore 4, 2) := by decide +kernel
theorem dX9_marks_41 : decode cX9_marks 41 = .ok (.iload_n 3, 1) := by decide +kernel
theorem dX9_marks_42 : decode cX9_marks 42 = .ok (.ifCond .lt 10, 3) := by decide +kernel
theorem dX9_marks_45 : decode cX9_marks 45 = .ok (.iload 4, 2) := by decide +kernel
theorem dX9_marks_47 : decode cX9_marks 47 = .ok (.bipush (-4), 2) := by decide +kernel
theorem dX9_marks_49 : decode cX9_marks 49 = .ok (.if_icmp .ne 8, 3) := by decide +kernel
theorem dX9_marks_52 : decode cX9_marks 52 = .ok (.iload 4, 2) := by decide +kernel
theorem dX9_marks_54 : decode cX9_marks 54 = .ok (.goto 13, 3) := by decide +kernel
theorem dX9_marks_57 : decode cX9_marks 57 = .ok (.aload_n 0, 1) := by decide +kernel
theorem dX9_marks_58 : decode cX9_marks 58 = .ok (.getfield 64, 3) := by decide +kernel
theorem dX9_marks_61 : decode cX9_marks 61 = .ok (.iload_n 1, 1) := by decide +kernel
theorem dX9_marks_62 : decode cX9_marks 62 = .ok (.iload_n 2, 1) := by decide +kernel
theorem dX9_marks_63 : decode cX9_marks 63 = .ok (.iload_n 3, 1) := by decide +kernel
theorem dX9_marks_64 : decode cX9_marks 64 = .ok (.invokevirtual 265, 3) := by decide +kernel
theorem dX9_marks_67 : decode cX9_marks 67 = .ok (.ireturn, 1) := by decide +kernel
theorem dX9_image_0 : decode cX9_image 0 = .ok (.aload_n 0, 1) := by decide +kernel
theorem dX9_image_1 : decode cX9_image 1 = .ok (.getfield 16, 3) := by decide +kernel
theorem dX9_image_4 : decode cX9_image 4 = .ok (.aload_n 0, 1) := by decide +kernel
theorem dX9_image_5 : decode cX9_image 5 = .ok (.getfield 10, 3) := by decide +kernel
theorem dX9_image_8 : decode cX9_image 8 = .ok (.invokevirtual 268, 3) := by decide +kernel
theorem dX9_image_11 : decode cX9_image 11 = .ok (.aload_n 0, 1) := by decide +kernel
theorem dX9_image_12 : decode cX9_image 12 = .ok (.iconst 1, 1) := by decide +kernel
theorem dX9_image_13 : decode cX9_image 13 = .ok (.putfield 271, 3) := by decide +kernel
theorem dX9_image_16 : decode cX9_image 16 = .ok (.iconst 1, 1) := by decide +kernel
theorem dX9_image_17 : decode cX9_image 17 = .ok (.ireturn, 1) := by decide +kernel
theorem dX9_restore_0 : decode cX9_restore 0 = .ok (.aload_n 0, 1) := by decide +kernel
theorem dX9_restore_1 : decode cX9_restore 1 = .ok (.getfield 271, 3) := by decide +kernel
theorem dX9_restore_4 : decode cX9_restore 4 = .ok (.ifCond .ne 6, 3) := by decide +kernel
theorem dX9_restore_7 : decode cX9_restore 7 = .ok (.bipush (-4), 2) := by decide +kernel
theorem dX9_restore_9 : decode cX9_restore 9 = .ok (.ireturn, 1) := by decide +kernel
theorem dX9_restore_10 : decode cX9_restore 10 = .ok (.aload_n 0, 1) := by decide +kernel
theorem dX9_restore_11 : decode cX9_restore 11 = .ok (.getfield 10, 3) := by decide +kernel
theorem dX9_restore_14 : decode cX9_restore 14 = .ok (.aload_n 0, 1) := by decide +kernel
theorem dX9_restore_15 : decode cX9_restore 15 = .ok (.getfield 16, 3) := by decide +kernel
theorem dX9_restore_18 : decode cX9_restore 18 = .ok (.invokevirtual 268, 3) := by decide +kernel
theorem dX9_restore_21 : decode cX9_restore 21 = .ok (.iconst 1, 1) := by decide +kernel
theorem dX9_restore_22 : decode cX9_restore 22 = .ok (.ireturn, 1) := by decide +kernel
theorem dX9_sheet_0 : decode cX9_sheet 0 = .ok (.iload_n 1, 1) := by decide +kernel
theorem dX9_sheet_1 : decode cX9_sheet 1 = .ok (.iconst 4, 1) := by decide +kernel
theorem dX9_sheet_2 : decode cX9_sheet 2 = .ok (.invokestatic 75, 3) := by decide +kernel
theorem dX9_sheet_5 : decode cX9_sheet 5 = .ok (.ifCond .eq 17, 3) := by decide +kernel
theorem dX9_sheet_8 : decode cX9_sheet 8 = .ok (.iload_n 2, 1) := by decide +kernel
theorem dX9_sheet_9 : decode cX9_sheet 9 = .ok (.iconst 3, 1) := by decide +kernel
theorem dX9_sheet_10 : decode cX9_sheet 10 = .ok (.invokestatic 75, 3) := by decide +kernel
theorem dX9_sheet_13 : decode cX9_sheet 13 = .ok (.ifCond .eq 9, 3) := by decide +kernel
theorem dX9_sheet_16 : decode cX9_sheet 16 = .ok (.iload_n 3, 1) := by decide +kernel
theorem dX9_sheet_17 : decode cX9_sheet 17 = .ok (.bipush 16, 2) := by decide +kernel
theorem dX9_sheet_19 : decode cX9_sheet 19 = .ok (.if_icmp .le 5, 3) := by decide +kernel
theorem dX9_sheet_22 : decode cX9_sheet 22 = .ok (.iconst (-1), 1) := by decide +kernel
theorem dX9_sheet_23 : decode cX9_sheet 23 = .ok (.ireturn, 1) := by decide +kernel
theorem dX9_sheet_24 : decode cX9_sheet 24 = .ok (.iload_n 3, 1) := by decide +kernel
theorem dX9_sheet_25 : decode cX9_sheet 25 = .ok (.ifCond .ge 6, 3) := by decide +kernel
theorem dX9_sheet_28 : decode cX9_sheet 28 = .ok (.bipush (-14), 2) := by decide +kernel
theorem dX9_sheet_30 : decode cX9_sheet 30 = .ok (.ireturn, 1) := by decide +kernel
theorem dX9_sheet_31 : decode cX9_sheet 31 = .ok (.aload_n 0, 1) := by decide +kernel
theorem dX9_sheet_32 : decode cX9_sheet 32 = .ok (.getfield 70, 3) := by decide +kernel
theorem dX9_sheet_35 : decode cX9_sheet 35 = .ok (.iload_n 1, 1) := by decide +kernel
theorem dX9_sheet_36 : decode cX9_sheet 36 = .ok (.aaload, 1) := by decide +kernel
theorem dX9_sheet_37 : decode cX9_sheet 37 = .ok (.iload_n 2, 1) := by decide +kernel
theorem dX9_sheet_38 : decode cX9_sheet 38 = .ok (.iload_n 3, 1) := by decide +kernel
theorem dX9_sheet_39 : decode cX9_sheet 39 = .ok (.invokevirtual 275, 3) := by decide +kernel
theorem dX9_sheet_42 : decode cX9_sheet 42 = .ok (.iload_n 3, 1) := by decide +kernel
theorem dX9_sheet_43 : decode cX9_sheet 43 = .ok (.ireturn, 1) := by decide +kernel
theorem dX9_drop_0 : decode cX9_drop 0 = .ok (.iload_n 1, 1) := by decide +kernel
theorem dX9_drop_1 : decode cX9_drop 1 = .ok (.iconst 4, 1) := by decide +kernel
theorem dX9_drop_2 : decode cX9_drop 2 = .ok (.invokestatic 75, 3) := by decide +kernel
theorem dX9_drop_5 : decode cX9_drop 5 = .ok (.ifCond .ne 5, 3) := by decide +kernel
theorem dX9_drop_8 : decode cX9_drop 8 = .ok (.iconst (-1), 1) := by decide +kernel
theorem dX9_drop_9 : decode cX9_drop 9 = .ok (.ireturn, 1) := by decide +kernel
theorem dX9_drop_10 : decode cX9_drop 10 = .ok (.aload_n 0, 1) := by decide +kernel
theorem dX9_drop_11 : decode cX9_drop 11 = .ok (.getfield 70, 3) := by decide +kernel
theorem dX9_drop_14 : decode cX9_drop 14 = .ok (.iload_n 1, 1) := by decide +kernel
theorem dX9_drop_15 : decode cX9_drop 15 = .ok (.aaload, 1) := by decide +kernel
theorem dX9_drop_16 : decode cX9_drop 16 = .ok (.astore_n 2, 1) := by decide +kernel
theorem dX9_drop_17 : decode cX9_drop 17 = .ok (.aload_n 2, 1) := by decide +kernel
theorem dX9_drop_18 : decode cX9_drop 18 = .ok (.invokevirtual 279, 3) := by decide +kernel
theorem dX9_drop_21 : decode cX9_drop 21 = .ok (.ifCond .ne 6, 3) := by decide +kernel
theorem dX9_drop_24 : decode cX9_drop 24 = .ok (.bipush (-11), 2) := by decide +kernel
theorem dX9_drop_26 : decode cX9_drop 26 = .ok (.ireturn, 1) := by decide +kernel
theorem dX9_drop_27 : decode cX9_drop 27 = .ok (.aload_n 2, 1) := by decide +kernel
theorem dX9_drop_28 : decode cX9_drop 28 = .ok (.iconst (-1), 1) := by decide +kernel
theorem dX9_drop_29 : decode cX9_drop 29 = .ok (.putfield 283, 3) := by decide +kernel
theorem dX9_drop_32 : decode cX9_drop 32 = .ok (.aload_n 2, 1) := by decide +kernel
theorem dX9_drop_33 : decode cX9_drop 33 = .ok (.getfield 286, 3) := by decide +kernel
theorem dX9_drop_36 : decode cX9_drop 36 = .ok (.ireturn, 1) := by decide +kernel
theorem dX9_item_0 : decode cX9_item 0 = .ok (.iload_n 1, 1) := by decide +kernel
theorem dX9_item_1 : decode cX9_item 1 = .ok (.iconst 4, 1) := by decide +kernel
theorem dX9_item_2 : decode cX9_item 2 = .ok (.invokestatic 75, 3) := by decide +kernel
theorem dX9_item_5 : decode cX9_item 5 = .ok (.ifCond .eq 11, 3) := by decide +kernel
theorem dX9_item_8 : decode cX9_item 8 = .ok (.iload_n 2, 1) := by decide +kernel
theorem dX9_item_9 : decode cX9_item 9 = .ok (.iconst 3, 1) := by decide +kernel
theorem dX9_item_10 : decode cX9_item 10 = .ok (.invokestatic 75, 3) := by decide +kernel
theorem dX9_item_13 : decode cX9_item 13 = .ok (.ifCond .ne 5, 3) := by decide +kernel
theorem dX9_item_16 : decode cX9_item 16 = .ok (.iconst (-1), 1) := by decide +kernel
theorem dX9_item_17 : decode cX9_item 17 = .ok (.ireturn, 1) := by decide +kernel
theorem dX9_item_18 : decode cX9_item 18 = .ok (.aload_n 0, 1) := by decide +kernel
theorem dX9_item_19 : decode cX9_item 19 = .ok (.getfield 70, 3) := by decide +kernel
theorem dX9_item_22 : decode cX9_item 22 = .ok (.iload_n 1, 1) := by decide +kernel
theorem dX9_item_23 : decode cX9_item 23 = .ok (.aaload, 1) := by decide +kernel
theorem dX9_item_24 : decode cX9_item 24 = .ok (.iload_n 2, 1) := by decide +kernel
theorem dX9_item_25 : decode cX9_item 25 = .ok (.iload_n 3, 1) := by decide +kernel
theorem dX9_item_26 : decode cX9_item 26 = .ok (.iconst 1, 1) := by decide +kernel
theorem dX9_item_27 : decode cX9_item 27 = .ok (.invokevirtual 192, 3) := by decide +kernel
theorem dX9_item_30 : decode cX9_item 30 = .ok (.istore 5, 2) := by decide +kernel
theorem dX9_item_32 : decode cX9_item 32 = .ok (.iload 5, 2) := by decide +kernel
theorem dX9_item_34 : decode cX9_item 34 = .ok (.ifCond .eq 6, 3) := by decide +kernel
theorem dX9_item_37 : decode cX9_item 37 = .ok (.iload 5, 2) := by decide +kernel
theorem dX9_item_39 : decode cX9_item 39 = .ok (.ireturn, 1) := by decide +kernel
theorem dX9_item_40 : decode cX9_item 40 = .ok (.aload_n 0, 1) := by decide +kernel
theorem dX9_item_41 : decode cX9_item 41 = .ok (.getfield 70, 3) := by decide +kernel
theorem dX9_item_44 : decode cX9_item 44 = .ok (.iload_n 1, 1) := by decide +kernel
theorem dX9_item_45 : decode cX9_item 45 = .ok (.aaload, 1) := by decide +kernel
theorem dX9_item_46 : decode cX9_item 46 = .ok (.iload_n 3, 1) := by decide +kernel
theorem dX9_item_47 : decode cX9_item 47 = .ok (.iload 4, 2) := by decide +kernel
theorem dX9_item_49 : decode cX9_item 49 = .ok (.invokevirtual 287, 3) := by decide +kernel
theorem dX9_item_52 : decode cX9_item 52 = .ok (.iconst 1, 1) := by decide +kernel
theorem dX9_item_53 : decode cX9_item 53 = .ok (.ireturn, 1) := by decide +kernel
theorem dX9_within_0 : decode cX9_within 0 = .ok (.iload_n 0, 1) := by decide +kernel
theorem dX9_within_1 : decode cX9_within 1 = .ok (.ifCond .lt 12, 3) := by decide +kernel
theorem dX9_within_4 : decode cX9_within 4 = .ok (.iload_n 0, 1) := by decide +kernel
theorem dX9_within_5 : decode cX9_within 5 = .ok (.iload_n 1, 1) := by decide +kernel
theorem dX9_within_6 : decode cX9_within 6 = .ok (.if_icmp .ge 7, 3) := by decide +kernel
theorem dX9_within_9 : decode cX9_within 9 = .ok (.iconst 1, 1) := by decide +kernel
theorem dX9_within_10 : decode cX9_within 10 = .ok (.goto 4, 3) := by decide +kernel
theorem dX9_within_13 : decode cX9_within 13 = .ok (.iconst 0, 1) := by decide +kernel
theorem dX9_within_14 : decode cX9_within 14 = .ok (.ireturn, 1) := by decide +kernel
theorem dX9_isSock_0 : decode cX9_isSock 0 = .ok (.iload_n 1, 1) := by decide +kernel
theorem dX9_isSock_1 : decode cX9_isSock 1 = .ok (.aload_n 0, 1) := by decide +kernel
theorem dX9_isSock_2 : decode cX9_isSock 2 = .ok (.getfield 10, 3) := by decide +kernel
theorem dX9_isSock_5 : decode cX9_isSock 5 = .ok (.getfield 99, 3) := by decide +kernel
theorem dX9_isSock_8 : decode cX9_isSock 8 = .ok (.invokestatic 75, 3) := by decide +kernel
theorem dX9_isSock_11 : decode cX9_isSock 11 = .ok (.ireturn, 1) := by decide +kernel
theorem dX9_areTwo_0 : decode cX9_areTwo 0 = .ok (.aload_n 0, 1) := by decide +kernel
theorem dX9_areTwo_1 : decode cX9_areTwo 1 = .ok (.iload_n 1, 1) := by decide +kernel
theorem dX9_areTwo_2 : decode cX9_areTwo 2 = .ok (.invokevirtual 106, 3) := by decide +kernel
theorem dX9_areTwo_5 : decode cX9_areTwo 5 = .ok (.ifCond .eq 20, 3) := by decide +kernel
theorem dX9_areTwo_8 : decode cX9_areTwo 8 = .ok (.aload_n 0, 1) := by decide +kernel
theorem dX9_areTwo_9 : decode cX9_areTwo 9 = .ok (.iload_n 2, 1) := by decide +kernel
theorem dX9_areTwo_10 : decode cX9_areTwo 10 = .ok (.invokevirtual 106, 3) := by decide +kernel
theorem dX9_areTwo_13 : decode cX9_areTwo 13 = .ok (.ifCond .eq 12, 3) := by decide +kernel
theorem dX9_areTwo_16 : decode cX9_areTwo 16 = .ok (.iload_n 1, 1) := by decide +kernel
theorem dX9_areTwo_17 : decode cX9_areTwo 17 = .ok (.iload_n 2, 1) := by decide +kernel
theorem dX9_areTwo_18 : decode cX9_areTwo 18 = .ok (.if_icmp .eq 7, 3) := by decide +kernel
theorem dX9_areTwo_21 : decode cX9_areTwo 21 = .ok (.iconst 1, 1) := by decide +kernel
theorem dX9_areTwo_22 : decode cX9_areTwo 22 = .ok (.goto 4, 3) := by decide +kernel
theorem dX9_areTwo_25 : decode cX9_areTwo 25 = .ok (.iconst 0, 1) := by decide +kernel
theorem dX9_areTwo_26 : decode cX9_areTwo 26 = .ok (.ireturn, 1) := by decide +kernel
theorem dX9_isWellTold_0 : decode cX9_isWellTold 0 = .ok (.aload_n 1, 1) := by decide +kernel
theorem dX9_isWellTold_1 : decode cX9_isWellTold 1 = .ok (.getfield 290, 3) := by decide +kernel
theorem dX9_isWellTold_4 : decode cX9_isWellTold 4 = .ok (.iload_n 2, 1) := by decide +kernel
theorem dX9_isWellTold_5 : decode cX9_isWellTold 5 = .ok (.iload_n 3, 1) := by decide +kernel
theorem dX9_isWellTold_6 : decode cX9_isWellTold 6 = .ok (.iadd, 1) := by decide +kernel
theorem dX9_isWellTold_7 : decode cX9_isWellTold 7 = .ok (.iaload, 1) := by decide +kernel
theorem dX9_isWellTold_8 : decode cX9_isWellTold 8 = .ok (.istore 4, 2) := by decide +kernel
theorem dX9_isWellTold_10 : decode cX9_isWellTold 10 = .ok (.iload 4, 2) := by decide +kernel
theorem dX9_isWellTold_12 : decode cX9_isWellTold 12 = .ok (.iconst (-1), 1) := by decide +kernel
theorem dX9_isWellTold_13 : decode cX9_isWellTold 13 = .ok (.if_icmp .ne 5, 3) := by decide +kernel
theorem dX9_isWellTold_16 : decode cX9_isWellTold 16 = .ok (.iconst 1, 1) := by decide +kernel
theorem dX9_isWellTold_17 : decode cX9_isWellTold 17 = .ok (.ireturn, 1) := by decide +kernel
theorem dX9_isWellTold_18 : decode cX9_isWellTold 18 = .ok (.aload_n 0, 1) := by decide +kernel
theorem dX9_isWellTold_19 : decode cX9_isWellTold 19 = .ok (.iload_n 3, 1) := by decide +kernel
theorem dX9_isWellTold_20 : decode cX9_isWellTold 20 = .ok (.iload 4, 2) := by decide +kernel
theorem dX9_isWellTold_22 : decode cX9_isWellTold 22 = .ok (.invokevirtual 149, 3) := by decide +kernel
theorem dX9_isWellTold_25 : decode cX9_isWellTold 25 = .ok (.ifCond .eq 16, 3) := by decide +kernel
theorem dX9_isWellTold_28 : decode cX9_isWellTold 28 = .ok (.aload_n 1, 1) := by decide +kernel
theorem dX9_isWellTold_29 : decode cX9_isWellTold 29 = .ok (.getfield 290, 3) := by decide +kernel
theorem dX9_isWellTold_32 : decode cX9_isWellTold 32 = .ok (.iload_n 2, 1) := by decide +kernel
theorem dX9_isWellTold_33 : decode cX9_isWellTold 33 = .ok (.iload 4, 2) := by decide +kernel
theorem dX9_isWellTold_35 : decode cX9_isWellTold 35 = .ok (.iadd, 1) := by decide +kernel
theorem dX9_isWellTold_36 : decode cX9_isWellTold 36 = .ok (.iaload, 1) := by decide +kernel
theorem dX9_isWellTold_37 : decode cX9_isWellTold 37 = .ok (.iload_n 3, 1) := by decide +kernel
theorem dX9_isWellTold_38 : decode cX9_isWellTold 38 = .ok (.if_icmp .eq 5, 3) := by decide +kernel
theorem dX9_isWellTold_41 : decode cX9_isWellTold 41 = .ok (.iconst 0, 1) := by decide +kernel
theorem dX9_isWellTold_42 : decode cX9_isWellTold 42 = .ok (.ireturn, 1) := by decide +kernel
theorem dX9_isWellTold_43 : decode cX9_isWellTold 43 = .ok (.aload_n 0, 1) := by decide +kernel
theorem dX9_isWellTold_44 : decode cX9_isWellTold 44 = .ok (.getfield 10, 3) := by decide +kernel
theorem dX9_isWellTold_47 : decode cX9_isWellTold 47 = .ok (.getfield 114, 3) := by decide +kernel
theorem dX9_isWellTold_50 : decode cX9_isWellTold 50 = .ok (.iload_n 3, 1) := by decide +kernel
theorem dX9_isWellTold_51 : decode cX9_isWellTold 51 = .ok (.aaload, 1) := by decide +kernel
theorem dX9_isWellTold_52 : decode cX9_isWellTold 52 = .ok (.getfield 140, 3) := by decide +kernel
theorem dX9_isWellTold_55 : decode cX9_isWellTold 55 = .ok (.ifCond .ne 23, 3) := by decide +kernel
theorem dX9_isWellTold_58 : decode cX9_isWellTold 58 = .ok (.aload_n 0, 1) := by decide +kernel
theorem dX9_isWellTold_59 : decode cX9_isWellTold 59 = .ok (.getfield 10, 3) := by decide +kernel
theorem dX9_isWellTold_62 : decode cX9_isWellTold 62 = .ok (.getfield 114, 3) := by decide +kernel
theorem dX9_isWellTold_65 : decode cX9_isWellTold 65 = .ok (.iload 4, 2) := by decide +kernel
theorem dX9_isWellTold_67 : decode cX9_isWellTold 67 = .ok (.aaload, 1) := by decide +kernel
theorem dX9_isWellTold_68 : decode cX9_isWellTold 68 = .ok (.getfield 140, 3) := by decide +kernel
theorem dX9_isWellTold_71 : decode cX9_isWellTold 71 = .ok (.ifCond .ne 7, 3) := by decide +kernel
theorem dX9_isWellTold_74 : decode cX9_isWellTold 74 = .ok (.iconst 1, 1) := by decide +kernel
theorem dX9_isWellTold_75 : decode cX9_isWellTold 75 = .ok (.goto 4, 3) := by decide +kernel
theorem dX9_isWellTold_78 : decode cX9_isWellTold 78 = .ok (.iconst 0, 1) := by decide +kernel
theorem dX9_isWellTold_79 : decode cX9_isWellTold 79 = .ok (.istore 5, 2) := by decide +kernel
theorem dX9_isWellTold_81 : decode cX9_isWellTold 81 = .ok (.iload 5, 2) := by decide +kernel
theorem dX9_isWellTold_83 : decode cX9_isWellTold 83 = .ok (.ifCond .eq 20, 3) := by decide +kernel
theorem dX9_isWellTold_86 : decode cX9_isWellTold 86 = .ok (.aload_n 0, 1) := by decide +kernel
theorem dX9_isWellTold_87 : decode cX9_isWellTold 87 = .ok (.getfield 10, 3) := by decide +kernel
theorem dX9_isWellTold_90 : decode cX9_isWellTold 90 = .ok (.iload_n 3, 1) := by decide +kernel
theorem dX9_isWellTold_91 : decode cX9_isWellTold 91 = .ok (.iload 4, 2) := by decide +kernel
theorem dX9_isWellTold_93 : decode cX9_isWellTold 93 = .ok (.invokevirtual 155, 3) := by decide +kernel
theorem dX9_isWellTold_96 : decode cX9_isWellTold 96 = .ok (.ifCond .ne 7, 3) := by decide +kernel
theorem dX9_isWellTold_99 : decode cX9_isWellTold 99 = .ok (.iconst 1, 1) := by decide +kernel
theorem dX9_isWellTold_100 : decode cX9_isWellTold 100 = .ok (.goto 4, 3) := by decide +kernel
theorem dX9_isWellTold_103 : decode cX9_isWellTold 103 = .ok (.iconst 0, 1) := by decide +kernel
theorem dX9_isWellTold_104 : decode cX9_isWellTold 104 = .ok (.ireturn, 1) := by decide +kernel
theorem dX9_reckonWeeks_0 : decode cX9_reckonWeeks 0 = .ok (.iload_n 1, 1) := by decide +kernel
theorem dX9_reckonWeeks_1 : decode cX9_reckonWeeks 1 = .ok (.iconst 4, 1) := by decide +kernel
theorem dX9_reckonWeeks_2 : decode cX9_reckonWeeks 2 = .ok (.invokestatic 75, 3) := by decide +kernel
theorem dX9_reckonWeeks_5 : decode cX9_reckonWeeks 5 = .ok (.ifCond .eq 24, 3) := by decide +kernel
theorem dX9_reckonWeeks_8 : decode cX9_reckonWeeks 8 = .ok (.iload_n 2, 1) := by decide +kernel
theorem dX9_reckonWeeks_9 : decode cX9_reckonWeeks 9 = .ok (.iconst 3, 1) := by decide +kernel
theorem dX9_reckonWeeks_10 : decode cX9_reckonWeeks 10 = .ok (.invokestatic 75, 3) := by decide +kernel
theorem dX9_reckonWeeks_13 : decode cX9_reckonWeeks 13 = .ok (.ifCond .eq 16, 3) := by decide +kernel
theorem dX9_reckonWeeks_16 : decode cX9_reckonWeeks 16 = .ok (.iload 4, 2) := by decide +kernel
theorem dX9_reckonWeeks_18 : decode cX9_reckonWeeks 18 = .ok (.iconst 1, 1) := by decide +kernel
theorem dX9_reckonWeeks_19 : decode cX9_reckonWeeks 19 = .ok (.if_icmp .lt 10, 3) := by decide +kernel
theorem dX9_reckonWeeks_22 : decode cX9_reckonWeeks 22 = .ok (.iload 4, 2) := by decide +kernel
theorem dX9_reckonWeeks_24 : decode cX9_reckonWeeks 24 = .ok (.bipush 8, 2) := by decide +kernel
theorem dX9_reckonWeeks_26 : decode cX9_reckonWeeks 26 = .ok (.if_icmp .le 5, 3) := by decide +kernel
theorem dX9_reckonWeeks_29 : decode cX9_reckonWeeks 29 = .ok (.iconst (-1), 1) := by decide +kernel
theorem dX9_reckonWeeks_30 : decode cX9_reckonWeeks 30 = .ok (.ireturn, 1) := by decide +kernel
theorem dX9_reckonWeeks_31 : decode cX9_reckonWeeks 31 = .ok (.iload 5, 2) := by decide +kernel
theorem dX9_reckonWeeks_33 : decode cX9_reckonWeeks 33 = .ok (.sipush 1000, 3) := by decide +kernel
theorem dX9_reckonWeeks_36 : decode cX9_reckonWeeks 36 = .ok (.invokestatic 75, 3) := by decide +kernel
theorem dX9_reckonWeeks_39 : decode cX9_reckonWeeks 39 = .ok (.ifCond .eq 13, 3) := by decide +kernel
theorem dX9_reckonWeeks_42 : decode cX9_reckonWeeks 42 = .ok (.iload 6, 2) := by decide +kernel
theorem dX9_reckonWeeks_44 : decode cX9_reckonWeeks 44 = .ok (.bipush 100, 2) := by decide +kernel
theorem dX9_reckonWeeks_46 : decode cX9_reckonWeeks 46 = .ok (.invokestatic 75, 3) := by decide +kernel
theorem dX9_reckonWeeks_49 : decode cX9_reckonWeeks 49 = .ok (.ifCond .ne 5, 3) := by decide +kernel
theorem dX9_reckonWeeks_52 : decode cX9_reckonWeeks 52 = .ok (.iconst (-1), 1) := by decide +kernel
theorem dX9_reckonWeeks_53 : decode cX9_reckonWeeks 53 = .ok (.ireturn, 1) := by decide +kernel
theorem dX9_reckonWeeks_54 : decode cX9_reckonWeeks 54 = .ok (.aload_n 0, 1) := by decide +kernel
theorem dX9_reckonWeeks_55 : decode cX9_reckonWeeks 55 = .ok (.getfield 70, 3) := by decide +kernel
theorem dX9_reckonWeeks_58 : decode cX9_reckonWeeks 58 = .ok (.iload_n 1, 1) := by decide +kernel
theorem dX9_reckonWeeks_59 : decode cX9_reckonWeeks 59 = .ok (.aaload, 1) := by decide +kernel
theorem dX9_reckonWeeks_60 : decode cX9_reckonWeeks 60 = .ok (.iload_n 2, 1) := by decide +kernel
theorem dX9_reckonWeeks_61 : decode cX9_reckonWeeks 61 = .ok (.iload_n 3, 1) := by decide +kernel
theorem dX9_reckonWeeks_62 : decode cX9_reckonWeeks 62 = .ok (.iload 4, 2) := by decide +kernel
theorem dX9_reckonWeeks_64 : decode cX9_reckonWeeks 64 = .ok (.invokevirtual 192, 3) := by decide +kernel
theorem dX9_reckonWeeks_67 : decode cX9_reckonWeeks 67 = .ok (.istore 7, 2) := by decide +kernel
theorem dX9_reckonWeeks_69 : decode cX9_reckonWeeks 69 = .ok (.iload 7, 2) := by decide +kernel
theorem dX9_reckonWeeks_71 : decode cX9_reckonWeeks 71 = .ok (.ifCond .eq 6, 3) := by decide +kernel
theorem dX9_reckonWeeks_74 : decode cX9_reckonWeeks 74 = .ok (.iload 7, 2) := by decide +kernel
theorem dX9_reckonWeeks_76 : decode cX9_reckonWeeks 76 = .ok (.ireturn, 1) := by decide +kernel
theorem dX9_reckonWeeks_77 : decode cX9_reckonWeeks 77 = .ok (.aload_n 0, 1) := by decide +kernel
theorem dX9_reckonWeeks_78 : decode cX9_reckonWeeks 78 = .ok (.getfield 43, 3) := by decide +kernel
theorem dX9_reckonWeeks_81 : decode cX9_reckonWeeks 81 = .ok (.aload_n 0, 1) := by decide +kernel
theorem dX9_reckonWeeks_82 : decode cX9_reckonWeeks 82 = .ok (.getfield 70, 3) := by decide +kernel
theorem dX9_reckonWeeks_85 : decode cX9_reckonWeeks 85 = .ok (.iload_n 1, 1) := by decide +kernel
theorem dX9_reckonWeeks_86 : decode cX9_reckonWeeks 86 = .ok (.aaload, 1) := by decide +kernel
theorem dX9_reckonWeeks_87 : decode cX9_reckonWeeks 87 = .ok (.iload_n 3, 1) := by decide +kernel
theorem dX9_reckonWeeks_88 : decode cX9_reckonWeeks 88 = .ok (.iload 4, 2) := by decide +kernel
theorem dX9_reckonWeeks_90 : decode cX9_reckonWeeks 90 = .ok (.invokevirtual 293, 3) := by decide +kernel
theorem dX9_reckonWeeks_93 : decode cX9_reckonWeeks 93 = .ok (.ifCond .ne 6, 3) := by decide +kernel
theorem dX9_reckonWeeks_96 : decode cX9_reckonWeeks 96 = .ok (.bipush (-2), 2) := by decide +kernel
theorem dX9_reckonWeeks_98 : decode cX9_reckonWeeks 98 = .ok (.ireturn, 1) := by decide +kernel
theorem dX9_reckonWeeks_99 : decode cX9_reckonWeeks 99 = .ok (.aload_n 0, 1) := by decide +kernel
theorem dX9_reckonWeeks_100 : decode cX9_reckonWeeks 100 = .ok (.getfield 43, 3) := by decide +kernel
theorem dX9_reckonWeeks_103 : decode cX9_reckonWeeks 103 = .ok (.iload 5, 2) := by decide +kernel
theorem dX9_reckonWeeks_105 : decode cX9_reckonWeeks 105 = .ok (.iload 6, 2) := by decide +kernel
theorem dX9_reckonWeeks_107 : decode cX9_reckonWeeks 107 = .ok (.invokevirtual 296, 3) := by decide +kernel
theorem dX9_reckonWeeks_110 : decode cX9_reckonWeeks 110 = .ok (.iconst 0, 1) := by decide +kernel
theorem dX9_reckonWeeks_111 : decode cX9_reckonWeeks 111 = .ok (.ireturn, 1) := by decide +kernel
theorem dX9_inLowestTerms_0 : decode cX9_inLowestTerms 0 = .ok (.iload 4, 2) := by decide +kernel
theorem dX9_inLowestTerms_2 : decode cX9_inLowestTerms 2 = .ok (.ifCond .ne 7, 3) := by decide +kernel
theorem dX9_inLowestTerms_5 : decode cX9_inLowestTerms 5 = .ok (.lload_n 0, 1) := by decide +kernel
theorem dX9_inLowestTerms_6 : decode cX9_inLowestTerms 6 = .ok (.goto 4, 3) := by decide +kernel
theorem dX9_inLowestTerms_9 : decode cX9_inLowestTerms 9 = .ok (.lload_n 2, 1) := by decide +kernel
theorem dX9_inLowestTerms_10 : decode cX9_inLowestTerms 10 = .ok (.lstore 5, 2) := by decide +kernel
theorem dX9_inLowestTerms_12 : decode cX9_inLowestTerms 12 = .ok (.lload_n 0, 1) := by decide +kernel
theorem dX9_inLowestTerms_13 : decode cX9_inLowestTerms 13 = .ok (.lload_n 2, 1) := by decide +kernel
theorem dX9_inLowestTerms_14 : decode cX9_inLowestTerms 14 = .ok (.invokestatic 299, 3) := by decide +kernel
theorem dX9_inLowestTerms_17 : decode cX9_inLowestTerms 17 = .ok (.lstore 7, 2) := by decide +kernel
theorem dX9_inLowestTerms_19 : decode cX9_inLowestTerms 19 = .ok (.lload 7, 2) := by decide +kernel
theorem dX9_inLowestTerms_21 : decode cX9_inLowestTerms 21 = .ok (.lconst 0, 1) := by decide +kernel
theorem dX9_inLowestTerms_22 : decode cX9_inLowestTerms 22 = .ok (.lcmp, 1) := by decide +kernel
theorem dX9_inLowestTerms_23 : decode cX9_inLowestTerms 23 = .ok (.ifCond .ne 8, 3) := by decide +kernel
theorem dX9_inLowestTerms_26 : decode cX9_inLowestTerms 26 = .ok (.lload 5, 2) := by decide +kernel
theorem dX9_inLowestTerms_28 : decode cX9_inLowestTerms 28 = .ok (.goto 8, 3) := by decide +kernel
theorem dX9_inLowestTerms_31 : decode cX9_inLowestTerms 31 = .ok (.lload 5, 2) := by decide +kernel
theorem dX9_inLowestTerms_33 : decode cX9_inLowestTerms 33 = .ok (.lload 7, 2) := by decide +kernel
theorem dX9_inLowestTerms_35 : decode cX9_inLowestTerms 35 = .ok (.ldiv, 1) := by decide +kernel
theorem dX9_inLowestTerms_36 : decode cX9_inLowestTerms 36 = .ok (.lreturn, 1) := by decide +kernel
theorem dX9_commonDivisor_0 : decode cX9_commonDivisor 0 = .ok (.lload_n 0, 1) := by decide +kernel
theorem dX9_commonDivisor_1 : decode cX9_commonDivisor 1 = .ok (.lstore 4, 2) := by decide +kernel
theorem dX9_commonDivisor_3 : decode cX9_commonDivisor 3 = .ok (.lload_n 2, 1) := by decide +kernel
theorem dX9_commonDivisor_4 : decode cX9_commonDivisor 4 = .ok (.lstore 6, 2) := by decide +kernel
theorem dX9_commonDivisor_6 : decode cX9_commonDivisor 6 = .ok (.iconst 0, 1) := by decide +kernel
theorem dX9_commonDivisor_7 : decode cX9_commonDivisor 7 = .ok (.istore 8, 2) := by decide +kernel
theorem dX9_commonDivisor_9 : decode cX9_commonDivisor 9 = .ok (.iload 8, 2) := by decide +kernel
theorem dX9_commonDivisor_11 : decode cX9_commonDivisor 11 = .ok (.sipush 200, 3) := by decide +kernel
theorem dX9_commonDivisor_14 : decode cX9_commonDivisor 14 = .ok (.if_icmp .ge 31, 3) := by decide +kernel
theorem dX9_commonDivisor_17 : decode cX9_commonDivisor 17 = .ok (.lload 6, 2) := by decide +kernel
theorem dX9_commonDivisor_19 : decode cX9_commonDivisor 19 = .ok (.lconst 0, 1) := by decide +kernel
theorem dX9_commonDivisor_20 : decode cX9_commonDivisor 20 = .ok (.lcmp, 1) := by decide +kernel
theorem dX9_commonDivisor_21 : decode cX9_commonDivisor 21 = .ok (.ifCond .eq 24, 3) := by decide +kernel
theorem dX9_commonDivisor_24 : decode cX9_commonDivisor 24 = .ok (.lload 4, 2) := by decide +kernel
theorem dX9_commonDivisor_26 : decode cX9_commonDivisor 26 = .ok (.lload 6, 2) := by decide +kernel
theorem dX9_commonDivisor_28 : decode cX9_commonDivisor 28 = .ok (.lrem, 1) := by decide +kernel
theorem dX9_commonDivisor_29 : decode cX9_commonDivisor 29 = .ok (.lstore 9, 2) := by decide +kernel
theorem dX9_commonDivisor_31 : decode cX9_commonDivisor 31 = .ok (.lload 6, 2) := by decide +kernel
theorem dX9_commonDivisor_33 : decode cX9_commonDivisor 33 = .ok (.lstore 4, 2) := by decide +kernel
theorem dX9_commonDivisor_35 : decode cX9_commonDivisor 35 = .ok (.lload 9, 2) := by decide +kernel
theorem dX9_commonDivisor_37 : decode cX9_commonDivisor 37 = .ok (.lstore 6, 2) := by decide +kernel
theorem dX9_commonDivisor_39 : decode cX9_commonDivisor 39 = .ok (.iinc 8 1, 3) := by decide +kernel
theorem dX9_commonDivisor_42 : decode cX9_commonDivisor 42 = .ok (.goto (-33), 3) := by decide +kernel
theorem dX9_commonDivisor_45 : decode cX9_commonDivisor 45 = .ok (.lload 4, 2) := by decide +kernel
theorem dX9_commonDivisor_47 : decode cX9_commonDivisor 47 = .ok (.lreturn, 1) := by decide +kernel
theorem dX9_choose_0 : decode cX9_choose 0 = .ok (.iload_n 1, 1) := by decide +kernel
theorem dX9_choose_1 : decode cX9_choose 1 = .ok (.ifCond .lt 8, 3) := by decide +kernel
theorem dX9_choose_4 : decode cX9_choose 4 = .ok (.iload_n 1, 1) := by decide +kernel
theorem dX9_choose_5 : decode cX9_choose 5 = .ok (.iload_n 0, 1) := by decide +kernel
theorem dX9_choose_6 : decode cX9_choose 6 = .ok (.if_icmp .le 5, 3) := by decide +kernel
theorem dX9_choose_9 : decode cX9_choose 9 = .ok (.lconst 0, 1) := by decide +kernel
theorem dX9_choose_10 : decode cX9_choose 10 = .ok (.lreturn, 1) := by decide +kernel
theorem dX9_choose_11 : decode cX9_choose 11 = .ok (.lconst 1, 1) := by decide +kernel
theorem dX9_choose_12 : decode cX9_choose 12 = .ok (.lstore_n 2, 1) := by decide +kernel
theorem dX9_choose_13 : decode cX9_choose 13 = .ok (.iconst 1, 1) := by decide +kernel
theorem dX9_choose_14 : decode cX9_choose 14 = .ok (.istore 4, 2) := by decide +kernel
theorem dX9_choose_16 : decode cX9_choose 16 = .ok (.iload 4, 2) := by decide +kernel
theorem dX9_choose_18 : decode cX9_choose 18 = .ok (.iload_n 1, 1) := by decide +kernel
theorem dX9_choose_19 : decode cX9_choose 19 = .ok (.if_icmp .gt 23, 3) := by decide +kernel
theorem dX9_choose_22 : decode cX9_choose 22 = .ok (.lload_n 2, 1) := by decide +kernel
theorem dX9_choose_23 : decode cX9_choose 23 = .ok (.iload_n 0, 1) := by decide +kernel
theorem dX9_choose_24 : decode cX9_choose 24 = .ok (.iload_n 1, 1) := by decide +kernel
theorem dX9_choose_25 : decode cX9_choose 25 = .ok (.isub, 1) := by decide +kernel
theorem dX9_choose_26 : decode cX9_choose 26 = .ok (.iload 4, 2) := by decide +kernel
theorem dX9_choose_28 : decode cX9_choose 28 = .ok (.iadd, 1) := by decide +kernel
theorem dX9_choose_29 : decode cX9_choose 29 = .ok (.i2l, 1) := by decide +kernel
theorem dX9_choose_30 : decode cX9_choose 30 = .ok (.lmul, 1) := by decide +kernel
theorem dX9_choose_31 : decode cX9_choose 31 = .ok (.iload 4, 2) := by decide +kernel
theorem dX9_choose_33 : decode cX9_choose 33 = .ok (.i2l, 1) := by decide +kernel
theorem dX9_choose_34 : decode cX9_choose 34 = .ok (.ldiv, 1) := by decide +kernel
theorem dX9_choose_35 : decode cX9_choose 35 = .ok (.lstore_n 2, 1) := by decide +kernel
theorem dX9_choose_36 : decode cX9_choose 36 = .ok (.iinc 4 1, 3) := by decide +kernel
theorem dX9_choose_39 : decode cX9_choose 39 = .ok (.goto (-23), 3) := by decide +kernel
theorem dX9_choose_42 : decode cX9_choose 42 = .ok (.lload_n 2, 1) := by decide +kernel
theorem dX9_choose_43 : decode cX9_choose 43 = .ok (.lreturn, 1) := by decide +kernel
theorem dX10_in_0 : decode cX10_in 0 = .ok (.lload_n 0, 1) := by decide +kernel
theorem dX10_in_1 : decode cX10_in 1 = .ok (.lload_n 2, 1) := by decide +kernel
theorem dX10_in_2 : decode cX10_in 2 = .ok (.lcmp, 1) := by decide +kernel
theorem dX10_in_3 : decode cX10_in 3 = .ok (.ifCond .lt 14, 3) := by decide +kernel
theorem dX10_in_6 : decode cX10_in 6 = .ok (.lload_n 0, 1) := by decide +kernel
theorem dX10_in_7 : decode cX10_in 7 = .ok (.lload 4, 2) := by decide +kernel
theorem dX10_in_9 : decode cX10_in 9 = .ok (.lcmp, 1) := by decide +kernel
theorem dX10_in_10 : decode cX10_in 10 = .ok (.ifCond .gt 7, 3) := by decide +kernel
theorem dX10_in_13 : decode cX10_in 13 = .ok (.iconst 1, 1) := by decide +kernel
theorem dX10_in_14 : decode cX10_in 14 = .ok (.goto 4, 3) := by decide +kernel
theorem dX10_in_17 : decode cX10_in 17 = .ok (.iconst 0, 1) := by decide +kernel
theorem dX10_in_18 : decode cX10_in 18 = .ok (.ireturn, 1) := by decide +kernel
theorem dX10_init_0 : decode cX10_init 0 = .ok (.aload_n 0, 1) := by decide +kernel
theorem dX10_init_1 : decode cX10_init 1 = .ok (.invokespecial 1, 3) := by decide +kernel
theorem dX10_init_4 : decode cX10_init 4 = .ok (.aload_n 0, 1) := by decide +kernel
theorem dX10_init_5 : decode cX10_init 5 = .ok (.sipush 205, 3) := by decide +kernel
theorem dX10_init_8 : decode cX10_init 8 = .ok (.newarray .int, 2) := by decide +kernel
theorem dX10_init_10 : decode cX10_init 10 = .ok (.putfield 7, 3) := by decide +kernel
theorem dX10_init_13 : decode cX10_init 13 = .ok (.aload_n 0, 1) := by decide +kernel
theorem dX10_init_14 : decode cX10_init 14 = .ok (.bipush 80, 2) := by decide +kernel
theorem dX10_init_16 : decode cX10_init 16 = .ok (.newarray .int, 2) := by decide +kernel
theorem dX10_init_18 : decode cX10_init 18 = .ok (.putfield 13, 3) := by decide +kernel
theorem dX10_init_21 : decode cX10_init 21 = .ok (.aload_n 0, 1) := by decide +kernel
theorem dX10_init_22 : decode cX10_init 22 = .ok (.bipush 40, 2) := by decide +kernel
theorem dX10_init_24 : decode cX10_init 24 = .ok (.newarray .int, 2) := by decide +kernel
theorem dX10_init_26 : decode cX10_init 26 = .ok (.putfield 16, 3) := by decide +kernel
theorem dX10_init_29 : decode cX10_init 29 = .ok (.aload_n 0, 1) := by decide +kernel
theorem dX10_init_30 : decode cX10_init 30 = .ok (.sipush 4096, 3) := by decide +kernel
theorem dX10_init_33 : decode cX10_init 33 = .ok (.newarray .int, 2) := by decide +kernel
theorem dX10_init_35 : decode cX10_init 35 = .ok (.putfield 19, 3) := by decide +kernel
theorem dX10_init_38 : decode cX10_init 38 = .ok (.aload_n 0, 1) := by decide +kernel
theorem dX10_init_39 : decode cX10_init 39 = .ok (.bipush 12, 2) := by decide +kernel
theorem dX10_init_41 : decode cX10_init 41 = .ok (.newarray .int, 2) := by decide +kernel
theorem dX10_init_43 : decode cX10_init 43 = .ok (.putfield 22, 3) := by decide +kernel
theorem dX10_init_46 : decode cX10_init 46 = .ok (.aload_n 0, 1) := by decide +kernel
theorem dX10_init_47 : decode cX10_init 47 = .ok (.bipush 9, 2) := by decide +kernel
theorem dX10_init_49 : decode cX10_init 49 = .ok (.newarray .long, 2) := by decide +kernel
theorem dX10_init_51 : decode cX10_init 51 = .ok (.putfield 25, 3) := by decide +kernel
theorem dX10_init_54 : decode cX10_init 54 = .ok (.aload_n 0, 1) := by decide +kernel
theorem dX10_init_55 : decode cX10_init 55 = .ok (.bipush 9, 2) := by decide +kernel
theorem dX10_init_57 : decode cX10_init 57 = .ok (.newarray .long, 2) := by decide +kernel
theorem dX10_init_59 : decode cX10_init 59 = .ok (.putfield 29, 3) := by decide +kernel
theorem dX10_init_62 : decode cX10_init 62 = .ok (.aload_n 0, 1) := by decide +kernel
theorem dX10_init_63 : decode cX10_init 63 = .ok (.bipush 13, 2) := by decide +kernel
theorem dX10_init_65 : decode cX10_init 65 = .ok (.newarray .int, 2) := by decide +kernel
theorem dX10_init_67 : decode cX10_init 67 = .ok (.putfield 32, 3) := by decide +kernel
theorem dX10_init_70 : decode cX10_init 70 = .ok (.aload_n 0, 1) := by decide +kernel
theorem dX10_init_71 : decode cX10_init 71 = .ok (.bipush 13, 2) := by decide +kernel
theorem dX10_init_73 : decode cX10_init 73 = .ok (.newarray .int, 2) := by decide +kernel
theorem dX10_init_75 : decode cX10_init 75 = .ok (.putfield 35, 3) := by decide +kernel
theorem dX10_init_78 : decode cX10_init 78 = .ok (.aload_n 0, 1) := by decide +kernel
theorem dX10_init_79 : decode cX10_init 79 = .ok (.sipush 169, 3) := by decide +kernel
theorem dX10_init_82 : decode cX10_init 82 = .ok (.newarray .long, 2) := by decide +kernel
theorem dX10_init_84 : decode cX10_init 84 = .ok (.putfield 38, 3) := by decide +kernel
theorem dX10_init_87 : decode cX10_init 87 = .ok (.aload_n 0, 1) := by decide +kernel
theorem dX10_init_88 : decode cX10_init 88 = .ok (.sipush 169, 3) := by decide +kernel
theorem dX10_init_91 : decode cX10_init 91 = .ok (.newarray .long, 2) := by decide +kernel
theorem dX10_init_93 : decode cX10_init 93 = .ok (.putfield 41, 3) := by decide +kernel
theorem dX10_init_96 : decode cX10_init 96 = .ok (.aload_n 0, 1) := by decide +kernel
theorem dX10_init_97 : decode cX10_init 97 = .ok (.iconst 5, 1) := by decide +kernel
theorem dX10_init_98 : decode cX10_init 98 = .ok (.newarray .int, 2) := by decide +kernel
theorem dX10_init_100 : decode cX10_init 100 = .ok (.putfield 44, 3) := by decide +kernel
theorem dX10_init_103 : decode cX10_init 103 = .ok (.aload_n 0, 1) := by decide +kernel
theorem dX10_init_104 : decode cX10_init 104 = .ok (.sipush 205, 3) := by decide +kernel
theorem dX10_init_107 : decode cX10_init 107 = .ok (.newarray .int, 2) := by decide +kernel
theorem dX10_init_109 : decode cX10_init 109 = .ok (.putfield 47, 3) := by decide +kernel
theorem dX10_init_112 : decode cX10_init 112 = .ok (.aload_n 0, 1) := by decide +kernel
theorem dX10_init_113 : decode cX10_init 113 = .ok (.iconst 4, 1) := by decide +kernel
theorem dX10_init_114 : decode cX10_init 114 = .ok (.newarray .int, 2) := by decide +kernel
theorem dX10_init_116 : decode cX10_init 116 = .ok (.putfield 50, 3) := by decide +kernel
theorem dX10_init_119 : decode cX10_init 119 = .ok (.aload_n 0, 1) := by decide +kernel
theorem dX10_init_120 : decode cX10_init 120 = .ok (.iconst 4, 1) := by decide +kernel
theorem dX10_init_121 : decode cX10_init 121 = .ok (.newarray .int, 2) := by decide +kernel
theorem dX10_init_123 : decode cX10_init 123 = .ok (.putfield 53, 3) := by decide +kernel
theorem dX10_init_126 : decode cX10_init 126 = .ok (.aload_n 0, 1) := by decide +kernel
theorem dX10_init_127 : decode cX10_init 127 = .ok (.bipush 64, 2) := by decide +kernel
theorem dX10_init_129 : decode cX10_init 129 = .ok (.newarray .int, 2) := by decide +kernel
theorem dX10_init_131 : decode cX10_init 131 = .ok (.putfield 56, 3) := by decide +kernel
theorem dX10_init_134 : decode cX10_init 134 = .ok (.iconst 0, 1) := by decide +kernel
theorem dX10_init_135 : decode cX10_init 135 = .ok (.istore_n 1, 1) := by decide +kernel
theorem dX10_init_136 : decode cX10_init 136 = .ok (.iload_n 1, 1) := by decide +kernel
theorem dX10_init_137 : decode cX10_init 137 = .ok (.iconst 4, 1) := by decide +kernel
theorem dX10_init_138 : decode cX10_init 138 = .ok (.if_icmp .ge 16, 3) := by decide +kernel
theorem dX10_init_141 : decode cX10_init 141 = .ok (.aload_n 0, 1) := by decide +kernel
theorem dX10_init_142 : decode cX10_init 142 = .ok (.getfield 50, 3) := by decide +kernel
theorem dX10_init_145 : decode cX10_init 145 = .ok (.iload_n 1, 1) := by decide +kernel
theorem dX10_init_146 : decode cX10_init 146 = .ok (.iconst (-1), 1) := by decide +kernel
theorem dX10_init_147 : decode cX10_init 147 = .ok (.iastore, 1) := by decide +kernel
theorem dX10_init_148 : decode cX10_init 148 = .ok (.iinc 1 1, 3) := by decide +kernel
theorem dX10_init_151 : decode cX10_init 151 = .ok (.goto (-15), 3) := by decide +kernel
theorem dX10_init_154 : decode cX10_init 154 = .ok (.aload_n 0, 1) := by decide +kernel
theorem dX10_init_155 : decode cX10_init 155 = .ok (.getfield 7, 3) := by decide +kernel
theorem dX10_init_158 : decode cX10_init 158 = .ok (.iconst 2, 1) := by decide +kernel
theorem dX10_init_159 : decode cX10_init 159 = .ok (.iconst 5, 1) := by decide +kernel
theorem dX10_init_160 : decode cX10_init 160 = .ok (.iastore, 1) := by decide +kernel
theorem dX10_init_161 : decode cX10_init 161 = .ok (.iconst 0, 1) := by decide +kernel
theorem dX10_init_162 : decode cX10_init 162 = .ok (.istore_n 1, 1) := by decide +kernel
theorem dX10_init_163 : decode cX10_init 163 = .ok (.iload_n 1, 1) := by decide +kernel
theorem dX10_init_164 : decode cX10_init 164 = .ok (.bipush 18, 2) := by decide +kernel
theorem dX10_init_166 : decode cX10_init 166 = .ok (.if_icmp .ge 25, 3) := by decide +kernel
theorem dX10_init_169 : decode cX10_init 169 = .ok (.aload_n 0, 1) := by decide +kernel
theorem dX10_init_170 : decode cX10_init 170 = .ok (.getfield 7, 3) := by decide +kernel
theorem dX10_init_173 : decode cX10_init 173 = .ok (.sipush 169, 3) := by decide +kernel
theorem dX10_init_176 : decode cX10_init 176 = .ok (.iconst 2, 1) := by decide +kernel
theorem dX10_init_177 : decode cX10_init 177 = .ok (.iload_n 1, 1) := by decide +kernel
theorem dX10_init_178 : decode cX10_init 178 = .ok (.imul, 1) := by decide +kernel
theorem dX10_init_179 : decode cX10_init 179 = .ok (.iadd, 1) := by decide +kernel
theorem dX10_init_180 : decode cX10_init 180 = .ok (.iconst 1, 1) := by decide +kernel
theorem dX10_init_181 : decode cX10_init 181 = .ok (.iadd, 1) := by decide +kernel
theorem dX10_init_182 : decode cX10_init 182 = .ok (.bipush 12, 2) := by decide +kernel
theorem dX10_init_184 : decode cX10_init 184 = .ok (.iastore, 1) := by decide +kernel
theorem dX10_init_185 : decode cX10_init 185 = .ok (.iinc 1 1, 3) := by decide +kernel
theorem dX10_init_188 : decode cX10_init 188 = .ok (.goto (-25), 3) := by decide +kernel
theorem dX10_init_191 : decode cX10_init 191 = .ok (.return_, 1) := by decide +kernel
theorem dX10_of_0 : decode cX10_of 0 = .ok (.aload_n 0, 1) := by decide +kernel
theorem dX10_of_1 : decode cX10_of 1 = .ok (.getfield 7, 3) := by decide +kernel
theorem dX10_of_4 : decode cX10_of 4 = .ok (.bipush 13, 2) := by decide +kernel
theorem dX10_of_6 : decode cX10_of 6 = .ok (.bipush 10, 2) := by decide +kernel
theorem dX10_of_8 : decode cX10_of 8 = .ok (.iload_n 1, 1) := by decide +kernel
theorem dX10_of_9 : decode cX10_of 9 = .ok (.imul, 1) := by decide +kernel
theorem dX10_of_10 : decode cX10_of 10 = .ok (.iadd, 1) := by decide +kernel
theorem dX10_of_11 : decode cX10_of 11 = .ok (.iload_n 2, 1) := by decide +kernel
theorem dX10_of_12 : decode cX10_of 12 = .ok (.iadd, 1) := by decide +kernel
theorem dX10_of_13 : decode cX10_of 13 = .ok (.iaload, 1) := by decide +kernel
theorem dX10_of_14 : decode cX10_of 14 = .ok (.ireturn, 1) := by decide +kernel
theorem dX10_put_0 : decode cX10_put 0 = .ok (.aload_n 0, 1) := by decide +kernel
theorem dX10_put_1 : decode cX10_put 1 = .ok (.getfield 7, 3) := by decide +kernel
theorem dX10_put_4 : decode cX10_put 4 = .ok (.bipush 13, 2) := by decide +kernel
theorem dX10_put_6 : decode cX10_put 6 = .ok (.bipush 10, 2) := by decide +kernel
theorem dX10_put_8 : decode cX10_put 8 = .ok (.iload_n 1, 1) := by decide +kernel
theorem dX10_put_9 : decode cX10_put 9 = .ok (.imul, 1) := by decide +kernel
theorem dX10_put_10 : decode cX10_put 10 = .ok (.iadd, 1) := by decide +kernel
theorem dX10_put_11 : decode cX10_put 11 = .ok (.iload_n 2, 1) := by decide +kernel
theorem dX10_put_12 : decode cX10_put 12 = .ok (.iadd, 1) := by decide +kernel
theorem dX10_put_13 : decode cX10_put 13 = .ok (.iload_n 3, 1) := by decide +kernel
theorem dX10_put_14 : decode cX10_put 14 = .ok (.iastore, 1) := by decide +kernel
theorem dX10_put_15 : decode cX10_put 15 = .ok (.return_, 1) := by decide +kernel
theorem dX10_isSock_0 : decode cX10_isSock 0 = .ok (.iload_n 1, 1) := by decide +kernel
theorem dX10_isSock_1 : decode cX10_isSock 1 = .ok (.i2l, 1) := by decide +kernel
theorem dX10_isSock_2 : decode cX10_isSock 2 = .ok (.lconst 0, 1) := by decide +kernel
theorem dX10_isSock_3 : decode cX10_isSock 3 = .ok (.aload_n 0, 1) := by decide +kernel
theorem dX10_isSock_4 : decode cX10_isSock 4 = .ok (.getfield 7, 3) := by decide +kernel
theorem dX10_isSock_7 : decode cX10_isSock 7 = .ok (.iconst 0, 1) := by decide +kernel
theorem dX10_isSock_8 : decode cX10_isSock 8 = .ok (.iaload, 1) := by decide +kernel
theorem dX10_isSock_9 : decode cX10_isSock 9 = .ok (.iconst 1, 1) := by decide +kernel
theorem dX10_isSock_10 : decode cX10_isSock 10 = .ok (.isub, 1) := by decide +kernel
theorem dX10_isSock_11 : decode cX10_isSock 11 = .ok (.i2l, 1) := by decide +kernel
theorem dX10_isSock_12 : decode cX10_isSock 12 = .ok (.invokestatic 59, 3) := by decide +kernel
theorem dX10_isSock_15 : decode cX10_isSock 15 = .ok (.ireturn, 1) := by decide +kernel
theorem dX10_areTwo_0 : decode cX10_areTwo 0 = .ok (.aload_n 0, 1) := by decide +kernel
theorem dX10_areTwo_1 : decode cX10_areTwo 1 = .ok (.iload_n 1, 1) := by decide +kernel
theorem dX10_areTwo_2 : decode cX10_areTwo 2 = .ok (.invokevirtual 63, 3) := by decide +kernel
theorem dX10_areTwo_5 : decode cX10_areTwo 5 = .ok (.ifCond .eq 20, 3) := by decide +kernel
theorem dX10_areTwo_8 : decode cX10_areTwo 8 = .ok (.aload_n 0, 1) := by decide +kernel
theorem dX10_areTwo_9 : decode cX10_areTwo 9 = .ok (.iload_n 2, 1) := by decide +kernel
theorem dX10_areTwo_10 : decode cX10_areTwo 10 = .ok (.invokevirtual 63, 3) := by decide +kernel
theorem dX10_areTwo_13 : decode cX10_areTwo 13 = .ok (.ifCond .eq 12, 3) := by decide +kernel
theorem dX10_areTwo_16 : decode cX10_areTwo 16 = .ok (.iload_n 1, 1) := by decide +kernel
theorem dX10_areTwo_17 : decode cX10_areTwo 17 = .ok (.iload_n 2, 1) := by decide +kernel
theorem dX10_areTwo_18 : decode cX10_areTwo 18 = .ok (.if_icmp .eq 7, 3) := by decide +kernel
theorem dX10_areTwo_21 : decode cX10_areTwo 21 = .ok (.iconst 1, 1) := by decide +kernel
theorem dX10_areTwo_22 : decode cX10_areTwo 22 = .ok (.goto 4, 3) := by decide +kernel
theorem dX10_areTwo_25 : decode cX10_areTwo 25 = .ok (.iconst 0, 1) := by decide +kernel
theorem dX10_areTwo_26 : decode cX10_areTwo 26 = .ok (.ireturn, 1) := by decide +kernel
theorem dX10_has_0 : decode cX10_has 0 = .ok (.iload_n 0, 1) := by decide +kernel
theorem dX10_has_1 : decode cX10_has 1 = .ok (.iload_n 1, 1) := by decide +kernel
theorem dX10_has_2 : decode cX10_has 2 = .ok (.ishr, 1) := by decide +kernel
theorem dX10_has_3 : decode cX10_has 3 = .ok (.iconst 1, 1) := by decide +kernel
theorem dX10_has_4 : decode cX10_has 4 = .ok (.iand, 1) := by decide +kernel
theorem dX10_has_5 : decode cX10_has 5 = .ok (.iconst 1, 1) := by decide +kernel
theorem dX10_has_6 : decode cX10_has 6 = .ok (.if_icmp .ne 7, 3) := by decide +kernel
theorem dX10_has_9 : decode cX10_has 9 = .ok (.iconst 1, 1) := by decide +kernel
theorem dX10_has_10 : decode cX10_has 10 = .ok (.goto 4, 3) := by decide +kernel
theorem dX10_has_13 : decode cX10_has 13 = .ok (.iconst 0, 1) := by decide +kernel
theorem dX10_has_14 : decode cX10_has 14 = .ok (.ireturn, 1) := by decide +kernel
theorem dX10_allSocks_0 : decode cX10_allSocks 0 = .ok (.iconst 1, 1) := by decide +kernel
theorem dX10_allSocks_1 : decode cX10_allSocks 1 = .ok (.aload_n 0, 1) := by decide +kernel
theorem dX10_allSocks_2 : decode cX10_allSocks 2 = .ok (.getfield 7, 3) := by decide +kernel
theorem dX10_allSocks_5 : decode cX10_allSocks 5 = .ok (.iconst 0, 1) := by decide +kernel
theorem dX10_allSocks_6 : decode cX10_allSocks 6 = .ok (.iaload, 1) := by decide +kernel
theorem dX10_allSocks_7 : decode cX10_allSocks 7 = .ok (.ishl, 1) := by decide +kernel
theorem dX10_allSocks_8 : decode cX10_allSocks 8 = .ok (.iconst 1, 1) := by decide +kernel
theorem dX10_allSocks_9 : decode cX10_allSocks 9 = .ok (.isub, 1) := by decide +kernel
theorem dX10_allSocks_10 : decode cX10_allSocks 10 = .ok (.ireturn, 1) := by decide +kernel
theorem dX10_inPlace_0 : decode cX10_inPlace 0 = .ok (.iconst 0, 1) := by decide +kernel
theorem dX10_inPlace_1 : decode cX10_inPlace 1 = .ok (.istore_n 2, 1) := by decide +kernel
theorem dX10_inPlace_2 : decode cX10_inPlace 2 = .ok (.iconst 0, 1) := by decide +kernel
theorem dX10_inPlace_3 : decode cX10_inPlace 3 = .ok (.istore_n 3, 1) := by decide +kernel
theorem dX10_inPlace_4 : decode cX10_inPlace 4 = .ok (.iload_n 3, 1) := by decide +kernel
theorem dX10_inPlace_5 : decode cX10_inPlace 5 = .ok (.aload_n 0, 1) := by decide +kernel
theorem dX10_inPlace_6 : decode cX10_inPlace 6 = .ok (.getfield 7, 3) := by decide +kernel
theorem dX10_inPlace_9 : decode cX10_inPlace 9 = .ok (.iconst 0, 1) := by decide +kernel
theorem dX10_inPlace_10 : decode cX10_inPlace 10 = .ok (.iaload, 1) := by decide +kernel
theorem dX10_inPlace_11 : decode cX10_inPlace 11 = .ok (.if_icmp .ge 29, 3) := by decide +kernel
theorem dX10_inPlace_14 : decode cX10_inPlace 14 = .ok (.iload_n 2, 1) := by decide +kernel
theorem dX10_inPlace_15 : decode cX10_inPlace 15 = .ok (.aload_n 0, 1) := by decide +kernel
theorem dX10_inPlace_16 : decode cX10_inPlace 16 = .ok (.iload_n 3, 1) := by decide +kernel
theorem dX10_inPlace_17 : decode cX10_inPlace 17 = .ok (.iconst 4, 1) := by decide +kernel
theorem dX10_inPlace_18 : decode cX10_inPlace 18 = .ok (.invokevirtual 67, 3) := by decide +kernel
theorem dX10_inPlace_21 : decode cX10_inPlace 21 = .ok (.iload_n 1, 1) := by decide +kernel
theorem dX10_inPlace_22 : decode cX10_inPlace 22 = .ok (.if_icmp .ne 9, 3) := by decide +kernel
theorem dX10_inPlace_25 : decode cX10_inPlace 25 = .ok (.iconst 1, 1) := by decide +kernel
theorem dX10_inPlace_26 : decode cX10_inPlace 26 = .ok (.iload_n 3, 1) := by decide +kernel
theorem dX10_inPlace_27 : decode cX10_inPlace 27 = .ok (.ishl, 1) := by decide +kernel
theorem dX10_inPlace_28 : decode cX10_inPlace 28 = .ok (.goto 4, 3) := by decide +kernel
theorem dX10_inPlace_31 : decode cX10_inPlace 31 = .ok (.iconst 0, 1) := by decide +kernel
theorem dX10_inPlace_32 : decode cX10_inPlace 32 = .ok (.ior, 1) := by decide +kernel
theorem dX10_inPlace_33 : decode cX10_inPlace 33 = .ok (.istore_n 2, 1) := by decide +kernel
theorem dX10_inPlace_34 : decode cX10_inPlace 34 = .ok (.iinc 3 1, 3) := by decide +kernel
theorem dX10_inPlace_37 : decode cX10_inPlace 37 = .ok (.goto (-33), 3) := by decide +kernel
theorem dX10_inPlace_40 : decode cX10_inPlace 40 = .ok (.iload_n 2, 1) := by decide +kernel
theorem dX10_inPlace_41 : decode cX10_inPlace 41 = .ok (.ireturn, 1) := by decide +kernel
theorem dX10_ones_0 : decode cX10_ones 0 = .ok (.iconst 0, 1) := by decide +kernel
theorem dX10_ones_1 : decode cX10_ones 1 = .ok (.istore_n 1, 1) := by decide +kernel
theorem dX10_ones_2 : decode cX10_ones 2 = .ok (.iload_n 0, 1) := by decide +kernel
theorem dX10_ones_3 : decode cX10_ones 3 = .ok (.istore_n 2, 1) := by decide +kernel
theorem dX10_ones_4 : decode cX10_ones 4 = .ok (.iload_n 2, 1) := by decide +kernel
theorem dX10_ones_5 : decode cX10_ones 5 = .ok (.ifCond .eq 15, 3) := by decide +kernel
theorem dX10_ones_8 : decode cX10_ones 8 = .ok (.iinc 1 1, 3) := by decide +kernel
theorem dX10_ones_11 : decode cX10_ones 11 = .ok (.iload_n 2, 1) := by decide +kernel
theorem dX10_ones_12 : decode cX10_ones 12 = .ok (.iload_n 2, 1) := by decide +kernel
theorem dX10_ones_13 : decode cX10_ones 13 = .ok (.iconst 1, 1) := by decide +kernel
theorem dX10_ones_14 : decode cX10_ones 14 = .ok (.isub, 1) := by decide +kernel
theorem dX10_ones_15 : decode cX10_ones 15 = .ok (.iand, 1) := by decide +kernel
theorem dX10_ones_16 : decode cX10_ones 16 = .ok (.istore_n 2, 1) := by decide +kernel
theorem dX10_ones_17 : decode cX10_ones 17 = .ok (.goto (-13), 3) := by decide +kernel
theorem dX10_ones_20 : decode cX10_ones 20 = .ok (.iload_n 1, 1) := by decide +kernel
theorem dX10_ones_21 : decode cX10_ones 21 = .ok (.ireturn, 1) := by decide +kernel
theorem dX10_add_0 : decode cX10_add 0 = .ok (.aload_n 0, 1) := by decide +kernel
theorem dX10_add_1 : decode cX10_add 1 = .ok (.getfield 7, 3) := by decide +kernel
theorem dX10_add_4 : decode cX10_add 4 = .ok (.iconst 0, 1) := by decide +kernel
theorem dX10_add_5 : decode cX10_add 5 = .ok (.iaload, 1) := by decide +kernel
theorem dX10_add_6 : decode cX10_add 6 = .ok (.istore 6, 2) := by decide +kernel
theorem dX10_add_8 : decode cX10_add 8 = .ok (.aload_n 0, 1) := by decide +kernel
theorem dX10_add_9 : decode cX10_add 9 = .ok (.iload 6, 2) := by decide +kernel
theorem dX10_add_11 : decode cX10_add 11 = .ok (.iconst 0, 1) := by decide +kernel
theorem dX10_add_12 : decode cX10_add 12 = .ok (.iload_n 1, 1) := by decide +kernel
theorem dX10_add_13 : decode cX10_add 13 = .ok (.invokevirtual 71, 3) := by decide +kernel
theorem dX10_add_16 : decode cX10_add 16 = .ok (.aload_n 0, 1) := by decide +kernel
theorem dX10_add_17 : decode cX10_add 17 = .ok (.iload 6, 2) := by decide +kernel
theorem dX10_add_19 : decode cX10_add 19 = .ok (.iconst 1, 1) := by decide +kernel
theorem dX10_add_20 : decode cX10_add 20 = .ok (.iload_n 2, 1) := by decide +kernel
theorem dX10_add_21 : decode cX10_add 21 = .ok (.invokevirtual 71, 3) := by decide +kernel
theorem dX10_add_24 : decode cX10_add 24 = .ok (.aload_n 0, 1) := by decide +kernel
theorem dX10_add_25 : decode cX10_add 25 = .ok (.iload 6, 2) := by decide +kernel
theorem dX10_add_27 : decode cX10_add 27 = .ok (.iconst 2, 1) := by decide +kernel
theorem dX10_add_28 : decode cX10_add 28 = .ok (.iload_n 3, 1) := by decide +kernel
theorem dX10_add_29 : decode cX10_add 29 = .ok (.invokevirtual 71, 3) := by decide +kernel
theorem dX10_add_32 : decode cX10_add 32 = .ok (.aload_n 0, 1) := by decide +kernel
theorem dX10_add_33 : decode cX10_add 33 = .ok (.iload 6, 2) := by decide +kernel
theorem dX10_add_35 : decode cX10_add 35 = .ok (.iconst 3, 1) := by decide +kernel
theorem dX10_add_36 : decode cX10_add 36 = .ok (.iload 4, 2) := by decide +kernel
theorem dX10_add_38 : decode cX10_add 38 = .ok (.invokevirtual 71, 3) := by decide +kernel
theorem dX10_add_41 : decode cX10_add 41 = .ok (.aload_n 0, 1) := by decide +kernel
theorem dX10_add_42 : decode cX10_add 42 = .ok (.iload 6, 2) := by decide +kernel
theorem dX10_add_44 : decode cX10_add 44 = .ok (.iconst 4, 1) := by decide +kernel
theorem dX10_add_45 : decode cX10_add 45 = .ok (.iconst 0, 1) := by decide +kernel
theorem dX10_add_46 : decode cX10_add 46 = .ok (.invokevirtual 71, 3) := by decide +kernel
theorem dX10_add_49 : decode cX10_add 49 = .ok (.aload_n 0, 1) := by decide +kernel
theorem dX10_add_50 : decode cX10_add 50 = .ok (.iload 6, 2) := by decide +kernel
theorem dX10_add_52 : decode cX10_add 52 = .ok (.iconst 5, 1) := by decide +kernel
theorem dX10_add_53 : decode cX10_add 53 = .ok (.bipush (-4), 2) := by decide +kernel
theorem dX10_add_55 : decode cX10_add 55 = .ok (.invokevirtual 71, 3) := by decide +kernel
theorem dX10_add_58 : decode cX10_add 58 = .ok (.aload_n 0, 1) := by decide +kernel
theorem dX10_add_59 : decode cX10_add 59 = .ok (.iload 6, 2) := by decide +kernel
theorem dX10_add_61 : decode cX10_add 61 = .ok (.bipush 6, 2) := by decide +kernel
theorem dX10_add_63 : decode cX10_add 63 = .ok (.iconst 0, 1) := by decide +kernel
theorem dX10_add_64 : decode cX10_add 64 = .ok (.invokevirtual 71, 3) := by decide +kernel
theorem dX10_add_67 : decode cX10_add 67 = .ok (.aload_n 0, 1) := by decide +kernel
theorem dX10_add_68 : decode cX10_add 68 = .ok (.iload 6, 2) := by decide +kernel
theorem dX10_add_70 : decode cX10_add 70 = .ok (.bipush 7, 2) := by decide +kernel
theorem dX10_add_72 : decode cX10_add 72 = .ok (.bipush (-4), 2) := by decide +kernel
theorem dX10_add_74 : decode cX10_add 74 = .ok (.invokevirtual 71, 3) := by decide +kernel
theorem dX10_add_77 : decode cX10_add 77 = .ok (.aload_n 0, 1) := by decide +kernel
theorem dX10_add_78 : decode cX10_add 78 = .ok (.iload 6, 2) := by decide +kernel
theorem dX10_add_80 : decode cX10_add 80 = .ok (.bipush 8, 2) := by decide +kernel
theorem dX10_add_82 : decode cX10_add 82 = .ok (.iload 5, 2) := by decide +kernel
theorem dX10_add_84 : decode cX10_add 84 = .ok (.invokevirtual 71, 3) := by decide +kernel
theorem dX10_add_87 : decode cX10_add 87 = .ok (.aload_n 0, 1) := by decide +kernel
theorem dX10_add_88 : decode cX10_add 88 = .ok (.iload 6, 2) := by decide +kernel
theorem dX10_add_90 : decode cX10_add 90 = .ok (.bipush 9, 2) := by decide +kernel
theorem dX10_add_92 : decode cX10_add 92 = .ok (.iload 6, 2) := by decide +kernel
theorem dX10_add_94 : decode cX10_add 94 = .ok (.invokevirtual 71, 3) := by decide +kernel
theorem dX10_add_97 : decode cX10_add 97 = .ok (.aload_n 0, 1) := by decide +kernel
theorem dX10_add_98 : decode cX10_add 98 = .ok (.getfield 7, 3) := by decide +kernel
theorem dX10_add_101 : decode cX10_add 101 = .ok (.iconst 0, 1) := by decide +kernel
theorem dX10_add_102 : decode cX10_add 102 = .ok (.dup2, 1) := by decide +kernel
theorem dX10_add_103 : decode cX10_add 103 = .ok (.iaload, 1) := by decide +kernel
theorem dX10_add_104 : decode cX10_add 104 = .ok (.iconst 1, 1) := by decide +kernel
theorem dX10_add_105 : decode cX10_add 105 = .ok (.iadd, 1) := by decide +kernel
theorem dX10_add_106 : decode cX10_add 106 = .ok (.iastore, 1) := by decide +kernel
theorem dX10_add_107 : decode cX10_add 107 = .ok (.return_, 1) := by decide +kernel
theorem dX10_sock_0 : decode cX10_sock 0 = .ok (.iload_n 1, 1) := by decide +kernel
theorem dX10_sock_1 : decode cX10_sock 1 = .ok (.i2l, 1) := by decide +kernel
theorem dX10_sock_2 : decode cX10_sock 2 = .ok (.lconst 0, 1) := by decide +kernel
theorem dX10_sock_3 : decode cX10_sock 3 = .ok (.ldc2_w 75, 3) := by decide +kernel
theorem dX10_sock_6 : decode cX10_sock 6 = .ok (.invokestatic 59, 3) := by decide +kernel
theorem dX10_sock_9 : decode cX10_sock 9 = .ok (.ifCond .eq 39, 3) := by decide +kernel
theorem dX10_sock_12 : decode cX10_sock 12 = .ok (.iload_n 2, 1) := by decide +kernel
theorem dX10_sock_13 : decode cX10_sock 13 = .ok (.i2l, 1) := by decide +kernel
theorem dX10_sock_14 : decode cX10_sock 14 = .ok (.lconst 0, 1) := by decide +kernel
theorem dX10_sock_15 : decode cX10_sock 15 = .ok (.lconst 1, 1) := by decide +kernel
theorem dX10_sock_16 : decode cX10_sock 16 = .ok (.invokestatic 59, 3) := by decide +kernel
theorem dX10_sock_19 : decode cX10_sock 19 = .ok (.ifCond .eq 29, 3) := by decide +kernel
theorem dX10_sock_22 : decode cX10_sock 22 = .ok (.iload_n 3, 1) := by decide +kernel
theorem dX10_sock_23 : decode cX10_sock 23 = .ok (.i2l, 1) := by decide +kernel
theorem dX10_sock_24 : decode cX10_sock 24 = .ok (.lconst 0, 1) := by decide +kernel
theorem dX10_sock_25 : decode cX10_sock 25 = .ok (.ldc2_w 77, 3) := by decide +kernel
theorem dX10_sock_28 : decode cX10_sock 28 = .ok (.invokestatic 59, 3) := by decide +kernel
theorem dX10_sock_31 : decode cX10_sock 31 = .ok (.ifCond .eq 17, 3) := by decide +kernel
theorem dX10_sock_34 : decode cX10_sock 34 = .ok (.iload 4, 2) := by decide +kernel
theorem dX10_sock_36 : decode cX10_sock 36 = .ok (.i2l, 1) := by decide +kernel
theorem dX10_sock_37 : decode cX10_sock 37 = .ok (.iload_n 3, 1) := by decide +kernel
theorem dX10_sock_38 : decode cX10_sock 38 = .ok (.i2l, 1) := by decide +kernel
theorem dX10_sock_39 : decode cX10_sock 39 = .ok (.ldc2_w 77, 3) := by decide +kernel
theorem dX10_sock_42 : decode cX10_sock 42 = .ok (.invokestatic 59, 3) := by decide +kernel
theorem dX10_sock_45 : decode cX10_sock 45 = .ok (.ifCond .ne 5, 3) := by decide +kernel
theorem dX10_sock_48 : decode cX10_sock 48 = .ok (.iconst (-1), 1) := by decide +kernel
theorem dX10_sock_49 : decode cX10_sock 49 = .ok (.ireturn, 1) := by decide +kernel
theorem dX10_sock_50 : decode cX10_sock 50 = .ok (.aload_n 0, 1) := by decide +kernel
theorem dX10_sock_51 : decode cX10_sock 51 = .ok (.getfield 7, 3) := by decide +kernel
theorem dX10_sock_54 : decode cX10_sock 54 = .ok (.iconst 0, 1) := by decide +kernel
theorem dX10_sock_55 : decode cX10_sock 55 = .ok (.iaload, 1) := by decide +kernel
theorem dX10_sock_56 : decode cX10_sock 56 = .ok (.bipush 12, 2) := by decide +kernel
theorem dX10_sock_58 : decode cX10_sock 58 = .ok (.if_icmp .ne 6, 3) := by decide +kernel
theorem dX10_sock_61 : decode cX10_sock 61 = .ok (.bipush (-3), 2) := by decide +kernel
theorem dX10_sock_63 : decode cX10_sock 63 = .ok (.ireturn, 1) := by decide +kernel
theorem dX10_sock_64 : decode cX10_sock 64 = .ok (.aload_n 0, 1) := by decide +kernel
theorem dX10_sock_65 : decode cX10_sock 65 = .ok (.iload_n 1, 1) := by decide +kernel
theorem dX10_sock_66 : decode cX10_sock 66 = .ok (.iload_n 2, 1) := by decide +kernel
theorem dX10_sock_67 : decode cX10_sock 67 = .ok (.iload_n 3, 1) := by decide +kernel
theorem dX10_sock_68 : decode cX10_sock 68 = .ok (.iload 4, 2) := by decide +kernel
theorem dX10_sock_70 : decode cX10_sock 70 = .ok (.bipush 7, 2) := by decide +kernel
theorem dX10_sock_72 : decode cX10_sock 72 = .ok (.invokevirtual 79, 3) := by decide +kernel
theorem dX10_sock_75 : decode cX10_sock 75 = .ok (.aload_n 0, 1) := by decide +kernel
theorem dX10_sock_76 : decode cX10_sock 76 = .ok (.getfield 7, 3) := by decide +kernel
theorem dX10_sock_79 : decode cX10_sock 79 = .ok (.iconst 0, 1) := by decide +kernel
theorem dX10_sock_80 : decode cX10_sock 80 = .ok (.iaload, 1) := by decide +kernel
theorem dX10_sock_81 : decode cX10_sock 81 = .ok (.iconst 1, 1) := by decide +kernel
theorem dX10_sock_82 : decode cX10_sock 82 = .ok (.isub, 1) := by decide +kernel
theorem dX10_sock_83 : decode cX10_sock 83 = .ok (.ireturn, 1) := by decide +kernel
theorem dX10_type_0 : decode cX10_type 0 = .ok (.iload_n 3, 1) := by decide +kernel
theorem dX10_type_1 : decode cX10_type 1 = .ok (.i2l, 1) := by decide +kernel
theorem dX10_type_2 : decode cX10_type 2 = .ok (.lconst 1, 1) := by decide +kernel
theorem dX10_type_3 : decode cX10_type 3 = .ok (.ldc2_w 83, 3) := by decide +kernel
theorem dX10_type_6 : decode cX10_type 6 = .ok (.invokestatic 59, 3) := by decide +kernel
theorem dX10_type_9 : decode cX10_type 9 = .ok (.ifCond .ne 5, 3) := by decide +kernel
theorem dX10_type_12 : decode cX10_type 12 = .ok (.iconst (-1), 1) := by decide +kernel
theorem dX10_type_13 : decode cX10_type 13 = .ok (.ireturn, 1) := by decide +kernel
theorem dX10_type_14 : decode cX10_type 14 = .ok (.iload_n 3, 1) := by decide +kernel
theorem dX10_type_15 : decode cX10_type 15 = .ok (.iconst 1, 1) := by decide +kernel
theorem dX10_type_16 : decode cX10_type 16 = .ok (.isub, 1) := by decide +kernel
theorem dX10_type_17 : decode cX10_type 17 = .ok (.istore 4, 2) := by decide +kernel
theorem dX10_type_19 : decode cX10_type 19 = .ok (.iload 4, 2) := by decide +kernel
theorem dX10_type_21 : decode cX10_type 21 = .ok (.ifCond .lt 34, 3) := by decide +kernel
theorem dX10_type_24 : decode cX10_type 24 = .ok (.lload_n 1, 1) := by decide +kernel
theorem dX10_type_25 : decode cX10_type 25 = .ok (.bipush 8, 2) := by decide +kernel
theorem dX10_type_27 : decode cX10_type 27 = .ok (.iload 4, 2) := by decide +kernel
theorem dX10_type_29 : decode cX10_type 29 = .ok (.imul, 1) := by decide +kernel
theorem dX10_type_30 : decode cX10_type 30 = .ok (.lshr, 1) := by decide +kernel
theorem dX10_type_31 : decode cX10_type 31 = .ok (.ldc2_w 85, 3) := by decide +kernel
theorem dX10_type_34 : decode cX10_type 34 = .ok (.land, 1) := by decide +kernel
theorem dX10_type_35 : decode cX10_type 35 = .ok (.ldc2_w 87, 3) := by decide +kernel
theorem dX10_type_38 : decode cX10_type 38 = .ok (.ldc2_w 89, 3) := by decide +kernel
theorem dX10_type_41 : decode cX10_type 41 = .ok (.invokestatic 59, 3) := by decide +kernel
theorem dX10_type_44 : decode cX10_type 44 = .ok (.ifCond .ne 5, 3) := by decide +kernel
theorem dX10_type_47 : decode cX10_type 47 = .ok (.iconst (-1), 1) := by decide +kernel
theorem dX10_type_48 : decode cX10_type 48 = .ok (.ireturn, 1) := by decide +kernel
theorem dX10_type_49 : decode cX10_type 49 = .ok (.iinc 4 (-1), 3) := by decide +kernel
theorem dX10_type_52 : decode cX10_type 52 = .ok (.goto (-33), 3) := by decide +kernel
theorem dX10_type_55 : decode cX10_type 55 = .ok (.aload_n 0, 1) := by decide +kernel
theorem dX10_type_56 : decode cX10_type 56 = .ok (.getfield 91, 3) := by decide +kernel
theorem dX10_type_59 : decode cX10_type 59 = .ok (.iload_n 3, 1) := by decide +kernel
theorem dX10_type_60 : decode cX10_type 60 = .ok (.iadd, 1) := by decide +kernel
theorem dX10_type_61 : decode cX10_type 61 = .ok (.bipush 80, 2) := by decide +kernel
theorem dX10_type_63 : decode cX10_type 63 = .ok (.if_icmp .le 6, 3) := by decide +kernel
theorem dX10_type_66 : decode cX10_type 66 = .ok (.bipush (-3), 2) := by decide +kernel
theorem dX10_type_68 : decode cX10_type 68 = .ok (.ireturn, 1) := by decide +kernel
theorem dX10_type_69 : decode cX10_type 69 = .ok (.iload_n 3, 1) := by decide +kernel
theorem dX10_type_70 : decode cX10_type 70 = .ok (.iconst 1, 1) := by decide +kernel
theorem dX10_type_71 : decode cX10_type 71 = .ok (.isub, 1) := by decide +kernel
theorem dX10_type_72 : decode cX10_type 72 = .ok (.istore 4, 2) := by decide +kernel
theorem dX10_type_74 : decode cX10_type 74 = .ok (.iload 4, 2) := by decide +kernel
theorem dX10_type_76 : decode cX10_type 76 = .ok (.ifCond .lt 40, 3) := by decide +kernel
theorem dX10_type_79 : decode cX10_type 79 = .ok (.aload_n 0, 1) := by decide +kernel
theorem dX10_type_80 : decode cX10_type 80 = .ok (.getfield 13, 3) := by decide +kernel
theorem dX10_type_83 : decode cX10_type 83 = .ok (.aload_n 0, 1) := by decide +kernel
theorem dX10_type_84 : decode cX10_type 84 = .ok (.getfield 91, 3) := by decide +kernel
theorem dX10_type_87 : decode cX10_type 87 = .ok (.lload_n 1, 1) := by decide +kernel
theorem dX10_type_88 : decode cX10_type 88 = .ok (.bipush 8, 2) := by decide +kernel
theorem dX10_type_90 : decode cX10_type 90 = .ok (.iload 4, 2) := by decide +kernel
theorem dX10_type_92 : decode cX10_type 92 = .ok (.imul, 1) := by decide +kernel
theorem dX10_type_93 : decode cX10_type 93 = .ok (.lshr, 1) := by decide +kernel
theorem dX10_type_94 : decode cX10_type 94 = .ok (.ldc2_w 85, 3) := by decide +kernel
theorem dX10_type_97 : decode cX10_type 97 = .ok (.land, 1) := by decide +kernel
theorem dX10_type_98 : decode cX10_type 98 = .ok (.l2i, 1) := by decide +kernel
theorem dX10_type_99 : decode cX10_type 99 = .ok (.iastore, 1) := by decide +kernel
theorem dX10_type_100 : decode cX10_type 100 = .ok (.aload_n 0, 1) := by decide +kernel
theorem dX10_type_101 : decode cX10_type 101 = .ok (.dup, 1) := by decide +kernel
theorem dX10_type_102 : decode cX10_type 102 = .ok (.getfield 91, 3) := by decide +kernel
theorem dX10_type_105 : decode cX10_type 105 = .ok (.iconst 1, 1) := by decide +kernel
theorem dX10_type_106 : decode cX10_type 106 = .ok (.iadd, 1) := by decide +kernel
theorem dX10_type_107 : decode cX10_type 107 = .ok (.putfield 91, 3) := by decide +kernel
theorem dX10_type_110 : decode cX10_type 110 = .ok (.iinc 4 (-1), 3) := by decide +kernel
theorem dX10_type_113 : decode cX10_type 113 = .ok (.goto (-39), 3) := by decide +kernel
theorem dX10_type_116 : decode cX10_type 116 = .ok (.aload_n 0, 1) := by decide +kernel
theorem dX10_type_117 : decode cX10_type 117 = .ok (.getfield 91, 3) := by decide +kernel
theorem dX10_type_120 : decode cX10_type 120 = .ok (.ireturn, 1) := by decide +kernel
theorem dX10_nextByte_0 : decode cX10_nextByte 0 = .ok (.aload_n 0, 1) := by decide +kernel
theorem dX10_nextByte_1 : decode cX10_nextByte 1 = .ok (.getfield 95, 3) := by decide +kernel
theorem dX10_nextByte_4 : decode cX10_nextByte 4 = .ok (.aload_n 0, 1) := by decide +kernel
theorem dX10_nextByte_5 : decode cX10_nextByte 5 = .ok (.getfield 91, 3) := by decide +kernel
theorem dX10_nextByte_8 : decode cX10_nextByte 8 = .ok (.if_icmp .ge 30, 3) := by decide +kernel
theorem dX10_nextByte_11 : decode cX10_nextByte 11 = .ok (.aload_n 0, 1) := by decide +kernel
theorem dX10_nextByte_12 : decode cX10_nextByte 12 = .ok (.getfield 13, 3) := by decide +kernel
theorem dX10_nextByte_15 : decode cX10_nextByte 15 = .ok (.aload_n 0, 1) := by decide +kernel
theorem dX10_nextByte_16 : decode cX10_nextByte 16 = .ok (.getfield 95, 3) := by decide +kernel
theorem dX10_nextByte_19 : decode cX10_nextByte 19 = .ok (.iaload, 1) := by decide +kernel
theorem dX10_nextByte_20 : decode cX10_nextByte 20 = .ok (.bipush 32, 2) := by decide +kernel
theorem dX10_nextByte_22 : decode cX10_nextByte 22 = .ok (.if_icmp .ne 16, 3) := by decide +kernel
theorem dX10_nextByte_25 : decode cX10_nextByte 25 = .ok (.aload_n 0, 1) := by decide +kernel
theorem dX10_nextByte_26 : decode cX10_nextByte 26 = .ok (.dup, 1) := by decide +kernel
theorem dX10_nextByte_27 : decode cX10_nextByte 27 = .ok (.getfield 95, 3) := by decide +kernel
theorem dX10_nextByte_30 : decode cX10_nextByte 30 = .ok (.iconst 1, 1) := by decide +kernel
theorem dX10_nextByte_31 : decode cX10_nextByte 31 = .ok (.iadd, 1) := by decide +kernel
theorem dX10_nextByte_32 : decode cX10_nextByte 32 = .ok (.putfield 95, 3) := by decide +kernel
theorem dX10_nextByte_35 : decode cX10_nextByte 35 = .ok (.goto (-35), 3) := by decide +kernel
theorem dX10_nextByte_38 : decode cX10_nextByte 38 = .ok (.aload_n 0, 1) := by decide +kernel
theorem dX10_nextByte_39 : decode cX10_nextByte 39 = .ok (.getfield 95, 3) := by decide +kernel
theorem dX10_nextByte_42 : decode cX10_nextByte 42 = .ok (.aload_n 0, 1) := by decide +kernel
theorem dX10_nextByte_43 : decode cX10_nextByte 43 = .ok (.getfield 91, 3) := by decide +kernel
theorem dX10_nextByte_46 : decode cX10_nextByte 46 = .ok (.if_icmp .ge 15, 3) := by decide +kernel
theorem dX10_nextByte_49 : decode cX10_nextByte 49 = .ok (.aload_n 0, 1) := by decide +kernel
theorem dX10_nextByte_50 : decode cX10_nextByte 50 = .ok (.getfield 13, 3) := by decide +kernel
theorem dX10_nextByte_53 : decode cX10_nextByte 53 = .ok (.aload_n 0, 1) := by decide +kernel
theorem dX10_nextByte_54 : decode cX10_nextByte 54 = .ok (.getfield 95, 3) := by decide +kernel
theorem dX10_nextByte_57 : decode cX10_nextByte 57 = .ok (.iaload, 1) := by decide +kernel
theorem dX10_nextByte_58 : decode cX10_nextByte 58 = .ok (.goto 4, 3) := by decide +kernel
theorem dX10_nextByte_61 : decode cX10_nextByte 61 = .ok (.iconst (-1), 1) := by decide +kernel
theorem dX10_nextByte_62 : decode cX10_nextByte 62 = .ok (.ireturn, 1) := by decide +kernel
theorem dX10_takes_0 : decode cX10_takes 0 = .ok (.aload_n 0, 1) := by decide +kernel
theorem dX10_takes_1 : decode cX10_takes 1 = .ok (.invokevirtual 98, 3) := by decide +kernel
theorem dX10_takes_4 : decode cX10_takes 4 = .ok (.iload_n 1, 1) := by decide +kernel
theorem dX10_takes_5 : decode cX10_takes 5 = .ok (.if_icmp .ne 7, 3) := by decide +kernel
theorem dX10_takes_8 : decode cX10_takes 8 = .ok (.iconst 1, 1) := by decide +kernel
theorem dX10_takes_9 : decode cX10_takes 9 = .ok (.goto 4, 3) := by decide +kernel
theorem dX10_takes_12 : decode cX10_takes 12 = .ok (.iconst 0, 1) := by decide +kernel
theorem dX10_takes_13 : decode cX10_takes 13 = .ok (.istore_n 2, 1) := by decide +kernel
theorem dX10_takes_14 : decode cX10_takes 14 = .ok (.aload_n 0, 1) := by decide +kernel
theorem dX10_takes_15 : decode cX10_takes 15 = .ok (.dup, 1) := by decide +kernel
theorem dX10_takes_16 : decode cX10_takes 16 = .ok (.getfield 95, 3) := by decide +kernel
theorem dX10_takes_19 : decode cX10_takes 19 = .ok (.iload_n 2, 1) := by decide +kernel
theorem dX10_takes_20 : decode cX10_takes 20 = .ok (.ifCond .eq 7, 3) := by decide +kernel
theorem dX10_takes_23 : decode cX10_takes 23 = .ok (.iconst 1, 1) := by decide +kernel
theorem dX10_takes_24 : decode cX10_takes 24 = .ok (.goto 4, 3) := by decide +kernel
theorem dX10_takes_27 : decode cX10_takes 27 = .ok (.iconst 0, 1) := by decide +kernel
theorem dX10_takes_28 : decode cX10_takes 28 = .ok (.iadd, 1) := by decide +kernel
theorem dX10_takes_29 : decode cX10_takes 29 = .ok (.putfield 95, 3) := by decide +kernel
theorem dX10_takes_32 : decode cX10_takes 32 = .ok (.iload_n 2, 1) := by decide +kernel
theorem dX10_takes_33 : decode cX10_takes 33 = .ok (.ireturn, 1) := by decide +kernel
theorem dX10_readNumber_0 : decode cX10_readNumber 0 = .ok (.aload_n 0, 1) := by decide +kernel
theorem dX10_readNumber_1 : decode cX10_readNumber 1 = .ok (.invokevirtual 98, 3) := by decide +kernel
theorem dX10_readNumber_4 : decode cX10_readNumber 4 = .ok (.pop, 1) := by decide +kernel
theorem dX10_readNumber_5 : decode cX10_readNumber 5 = .ok (.aload_n 0, 1) := by decide +kernel
theorem dX10_readNumber_6 : decode cX10_readNumber 6 = .ok (.getfield 95, 3) := by decide +kernel
theorem dX10_readNumber_9 : decode cX10_readNumber 9 = .ok (.istore_n 3, 1) := by decide +kernel
theorem dX10_readNumber_10 : decode cX10_readNumber 10 = .ok (.iconst 0, 1) := by decide +kernel
theorem dX10_readNumber_11 : decode cX10_readNumber 11 = .ok (.istore 4, 2) := by decide +kernel
theorem dX10_readNumber_13 : decode cX10_readNumber 13 = .ok (.aload_n 0, 1) := by decide +kernel
theorem dX10_readNumber_14 : decode cX10_readNumber 14 = .ok (.getfield 95, 3) := by decide +kernel
theorem dX10_readNumber_17 : decode cX10_readNumber 17 = .ok (.aload_n 0, 1) := by decide +kernel
theorem dX10_readNumber_18 : decode cX10_readNumber 18 = .ok (.getfield 91, 3) := by decide +kernel
theorem dX10_readNumber_21 : decode cX10_readNumber 21 = .ok (.if_icmp .ge 71, 3) := by decide +kernel
theorem dX10_readNumber_24 : decode cX10_readNumber 24 = .ok (.aload_n 0, 1) := by decide +kernel
theorem dX10_readNumber_25 : decode cX10_readNumber 25 = .ok (.getfield 13, 3) := by decide +kernel
theorem dX10_readNumber_28 : decode cX10_readNumber 28 = .ok (.aload_n 0, 1) := by decide +kernel
theorem dX10_readNumber_29 : decode cX10_readNumber 29 = .ok (.getfield 95, 3) := by decide +kernel
theorem dX10_readNumber_32 : decode cX10_readNumber 32 = .ok (.iaload, 1) := by decide +kernel
theorem dX10_readNumber_33 : decode cX10_readNumber 33 = .ok (.i2l, 1) := by decide +kernel
theorem dX10_readNumber_34 : decode cX10_readNumber 34 = .ok (.ldc2_w 102, 3) := by decide +kernel
theorem dX10_readNumber_37 : decode cX10_readNumber 37 = .ok (.ldc2_w 104, 3) := by decide +kernel
theorem dX10_readNumber_40 : decode cX10_readNumber 40 = .ok (.invokestatic 59, 3) := by decide +kernel
theorem dX10_readNumber_43 : decode cX10_readNumber 43 = .ok (.ifCond .eq 49, 3) := by decide +kernel
theorem dX10_readNumber_46 : decode cX10_readNumber 46 = .ok (.iload 4, 2) := by decide +kernel
theorem dX10_readNumber_48 : decode cX10_readNumber 48 = .ok (.sipush 999, 3) := by decide +kernel
theorem dX10_readNumber_51 : decode cX10_readNumber 51 = .ok (.if_icmp .le 8, 3) := by decide +kernel
theorem dX10_readNumber_54 : decode cX10_readNumber 54 = .ok (.iload 4, 2) := by decide +kernel
theorem dX10_readNumber_56 : decode cX10_readNumber 56 = .ok (.goto 21, 3) := by decide +kernel
theorem dX10_readNumber_59 : decode cX10_readNumber 59 = .ok (.bipush 10, 2) := by decide +kernel
theorem dX10_readNumber_61 : decode cX10_readNumber 61 = .ok (.iload 4, 2) := by decide +kernel
theorem dX10_readNumber_63 : decode cX10_readNumber 63 = .ok (.imul, 1) := by decide +kernel
theorem dX10_readNumber_64 : decode cX10_readNumber 64 = .ok (.aload_n 0, 1) := by decide +kernel
theorem dX10_readNumber_65 : decode cX10_readNumber 65 = .ok (.getfield 13, 3) := by decide +kernel
theorem dX10_readNumber_68 : decode cX10_readNumber 68 = .ok (.aload_n 0, 1) := by decide +kernel
theorem dX10_readNumber_69 : decode cX10_readNumber 69 = .ok (.getfield 95, 3) := by decide +kernel
theorem dX10_readNumber_72 : decode cX10_readNumber 72 = .ok (.iaload, 1) := by decide +kernel
theorem dX10_readNumber_73 : decode cX10_readNumber 73 = .ok (.iadd, 1) := by decide +kernel
theorem dX10_readNumber_74 : decode cX10_readNumber 74 = .ok (.bipush 48, 2) := by decide +kernel
theorem dX10_readNumber_76 : decode cX10_readNumber 76 = .ok (.isub, 1) := by decide +kernel
theorem dX10_readNumber_77 : decode cX10_readNumber 77 = .ok (.istore 4, 2) := by decide +kernel
theorem dX10_readNumber_79 : decode cX10_readNumber 79 = .ok (.aload_n 0, 1) := by decide +kernel
theorem dX10_readNumber_80 : decode cX10_readNumber 80 = .ok (.dup, 1) := by decide +kernel
theorem dX10_readNumber_81 : decode cX10_readNumber 81 = .ok (.getfield 95, 3) := by decide +kernel
theorem dX10_readNumber_84 : decode cX10_readNumber 84 = .ok (.iconst 1, 1) := by decide +kernel
theorem dX10_readNumber_85 : decode cX10_readNumber 85 = .ok (.iadd, 1) := by decide +kernel
theorem dX10_readNumber_86 : decode cX10_readNumber 86 = .ok (.putfield 95, 3) := by decide +kernel
theorem dX10_readNumber_89 : decode cX10_readNumber 89 = .ok (.goto (-76), 3) := by decide +kernel
theorem dX10_readNumber_92 : decode cX10_readNumber 92 = .ok (.aload_n 0, 1) := by decide +kernel
theorem dX10_readNumber_93 : decode cX10_readNumber 93 = .ok (.getfield 95, 3) := by decide +kernel
theorem dX10_readNumber_96 : decode cX10_readNumber 96 = .ok (.iload_n 3, 1) := by decide +kernel
theorem dX10_readNumber_97 : decode cX10_readNumber 97 = .ok (.if_icmp .ne 5, 3) := by decide +kernel
theorem dX10_readNumber_100 : decode cX10_readNumber 100 = .ok (.iconst (-1), 1) := by decide +kernel
