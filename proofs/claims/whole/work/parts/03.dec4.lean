theorem dX10_bind_58 : decode cX10_bind 58 = .ok (.iload 5, 2) := by decide +kernel
theorem dX10_bind_60 : decode cX10_bind 60 = .ok (.aload_n 0, 1) := by decide +kernel
theorem dX10_bind_61 : decode cX10_bind 61 = .ok (.getfield 7, 3) := by decide +kernel
theorem dX10_bind_64 : decode cX10_bind 64 = .ok (.iconst 0, 1) := by decide +kernel
theorem dX10_bind_65 : decode cX10_bind 65 = .ok (.iaload, 1) := by decide +kernel
theorem dX10_bind_66 : decode cX10_bind 66 = .ok (.if_icmp .ge 31, 3) := by decide +kernel
theorem dX10_bind_69 : decode cX10_bind 69 = .ok (.aload_n 0, 1) := by decide +kernel
theorem dX10_bind_70 : decode cX10_bind 70 = .ok (.iload 5, 2) := by decide +kernel
theorem dX10_bind_72 : decode cX10_bind 72 = .ok (.bipush 9, 2) := by decide +kernel
theorem dX10_bind_74 : decode cX10_bind 74 = .ok (.invokevirtual 67, 3) := by decide +kernel
theorem dX10_bind_77 : decode cX10_bind 77 = .ok (.iload 4, 2) := by decide +kernel
theorem dX10_bind_79 : decode cX10_bind 79 = .ok (.if_icmp .ne 12, 3) := by decide +kernel
theorem dX10_bind_82 : decode cX10_bind 82 = .ok (.aload_n 0, 1) := by decide +kernel
theorem dX10_bind_83 : decode cX10_bind 83 = .ok (.iload 5, 2) := by decide +kernel
theorem dX10_bind_85 : decode cX10_bind 85 = .ok (.bipush 9, 2) := by decide +kernel
theorem dX10_bind_87 : decode cX10_bind 87 = .ok (.iload_n 3, 1) := by decide +kernel
theorem dX10_bind_88 : decode cX10_bind 88 = .ok (.invokevirtual 71, 3) := by decide +kernel
theorem dX10_bind_91 : decode cX10_bind 91 = .ok (.iinc 5 1, 3) := by decide +kernel
theorem dX10_bind_94 : decode cX10_bind 94 = .ok (.goto (-36), 3) := by decide +kernel
theorem dX10_bind_97 : decode cX10_bind 97 = .ok (.iconst 1, 1) := by decide +kernel
theorem dX10_bind_98 : decode cX10_bind 98 = .ok (.ireturn, 1) := by decide +kernel
theorem dX10_mayOf_0 : decode cX10_mayOf 0 = .ok (.bipush 7, 2) := by decide +kernel
theorem dX10_mayOf_2 : decode cX10_mayOf 2 = .ok (.istore 4, 2) := by decide +kernel
theorem dX10_mayOf_4 : decode cX10_mayOf 4 = .ok (.iconst 0, 1) := by decide +kernel
theorem dX10_mayOf_5 : decode cX10_mayOf 5 = .ok (.istore 5, 2) := by decide +kernel
theorem dX10_mayOf_7 : decode cX10_mayOf 7 = .ok (.iload 5, 2) := by decide +kernel
theorem dX10_mayOf_9 : decode cX10_mayOf 9 = .ok (.aload_n 0, 1) := by decide +kernel
theorem dX10_mayOf_10 : decode cX10_mayOf 10 = .ok (.getfield 7, 3) := by decide +kernel
theorem dX10_mayOf_13 : decode cX10_mayOf 13 = .ok (.iconst 0, 1) := by decide +kernel
theorem dX10_mayOf_14 : decode cX10_mayOf 14 = .ok (.iaload, 1) := by decide +kernel
theorem dX10_mayOf_15 : decode cX10_mayOf 15 = .ok (.if_icmp .ge 52, 3) := by decide +kernel
theorem dX10_mayOf_18 : decode cX10_mayOf 18 = .ok (.iload 4, 2) := by decide +kernel
theorem dX10_mayOf_20 : decode cX10_mayOf 20 = .ok (.aload_n 0, 1) := by decide +kernel
theorem dX10_mayOf_21 : decode cX10_mayOf 21 = .ok (.iload 5, 2) := by decide +kernel
theorem dX10_mayOf_23 : decode cX10_mayOf 23 = .ok (.bipush 9, 2) := by decide +kernel
theorem dX10_mayOf_25 : decode cX10_mayOf 25 = .ok (.invokevirtual 67, 3) := by decide +kernel
theorem dX10_mayOf_28 : decode cX10_mayOf 28 = .ok (.iload_n 1, 1) := by decide +kernel
theorem dX10_mayOf_29 : decode cX10_mayOf 29 = .ok (.if_icmp .ne 27, 3) := by decide +kernel
theorem dX10_mayOf_32 : decode cX10_mayOf 32 = .ok (.aload_n 0, 1) := by decide +kernel
theorem dX10_mayOf_33 : decode cX10_mayOf 33 = .ok (.iload 5, 2) := by decide +kernel
theorem dX10_mayOf_35 : decode cX10_mayOf 35 = .ok (.bipush 8, 2) := by decide +kernel
theorem dX10_mayOf_37 : decode cX10_mayOf 37 = .ok (.invokevirtual 67, 3) := by decide +kernel
theorem dX10_mayOf_40 : decode cX10_mayOf 40 = .ok (.iload 5, 2) := by decide +kernel
theorem dX10_mayOf_42 : decode cX10_mayOf 42 = .ok (.iload_n 2, 1) := by decide +kernel
theorem dX10_mayOf_43 : decode cX10_mayOf 43 = .ok (.if_icmp .ne 7, 3) := by decide +kernel
theorem dX10_mayOf_46 : decode cX10_mayOf 46 = .ok (.iload_n 3, 1) := by decide +kernel
theorem dX10_mayOf_47 : decode cX10_mayOf 47 = .ok (.goto 5, 3) := by decide +kernel
theorem dX10_mayOf_50 : decode cX10_mayOf 50 = .ok (.bipush 7, 2) := by decide +kernel
theorem dX10_mayOf_52 : decode cX10_mayOf 52 = .ok (.iand, 1) := by decide +kernel
theorem dX10_mayOf_53 : decode cX10_mayOf 53 = .ok (.goto 5, 3) := by decide +kernel
theorem dX10_mayOf_56 : decode cX10_mayOf 56 = .ok (.bipush 7, 2) := by decide +kernel
theorem dX10_mayOf_58 : decode cX10_mayOf 58 = .ok (.iand, 1) := by decide +kernel
theorem dX10_mayOf_59 : decode cX10_mayOf 59 = .ok (.istore 4, 2) := by decide +kernel
theorem dX10_mayOf_61 : decode cX10_mayOf 61 = .ok (.iinc 5 1, 3) := by decide +kernel
theorem dX10_mayOf_64 : decode cX10_mayOf 64 = .ok (.goto (-57), 3) := by decide +kernel
theorem dX10_mayOf_67 : decode cX10_mayOf 67 = .ok (.iload 4, 2) := by decide +kernel
theorem dX10_mayOf_69 : decode cX10_mayOf 69 = .ok (.ireturn, 1) := by decide +kernel
theorem dX10_sizeOf_0 : decode cX10_sizeOf 0 = .ok (.iconst 0, 1) := by decide +kernel
theorem dX10_sizeOf_1 : decode cX10_sizeOf 1 = .ok (.istore_n 2, 1) := by decide +kernel
theorem dX10_sizeOf_2 : decode cX10_sizeOf 2 = .ok (.iconst 0, 1) := by decide +kernel
theorem dX10_sizeOf_3 : decode cX10_sizeOf 3 = .ok (.istore_n 3, 1) := by decide +kernel
theorem dX10_sizeOf_4 : decode cX10_sizeOf 4 = .ok (.iload_n 3, 1) := by decide +kernel
theorem dX10_sizeOf_5 : decode cX10_sizeOf 5 = .ok (.aload_n 0, 1) := by decide +kernel
theorem dX10_sizeOf_6 : decode cX10_sizeOf 6 = .ok (.getfield 7, 3) := by decide +kernel
theorem dX10_sizeOf_9 : decode cX10_sizeOf 9 = .ok (.iconst 0, 1) := by decide +kernel
theorem dX10_sizeOf_10 : decode cX10_sizeOf 10 = .ok (.iaload, 1) := by decide +kernel
theorem dX10_sizeOf_11 : decode cX10_sizeOf 11 = .ok (.if_icmp .ge 28, 3) := by decide +kernel
theorem dX10_sizeOf_14 : decode cX10_sizeOf 14 = .ok (.iload_n 2, 1) := by decide +kernel
theorem dX10_sizeOf_15 : decode cX10_sizeOf 15 = .ok (.aload_n 0, 1) := by decide +kernel
theorem dX10_sizeOf_16 : decode cX10_sizeOf 16 = .ok (.iload_n 3, 1) := by decide +kernel
theorem dX10_sizeOf_17 : decode cX10_sizeOf 17 = .ok (.bipush 9, 2) := by decide +kernel
theorem dX10_sizeOf_19 : decode cX10_sizeOf 19 = .ok (.invokevirtual 67, 3) := by decide +kernel
theorem dX10_sizeOf_22 : decode cX10_sizeOf 22 = .ok (.iload_n 1, 1) := by decide +kernel
theorem dX10_sizeOf_23 : decode cX10_sizeOf 23 = .ok (.if_icmp .ne 7, 3) := by decide +kernel
theorem dX10_sizeOf_26 : decode cX10_sizeOf 26 = .ok (.iconst 1, 1) := by decide +kernel
theorem dX10_sizeOf_27 : decode cX10_sizeOf 27 = .ok (.goto 4, 3) := by decide +kernel
theorem dX10_sizeOf_30 : decode cX10_sizeOf 30 = .ok (.iconst 0, 1) := by decide +kernel
theorem dX10_sizeOf_31 : decode cX10_sizeOf 31 = .ok (.iadd, 1) := by decide +kernel
theorem dX10_sizeOf_32 : decode cX10_sizeOf 32 = .ok (.istore_n 2, 1) := by decide +kernel
theorem dX10_sizeOf_33 : decode cX10_sizeOf 33 = .ok (.iinc 3 1, 3) := by decide +kernel
theorem dX10_sizeOf_36 : decode cX10_sizeOf 36 = .ok (.goto (-32), 3) := by decide +kernel
theorem dX10_sizeOf_39 : decode cX10_sizeOf 39 = .ok (.iload_n 2, 1) := by decide +kernel
theorem dX10_sizeOf_40 : decode cX10_sizeOf 40 = .ok (.ireturn, 1) := by decide +kernel
theorem dX10_isOwned_0 : decode cX10_isOwned 0 = .ok (.sipush 169, 3) := by decide +kernel
theorem dX10_isOwned_3 : decode cX10_isOwned 3 = .ok (.iconst 2, 1) := by decide +kernel
theorem dX10_isOwned_4 : decode cX10_isOwned 4 = .ok (.bipush 6, 2) := by decide +kernel
theorem dX10_isOwned_6 : decode cX10_isOwned 6 = .ok (.iload_n 1, 1) := by decide +kernel
theorem dX10_isOwned_7 : decode cX10_isOwned 7 = .ok (.imul, 1) := by decide +kernel
theorem dX10_isOwned_8 : decode cX10_isOwned 8 = .ok (.iload_n 2, 1) := by decide +kernel
theorem dX10_isOwned_9 : decode cX10_isOwned 9 = .ok (.iadd, 1) := by decide +kernel
theorem dX10_isOwned_10 : decode cX10_isOwned 10 = .ok (.imul, 1) := by decide +kernel
theorem dX10_isOwned_11 : decode cX10_isOwned 11 = .ok (.iadd, 1) := by decide +kernel
theorem dX10_isOwned_12 : decode cX10_isOwned 12 = .ok (.istore 4, 2) := by decide +kernel
theorem dX10_isOwned_14 : decode cX10_isOwned 14 = .ok (.iload_n 3, 1) := by decide +kernel
theorem dX10_isOwned_15 : decode cX10_isOwned 15 = .ok (.i2l, 1) := by decide +kernel
theorem dX10_isOwned_16 : decode cX10_isOwned 16 = .ok (.aload_n 0, 1) := by decide +kernel
theorem dX10_isOwned_17 : decode cX10_isOwned 17 = .ok (.getfield 7, 3) := by decide +kernel
theorem dX10_isOwned_20 : decode cX10_isOwned 20 = .ok (.iload 4, 2) := by decide +kernel
theorem dX10_isOwned_22 : decode cX10_isOwned 22 = .ok (.iaload, 1) := by decide +kernel
theorem dX10_isOwned_23 : decode cX10_isOwned 23 = .ok (.i2l, 1) := by decide +kernel
theorem dX10_isOwned_24 : decode cX10_isOwned 24 = .ok (.aload_n 0, 1) := by decide +kernel
theorem dX10_isOwned_25 : decode cX10_isOwned 25 = .ok (.getfield 7, 3) := by decide +kernel
theorem dX10_isOwned_28 : decode cX10_isOwned 28 = .ok (.iload 4, 2) := by decide +kernel
theorem dX10_isOwned_30 : decode cX10_isOwned 30 = .ok (.iconst 1, 1) := by decide +kernel
theorem dX10_isOwned_31 : decode cX10_isOwned 31 = .ok (.iadd, 1) := by decide +kernel
theorem dX10_isOwned_32 : decode cX10_isOwned 32 = .ok (.iaload, 1) := by decide +kernel
theorem dX10_isOwned_33 : decode cX10_isOwned 33 = .ok (.i2l, 1) := by decide +kernel
theorem dX10_isOwned_34 : decode cX10_isOwned 34 = .ok (.invokestatic 59, 3) := by decide +kernel
theorem dX10_isOwned_37 : decode cX10_isOwned 37 = .ok (.ireturn, 1) := by decide +kernel
theorem dX10_waysOf_0 : decode cX10_waysOf 0 = .ok (.iconst 0, 1) := by decide +kernel
theorem dX10_waysOf_1 : decode cX10_waysOf 1 = .ok (.istore 4, 2) := by decide +kernel
theorem dX10_waysOf_3 : decode cX10_waysOf 3 = .ok (.iload 4, 2) := by decide +kernel
theorem dX10_waysOf_5 : decode cX10_waysOf 5 = .ok (.sipush 169, 3) := by decide +kernel
theorem dX10_waysOf_8 : decode cX10_waysOf 8 = .ok (.if_icmp .ge 26, 3) := by decide +kernel
theorem dX10_waysOf_11 : decode cX10_waysOf 11 = .ok (.aload_n 0, 1) := by decide +kernel
theorem dX10_waysOf_12 : decode cX10_waysOf 12 = .ok (.getfield 38, 3) := by decide +kernel
theorem dX10_waysOf_15 : decode cX10_waysOf 15 = .ok (.iload 4, 2) := by decide +kernel
theorem dX10_waysOf_17 : decode cX10_waysOf 17 = .ok (.iload 4, 2) := by decide +kernel
theorem dX10_waysOf_19 : decode cX10_waysOf 19 = .ok (.ifCond .ne 7, 3) := by decide +kernel
theorem dX10_waysOf_22 : decode cX10_waysOf 22 = .ok (.lconst 1, 1) := by decide +kernel
theorem dX10_waysOf_23 : decode cX10_waysOf 23 = .ok (.goto 4, 3) := by decide +kernel
theorem dX10_waysOf_26 : decode cX10_waysOf 26 = .ok (.lconst 0, 1) := by decide +kernel
theorem dX10_waysOf_27 : decode cX10_waysOf 27 = .ok (.lastore, 1) := by decide +kernel
theorem dX10_waysOf_28 : decode cX10_waysOf 28 = .ok (.iinc 4 1, 3) := by decide +kernel
theorem dX10_waysOf_31 : decode cX10_waysOf 31 = .ok (.goto (-28), 3) := by decide +kernel
theorem dX10_waysOf_34 : decode cX10_waysOf 34 = .ok (.iconst 0, 1) := by decide +kernel
theorem dX10_waysOf_35 : decode cX10_waysOf 35 = .ok (.istore 4, 2) := by decide +kernel
theorem dX10_waysOf_37 : decode cX10_waysOf 37 = .ok (.iconst 0, 1) := by decide +kernel
theorem dX10_waysOf_38 : decode cX10_waysOf 38 = .ok (.istore 5, 2) := by decide +kernel
theorem dX10_waysOf_40 : decode cX10_waysOf 40 = .ok (.iload 5, 2) := by decide +kernel
theorem dX10_waysOf_42 : decode cX10_waysOf 42 = .ok (.aload_n 0, 1) := by decide +kernel
theorem dX10_waysOf_43 : decode cX10_waysOf 43 = .ok (.getfield 7, 3) := by decide +kernel
theorem dX10_waysOf_46 : decode cX10_waysOf 46 = .ok (.iconst 0, 1) := by decide +kernel
theorem dX10_waysOf_47 : decode cX10_waysOf 47 = .ok (.iaload, 1) := by decide +kernel
theorem dX10_waysOf_48 : decode cX10_waysOf 48 = .ok (.if_icmp .ge 287, 3) := by decide +kernel
theorem dX10_waysOf_51 : decode cX10_waysOf 51 = .ok (.aload_n 0, 1) := by decide +kernel
theorem dX10_waysOf_52 : decode cX10_waysOf 52 = .ok (.iload 5, 2) := by decide +kernel
theorem dX10_waysOf_54 : decode cX10_waysOf 54 = .ok (.invokevirtual 212, 3) := by decide +kernel
theorem dX10_waysOf_57 : decode cX10_waysOf 57 = .ok (.istore 6, 2) := by decide +kernel
theorem dX10_waysOf_59 : decode cX10_waysOf 59 = .ok (.iload 6, 2) := by decide +kernel
theorem dX10_waysOf_61 : decode cX10_waysOf 61 = .ok (.ifCond .le 268, 3) := by decide +kernel
theorem dX10_waysOf_64 : decode cX10_waysOf 64 = .ok (.aload_n 0, 1) := by decide +kernel
theorem dX10_waysOf_65 : decode cX10_waysOf 65 = .ok (.iload 5, 2) := by decide +kernel
theorem dX10_waysOf_67 : decode cX10_waysOf 67 = .ok (.iconst 0, 1) := by decide +kernel
theorem dX10_waysOf_68 : decode cX10_waysOf 68 = .ok (.invokevirtual 67, 3) := by decide +kernel
theorem dX10_waysOf_71 : decode cX10_waysOf 71 = .ok (.iload_n 1, 1) := by decide +kernel
theorem dX10_waysOf_72 : decode cX10_waysOf 72 = .ok (.if_icmp .ne 257, 3) := by decide +kernel
theorem dX10_waysOf_75 : decode cX10_waysOf 75 = .ok (.iload 4, 2) := by decide +kernel
theorem dX10_waysOf_77 : decode cX10_waysOf 77 = .ok (.iload 6, 2) := by decide +kernel
theorem dX10_waysOf_79 : decode cX10_waysOf 79 = .ok (.iadd, 1) := by decide +kernel
theorem dX10_waysOf_80 : decode cX10_waysOf 80 = .ok (.istore 4, 2) := by decide +kernel
theorem dX10_waysOf_82 : decode cX10_waysOf 82 = .ok (.aload_n 0, 1) := by decide +kernel
theorem dX10_waysOf_83 : decode cX10_waysOf 83 = .ok (.iload 5, 2) := by decide +kernel
theorem dX10_waysOf_85 : decode cX10_waysOf 85 = .ok (.iload_n 2, 1) := by decide +kernel
theorem dX10_waysOf_86 : decode cX10_waysOf 86 = .ok (.iload_n 3, 1) := by decide +kernel
theorem dX10_waysOf_87 : decode cX10_waysOf 87 = .ok (.invokevirtual 215, 3) := by decide +kernel
theorem dX10_waysOf_90 : decode cX10_waysOf 90 = .ok (.istore 7, 2) := by decide +kernel
theorem dX10_waysOf_92 : decode cX10_waysOf 92 = .ok (.iconst 0, 1) := by decide +kernel
theorem dX10_waysOf_93 : decode cX10_waysOf 93 = .ok (.istore 8, 2) := by decide +kernel
theorem dX10_waysOf_95 : decode cX10_waysOf 95 = .ok (.iload 8, 2) := by decide +kernel
theorem dX10_waysOf_97 : decode cX10_waysOf 97 = .ok (.sipush 169, 3) := by decide +kernel
theorem dX10_waysOf_100 : decode cX10_waysOf 100 = .ok (.if_icmp .ge 17, 3) := by decide +kernel
theorem dX10_waysOf_103 : decode cX10_waysOf 103 = .ok (.aload_n 0, 1) := by decide +kernel
theorem dX10_waysOf_104 : decode cX10_waysOf 104 = .ok (.getfield 41, 3) := by decide +kernel
theorem dX10_waysOf_107 : decode cX10_waysOf 107 = .ok (.iload 8, 2) := by decide +kernel
theorem dX10_waysOf_109 : decode cX10_waysOf 109 = .ok (.lconst 0, 1) := by decide +kernel
theorem dX10_waysOf_110 : decode cX10_waysOf 110 = .ok (.lastore, 1) := by decide +kernel
theorem dX10_waysOf_111 : decode cX10_waysOf 111 = .ok (.iinc 8 1, 3) := by decide +kernel
theorem dX10_waysOf_114 : decode cX10_waysOf 114 = .ok (.goto (-19), 3) := by decide +kernel
theorem dX10_waysOf_117 : decode cX10_waysOf 117 = .ok (.iconst 0, 1) := by decide +kernel
theorem dX10_waysOf_118 : decode cX10_waysOf 118 = .ok (.istore 8, 2) := by decide +kernel
theorem dX10_waysOf_120 : decode cX10_waysOf 120 = .ok (.iload 8, 2) := by decide +kernel
theorem dX10_waysOf_122 : decode cX10_waysOf 122 = .ok (.sipush 169, 3) := by decide +kernel
theorem dX10_waysOf_125 : decode cX10_waysOf 125 = .ok (.if_icmp .ge 173, 3) := by decide +kernel
theorem dX10_waysOf_128 : decode cX10_waysOf 128 = .ok (.aload_n 0, 1) := by decide +kernel
theorem dX10_waysOf_129 : decode cX10_waysOf 129 = .ok (.getfield 38, 3) := by decide +kernel
theorem dX10_waysOf_132 : decode cX10_waysOf 132 = .ok (.iload 8, 2) := by decide +kernel
theorem dX10_waysOf_134 : decode cX10_waysOf 134 = .ok (.laload, 1) := by decide +kernel
theorem dX10_waysOf_135 : decode cX10_waysOf 135 = .ok (.lconst 0, 1) := by decide +kernel
theorem dX10_waysOf_136 : decode cX10_waysOf 136 = .ok (.lcmp, 1) := by decide +kernel
theorem dX10_waysOf_137 : decode cX10_waysOf 137 = .ok (.ifCond .le 155, 3) := by decide +kernel
theorem dX10_waysOf_140 : decode cX10_waysOf 140 = .ok (.iload 8, 2) := by decide +kernel
theorem dX10_waysOf_142 : decode cX10_waysOf 142 = .ok (.bipush 13, 2) := by decide +kernel
theorem dX10_waysOf_144 : decode cX10_waysOf 144 = .ok (.idiv, 1) := by decide +kernel
theorem dX10_waysOf_145 : decode cX10_waysOf 145 = .ok (.istore 9, 2) := by decide +kernel
theorem dX10_waysOf_147 : decode cX10_waysOf 147 = .ok (.iload 8, 2) := by decide +kernel
theorem dX10_waysOf_149 : decode cX10_waysOf 149 = .ok (.bipush 13, 2) := by decide +kernel
theorem dX10_waysOf_151 : decode cX10_waysOf 151 = .ok (.irem, 1) := by decide +kernel
theorem dX10_waysOf_152 : decode cX10_waysOf 152 = .ok (.istore 10, 2) := by decide +kernel
theorem dX10_waysOf_154 : decode cX10_waysOf 154 = .ok (.aload_n 0, 1) := by decide +kernel
theorem dX10_waysOf_155 : decode cX10_waysOf 155 = .ok (.getfield 41, 3) := by decide +kernel
theorem dX10_waysOf_158 : decode cX10_waysOf 158 = .ok (.bipush 13, 2) := by decide +kernel
theorem dX10_waysOf_160 : decode cX10_waysOf 160 = .ok (.iload 9, 2) := by decide +kernel
theorem dX10_waysOf_162 : decode cX10_waysOf 162 = .ok (.iload 6, 2) := by decide +kernel
theorem dX10_waysOf_164 : decode cX10_waysOf 164 = .ok (.iadd, 1) := by decide +kernel
theorem dX10_waysOf_165 : decode cX10_waysOf 165 = .ok (.bipush 12, 2) := by decide +kernel
theorem dX10_waysOf_167 : decode cX10_waysOf 167 = .ok (.if_icmp .le 8, 3) := by decide +kernel
theorem dX10_waysOf_170 : decode cX10_waysOf 170 = .ok (.bipush 12, 2) := by decide +kernel
theorem dX10_waysOf_172 : decode cX10_waysOf 172 = .ok (.goto 8, 3) := by decide +kernel
theorem dX10_waysOf_175 : decode cX10_waysOf 175 = .ok (.iload 9, 2) := by decide +kernel
theorem dX10_waysOf_177 : decode cX10_waysOf 177 = .ok (.iload 6, 2) := by decide +kernel
theorem dX10_waysOf_179 : decode cX10_waysOf 179 = .ok (.iadd, 1) := by decide +kernel
theorem dX10_waysOf_180 : decode cX10_waysOf 180 = .ok (.imul, 1) := by decide +kernel
theorem dX10_waysOf_181 : decode cX10_waysOf 181 = .ok (.iload 10, 2) := by decide +kernel
theorem dX10_waysOf_183 : decode cX10_waysOf 183 = .ok (.iadd, 1) := by decide +kernel
theorem dX10_waysOf_184 : decode cX10_waysOf 184 = .ok (.dup2, 1) := by decide +kernel
theorem dX10_waysOf_185 : decode cX10_waysOf 185 = .ok (.laload, 1) := by decide +kernel
theorem dX10_waysOf_186 : decode cX10_waysOf 186 = .ok (.iload 7, 2) := by decide +kernel
theorem dX10_waysOf_188 : decode cX10_waysOf 188 = .ok (.iconst 0, 1) := by decide +kernel
theorem dX10_waysOf_189 : decode cX10_waysOf 189 = .ok (.invokestatic 136, 3) := by decide +kernel
theorem dX10_waysOf_192 : decode cX10_waysOf 192 = .ok (.ifCond .eq 13, 3) := by decide +kernel
theorem dX10_waysOf_195 : decode cX10_waysOf 195 = .ok (.aload_n 0, 1) := by decide +kernel
theorem dX10_waysOf_196 : decode cX10_waysOf 196 = .ok (.getfield 38, 3) := by decide +kernel
theorem dX10_waysOf_199 : decode cX10_waysOf 199 = .ok (.iload 8, 2) := by decide +kernel
theorem dX10_waysOf_201 : decode cX10_waysOf 201 = .ok (.laload, 1) := by decide +kernel
theorem dX10_waysOf_202 : decode cX10_waysOf 202 = .ok (.goto 4, 3) := by decide +kernel
theorem dX10_waysOf_205 : decode cX10_waysOf 205 = .ok (.lconst 0, 1) := by decide +kernel
theorem dX10_waysOf_206 : decode cX10_waysOf 206 = .ok (.ladd, 1) := by decide +kernel
theorem dX10_waysOf_207 : decode cX10_waysOf 207 = .ok (.lastore, 1) := by decide +kernel
theorem dX10_waysOf_208 : decode cX10_waysOf 208 = .ok (.aload_n 0, 1) := by decide +kernel
theorem dX10_waysOf_209 : decode cX10_waysOf 209 = .ok (.getfield 41, 3) := by decide +kernel
theorem dX10_waysOf_212 : decode cX10_waysOf 212 = .ok (.bipush 13, 2) := by decide +kernel
theorem dX10_waysOf_214 : decode cX10_waysOf 214 = .ok (.iload 9, 2) := by decide +kernel
theorem dX10_waysOf_216 : decode cX10_waysOf 216 = .ok (.imul, 1) := by decide +kernel
theorem dX10_waysOf_217 : decode cX10_waysOf 217 = .ok (.iload 10, 2) := by decide +kernel
theorem dX10_waysOf_219 : decode cX10_waysOf 219 = .ok (.iload 6, 2) := by decide +kernel
theorem dX10_waysOf_221 : decode cX10_waysOf 221 = .ok (.iadd, 1) := by decide +kernel
theorem dX10_waysOf_222 : decode cX10_waysOf 222 = .ok (.bipush 12, 2) := by decide +kernel
theorem dX10_waysOf_224 : decode cX10_waysOf 224 = .ok (.if_icmp .le 8, 3) := by decide +kernel
theorem dX10_waysOf_227 : decode cX10_waysOf 227 = .ok (.bipush 12, 2) := by decide +kernel
theorem dX10_waysOf_229 : decode cX10_waysOf 229 = .ok (.goto 8, 3) := by decide +kernel
theorem dX10_waysOf_232 : decode cX10_waysOf 232 = .ok (.iload 10, 2) := by decide +kernel
theorem dX10_waysOf_234 : decode cX10_waysOf 234 = .ok (.iload 6, 2) := by decide +kernel
theorem dX10_waysOf_236 : decode cX10_waysOf 236 = .ok (.iadd, 1) := by decide +kernel
theorem dX10_waysOf_237 : decode cX10_waysOf 237 = .ok (.iadd, 1) := by decide +kernel
theorem dX10_waysOf_238 : decode cX10_waysOf 238 = .ok (.dup2, 1) := by decide +kernel
theorem dX10_waysOf_239 : decode cX10_waysOf 239 = .ok (.laload, 1) := by decide +kernel
theorem dX10_waysOf_240 : decode cX10_waysOf 240 = .ok (.iload 7, 2) := by decide +kernel
theorem dX10_waysOf_242 : decode cX10_waysOf 242 = .ok (.iconst 1, 1) := by decide +kernel
theorem dX10_waysOf_243 : decode cX10_waysOf 243 = .ok (.invokestatic 136, 3) := by decide +kernel
theorem dX10_waysOf_246 : decode cX10_waysOf 246 = .ok (.ifCond .eq 13, 3) := by decide +kernel
theorem dX10_waysOf_249 : decode cX10_waysOf 249 = .ok (.aload_n 0, 1) := by decide +kernel
theorem dX10_waysOf_250 : decode cX10_waysOf 250 = .ok (.getfield 38, 3) := by decide +kernel
theorem dX10_waysOf_253 : decode cX10_waysOf 253 = .ok (.iload 8, 2) := by decide +kernel
theorem dX10_waysOf_255 : decode cX10_waysOf 255 = .ok (.laload, 1) := by decide +kernel
theorem dX10_waysOf_256 : decode cX10_waysOf 256 = .ok (.goto 4, 3) := by decide +kernel
theorem dX10_waysOf_259 : decode cX10_waysOf 259 = .ok (.lconst 0, 1) := by decide +kernel
theorem dX10_waysOf_260 : decode cX10_waysOf 260 = .ok (.ladd, 1) := by decide +kernel
theorem dX10_waysOf_261 : decode cX10_waysOf 261 = .ok (.lastore, 1) := by decide +kernel
theorem dX10_waysOf_262 : decode cX10_waysOf 262 = .ok (.aload_n 0, 1) := by decide +kernel
theorem dX10_waysOf_263 : decode cX10_waysOf 263 = .ok (.getfield 41, 3) := by decide +kernel
theorem dX10_waysOf_266 : decode cX10_waysOf 266 = .ok (.iload 8, 2) := by decide +kernel
theorem dX10_waysOf_268 : decode cX10_waysOf 268 = .ok (.dup2, 1) := by decide +kernel
theorem dX10_waysOf_269 : decode cX10_waysOf 269 = .ok (.laload, 1) := by decide +kernel
theorem dX10_waysOf_270 : decode cX10_waysOf 270 = .ok (.iload 7, 2) := by decide +kernel
theorem dX10_waysOf_272 : decode cX10_waysOf 272 = .ok (.iconst 2, 1) := by decide +kernel
theorem dX10_waysOf_273 : decode cX10_waysOf 273 = .ok (.invokestatic 136, 3) := by decide +kernel
theorem dX10_waysOf_276 : decode cX10_waysOf 276 = .ok (.ifCond .eq 13, 3) := by decide +kernel
theorem dX10_waysOf_279 : decode cX10_waysOf 279 = .ok (.aload_n 0, 1) := by decide +kernel
theorem dX10_waysOf_280 : decode cX10_waysOf 280 = .ok (.getfield 38, 3) := by decide +kernel
theorem dX10_waysOf_283 : decode cX10_waysOf 283 = .ok (.iload 8, 2) := by decide +kernel
theorem dX10_waysOf_285 : decode cX10_waysOf 285 = .ok (.laload, 1) := by decide +kernel
theorem dX10_waysOf_286 : decode cX10_waysOf 286 = .ok (.goto 4, 3) := by decide +kernel
theorem dX10_waysOf_289 : decode cX10_waysOf 289 = .ok (.lconst 0, 1) := by decide +kernel
theorem dX10_waysOf_290 : decode cX10_waysOf 290 = .ok (.ladd, 1) := by decide +kernel
theorem dX10_waysOf_291 : decode cX10_waysOf 291 = .ok (.lastore, 1) := by decide +kernel
theorem dX10_waysOf_292 : decode cX10_waysOf 292 = .ok (.iinc 8 1, 3) := by decide +kernel
theorem dX10_waysOf_295 : decode cX10_waysOf 295 = .ok (.goto (-175), 3) := by decide +kernel
theorem dX10_waysOf_298 : decode cX10_waysOf 298 = .ok (.iconst 0, 1) := by decide +kernel
theorem dX10_waysOf_299 : decode cX10_waysOf 299 = .ok (.istore 8, 2) := by decide +kernel
theorem dX10_waysOf_301 : decode cX10_waysOf 301 = .ok (.iload 8, 2) := by decide +kernel
theorem dX10_waysOf_303 : decode cX10_waysOf 303 = .ok (.sipush 169, 3) := by decide +kernel
theorem dX10_waysOf_306 : decode cX10_waysOf 306 = .ok (.if_icmp .ge 23, 3) := by decide +kernel
theorem dX10_waysOf_309 : decode cX10_waysOf 309 = .ok (.aload_n 0, 1) := by decide +kernel
theorem dX10_waysOf_310 : decode cX10_waysOf 310 = .ok (.getfield 38, 3) := by decide +kernel
theorem dX10_waysOf_313 : decode cX10_waysOf 313 = .ok (.iload 8, 2) := by decide +kernel
theorem dX10_waysOf_315 : decode cX10_waysOf 315 = .ok (.aload_n 0, 1) := by decide +kernel
theorem dX10_waysOf_316 : decode cX10_waysOf 316 = .ok (.getfield 41, 3) := by decide +kernel
theorem dX10_waysOf_319 : decode cX10_waysOf 319 = .ok (.iload 8, 2) := by decide +kernel
theorem dX10_waysOf_321 : decode cX10_waysOf 321 = .ok (.laload, 1) := by decide +kernel
theorem dX10_waysOf_322 : decode cX10_waysOf 322 = .ok (.lastore, 1) := by decide +kernel
theorem dX10_waysOf_323 : decode cX10_waysOf 323 = .ok (.iinc 8 1, 3) := by decide +kernel
theorem dX10_waysOf_326 : decode cX10_waysOf 326 = .ok (.goto (-25), 3) := by decide +kernel
theorem dX10_waysOf_329 : decode cX10_waysOf 329 = .ok (.iinc 5 1, 3) := by decide +kernel
theorem dX10_waysOf_332 : decode cX10_waysOf 332 = .ok (.goto (-292), 3) := by decide +kernel
theorem dX10_waysOf_335 : decode cX10_waysOf 335 = .ok (.lconst 0, 1) := by decide +kernel
theorem dX10_waysOf_336 : decode cX10_waysOf 336 = .ok (.lstore 5, 2) := by decide +kernel
theorem dX10_waysOf_338 : decode cX10_waysOf 338 = .ok (.iconst 0, 1) := by decide +kernel
theorem dX10_waysOf_339 : decode cX10_waysOf 339 = .ok (.istore 7, 2) := by decide +kernel
theorem dX10_waysOf_341 : decode cX10_waysOf 341 = .ok (.iload 7, 2) := by decide +kernel
theorem dX10_waysOf_343 : decode cX10_waysOf 343 = .ok (.sipush 169, 3) := by decide +kernel
theorem dX10_waysOf_346 : decode cX10_waysOf 346 = .ok (.if_icmp .ge 88, 3) := by decide +kernel
theorem dX10_waysOf_349 : decode cX10_waysOf 349 = .ok (.aload_n 0, 1) := by decide +kernel
theorem dX10_waysOf_350 : decode cX10_waysOf 350 = .ok (.iconst 0, 1) := by decide +kernel
theorem dX10_waysOf_351 : decode cX10_waysOf 351 = .ok (.iload_n 1, 1) := by decide +kernel
theorem dX10_waysOf_352 : decode cX10_waysOf 352 = .ok (.iload 7, 2) := by decide +kernel
theorem dX10_waysOf_354 : decode cX10_waysOf 354 = .ok (.bipush 13, 2) := by decide +kernel
theorem dX10_waysOf_356 : decode cX10_waysOf 356 = .ok (.idiv, 1) := by decide +kernel
theorem dX10_waysOf_357 : decode cX10_waysOf 357 = .ok (.invokevirtual 218, 3) := by decide +kernel
theorem dX10_waysOf_360 : decode cX10_waysOf 360 = .ok (.ifCond .eq 44, 3) := by decide +kernel
theorem dX10_waysOf_363 : decode cX10_waysOf 363 = .ok (.aload_n 0, 1) := by decide +kernel
theorem dX10_waysOf_364 : decode cX10_waysOf 364 = .ok (.iconst 1, 1) := by decide +kernel
theorem dX10_waysOf_365 : decode cX10_waysOf 365 = .ok (.iload_n 1, 1) := by decide +kernel
theorem dX10_waysOf_366 : decode cX10_waysOf 366 = .ok (.iload 7, 2) := by decide +kernel
theorem dX10_waysOf_368 : decode cX10_waysOf 368 = .ok (.bipush 13, 2) := by decide +kernel
theorem dX10_waysOf_370 : decode cX10_waysOf 370 = .ok (.irem, 1) := by decide +kernel
theorem dX10_waysOf_371 : decode cX10_waysOf 371 = .ok (.invokevirtual 218, 3) := by decide +kernel
theorem dX10_waysOf_374 : decode cX10_waysOf 374 = .ok (.ifCond .eq 30, 3) := by decide +kernel
theorem dX10_waysOf_377 : decode cX10_waysOf 377 = .ok (.aload_n 0, 1) := by decide +kernel
theorem dX10_waysOf_378 : decode cX10_waysOf 378 = .ok (.iconst 2, 1) := by decide +kernel
theorem dX10_waysOf_379 : decode cX10_waysOf 379 = .ok (.iload_n 1, 1) := by decide +kernel
theorem dX10_waysOf_380 : decode cX10_waysOf 380 = .ok (.iload 4, 2) := by decide +kernel
theorem dX10_waysOf_382 : decode cX10_waysOf 382 = .ok (.iload 7, 2) := by decide +kernel
theorem dX10_waysOf_384 : decode cX10_waysOf 384 = .ok (.bipush 13, 2) := by decide +kernel
theorem dX10_waysOf_386 : decode cX10_waysOf 386 = .ok (.idiv, 1) := by decide +kernel
theorem dX10_waysOf_387 : decode cX10_waysOf 387 = .ok (.isub, 1) := by decide +kernel
theorem dX10_waysOf_388 : decode cX10_waysOf 388 = .ok (.iload 7, 2) := by decide +kernel
theorem dX10_waysOf_390 : decode cX10_waysOf 390 = .ok (.bipush 13, 2) := by decide +kernel
theorem dX10_waysOf_392 : decode cX10_waysOf 392 = .ok (.irem, 1) := by decide +kernel
theorem dX10_waysOf_393 : decode cX10_waysOf 393 = .ok (.isub, 1) := by decide +kernel
theorem dX10_waysOf_394 : decode cX10_waysOf 394 = .ok (.invokevirtual 218, 3) := by decide +kernel
theorem dX10_waysOf_397 : decode cX10_waysOf 397 = .ok (.ifCond .eq 7, 3) := by decide +kernel
theorem dX10_waysOf_400 : decode cX10_waysOf 400 = .ok (.iconst 1, 1) := by decide +kernel
theorem dX10_waysOf_401 : decode cX10_waysOf 401 = .ok (.goto 4, 3) := by decide +kernel
theorem dX10_waysOf_404 : decode cX10_waysOf 404 = .ok (.iconst 0, 1) := by decide +kernel
theorem dX10_waysOf_405 : decode cX10_waysOf 405 = .ok (.istore 8, 2) := by decide +kernel
theorem dX10_waysOf_407 : decode cX10_waysOf 407 = .ok (.lload 5, 2) := by decide +kernel
theorem dX10_waysOf_409 : decode cX10_waysOf 409 = .ok (.iload 8, 2) := by decide +kernel
theorem dX10_waysOf_411 : decode cX10_waysOf 411 = .ok (.ifCond .eq 13, 3) := by decide +kernel
theorem dX10_waysOf_414 : decode cX10_waysOf 414 = .ok (.aload_n 0, 1) := by decide +kernel
theorem dX10_waysOf_415 : decode cX10_waysOf 415 = .ok (.getfield 38, 3) := by decide +kernel
theorem dX10_waysOf_418 : decode cX10_waysOf 418 = .ok (.iload 7, 2) := by decide +kernel
theorem dX10_waysOf_420 : decode cX10_waysOf 420 = .ok (.laload, 1) := by decide +kernel
theorem dX10_waysOf_421 : decode cX10_waysOf 421 = .ok (.goto 4, 3) := by decide +kernel
theorem dX10_waysOf_424 : decode cX10_waysOf 424 = .ok (.lconst 0, 1) := by decide +kernel
theorem dX10_waysOf_425 : decode cX10_waysOf 425 = .ok (.ladd, 1) := by decide +kernel
theorem dX10_waysOf_426 : decode cX10_waysOf 426 = .ok (.lstore 5, 2) := by decide +kernel
theorem dX10_waysOf_428 : decode cX10_waysOf 428 = .ok (.iinc 7 1, 3) := by decide +kernel
theorem dX10_waysOf_431 : decode cX10_waysOf 431 = .ok (.goto (-90), 3) := by decide +kernel
theorem dX10_waysOf_434 : decode cX10_waysOf 434 = .ok (.lload 5, 2) := by decide +kernel
theorem dX10_waysOf_436 : decode cX10_waysOf 436 = .ok (.lreturn, 1) := by decide +kernel
theorem dX10_allWays_0 : decode cX10_allWays 0 = .ok (.lconst 1, 1) := by decide +kernel
theorem dX10_allWays_1 : decode cX10_allWays 1 = .ok (.lstore_n 3, 1) := by decide +kernel
theorem dX10_allWays_2 : decode cX10_allWays 2 = .ok (.iconst 0, 1) := by decide +kernel
theorem dX10_allWays_3 : decode cX10_allWays 3 = .ok (.istore 5, 2) := by decide +kernel
theorem dX10_allWays_5 : decode cX10_allWays 5 = .ok (.iload 5, 2) := by decide +kernel
theorem dX10_allWays_7 : decode cX10_allWays 7 = .ok (.bipush 6, 2) := by decide +kernel
theorem dX10_allWays_9 : decode cX10_allWays 9 = .ok (.if_icmp .ge 20, 3) := by decide +kernel
theorem dX10_allWays_12 : decode cX10_allWays 12 = .ok (.lload_n 3, 1) := by decide +kernel
theorem dX10_allWays_13 : decode cX10_allWays 13 = .ok (.aload_n 0, 1) := by decide +kernel
theorem dX10_allWays_14 : decode cX10_allWays 14 = .ok (.iload 5, 2) := by decide +kernel
theorem dX10_allWays_16 : decode cX10_allWays 16 = .ok (.iload_n 1, 1) := by decide +kernel
theorem dX10_allWays_17 : decode cX10_allWays 17 = .ok (.iload_n 2, 1) := by decide +kernel
theorem dX10_allWays_18 : decode cX10_allWays 18 = .ok (.invokevirtual 222, 3) := by decide +kernel
theorem dX10_allWays_21 : decode cX10_allWays 21 = .ok (.lmul, 1) := by decide +kernel
theorem dX10_allWays_22 : decode cX10_allWays 22 = .ok (.lstore_n 3, 1) := by decide +kernel
theorem dX10_allWays_23 : decode cX10_allWays 23 = .ok (.iinc 5 1, 3) := by decide +kernel
theorem dX10_allWays_26 : decode cX10_allWays 26 = .ok (.goto (-21), 3) := by decide +kernel
theorem dX10_allWays_29 : decode cX10_allWays 29 = .ok (.lload_n 3, 1) := by decide +kernel
theorem dX10_allWays_30 : decode cX10_allWays 30 = .ok (.lreturn, 1) := by decide +kernel
theorem dX10_ways_0 : decode cX10_ways 0 = .ok (.aload_n 0, 1) := by decide +kernel
theorem dX10_ways_1 : decode cX10_ways 1 = .ok (.bipush (-4), 2) := by decide +kernel
theorem dX10_ways_3 : decode cX10_ways 3 = .ok (.bipush 7, 2) := by decide +kernel
theorem dX10_ways_5 : decode cX10_ways 5 = .ok (.invokevirtual 226, 3) := by decide +kernel
theorem dX10_ways_8 : decode cX10_ways 8 = .ok (.lreturn, 1) := by decide +kernel
theorem dX10_whose_0 : decode cX10_whose 0 = .ok (.aload_n 0, 1) := by decide +kernel
theorem dX10_whose_1 : decode cX10_whose 1 = .ok (.iload_n 1, 1) := by decide +kernel
theorem dX10_whose_2 : decode cX10_whose 2 = .ok (.invokevirtual 63, 3) := by decide +kernel
theorem dX10_whose_5 : decode cX10_whose 5 = .ok (.ifCond .ne 5, 3) := by decide +kernel
theorem dX10_whose_8 : decode cX10_whose 8 = .ok (.iconst (-1), 1) := by decide +kernel
theorem dX10_whose_9 : decode cX10_whose 9 = .ok (.ireturn, 1) := by decide +kernel
theorem dX10_whose_10 : decode cX10_whose 10 = .ok (.iconst 0, 1) := by decide +kernel
theorem dX10_whose_11 : decode cX10_whose 11 = .ok (.istore_n 2, 1) := by decide +kernel
theorem dX10_whose_12 : decode cX10_whose 12 = .ok (.iconst 0, 1) := by decide +kernel
theorem dX10_whose_13 : decode cX10_whose 13 = .ok (.istore_n 3, 1) := by decide +kernel
theorem dX10_whose_14 : decode cX10_whose 14 = .ok (.iload_n 3, 1) := by decide +kernel
theorem dX10_whose_15 : decode cX10_whose 15 = .ok (.iconst 3, 1) := by decide +kernel
theorem dX10_whose_16 : decode cX10_whose 16 = .ok (.if_icmp .ge 32, 3) := by decide +kernel
theorem dX10_whose_19 : decode cX10_whose 19 = .ok (.iload_n 2, 1) := by decide +kernel
theorem dX10_whose_20 : decode cX10_whose 20 = .ok (.aload_n 0, 1) := by decide +kernel
theorem dX10_whose_21 : decode cX10_whose 21 = .ok (.iload_n 1, 1) := by decide +kernel
theorem dX10_whose_22 : decode cX10_whose 22 = .ok (.iconst 1, 1) := by decide +kernel
theorem dX10_whose_23 : decode cX10_whose 23 = .ok (.iload_n 3, 1) := by decide +kernel
theorem dX10_whose_24 : decode cX10_whose 24 = .ok (.ishl, 1) := by decide +kernel
theorem dX10_whose_25 : decode cX10_whose 25 = .ok (.invokevirtual 226, 3) := by decide +kernel
theorem dX10_whose_28 : decode cX10_whose 28 = .ok (.lconst 0, 1) := by decide +kernel
theorem dX10_whose_29 : decode cX10_whose 29 = .ok (.lcmp, 1) := by decide +kernel
theorem dX10_whose_30 : decode cX10_whose 30 = .ok (.ifCond .le 9, 3) := by decide +kernel
theorem dX10_whose_33 : decode cX10_whose 33 = .ok (.iconst 1, 1) := by decide +kernel
theorem dX10_whose_34 : decode cX10_whose 34 = .ok (.iload_n 3, 1) := by decide +kernel
theorem dX10_whose_35 : decode cX10_whose 35 = .ok (.ishl, 1) := by decide +kernel
theorem dX10_whose_36 : decode cX10_whose 36 = .ok (.goto 4, 3) := by decide +kernel
theorem dX10_whose_39 : decode cX10_whose 39 = .ok (.iconst 0, 1) := by decide +kernel
theorem dX10_whose_40 : decode cX10_whose 40 = .ok (.ior, 1) := by decide +kernel
theorem dX10_whose_41 : decode cX10_whose 41 = .ok (.istore_n 2, 1) := by decide +kernel
theorem dX10_whose_42 : decode cX10_whose 42 = .ok (.iinc 3 1, 3) := by decide +kernel
theorem dX10_whose_45 : decode cX10_whose 45 = .ok (.goto (-31), 3) := by decide +kernel
theorem dX10_whose_48 : decode cX10_whose 48 = .ok (.iload_n 2, 1) := by decide +kernel
theorem dX10_whose_49 : decode cX10_whose 49 = .ok (.ifCond .ne 8, 3) := by decide +kernel
theorem dX10_whose_52 : decode cX10_whose 52 = .ok (.bipush (-4), 2) := by decide +kernel
theorem dX10_whose_54 : decode cX10_whose 54 = .ok (.goto 4, 3) := by decide +kernel
theorem dX10_whose_57 : decode cX10_whose 57 = .ok (.iload_n 2, 1) := by decide +kernel
theorem dX10_whose_58 : decode cX10_whose 58 = .ok (.ireturn, 1) := by decide +kernel
theorem dX10_seldom_0 : decode cX10_seldom 0 = .ok (.iload_n 1, 1) := by decide +kernel
theorem dX10_seldom_1 : decode cX10_seldom 1 = .ok (.i2l, 1) := by decide +kernel
theorem dX10_seldom_2 : decode cX10_seldom 2 = .ok (.lconst 0, 1) := by decide +kernel
theorem dX10_seldom_3 : decode cX10_seldom 3 = .ok (.lconst 1, 1) := by decide +kernel
theorem dX10_seldom_4 : decode cX10_seldom 4 = .ok (.invokestatic 59, 3) := by decide +kernel
theorem dX10_seldom_7 : decode cX10_seldom 7 = .ok (.ifCond .ne 5, 3) := by decide +kernel
theorem dX10_seldom_10 : decode cX10_seldom 10 = .ok (.iconst (-1), 1) := by decide +kernel
theorem dX10_seldom_11 : decode cX10_seldom 11 = .ok (.ireturn, 1) := by decide +kernel
theorem dX10_seldom_12 : decode cX10_seldom 12 = .ok (.aload_n 0, 1) := by decide +kernel
theorem dX10_seldom_13 : decode cX10_seldom 13 = .ok (.iconst 1, 1) := by decide +kernel
theorem dX10_seldom_14 : decode cX10_seldom 14 = .ok (.invokevirtual 140, 3) := by decide +kernel
theorem dX10_seldom_17 : decode cX10_seldom 17 = .ok (.invokestatic 151, 3) := by decide +kernel
theorem dX10_seldom_20 : decode cX10_seldom 20 = .ok (.istore_n 2, 1) := by decide +kernel
theorem dX10_seldom_21 : decode cX10_seldom 21 = .ok (.iload_n 2, 1) := by decide +kernel
theorem dX10_seldom_22 : decode cX10_seldom 22 = .ok (.ifCond .ne 6, 3) := by decide +kernel
theorem dX10_seldom_25 : decode cX10_seldom 25 = .ok (.bipush (-2), 2) := by decide +kernel
theorem dX10_seldom_27 : decode cX10_seldom 27 = .ok (.ireturn, 1) := by decide +kernel
theorem dX10_seldom_28 : decode cX10_seldom 28 = .ok (.iconst 0, 1) := by decide +kernel
theorem dX10_seldom_29 : decode cX10_seldom 29 = .ok (.istore_n 3, 1) := by decide +kernel
theorem dX10_seldom_30 : decode cX10_seldom 30 = .ok (.iconst 0, 1) := by decide +kernel
theorem dX10_seldom_31 : decode cX10_seldom 31 = .ok (.istore 4, 2) := by decide +kernel
theorem dX10_seldom_33 : decode cX10_seldom 33 = .ok (.iload 4, 2) := by decide +kernel
theorem dX10_seldom_35 : decode cX10_seldom 35 = .ok (.aload_n 0, 1) := by decide +kernel
theorem dX10_seldom_36 : decode cX10_seldom 36 = .ok (.getfield 7, 3) := by decide +kernel
theorem dX10_seldom_39 : decode cX10_seldom 39 = .ok (.iconst 0, 1) := by decide +kernel
theorem dX10_seldom_40 : decode cX10_seldom 40 = .ok (.iaload, 1) := by decide +kernel
theorem dX10_seldom_41 : decode cX10_seldom 41 = .ok (.if_icmp .ge 27, 3) := by decide +kernel
theorem dX10_seldom_44 : decode cX10_seldom 44 = .ok (.iload_n 3, 1) := by decide +kernel
theorem dX10_seldom_45 : decode cX10_seldom 45 = .ok (.aload_n 0, 1) := by decide +kernel
theorem dX10_seldom_46 : decode cX10_seldom 46 = .ok (.iload 4, 2) := by decide +kernel
theorem dX10_seldom_48 : decode cX10_seldom 48 = .ok (.iconst 1, 1) := by decide +kernel
theorem dX10_seldom_49 : decode cX10_seldom 49 = .ok (.invokevirtual 67, 3) := by decide +kernel
theorem dX10_seldom_52 : decode cX10_seldom 52 = .ok (.ifCond .ne 7, 3) := by decide +kernel
theorem dX10_seldom_55 : decode cX10_seldom 55 = .ok (.iconst 1, 1) := by decide +kernel
theorem dX10_seldom_56 : decode cX10_seldom 56 = .ok (.goto 4, 3) := by decide +kernel
theorem dX10_seldom_59 : decode cX10_seldom 59 = .ok (.iconst 0, 1) := by decide +kernel
theorem dX10_seldom_60 : decode cX10_seldom 60 = .ok (.iadd, 1) := by decide +kernel
theorem dX10_seldom_61 : decode cX10_seldom 61 = .ok (.istore_n 3, 1) := by decide +kernel
theorem dX10_seldom_62 : decode cX10_seldom 62 = .ok (.iinc 4 1, 3) := by decide +kernel
theorem dX10_seldom_65 : decode cX10_seldom 65 = .ok (.goto (-32), 3) := by decide +kernel
theorem dX10_seldom_68 : decode cX10_seldom 68 = .ok (.iconst 0, 1) := by decide +kernel
theorem dX10_seldom_69 : decode cX10_seldom 69 = .ok (.istore 4, 2) := by decide +kernel
theorem dX10_seldom_71 : decode cX10_seldom 71 = .ok (.aload_n 0, 1) := by decide +kernel
theorem dX10_seldom_72 : decode cX10_seldom 72 = .ok (.bipush (-4), 2) := by decide +kernel
theorem dX10_seldom_74 : decode cX10_seldom 74 = .ok (.iconst 0, 1) := by decide +kernel
theorem dX10_seldom_75 : decode cX10_seldom 75 = .ok (.invokevirtual 166, 3) := by decide +kernel
theorem dX10_seldom_78 : decode cX10_seldom 78 = .ok (.istore 5, 2) := by decide +kernel
theorem dX10_seldom_80 : decode cX10_seldom 80 = .ok (.iload 5, 2) := by decide +kernel
theorem dX10_seldom_82 : decode cX10_seldom 82 = .ok (.iload_n 2, 1) := by decide +kernel
theorem dX10_seldom_83 : decode cX10_seldom 83 = .ok (.if_icmp .gt 36, 3) := by decide +kernel
theorem dX10_seldom_86 : decode cX10_seldom 86 = .ok (.iload 4, 2) := by decide +kernel
theorem dX10_seldom_88 : decode cX10_seldom 88 = .ok (.iload_n 3, 1) := by decide +kernel
theorem dX10_seldom_89 : decode cX10_seldom 89 = .ok (.iload 5, 2) := by decide +kernel
theorem dX10_seldom_91 : decode cX10_seldom 91 = .ok (.invokestatic 206, 3) := by decide +kernel
theorem dX10_seldom_94 : decode cX10_seldom 94 = .ok (.aload_n 0, 1) := by decide +kernel
theorem dX10_seldom_95 : decode cX10_seldom 95 = .ok (.getfield 7, 3) := by decide +kernel
theorem dX10_seldom_98 : decode cX10_seldom 98 = .ok (.iconst 0, 1) := by decide +kernel
theorem dX10_seldom_99 : decode cX10_seldom 99 = .ok (.iaload, 1) := by decide +kernel
theorem dX10_seldom_100 : decode cX10_seldom 100 = .ok (.iload_n 3, 1) := by decide +kernel
theorem dX10_seldom_101 : decode cX10_seldom 101 = .ok (.isub, 1) := by decide +kernel
theorem dX10_seldom_102 : decode cX10_seldom 102 = .ok (.iload_n 2, 1) := by decide +kernel
theorem dX10_seldom_103 : decode cX10_seldom 103 = .ok (.iload 5, 2) := by decide +kernel
theorem dX10_seldom_105 : decode cX10_seldom 105 = .ok (.isub, 1) := by decide +kernel
theorem dX10_seldom_106 : decode cX10_seldom 106 = .ok (.invokestatic 206, 3) := by decide +kernel
theorem dX10_seldom_109 : decode cX10_seldom 109 = .ok (.imul, 1) := by decide +kernel
theorem dX10_seldom_110 : decode cX10_seldom 110 = .ok (.iadd, 1) := by decide +kernel
theorem dX10_seldom_111 : decode cX10_seldom 111 = .ok (.istore 4, 2) := by decide +kernel
theorem dX10_seldom_113 : decode cX10_seldom 113 = .ok (.iinc 5 1, 3) := by decide +kernel
theorem dX10_seldom_116 : decode cX10_seldom 116 = .ok (.goto (-36), 3) := by decide +kernel
theorem dX10_seldom_119 : decode cX10_seldom 119 = .ok (.aload_n 0, 1) := by decide +kernel
theorem dX10_seldom_120 : decode cX10_seldom 120 = .ok (.getfield 7, 3) := by decide +kernel
theorem dX10_seldom_123 : decode cX10_seldom 123 = .ok (.iconst 0, 1) := by decide +kernel
theorem dX10_seldom_124 : decode cX10_seldom 124 = .ok (.iaload, 1) := by decide +kernel
theorem dX10_seldom_125 : decode cX10_seldom 125 = .ok (.iload_n 2, 1) := by decide +kernel
theorem dX10_seldom_126 : decode cX10_seldom 126 = .ok (.invokestatic 206, 3) := by decide +kernel
theorem dX10_seldom_129 : decode cX10_seldom 129 = .ok (.istore 5, 2) := by decide +kernel
theorem dX10_seldom_131 : decode cX10_seldom 131 = .ok (.iload 4, 2) := by decide +kernel
theorem dX10_seldom_133 : decode cX10_seldom 133 = .ok (.i2l, 1) := by decide +kernel
theorem dX10_seldom_134 : decode cX10_seldom 134 = .ok (.iload 5, 2) := by decide +kernel
theorem dX10_seldom_136 : decode cX10_seldom 136 = .ok (.i2l, 1) := by decide +kernel
theorem dX10_seldom_137 : decode cX10_seldom 137 = .ok (.invokestatic 199, 3) := by decide +kernel
theorem dX10_seldom_140 : decode cX10_seldom 140 = .ok (.l2i, 1) := by decide +kernel
theorem dX10_seldom_141 : decode cX10_seldom 141 = .ok (.istore 6, 2) := by decide +kernel
theorem dX10_seldom_143 : decode cX10_seldom 143 = .ok (.iload_n 1, 1) := by decide +kernel
theorem dX10_seldom_144 : decode cX10_seldom 144 = .ok (.ifCond .ne 11, 3) := by decide +kernel
theorem dX10_seldom_147 : decode cX10_seldom 147 = .ok (.iload 4, 2) := by decide +kernel
theorem dX10_seldom_149 : decode cX10_seldom 149 = .ok (.iload 6, 2) := by decide +kernel
theorem dX10_seldom_151 : decode cX10_seldom 151 = .ok (.idiv, 1) := by decide +kernel
theorem dX10_seldom_152 : decode cX10_seldom 152 = .ok (.goto 8, 3) := by decide +kernel
theorem dX10_seldom_155 : decode cX10_seldom 155 = .ok (.iload 5, 2) := by decide +kernel
theorem dX10_seldom_157 : decode cX10_seldom 157 = .ok (.iload 6, 2) := by decide +kernel
theorem dX10_seldom_159 : decode cX10_seldom 159 = .ok (.idiv, 1) := by decide +kernel
theorem dX10_seldom_160 : decode cX10_seldom 160 = .ok (.ireturn, 1) := by decide +kernel
theorem dX10_lacks_0 : decode cX10_lacks 0 = .ok (.iload_n 1, 1) := by decide +kernel
theorem dX10_lacks_1 : decode cX10_lacks 1 = .ok (.i2l, 1) := by decide +kernel
theorem dX10_lacks_2 : decode cX10_lacks 2 = .ok (.lconst 0, 1) := by decide +kernel
theorem dX10_lacks_3 : decode cX10_lacks 3 = .ok (.ldc2_w 75, 3) := by decide +kernel
theorem dX10_lacks_6 : decode cX10_lacks 6 = .ok (.invokestatic 59, 3) := by decide +kernel
theorem dX10_lacks_9 : decode cX10_lacks 9 = .ok (.ifCond .eq 13, 3) := by decide +kernel
theorem dX10_lacks_12 : decode cX10_lacks 12 = .ok (.iload_n 2, 1) := by decide +kernel
theorem dX10_lacks_13 : decode cX10_lacks 13 = .ok (.i2l, 1) := by decide +kernel
theorem dX10_lacks_14 : decode cX10_lacks 14 = .ok (.lconst 0, 1) := by decide +kernel
theorem dX10_lacks_15 : decode cX10_lacks 15 = .ok (.lconst 1, 1) := by decide +kernel
theorem dX10_lacks_16 : decode cX10_lacks 16 = .ok (.invokestatic 59, 3) := by decide +kernel
theorem dX10_lacks_19 : decode cX10_lacks 19 = .ok (.ifCond .ne 7, 3) := by decide +kernel
theorem dX10_lacks_22 : decode cX10_lacks 22 = .ok (.sipush (-1001), 3) := by decide +kernel
theorem dX10_lacks_25 : decode cX10_lacks 25 = .ok (.ireturn, 1) := by decide +kernel
theorem dX10_lacks_26 : decode cX10_lacks 26 = .ok (.iconst 0, 1) := by decide +kernel
theorem dX10_lacks_27 : decode cX10_lacks 27 = .ok (.istore_n 3, 1) := by decide +kernel
theorem dX10_lacks_28 : decode cX10_lacks 28 = .ok (.iconst 0, 1) := by decide +kernel
theorem dX10_lacks_29 : decode cX10_lacks 29 = .ok (.istore 4, 2) := by decide +kernel
theorem dX10_lacks_31 : decode cX10_lacks 31 = .ok (.iload 4, 2) := by decide +kernel
theorem dX10_lacks_33 : decode cX10_lacks 33 = .ok (.aload_n 0, 1) := by decide +kernel
theorem dX10_lacks_34 : decode cX10_lacks 34 = .ok (.getfield 7, 3) := by decide +kernel
theorem dX10_lacks_37 : decode cX10_lacks 37 = .ok (.iconst 0, 1) := by decide +kernel
theorem dX10_lacks_38 : decode cX10_lacks 38 = .ok (.iaload, 1) := by decide +kernel
theorem dX10_lacks_39 : decode cX10_lacks 39 = .ok (.if_icmp .ge 66, 3) := by decide +kernel
theorem dX10_lacks_42 : decode cX10_lacks 42 = .ok (.aload_n 0, 1) := by decide +kernel
theorem dX10_lacks_43 : decode cX10_lacks 43 = .ok (.iload 4, 2) := by decide +kernel
theorem dX10_lacks_45 : decode cX10_lacks 45 = .ok (.iconst 0, 1) := by decide +kernel
theorem dX10_lacks_46 : decode cX10_lacks 46 = .ok (.invokevirtual 67, 3) := by decide +kernel
theorem dX10_lacks_49 : decode cX10_lacks 49 = .ok (.iload_n 1, 1) := by decide +kernel
theorem dX10_lacks_50 : decode cX10_lacks 50 = .ok (.if_icmp .ne 49, 3) := by decide +kernel
theorem dX10_lacks_53 : decode cX10_lacks 53 = .ok (.aload_n 0, 1) := by decide +kernel
theorem dX10_lacks_54 : decode cX10_lacks 54 = .ok (.iload 4, 2) := by decide +kernel
theorem dX10_lacks_56 : decode cX10_lacks 56 = .ok (.iconst 4, 1) := by decide +kernel
theorem dX10_lacks_57 : decode cX10_lacks 57 = .ok (.invokevirtual 67, 3) := by decide +kernel
theorem dX10_lacks_60 : decode cX10_lacks 60 = .ok (.iconst 1, 1) := by decide +kernel
theorem dX10_lacks_61 : decode cX10_lacks 61 = .ok (.if_icmp .ne 7, 3) := by decide +kernel
theorem dX10_lacks_64 : decode cX10_lacks 64 = .ok (.iconst 1, 1) := by decide +kernel
theorem dX10_lacks_65 : decode cX10_lacks 65 = .ok (.goto 4, 3) := by decide +kernel
theorem dX10_lacks_68 : decode cX10_lacks 68 = .ok (.iconst 0, 1) := by decide +kernel
theorem dX10_lacks_69 : decode cX10_lacks 69 = .ok (.iload_n 2, 1) := by decide +kernel
theorem dX10_lacks_70 : decode cX10_lacks 70 = .ok (.ifCond .ne 7, 3) := by decide +kernel
theorem dX10_lacks_73 : decode cX10_lacks 73 = .ok (.iconst 1, 1) := by decide +kernel
theorem dX10_lacks_74 : decode cX10_lacks 74 = .ok (.goto 4, 3) := by decide +kernel
theorem dX10_lacks_77 : decode cX10_lacks 77 = .ok (.iconst 0, 1) := by decide +kernel
theorem dX10_lacks_78 : decode cX10_lacks 78 = .ok (.if_icmp .ne 21, 3) := by decide +kernel
theorem dX10_lacks_81 : decode cX10_lacks 81 = .ok (.iload_n 3, 1) := by decide +kernel
theorem dX10_lacks_82 : decode cX10_lacks 82 = .ok (.aload_n 0, 1) := by decide +kernel
theorem dX10_lacks_83 : decode cX10_lacks 83 = .ok (.iload 4, 2) := by decide +kernel
theorem dX10_lacks_85 : decode cX10_lacks 85 = .ok (.iconst 1, 1) := by decide +kernel
theorem dX10_lacks_86 : decode cX10_lacks 86 = .ok (.invokevirtual 67, 3) := by decide +kernel
theorem dX10_lacks_89 : decode cX10_lacks 89 = .ok (.ifCond .ne 7, 3) := by decide +kernel
theorem dX10_lacks_92 : decode cX10_lacks 92 = .ok (.iconst 1, 1) := by decide +kernel
theorem dX10_lacks_93 : decode cX10_lacks 93 = .ok (.goto 4, 3) := by decide +kernel
theorem dX10_lacks_96 : decode cX10_lacks 96 = .ok (.iconst (-1), 1) := by decide +kernel
theorem dX10_lacks_97 : decode cX10_lacks 97 = .ok (.iadd, 1) := by decide +kernel
theorem dX10_lacks_98 : decode cX10_lacks 98 = .ok (.istore_n 3, 1) := by decide +kernel
theorem dX10_lacks_99 : decode cX10_lacks 99 = .ok (.iinc 4 1, 3) := by decide +kernel
theorem dX10_lacks_102 : decode cX10_lacks 102 = .ok (.goto (-71), 3) := by decide +kernel
theorem dX10_lacks_105 : decode cX10_lacks 105 = .ok (.iload_n 3, 1) := by decide +kernel
theorem dX10_lacks_106 : decode cX10_lacks 106 = .ok (.ireturn, 1) := by decide +kernel
theorem dX10_wish_0 : decode cX10_wish 0 = .ok (.iload_n 1, 1) := by decide +kernel
theorem dX10_wish_1 : decode cX10_wish 1 = .ok (.i2l, 1) := by decide +kernel
theorem dX10_wish_2 : decode cX10_wish 2 = .ok (.lconst 0, 1) := by decide +kernel
theorem dX10_wish_3 : decode cX10_wish 3 = .ok (.ldc2_w 106, 3) := by decide +kernel
theorem dX10_wish_6 : decode cX10_wish 6 = .ok (.invokestatic 59, 3) := by decide +kernel
theorem dX10_wish_9 : decode cX10_wish 9 = .ok (.ifCond .eq 15, 3) := by decide +kernel
theorem dX10_wish_12 : decode cX10_wish 12 = .ok (.iload_n 2, 1) := by decide +kernel
theorem dX10_wish_13 : decode cX10_wish 13 = .ok (.i2l, 1) := by decide +kernel
theorem dX10_wish_14 : decode cX10_wish 14 = .ok (.lconst 0, 1) := by decide +kernel
theorem dX10_wish_15 : decode cX10_wish 15 = .ok (.ldc2_w 230, 3) := by decide +kernel
theorem dX10_wish_18 : decode cX10_wish 18 = .ok (.invokestatic 59, 3) := by decide +kernel
theorem dX10_wish_21 : decode cX10_wish 21 = .ok (.ifCond .ne 5, 3) := by decide +kernel
theorem dX10_wish_24 : decode cX10_wish 24 = .ok (.iconst (-1), 1) := by decide +kernel
theorem dX10_wish_25 : decode cX10_wish 25 = .ok (.ireturn, 1) := by decide +kernel
theorem dX10_wish_26 : decode cX10_wish 26 = .ok (.aload_n 0, 1) := by decide +kernel
theorem dX10_wish_27 : decode cX10_wish 27 = .ok (.getfield 7, 3) := by decide +kernel
theorem dX10_wish_30 : decode cX10_wish 30 = .ok (.bipush 10, 2) := by decide +kernel
theorem dX10_wish_32 : decode cX10_wish 32 = .ok (.iload_n 1, 1) := by decide +kernel
theorem dX10_wish_33 : decode cX10_wish 33 = .ok (.iadd, 1) := by decide +kernel
theorem dX10_wish_34 : decode cX10_wish 34 = .ok (.iaload, 1) := by decide +kernel
theorem dX10_wish_35 : decode cX10_wish 35 = .ok (.istore_n 3, 1) := by decide +kernel
theorem dX10_wish_36 : decode cX10_wish 36 = .ok (.aload_n 0, 1) := by decide +kernel
theorem dX10_wish_37 : decode cX10_wish 37 = .ok (.getfield 7, 3) := by decide +kernel
theorem dX10_wish_40 : decode cX10_wish 40 = .ok (.bipush 10, 2) := by decide +kernel
theorem dX10_wish_42 : decode cX10_wish 42 = .ok (.iload_n 1, 1) := by decide +kernel
theorem dX10_wish_43 : decode cX10_wish 43 = .ok (.iadd, 1) := by decide +kernel
theorem dX10_wish_44 : decode cX10_wish 44 = .ok (.iload_n 2, 1) := by decide +kernel
theorem dX10_wish_45 : decode cX10_wish 45 = .ok (.iastore, 1) := by decide +kernel
theorem dX10_wish_46 : decode cX10_wish 46 = .ok (.iload_n 3, 1) := by decide +kernel
theorem dX10_wish_47 : decode cX10_wish 47 = .ok (.ireturn, 1) := by decide +kernel
theorem dX10_buy_0 : decode cX10_buy 0 = .ok (.bipush 63, 2) := by decide +kernel
theorem dX10_buy_2 : decode cX10_buy 2 = .ok (.istore_n 1, 1) := by decide +kernel
theorem dX10_buy_3 : decode cX10_buy 3 = .ok (.bipush 63, 2) := by decide +kernel
theorem dX10_buy_5 : decode cX10_buy 5 = .ok (.istore_n 2, 1) := by decide +kernel
theorem dX10_buy_6 : decode cX10_buy 6 = .ok (.iload_n 2, 1) := by decide +kernel
theorem dX10_buy_7 : decode cX10_buy 7 = .ok (.ifCond .lt 85, 3) := by decide +kernel
theorem dX10_buy_10 : decode cX10_buy 10 = .ok (.iconst 1, 1) := by decide +kernel
theorem dX10_buy_11 : decode cX10_buy 11 = .ok (.istore_n 3, 1) := by decide +kernel
theorem dX10_buy_12 : decode cX10_buy 12 = .ok (.iconst 0, 1) := by decide +kernel
theorem dX10_buy_13 : decode cX10_buy 13 = .ok (.istore 4, 2) := by decide +kernel
theorem dX10_buy_15 : decode cX10_buy 15 = .ok (.iload 4, 2) := by decide +kernel
theorem dX10_buy_17 : decode cX10_buy 17 = .ok (.iconst 3, 1) := by decide +kernel
theorem dX10_buy_18 : decode cX10_buy 18 = .ok (.if_icmp .ge 47, 3) := by decide +kernel
theorem dX10_buy_21 : decode cX10_buy 21 = .ok (.iload_n 3, 1) := by decide +kernel
theorem dX10_buy_22 : decode cX10_buy 22 = .ok (.ifCond .eq 35, 3) := by decide +kernel
theorem dX10_buy_25 : decode cX10_buy 25 = .ok (.aload_n 0, 1) := by decide +kernel
theorem dX10_buy_26 : decode cX10_buy 26 = .ok (.getfield 7, 3) := by decide +kernel
theorem dX10_buy_29 : decode cX10_buy 29 = .ok (.bipush 10, 2) := by decide +kernel
theorem dX10_buy_31 : decode cX10_buy 31 = .ok (.iload 4, 2) := by decide +kernel
theorem dX10_buy_33 : decode cX10_buy 33 = .ok (.iadd, 1) := by decide +kernel
theorem dX10_buy_34 : decode cX10_buy 34 = .ok (.iaload, 1) := by decide +kernel
theorem dX10_buy_35 : decode cX10_buy 35 = .ok (.ifCond .eq 18, 3) := by decide +kernel
theorem dX10_buy_38 : decode cX10_buy 38 = .ok (.aload_n 0, 1) := by decide +kernel
theorem dX10_buy_39 : decode cX10_buy 39 = .ok (.getfield 7, 3) := by decide +kernel
theorem dX10_buy_42 : decode cX10_buy 42 = .ok (.bipush 10, 2) := by decide +kernel
theorem dX10_buy_44 : decode cX10_buy 44 = .ok (.iload 4, 2) := by decide +kernel
theorem dX10_buy_46 : decode cX10_buy 46 = .ok (.iadd, 1) := by decide +kernel
theorem dX10_buy_47 : decode cX10_buy 47 = .ok (.iaload, 1) := by decide +kernel
theorem dX10_buy_48 : decode cX10_buy 48 = .ok (.iload_n 2, 1) := by decide +kernel
theorem dX10_buy_49 : decode cX10_buy 49 = .ok (.iand, 1) := by decide +kernel
theorem dX10_buy_50 : decode cX10_buy 50 = .ok (.ifCond .eq 7, 3) := by decide +kernel
theorem dX10_buy_53 : decode cX10_buy 53 = .ok (.iconst 1, 1) := by decide +kernel
theorem dX10_buy_54 : decode cX10_buy 54 = .ok (.goto 4, 3) := by decide +kernel
theorem dX10_buy_57 : decode cX10_buy 57 = .ok (.iconst 0, 1) := by decide +kernel
theorem dX10_buy_58 : decode cX10_buy 58 = .ok (.istore_n 3, 1) := by decide +kernel
theorem dX10_buy_59 : decode cX10_buy 59 = .ok (.iinc 4 1, 3) := by decide +kernel
theorem dX10_buy_62 : decode cX10_buy 62 = .ok (.goto (-47), 3) := by decide +kernel
theorem dX10_buy_65 : decode cX10_buy 65 = .ok (.iload_n 3, 1) := by decide +kernel
theorem dX10_buy_66 : decode cX10_buy 66 = .ok (.ifCond .eq 18, 3) := by decide +kernel
theorem dX10_buy_69 : decode cX10_buy 69 = .ok (.iload_n 2, 1) := by decide +kernel
theorem dX10_buy_70 : decode cX10_buy 70 = .ok (.invokestatic 151, 3) := by decide +kernel
theorem dX10_buy_73 : decode cX10_buy 73 = .ok (.iload_n 1, 1) := by decide +kernel
theorem dX10_buy_74 : decode cX10_buy 74 = .ok (.invokestatic 151, 3) := by decide +kernel
theorem dX10_buy_77 : decode cX10_buy 77 = .ok (.if_icmp .gt 7, 3) := by decide +kernel
theorem dX10_buy_80 : decode cX10_buy 80 = .ok (.iload_n 2, 1) := by decide +kernel
theorem dX10_buy_81 : decode cX10_buy 81 = .ok (.goto 4, 3) := by decide +kernel
theorem dX10_buy_84 : decode cX10_buy 84 = .ok (.iload_n 1, 1) := by decide +kernel
theorem dX10_buy_85 : decode cX10_buy 85 = .ok (.istore_n 1, 1) := by decide +kernel
theorem dX10_buy_86 : decode cX10_buy 86 = .ok (.iinc 2 (-1), 3) := by decide +kernel
theorem dX10_buy_89 : decode cX10_buy 89 = .ok (.goto (-83), 3) := by decide +kernel
theorem dX10_buy_92 : decode cX10_buy 92 = .ok (.iload_n 1, 1) := by decide +kernel
theorem dX10_buy_93 : decode cX10_buy 93 = .ok (.ireturn, 1) := by decide +kernel
theorem dX10_areApart_0 : decode cX10_areApart 0 = .ok (.iload_n 0, 1) := by decide +kernel
theorem dX10_areApart_1 : decode cX10_areApart 1 = .ok (.iload_n 1, 1) := by decide +kernel
theorem dX10_areApart_2 : decode cX10_areApart 2 = .ok (.iconst (-1), 1) := by decide +kernel
theorem dX10_areApart_3 : decode cX10_areApart 3 = .ok (.ixor, 1) := by decide +kernel
theorem dX10_areApart_4 : decode cX10_areApart 4 = .ok (.iand, 1) := by decide +kernel
theorem dX10_areApart_5 : decode cX10_areApart 5 = .ok (.invokestatic 151, 3) := by decide +kernel
theorem dX10_areApart_8 : decode cX10_areApart 8 = .ok (.iload_n 2, 1) := by decide +kernel
theorem dX10_areApart_9 : decode cX10_areApart 9 = .ok (.if_icmp .gt 15, 3) := by decide +kernel
theorem dX10_areApart_12 : decode cX10_areApart 12 = .ok (.iload_n 1, 1) := by decide +kernel
theorem dX10_areApart_13 : decode cX10_areApart 13 = .ok (.iload_n 0, 1) := by decide +kernel
theorem dX10_areApart_14 : decode cX10_areApart 14 = .ok (.iconst (-1), 1) := by decide +kernel
theorem dX10_areApart_15 : decode cX10_areApart 15 = .ok (.ixor, 1) := by decide +kernel
theorem dX10_areApart_16 : decode cX10_areApart 16 = .ok (.iand, 1) := by decide +kernel
theorem dX10_areApart_17 : decode cX10_areApart 17 = .ok (.invokestatic 151, 3) := by decide +kernel
theorem dX10_areApart_20 : decode cX10_areApart 20 = .ok (.iload_n 2, 1) := by decide +kernel
theorem dX10_areApart_21 : decode cX10_areApart 21 = .ok (.if_icmp .le 7, 3) := by decide +kernel
theorem dX10_areApart_24 : decode cX10_areApart 24 = .ok (.iconst 1, 1) := by decide +kernel
theorem dX10_areApart_25 : decode cX10_areApart 25 = .ok (.goto 4, 3) := by decide +kernel
theorem dX10_areApart_28 : decode cX10_areApart 28 = .ok (.iconst 0, 1) := by decide +kernel
theorem dX10_areApart_29 : decode cX10_areApart 29 = .ok (.ireturn, 1) := by decide +kernel
theorem dX10_findMarks_0 : decode cX10_findMarks 0 = .ok (.iconst 0, 1) := by decide +kernel
theorem dX10_findMarks_1 : decode cX10_findMarks 1 = .ok (.istore 4, 2) := by decide +kernel
theorem dX10_findMarks_3 : decode cX10_findMarks 3 = .ok (.aload_n 0, 1) := by decide +kernel
theorem dX10_findMarks_4 : decode cX10_findMarks 4 = .ok (.getfield 44, 3) := by decide +kernel
theorem dX10_findMarks_7 : decode cX10_findMarks 7 = .ok (.iconst 0, 1) := by decide +kernel
theorem dX10_findMarks_8 : decode cX10_findMarks 8 = .ok (.iconst 0, 1) := by decide +kernel
theorem dX10_findMarks_9 : decode cX10_findMarks 9 = .ok (.iastore, 1) := by decide +kernel
theorem dX10_findMarks_10 : decode cX10_findMarks 10 = .ok (.iload 4, 2) := by decide +kernel
theorem dX10_findMarks_12 : decode cX10_findMarks 12 = .ok (.ifCond .lt 154, 3) := by decide +kernel
theorem dX10_findMarks_15 : decode cX10_findMarks 15 = .ok (.iload 4, 2) := by decide +kernel
theorem dX10_findMarks_17 : decode cX10_findMarks 17 = .ok (.iload_n 1, 1) := by decide +kernel
theorem dX10_findMarks_18 : decode cX10_findMarks 18 = .ok (.if_icmp .ge 148, 3) := by decide +kernel
theorem dX10_findMarks_21 : decode cX10_findMarks 21 = .ok (.aload_n 0, 1) := by decide +kernel
theorem dX10_findMarks_22 : decode cX10_findMarks 22 = .ok (.getfield 44, 3) := by decide +kernel
theorem dX10_findMarks_25 : decode cX10_findMarks 25 = .ok (.iload 4, 2) := by decide +kernel
theorem dX10_findMarks_27 : decode cX10_findMarks 27 = .ok (.iaload, 1) := by decide +kernel
theorem dX10_findMarks_28 : decode cX10_findMarks 28 = .ok (.iconst 1, 1) := by decide +kernel
theorem dX10_findMarks_29 : decode cX10_findMarks 29 = .ok (.iload_n 3, 1) := by decide +kernel
theorem dX10_findMarks_30 : decode cX10_findMarks 30 = .ok (.ishl, 1) := by decide +kernel
theorem dX10_findMarks_31 : decode cX10_findMarks 31 = .ok (.if_icmp .ge 7, 3) := by decide +kernel
theorem dX10_findMarks_34 : decode cX10_findMarks 34 = .ok (.iconst 1, 1) := by decide +kernel
theorem dX10_findMarks_35 : decode cX10_findMarks 35 = .ok (.goto 4, 3) := by decide +kernel
theorem dX10_findMarks_38 : decode cX10_findMarks 38 = .ok (.iconst 0, 1) := by decide +kernel
theorem dX10_findMarks_39 : decode cX10_findMarks 39 = .ok (.istore 5, 2) := by decide +kernel
theorem dX10_findMarks_41 : decode cX10_findMarks 41 = .ok (.iconst 0, 1) := by decide +kernel
theorem dX10_findMarks_42 : decode cX10_findMarks 42 = .ok (.istore 6, 2) := by decide +kernel
theorem dX10_findMarks_44 : decode cX10_findMarks 44 = .ok (.iload 6, 2) := by decide +kernel
theorem dX10_findMarks_46 : decode cX10_findMarks 46 = .ok (.iload 4, 2) := by decide +kernel
theorem dX10_findMarks_48 : decode cX10_findMarks 48 = .ok (.if_icmp .ge 34, 3) := by decide +kernel
theorem dX10_findMarks_51 : decode cX10_findMarks 51 = .ok (.iload 5, 2) := by decide +kernel
theorem dX10_findMarks_53 : decode cX10_findMarks 53 = .ok (.ifCond .eq 29, 3) := by decide +kernel
theorem dX10_findMarks_56 : decode cX10_findMarks 56 = .ok (.aload_n 0, 1) := by decide +kernel
theorem dX10_findMarks_57 : decode cX10_findMarks 57 = .ok (.getfield 44, 3) := by decide +kernel
theorem dX10_findMarks_60 : decode cX10_findMarks 60 = .ok (.iload 6, 2) := by decide +kernel
theorem dX10_findMarks_62 : decode cX10_findMarks 62 = .ok (.iaload, 1) := by decide +kernel
theorem dX10_findMarks_63 : decode cX10_findMarks 63 = .ok (.aload_n 0, 1) := by decide +kernel
theorem dX10_findMarks_64 : decode cX10_findMarks 64 = .ok (.getfield 44, 3) := by decide +kernel
theorem dX10_findMarks_67 : decode cX10_findMarks 67 = .ok (.iload 4, 2) := by decide +kernel
theorem dX10_findMarks_69 : decode cX10_findMarks 69 = .ok (.iaload, 1) := by decide +kernel
theorem dX10_findMarks_70 : decode cX10_findMarks 70 = .ok (.iload_n 2, 1) := by decide +kernel
theorem dX10_findMarks_71 : decode cX10_findMarks 71 = .ok (.invokestatic 232, 3) := by decide +kernel
theorem dX10_findMarks_74 : decode cX10_findMarks 74 = .ok (.istore 5, 2) := by decide +kernel
theorem dX10_findMarks_76 : decode cX10_findMarks 76 = .ok (.iinc 6 1, 3) := by decide +kernel
theorem dX10_findMarks_79 : decode cX10_findMarks 79 = .ok (.goto (-35), 3) := by decide +kernel
theorem dX10_findMarks_82 : decode cX10_findMarks 82 = .ok (.aload_n 0, 1) := by decide +kernel
theorem dX10_findMarks_83 : decode cX10_findMarks 83 = .ok (.getfield 44, 3) := by decide +kernel
theorem dX10_findMarks_86 : decode cX10_findMarks 86 = .ok (.iload 4, 2) := by decide +kernel
theorem dX10_findMarks_88 : decode cX10_findMarks 88 = .ok (.iaload, 1) := by decide +kernel
theorem dX10_findMarks_89 : decode cX10_findMarks 89 = .ok (.iconst 1, 1) := by decide +kernel
theorem dX10_findMarks_90 : decode cX10_findMarks 90 = .ok (.iload_n 3, 1) := by decide +kernel
theorem dX10_findMarks_91 : decode cX10_findMarks 91 = .ok (.ishl, 1) := by decide +kernel
theorem dX10_findMarks_92 : decode cX10_findMarks 92 = .ok (.if_icmp .lt 25, 3) := by decide +kernel
theorem dX10_findMarks_95 : decode cX10_findMarks 95 = .ok (.iinc 4 (-1), 3) := by decide +kernel
theorem dX10_findMarks_98 : decode cX10_findMarks 98 = .ok (.iload 4, 2) := by decide +kernel
theorem dX10_findMarks_100 : decode cX10_findMarks 100 = .ok (.ifCond .lt 63, 3) := by decide +kernel
theorem dX10_findMarks_103 : decode cX10_findMarks 103 = .ok (.aload_n 0, 1) := by decide +kernel
theorem dX10_findMarks_104 : decode cX10_findMarks 104 = .ok (.getfield 44, 3) := by decide +kernel
theorem dX10_findMarks_107 : decode cX10_findMarks 107 = .ok (.iload 4, 2) := by decide +kernel
theorem dX10_findMarks_109 : decode cX10_findMarks 109 = .ok (.dup2, 1) := by decide +kernel
theorem dX10_findMarks_110 : decode cX10_findMarks 110 = .ok (.iaload, 1) := by decide +kernel
theorem dX10_findMarks_111 : decode cX10_findMarks 111 = .ok (.iconst 1, 1) := by decide +kernel
theorem dX10_findMarks_112 : decode cX10_findMarks 112 = .ok (.iadd, 1) := by decide +kernel
theorem dX10_findMarks_113 : decode cX10_findMarks 113 = .ok (.iastore, 1) := by decide +kernel
theorem dX10_findMarks_114 : decode cX10_findMarks 114 = .ok (.goto 49, 3) := by decide +kernel
theorem dX10_findMarks_117 : decode cX10_findMarks 117 = .ok (.iload 5, 2) := by decide +kernel
theorem dX10_findMarks_119 : decode cX10_findMarks 119 = .ok (.ifCond .eq 33, 3) := by decide +kernel
theorem dX10_findMarks_122 : decode cX10_findMarks 122 = .ok (.iinc 4 1, 3) := by decide +kernel
theorem dX10_findMarks_125 : decode cX10_findMarks 125 = .ok (.iload 4, 2) := by decide +kernel
theorem dX10_findMarks_127 : decode cX10_findMarks 127 = .ok (.iload_n 1, 1) := by decide +kernel
theorem dX10_findMarks_128 : decode cX10_findMarks 128 = .ok (.if_icmp .ge 35, 3) := by decide +kernel
theorem dX10_findMarks_131 : decode cX10_findMarks 131 = .ok (.aload_n 0, 1) := by decide +kernel
theorem dX10_findMarks_132 : decode cX10_findMarks 132 = .ok (.getfield 44, 3) := by decide +kernel
theorem dX10_findMarks_135 : decode cX10_findMarks 135 = .ok (.iload 4, 2) := by decide +kernel
theorem dX10_findMarks_137 : decode cX10_findMarks 137 = .ok (.aload_n 0, 1) := by decide +kernel
theorem dX10_findMarks_138 : decode cX10_findMarks 138 = .ok (.getfield 44, 3) := by decide +kernel
theorem dX10_findMarks_141 : decode cX10_findMarks 141 = .ok (.iload 4, 2) := by decide +kernel
theorem dX10_findMarks_143 : decode cX10_findMarks 143 = .ok (.iconst 1, 1) := by decide +kernel
theorem dX10_findMarks_144 : decode cX10_findMarks 144 = .ok (.isub, 1) := by decide +kernel
theorem dX10_findMarks_145 : decode cX10_findMarks 145 = .ok (.iaload, 1) := by decide +kernel
theorem dX10_findMarks_146 : decode cX10_findMarks 146 = .ok (.iconst 1, 1) := by decide +kernel
theorem dX10_findMarks_147 : decode cX10_findMarks 147 = .ok (.iadd, 1) := by decide +kernel
theorem dX10_findMarks_148 : decode cX10_findMarks 148 = .ok (.iastore, 1) := by decide +kernel
theorem dX10_findMarks_149 : decode cX10_findMarks 149 = .ok (.goto 14, 3) := by decide +kernel
theorem dX10_findMarks_152 : decode cX10_findMarks 152 = .ok (.aload_n 0, 1) := by decide +kernel
theorem dX10_findMarks_153 : decode cX10_findMarks 153 = .ok (.getfield 44, 3) := by decide +kernel
theorem dX10_findMarks_156 : decode cX10_findMarks 156 = .ok (.iload 4, 2) := by decide +kernel
theorem dX10_findMarks_158 : decode cX10_findMarks 158 = .ok (.dup2, 1) := by decide +kernel
theorem dX10_findMarks_159 : decode cX10_findMarks 159 = .ok (.iaload, 1) := by decide +kernel
theorem dX10_findMarks_160 : decode cX10_findMarks 160 = .ok (.iconst 1, 1) := by decide +kernel
theorem dX10_findMarks_161 : decode cX10_findMarks 161 = .ok (.iadd, 1) := by decide +kernel
theorem dX10_findMarks_162 : decode cX10_findMarks 162 = .ok (.iastore, 1) := by decide +kernel
theorem dX10_findMarks_163 : decode cX10_findMarks 163 = .ok (.goto (-153), 3) := by decide +kernel
theorem dX10_findMarks_166 : decode cX10_findMarks 166 = .ok (.iload 4, 2) := by decide +kernel
theorem dX10_findMarks_168 : decode cX10_findMarks 168 = .ok (.iload_n 1, 1) := by decide +kernel
theorem dX10_findMarks_169 : decode cX10_findMarks 169 = .ok (.if_icmp .ne 7, 3) := by decide +kernel
theorem dX10_findMarks_172 : decode cX10_findMarks 172 = .ok (.iconst 1, 1) := by decide +kernel
theorem dX10_findMarks_173 : decode cX10_findMarks 173 = .ok (.goto 4, 3) := by decide +kernel
theorem dX10_findMarks_176 : decode cX10_findMarks 176 = .ok (.iconst 0, 1) := by decide +kernel
theorem dX10_findMarks_177 : decode cX10_findMarks 177 = .ok (.ireturn, 1) := by decide +kernel
theorem dX10_marks_0 : decode cX10_marks 0 = .ok (.iload_n 1, 1) := by decide +kernel
theorem dX10_marks_1 : decode cX10_marks 1 = .ok (.i2l, 1) := by decide +kernel
theorem dX10_marks_2 : decode cX10_marks 2 = .ok (.lconst 1, 1) := by decide +kernel
theorem dX10_marks_3 : decode cX10_marks 3 = .ok (.ldc2_w 75, 3) := by decide +kernel
theorem dX10_marks_6 : decode cX10_marks 6 = .ok (.invokestatic 59, 3) := by decide +kernel
theorem dX10_marks_9 : decode cX10_marks 9 = .ok (.ifCond .eq 30, 3) := by decide +kernel
theorem dX10_marks_12 : decode cX10_marks 12 = .ok (.iload_n 2, 1) := by decide +kernel
theorem dX10_marks_13 : decode cX10_marks 13 = .ok (.i2l, 1) := by decide +kernel
theorem dX10_marks_14 : decode cX10_marks 14 = .ok (.lconst 0, 1) := by decide +kernel
theorem dX10_marks_15 : decode cX10_marks 15 = .ok (.ldc2_w 235, 3) := by decide +kernel
theorem dX10_marks_18 : decode cX10_marks 18 = .ok (.invokestatic 59, 3) := by decide +kernel
theorem dX10_marks_21 : decode cX10_marks 21 = .ok (.ifCond .eq 18, 3) := by decide +kernel
theorem dX10_marks_24 : decode cX10_marks 24 = .ok (.iload_n 3, 1) := by decide +kernel
theorem dX10_marks_25 : decode cX10_marks 25 = .ok (.i2l, 1) := by decide +kernel
theorem dX10_marks_26 : decode cX10_marks 26 = .ok (.ldc2_w 197, 3) := by decide +kernel
theorem dX10_marks_29 : decode cX10_marks 29 = .ok (.iload_n 1, 1) := by decide +kernel
theorem dX10_marks_30 : decode cX10_marks 30 = .ok (.iconst 1, 1) := by decide +kernel
theorem dX10_marks_31 : decode cX10_marks 31 = .ok (.isub, 1) := by decide +kernel
theorem dX10_marks_32 : decode cX10_marks 32 = .ok (.i2l, 1) := by decide +kernel
theorem dX10_marks_33 : decode cX10_marks 33 = .ok (.invokestatic 59, 3) := by decide +kernel
theorem dX10_marks_36 : decode cX10_marks 36 = .ok (.ifCond .ne 5, 3) := by decide +kernel
theorem dX10_marks_39 : decode cX10_marks 39 = .ok (.iconst (-1), 1) := by decide +kernel
theorem dX10_marks_40 : decode cX10_marks 40 = .ok (.ireturn, 1) := by decide +kernel
theorem dX10_marks_41 : decode cX10_marks 41 = .ok (.iconst 1, 1) := by decide +kernel
theorem dX10_marks_42 : decode cX10_marks 42 = .ok (.istore 4, 2) := by decide +kernel
theorem dX10_marks_44 : decode cX10_marks 44 = .ok (.iload 4, 2) := by decide +kernel
theorem dX10_marks_46 : decode cX10_marks 46 = .ok (.bipush 6, 2) := by decide +kernel
theorem dX10_marks_48 : decode cX10_marks 48 = .ok (.if_icmp .gt 36, 3) := by decide +kernel
theorem dX10_marks_51 : decode cX10_marks 51 = .ok (.aload_n 0, 1) := by decide +kernel
theorem dX10_marks_52 : decode cX10_marks 52 = .ok (.iload_n 1, 1) := by decide +kernel
theorem dX10_marks_53 : decode cX10_marks 53 = .ok (.iload_n 2, 1) := by decide +kernel
theorem dX10_marks_54 : decode cX10_marks 54 = .ok (.iload 4, 2) := by decide +kernel
theorem dX10_marks_56 : decode cX10_marks 56 = .ok (.invokevirtual 237, 3) := by decide +kernel
theorem dX10_marks_59 : decode cX10_marks 59 = .ok (.ifCond .eq 19, 3) := by decide +kernel
theorem dX10_marks_62 : decode cX10_marks 62 = .ok (.iload_n 3, 1) := by decide +kernel
theorem dX10_marks_63 : decode cX10_marks 63 = .ok (.ifCond .ge 8, 3) := by decide +kernel
theorem dX10_marks_66 : decode cX10_marks 66 = .ok (.iload 4, 2) := by decide +kernel
theorem dX10_marks_68 : decode cX10_marks 68 = .ok (.goto 9, 3) := by decide +kernel
theorem dX10_marks_71 : decode cX10_marks 71 = .ok (.aload_n 0, 1) := by decide +kernel
theorem dX10_marks_72 : decode cX10_marks 72 = .ok (.getfield 44, 3) := by decide +kernel
theorem dX10_marks_75 : decode cX10_marks 75 = .ok (.iload_n 3, 1) := by decide +kernel
theorem dX10_marks_76 : decode cX10_marks 76 = .ok (.iaload, 1) := by decide +kernel
theorem dX10_marks_77 : decode cX10_marks 77 = .ok (.ireturn, 1) := by decide +kernel
theorem dX10_marks_78 : decode cX10_marks 78 = .ok (.iinc 4 1, 3) := by decide +kernel
theorem dX10_marks_81 : decode cX10_marks 81 = .ok (.goto (-37), 3) := by decide +kernel
theorem dX10_marks_84 : decode cX10_marks 84 = .ok (.bipush (-4), 2) := by decide +kernel
theorem dX10_marks_86 : decode cX10_marks 86 = .ok (.ireturn, 1) := by decide +kernel
theorem dX10_image_0 : decode cX10_image 0 = .ok (.iconst 0, 1) := by decide +kernel
theorem dX10_image_1 : decode cX10_image 1 = .ok (.istore_n 1, 1) := by decide +kernel
theorem dX10_image_2 : decode cX10_image 2 = .ok (.iload_n 1, 1) := by decide +kernel
theorem dX10_image_3 : decode cX10_image 3 = .ok (.sipush 205, 3) := by decide +kernel
theorem dX10_image_6 : decode cX10_image 6 = .ok (.if_icmp .ge 21, 3) := by decide +kernel
theorem dX10_image_9 : decode cX10_image 9 = .ok (.aload_n 0, 1) := by decide +kernel
theorem dX10_image_10 : decode cX10_image 10 = .ok (.getfield 47, 3) := by decide +kernel
theorem dX10_image_13 : decode cX10_image 13 = .ok (.iload_n 1, 1) := by decide +kernel
theorem dX10_image_14 : decode cX10_image 14 = .ok (.aload_n 0, 1) := by decide +kernel
theorem dX10_image_15 : decode cX10_image 15 = .ok (.getfield 7, 3) := by decide +kernel
theorem dX10_image_18 : decode cX10_image 18 = .ok (.iload_n 1, 1) := by decide +kernel
theorem dX10_image_19 : decode cX10_image 19 = .ok (.iaload, 1) := by decide +kernel
theorem dX10_image_20 : decode cX10_image 20 = .ok (.iastore, 1) := by decide +kernel
theorem dX10_image_21 : decode cX10_image 21 = .ok (.iinc 1 1, 3) := by decide +kernel
theorem dX10_image_24 : decode cX10_image 24 = .ok (.goto (-22), 3) := by decide +kernel
theorem dX10_image_27 : decode cX10_image 27 = .ok (.aload_n 0, 1) := by decide +kernel
theorem dX10_image_28 : decode cX10_image 28 = .ok (.iconst 1, 1) := by decide +kernel
theorem dX10_image_29 : decode cX10_image 29 = .ok (.putfield 240, 3) := by decide +kernel
theorem dX10_image_32 : decode cX10_image 32 = .ok (.iconst 1, 1) := by decide +kernel
theorem dX10_image_33 : decode cX10_image 33 = .ok (.ireturn, 1) := by decide +kernel
theorem dX10_restore_0 : decode cX10_restore 0 = .ok (.aload_n 0, 1) := by decide +kernel
theorem dX10_restore_1 : decode cX10_restore 1 = .ok (.getfield 240, 3) := by decide +kernel
theorem dX10_restore_4 : decode cX10_restore 4 = .ok (.ifCond .ne 6, 3) := by decide +kernel
theorem dX10_restore_7 : decode cX10_restore 7 = .ok (.bipush (-4), 2) := by decide +kernel
theorem dX10_restore_9 : decode cX10_restore 9 = .ok (.ireturn, 1) := by decide +kernel
theorem dX10_restore_10 : decode cX10_restore 10 = .ok (.iconst 0, 1) := by decide +kernel
theorem dX10_restore_11 : decode cX10_restore 11 = .ok (.istore_n 1, 1) := by decide +kernel
theorem dX10_restore_12 : decode cX10_restore 12 = .ok (.iload_n 1, 1) := by decide +kernel
theorem dX10_restore_13 : decode cX10_restore 13 = .ok (.sipush 205, 3) := by decide +kernel
theorem dX10_restore_16 : decode cX10_restore 16 = .ok (.if_icmp .ge 21, 3) := by decide +kernel
theorem dX10_restore_19 : decode cX10_restore 19 = .ok (.aload_n 0, 1) := by decide +kernel
theorem dX10_restore_20 : decode cX10_restore 20 = .ok (.getfield 7, 3) := by decide +kernel
theorem dX10_restore_23 : decode cX10_restore 23 = .ok (.iload_n 1, 1) := by decide +kernel
theorem dX10_restore_24 : decode cX10_restore 24 = .ok (.aload_n 0, 1) := by decide +kernel
theorem dX10_restore_25 : decode cX10_restore 25 = .ok (.getfield 47, 3) := by decide +kernel
theorem dX10_restore_28 : decode cX10_restore 28 = .ok (.iload_n 1, 1) := by decide +kernel
theorem dX10_restore_29 : decode cX10_restore 29 = .ok (.iaload, 1) := by decide +kernel
theorem dX10_restore_30 : decode cX10_restore 30 = .ok (.iastore, 1) := by decide +kernel
theorem dX10_restore_31 : decode cX10_restore 31 = .ok (.iinc 1 1, 3) := by decide +kernel
theorem dX10_restore_34 : decode cX10_restore 34 = .ok (.goto (-22), 3) := by decide +kernel
theorem dX10_restore_37 : decode cX10_restore 37 = .ok (.iconst 1, 1) := by decide +kernel
theorem dX10_restore_38 : decode cX10_restore 38 = .ok (.ireturn, 1) := by decide +kernel
theorem dX10_isSheet_0 : decode cX10_isSheet 0 = .ok (.iload_n 0, 1) := by decide +kernel
theorem dX10_isSheet_1 : decode cX10_isSheet 1 = .ok (.i2l, 1) := by decide +kernel
theorem dX10_isSheet_2 : decode cX10_isSheet 2 = .ok (.lconst 0, 1) := by decide +kernel
theorem dX10_isSheet_3 : decode cX10_isSheet 3 = .ok (.ldc2_w 235, 3) := by decide +kernel
theorem dX10_isSheet_6 : decode cX10_isSheet 6 = .ok (.invokestatic 59, 3) := by decide +kernel
theorem dX10_isSheet_9 : decode cX10_isSheet 9 = .ok (.ifCond .eq 19, 3) := by decide +kernel
theorem dX10_isSheet_12 : decode cX10_isSheet 12 = .ok (.iload_n 1, 1) := by decide +kernel
theorem dX10_isSheet_13 : decode cX10_isSheet 13 = .ok (.i2l, 1) := by decide +kernel
theorem dX10_isSheet_14 : decode cX10_isSheet 14 = .ok (.lconst 0, 1) := by decide +kernel
theorem dX10_isSheet_15 : decode cX10_isSheet 15 = .ok (.ldc2_w 106, 3) := by decide +kernel
theorem dX10_isSheet_18 : decode cX10_isSheet 18 = .ok (.invokestatic 59, 3) := by decide +kernel
theorem dX10_isSheet_21 : decode cX10_isSheet 21 = .ok (.ifCond .eq 7, 3) := by decide +kernel
theorem dX10_isSheet_24 : decode cX10_isSheet 24 = .ok (.iconst 1, 1) := by decide +kernel
theorem dX10_isSheet_25 : decode cX10_isSheet 25 = .ok (.goto 4, 3) := by decide +kernel
theorem dX10_isSheet_28 : decode cX10_isSheet 28 = .ok (.iconst 0, 1) := by decide +kernel
theorem dX10_isSheet_29 : decode cX10_isSheet 29 = .ok (.ireturn, 1) := by decide +kernel
theorem dX10_sheet_0 : decode cX10_sheet 0 = .ok (.iload_n 1, 1) := by decide +kernel
theorem dX10_sheet_1 : decode cX10_sheet 1 = .ok (.iload_n 2, 1) := by decide +kernel
theorem dX10_sheet_2 : decode cX10_sheet 2 = .ok (.invokestatic 182, 3) := by decide +kernel
theorem dX10_sheet_5 : decode cX10_sheet 5 = .ok (.ifCond .eq 9, 3) := by decide +kernel
theorem dX10_sheet_8 : decode cX10_sheet 8 = .ok (.iload_n 3, 1) := by decide +kernel
theorem dX10_sheet_9 : decode cX10_sheet 9 = .ok (.bipush 16, 2) := by decide +kernel
theorem dX10_sheet_11 : decode cX10_sheet 11 = .ok (.if_icmp .le 5, 3) := by decide +kernel
theorem dX10_sheet_14 : decode cX10_sheet 14 = .ok (.iconst (-1), 1) := by decide +kernel
theorem dX10_sheet_15 : decode cX10_sheet 15 = .ok (.ireturn, 1) := by decide +kernel
theorem dX10_sheet_16 : decode cX10_sheet 16 = .ok (.iload_n 3, 1) := by decide +kernel
theorem dX10_sheet_17 : decode cX10_sheet 17 = .ok (.ifCond .ge 6, 3) := by decide +kernel
theorem dX10_sheet_20 : decode cX10_sheet 20 = .ok (.bipush (-14), 2) := by decide +kernel
theorem dX10_sheet_22 : decode cX10_sheet 22 = .ok (.ireturn, 1) := by decide +kernel
theorem dX10_sheet_23 : decode cX10_sheet 23 = .ok (.aload_n 0, 1) := by decide +kernel
theorem dX10_sheet_24 : decode cX10_sheet 24 = .ok (.getfield 50, 3) := by decide +kernel
theorem dX10_sheet_27 : decode cX10_sheet 27 = .ok (.iload_n 1, 1) := by decide +kernel
theorem dX10_sheet_28 : decode cX10_sheet 28 = .ok (.iload_n 2, 1) := by decide +kernel
theorem dX10_sheet_29 : decode cX10_sheet 29 = .ok (.iastore, 1) := by decide +kernel
theorem dX10_sheet_30 : decode cX10_sheet 30 = .ok (.aload_n 0, 1) := by decide +kernel
theorem dX10_sheet_31 : decode cX10_sheet 31 = .ok (.getfield 53, 3) := by decide +kernel
theorem dX10_sheet_34 : decode cX10_sheet 34 = .ok (.iload_n 1, 1) := by decide +kernel
theorem dX10_sheet_35 : decode cX10_sheet 35 = .ok (.iload_n 3, 1) := by decide +kernel
theorem dX10_sheet_36 : decode cX10_sheet 36 = .ok (.iastore, 1) := by decide +kernel
theorem dX10_sheet_37 : decode cX10_sheet 37 = .ok (.iconst 0, 1) := by decide +kernel
theorem dX10_sheet_38 : decode cX10_sheet 38 = .ok (.istore 4, 2) := by decide +kernel
theorem dX10_sheet_40 : decode cX10_sheet 40 = .ok (.iload 4, 2) := by decide +kernel
theorem dX10_sheet_42 : decode cX10_sheet 42 = .ok (.bipush 16, 2) := by decide +kernel
theorem dX10_sheet_44 : decode cX10_sheet 44 = .ok (.if_icmp .ge 22, 3) := by decide +kernel
theorem dX10_sheet_47 : decode cX10_sheet 47 = .ok (.aload_n 0, 1) := by decide +kernel
theorem dX10_sheet_48 : decode cX10_sheet 48 = .ok (.getfield 56, 3) := by decide +kernel
theorem dX10_sheet_51 : decode cX10_sheet 51 = .ok (.bipush 16, 2) := by decide +kernel
theorem dX10_sheet_53 : decode cX10_sheet 53 = .ok (.iload_n 1, 1) := by decide +kernel
theorem dX10_sheet_54 : decode cX10_sheet 54 = .ok (.imul, 1) := by decide +kernel
theorem dX10_sheet_55 : decode cX10_sheet 55 = .ok (.iload 4, 2) := by decide +kernel
theorem dX10_sheet_57 : decode cX10_sheet 57 = .ok (.iadd, 1) := by decide +kernel
theorem dX10_sheet_58 : decode cX10_sheet 58 = .ok (.iconst 0, 1) := by decide +kernel
theorem dX10_sheet_59 : decode cX10_sheet 59 = .ok (.iastore, 1) := by decide +kernel
theorem dX10_sheet_60 : decode cX10_sheet 60 = .ok (.iinc 4 1, 3) := by decide +kernel
theorem dX10_sheet_63 : decode cX10_sheet 63 = .ok (.goto (-23), 3) := by decide +kernel
theorem dX10_sheet_66 : decode cX10_sheet 66 = .ok (.iload_n 3, 1) := by decide +kernel
theorem dX10_sheet_67 : decode cX10_sheet 67 = .ok (.ireturn, 1) := by decide +kernel
theorem dX10_drop_0 : decode cX10_drop 0 = .ok (.iload_n 1, 1) := by decide +kernel
theorem dX10_drop_1 : decode cX10_drop 1 = .ok (.i2l, 1) := by decide +kernel
theorem dX10_drop_2 : decode cX10_drop 2 = .ok (.lconst 0, 1) := by decide +kernel
theorem dX10_drop_3 : decode cX10_drop 3 = .ok (.ldc2_w 235, 3) := by decide +kernel
theorem dX10_drop_6 : decode cX10_drop 6 = .ok (.invokestatic 59, 3) := by decide +kernel
theorem dX10_drop_9 : decode cX10_drop 9 = .ok (.ifCond .ne 5, 3) := by decide +kernel
theorem dX10_drop_12 : decode cX10_drop 12 = .ok (.iconst (-1), 1) := by decide +kernel
theorem dX10_drop_13 : decode cX10_drop 13 = .ok (.ireturn, 1) := by decide +kernel
theorem dX10_drop_14 : decode cX10_drop 14 = .ok (.aload_n 0, 1) := by decide +kernel
theorem dX10_drop_15 : decode cX10_drop 15 = .ok (.getfield 50, 3) := by decide +kernel
theorem dX10_drop_18 : decode cX10_drop 18 = .ok (.iload_n 1, 1) := by decide +kernel
theorem dX10_drop_19 : decode cX10_drop 19 = .ok (.iaload, 1) := by decide +kernel
theorem dX10_drop_20 : decode cX10_drop 20 = .ok (.ifCond .ge 6, 3) := by decide +kernel
theorem dX10_drop_23 : decode cX10_drop 23 = .ok (.bipush (-11), 2) := by decide +kernel
theorem dX10_drop_25 : decode cX10_drop 25 = .ok (.ireturn, 1) := by decide +kernel
theorem dX10_drop_26 : decode cX10_drop 26 = .ok (.aload_n 0, 1) := by decide +kernel
theorem dX10_drop_27 : decode cX10_drop 27 = .ok (.getfield 50, 3) := by decide +kernel
theorem dX10_drop_30 : decode cX10_drop 30 = .ok (.iload_n 1, 1) := by decide +kernel
theorem dX10_drop_31 : decode cX10_drop 31 = .ok (.iconst (-1), 1) := by decide +kernel
theorem dX10_drop_32 : decode cX10_drop 32 = .ok (.iastore, 1) := by decide +kernel
theorem dX10_drop_33 : decode cX10_drop 33 = .ok (.aload_n 0, 1) := by decide +kernel
theorem dX10_drop_34 : decode cX10_drop 34 = .ok (.getfield 53, 3) := by decide +kernel
theorem dX10_drop_37 : decode cX10_drop 37 = .ok (.iload_n 1, 1) := by decide +kernel
theorem dX10_drop_38 : decode cX10_drop 38 = .ok (.iaload, 1) := by decide +kernel
theorem dX10_drop_39 : decode cX10_drop 39 = .ok (.ireturn, 1) := by decide +kernel
theorem dX10_lacksRow_0 : decode cX10_lacksRow 0 = .ok (.aload_n 0, 1) := by decide +kernel
theorem dX10_lacksRow_1 : decode cX10_lacksRow 1 = .ok (.getfield 50, 3) := by decide +kernel
theorem dX10_lacksRow_4 : decode cX10_lacksRow 4 = .ok (.iload_n 1, 1) := by decide +kernel
theorem dX10_lacksRow_5 : decode cX10_lacksRow 5 = .ok (.iaload, 1) := by decide +kernel
theorem dX10_lacksRow_6 : decode cX10_lacksRow 6 = .ok (.iload_n 2, 1) := by decide +kernel
theorem dX10_lacksRow_7 : decode cX10_lacksRow 7 = .ok (.if_icmp .eq 20, 3) := by decide +kernel
theorem dX10_lacksRow_10 : decode cX10_lacksRow 10 = .ok (.aload_n 0, 1) := by decide +kernel
theorem dX10_lacksRow_11 : decode cX10_lacksRow 11 = .ok (.getfield 50, 3) := by decide +kernel
theorem dX10_lacksRow_14 : decode cX10_lacksRow 14 = .ok (.iload_n 1, 1) := by decide +kernel
theorem dX10_lacksRow_15 : decode cX10_lacksRow 15 = .ok (.iaload, 1) := by decide +kernel
theorem dX10_lacksRow_16 : decode cX10_lacksRow 16 = .ok (.ifCond .ge 8, 3) := by decide +kernel
theorem dX10_lacksRow_19 : decode cX10_lacksRow 19 = .ok (.bipush (-11), 2) := by decide +kernel
theorem dX10_lacksRow_21 : decode cX10_lacksRow 21 = .ok (.goto 5, 3) := by decide +kernel
theorem dX10_lacksRow_24 : decode cX10_lacksRow 24 = .ok (.bipush (-12), 2) := by decide +kernel
theorem dX10_lacksRow_26 : decode cX10_lacksRow 26 = .ok (.ireturn, 1) := by decide +kernel
theorem dX10_lacksRow_27 : decode cX10_lacksRow 27 = .ok (.iload_n 3, 1) := by decide +kernel
theorem dX10_lacksRow_28 : decode cX10_lacksRow 28 = .ok (.i2l, 1) := by decide +kernel
theorem dX10_lacksRow_29 : decode cX10_lacksRow 29 = .ok (.lconst 0, 1) := by decide +kernel
theorem dX10_lacksRow_30 : decode cX10_lacksRow 30 = .ok (.aload_n 0, 1) := by decide +kernel
theorem dX10_lacksRow_31 : decode cX10_lacksRow 31 = .ok (.getfield 53, 3) := by decide +kernel
theorem dX10_lacksRow_34 : decode cX10_lacksRow 34 = .ok (.iload_n 1, 1) := by decide +kernel
theorem dX10_lacksRow_35 : decode cX10_lacksRow 35 = .ok (.iaload, 1) := by decide +kernel
theorem dX10_lacksRow_36 : decode cX10_lacksRow 36 = .ok (.iload 4, 2) := by decide +kernel
theorem dX10_lacksRow_38 : decode cX10_lacksRow 38 = .ok (.isub, 1) := by decide +kernel
theorem dX10_lacksRow_39 : decode cX10_lacksRow 39 = .ok (.i2l, 1) := by decide +kernel
theorem dX10_lacksRow_40 : decode cX10_lacksRow 40 = .ok (.invokestatic 59, 3) := by decide +kernel
theorem dX10_lacksRow_43 : decode cX10_lacksRow 43 = .ok (.ifCond .eq 7, 3) := by decide +kernel
theorem dX10_lacksRow_46 : decode cX10_lacksRow 46 = .ok (.iconst 0, 1) := by decide +kernel
theorem dX10_lacksRow_47 : decode cX10_lacksRow 47 = .ok (.goto 5, 3) := by decide +kernel
theorem dX10_lacksRow_50 : decode cX10_lacksRow 50 = .ok (.bipush (-13), 2) := by decide +kernel
theorem dX10_lacksRow_52 : decode cX10_lacksRow 52 = .ok (.ireturn, 1) := by decide +kernel
theorem dX10_item_0 : decode cX10_item 0 = .ok (.iload_n 1, 1) := by decide +kernel
theorem dX10_item_1 : decode cX10_item 1 = .ok (.iload_n 2, 1) := by decide +kernel
theorem dX10_item_2 : decode cX10_item 2 = .ok (.invokestatic 182, 3) := by decide +kernel
theorem dX10_item_5 : decode cX10_item 5 = .ok (.ifCond .ne 5, 3) := by decide +kernel
theorem dX10_item_8 : decode cX10_item 8 = .ok (.iconst (-1), 1) := by decide +kernel
theorem dX10_item_9 : decode cX10_item 9 = .ok (.ireturn, 1) := by decide +kernel
theorem dX10_item_10 : decode cX10_item 10 = .ok (.aload_n 0, 1) := by decide +kernel
theorem dX10_item_11 : decode cX10_item 11 = .ok (.iload_n 1, 1) := by decide +kernel
theorem dX10_item_12 : decode cX10_item 12 = .ok (.iload_n 2, 1) := by decide +kernel
theorem dX10_item_13 : decode cX10_item 13 = .ok (.iload_n 3, 1) := by decide +kernel
theorem dX10_item_14 : decode cX10_item 14 = .ok (.iconst 1, 1) := by decide +kernel
theorem dX10_item_15 : decode cX10_item 15 = .ok (.invokevirtual 185, 3) := by decide +kernel
theorem dX10_item_18 : decode cX10_item 18 = .ok (.istore 5, 2) := by decide +kernel
theorem dX10_item_20 : decode cX10_item 20 = .ok (.iload 5, 2) := by decide +kernel
theorem dX10_item_22 : decode cX10_item 22 = .ok (.ifCond .ge 6, 3) := by decide +kernel
theorem dX10_item_25 : decode cX10_item 25 = .ok (.iload 5, 2) := by decide +kernel
theorem dX10_item_27 : decode cX10_item 27 = .ok (.ireturn, 1) := by decide +kernel
theorem dX10_item_28 : decode cX10_item 28 = .ok (.aload_n 0, 1) := by decide +kernel
theorem dX10_item_29 : decode cX10_item 29 = .ok (.getfield 56, 3) := by decide +kernel
theorem dX10_item_32 : decode cX10_item 32 = .ok (.bipush 16, 2) := by decide +kernel
theorem dX10_item_34 : decode cX10_item 34 = .ok (.iload_n 1, 1) := by decide +kernel
theorem dX10_item_35 : decode cX10_item 35 = .ok (.imul, 1) := by decide +kernel
theorem dX10_item_36 : decode cX10_item 36 = .ok (.iload_n 3, 1) := by decide +kernel
theorem dX10_item_37 : decode cX10_item 37 = .ok (.iadd, 1) := by decide +kernel
theorem dX10_item_38 : decode cX10_item 38 = .ok (.iload_n 2, 1) := by decide +kernel
theorem dX10_item_39 : decode cX10_item 39 = .ok (.ifCond .ne 14, 3) := by decide +kernel
theorem dX10_item_42 : decode cX10_item 42 = .ok (.iload 4, 2) := by decide +kernel
theorem dX10_item_44 : decode cX10_item 44 = .ok (.bipush 24, 2) := by decide +kernel
theorem dX10_item_46 : decode cX10_item 46 = .ok (.ishl, 1) := by decide +kernel
theorem dX10_item_47 : decode cX10_item 47 = .ok (.bipush 24, 2) := by decide +kernel
theorem dX10_item_49 : decode cX10_item 49 = .ok (.ishr, 1) := by decide +kernel
theorem dX10_item_50 : decode cX10_item 50 = .ok (.goto 21, 3) := by decide +kernel
theorem dX10_item_53 : decode cX10_item 53 = .ok (.iload_n 2, 1) := by decide +kernel
theorem dX10_item_54 : decode cX10_item 54 = .ok (.iconst 1, 1) := by decide +kernel
theorem dX10_item_55 : decode cX10_item 55 = .ok (.if_icmp .ne 14, 3) := by decide +kernel
theorem dX10_item_58 : decode cX10_item 58 = .ok (.iload 4, 2) := by decide +kernel
theorem dX10_item_60 : decode cX10_item 60 = .ok (.bipush 16, 2) := by decide +kernel
theorem dX10_item_62 : decode cX10_item 62 = .ok (.ishl, 1) := by decide +kernel
theorem dX10_item_63 : decode cX10_item 63 = .ok (.bipush 16, 2) := by decide +kernel
theorem dX10_item_65 : decode cX10_item 65 = .ok (.ishr, 1) := by decide +kernel
theorem dX10_item_66 : decode cX10_item 66 = .ok (.goto 5, 3) := by decide +kernel
theorem dX10_item_69 : decode cX10_item 69 = .ok (.iload 4, 2) := by decide +kernel
theorem dX10_item_71 : decode cX10_item 71 = .ok (.iastore, 1) := by decide +kernel
theorem dX10_item_72 : decode cX10_item 72 = .ok (.iconst 1, 1) := by decide +kernel
theorem dX10_item_73 : decode cX10_item 73 = .ok (.ireturn, 1) := by decide +kernel
theorem dJ6_bitCount_0f7a4_0 : decode cJ6_bitCount_0f7a4 0 = .ok (.iload_n 0, 1) := by decide +kernel
theorem dJ6_bitCount_0f7a4_1 : decode cJ6_bitCount_0f7a4 1 = .ok (.iload_n 0, 1) := by decide +kernel
theorem dJ6_bitCount_0f7a4_2 : decode cJ6_bitCount_0f7a4 2 = .ok (.iconst 1, 1) := by decide +kernel
theorem dJ6_bitCount_0f7a4_3 : decode cJ6_bitCount_0f7a4 3 = .ok (.iushr, 1) := by decide +kernel
theorem dJ6_bitCount_0f7a4_4 : decode cJ6_bitCount_0f7a4 4 = .ok (.ldc_w 265, 3) := by decide +kernel
theorem dJ6_bitCount_0f7a4_7 : decode cJ6_bitCount_0f7a4 7 = .ok (.iand, 1) := by decide +kernel
theorem dJ6_bitCount_0f7a4_8 : decode cJ6_bitCount_0f7a4 8 = .ok (.isub, 1) := by decide +kernel
theorem dJ6_bitCount_0f7a4_9 : decode cJ6_bitCount_0f7a4 9 = .ok (.istore_n 0, 1) := by decide +kernel
theorem dJ6_bitCount_0f7a4_10 : decode cJ6_bitCount_0f7a4 10 = .ok (.iload_n 0, 1) := by decide +kernel
theorem dJ6_bitCount_0f7a4_11 : decode cJ6_bitCount_0f7a4 11 = .ok (.ldc_w 266, 3) := by decide +kernel
theorem dJ6_bitCount_0f7a4_14 : decode cJ6_bitCount_0f7a4 14 = .ok (.iand, 1) := by decide +kernel
theorem dJ6_bitCount_0f7a4_15 : decode cJ6_bitCount_0f7a4 15 = .ok (.iload_n 0, 1) := by decide +kernel
theorem dJ6_bitCount_0f7a4_16 : decode cJ6_bitCount_0f7a4 16 = .ok (.iconst 2, 1) := by decide +kernel
theorem dJ6_bitCount_0f7a4_17 : decode cJ6_bitCount_0f7a4 17 = .ok (.iushr, 1) := by decide +kernel
theorem dJ6_bitCount_0f7a4_18 : decode cJ6_bitCount_0f7a4 18 = .ok (.ldc_w 266, 3) := by decide +kernel
theorem dJ6_bitCount_0f7a4_21 : decode cJ6_bitCount_0f7a4 21 = .ok (.iand, 1) := by decide +kernel
theorem dJ6_bitCount_0f7a4_22 : decode cJ6_bitCount_0f7a4 22 = .ok (.iadd, 1) := by decide +kernel
theorem dJ6_bitCount_0f7a4_23 : decode cJ6_bitCount_0f7a4 23 = .ok (.istore_n 0, 1) := by decide +kernel
theorem dJ6_bitCount_0f7a4_24 : decode cJ6_bitCount_0f7a4 24 = .ok (.iload_n 0, 1) := by decide +kernel
theorem dJ6_bitCount_0f7a4_25 : decode cJ6_bitCount_0f7a4 25 = .ok (.iload_n 0, 1) := by decide +kernel
theorem dJ6_bitCount_0f7a4_26 : decode cJ6_bitCount_0f7a4 26 = .ok (.iconst 4, 1) := by decide +kernel
theorem dJ6_bitCount_0f7a4_27 : decode cJ6_bitCount_0f7a4 27 = .ok (.iushr, 1) := by decide +kernel
theorem dJ6_bitCount_0f7a4_28 : decode cJ6_bitCount_0f7a4 28 = .ok (.iadd, 1) := by decide +kernel
theorem dJ6_bitCount_0f7a4_29 : decode cJ6_bitCount_0f7a4 29 = .ok (.ldc_w 267, 3) := by decide +kernel
theorem dJ6_bitCount_0f7a4_32 : decode cJ6_bitCount_0f7a4 32 = .ok (.iand, 1) := by decide +kernel
theorem dJ6_bitCount_0f7a4_33 : decode cJ6_bitCount_0f7a4 33 = .ok (.istore_n 0, 1) := by decide +kernel
theorem dJ6_bitCount_0f7a4_34 : decode cJ6_bitCount_0f7a4 34 = .ok (.iload_n 0, 1) := by decide +kernel
theorem dJ6_bitCount_0f7a4_35 : decode cJ6_bitCount_0f7a4 35 = .ok (.iload_n 0, 1) := by decide +kernel
theorem dJ6_bitCount_0f7a4_36 : decode cJ6_bitCount_0f7a4 36 = .ok (.bipush 8, 2) := by decide +kernel
theorem dJ6_bitCount_0f7a4_38 : decode cJ6_bitCount_0f7a4 38 = .ok (.iushr, 1) := by decide +kernel
theorem dJ6_bitCount_0f7a4_39 : decode cJ6_bitCount_0f7a4 39 = .ok (.iadd, 1) := by decide +kernel
theorem dJ6_bitCount_0f7a4_40 : decode cJ6_bitCount_0f7a4 40 = .ok (.istore_n 0, 1) := by decide +kernel
theorem dJ6_bitCount_0f7a4_41 : decode cJ6_bitCount_0f7a4 41 = .ok (.iload_n 0, 1) := by decide +kernel
theorem dJ6_bitCount_0f7a4_42 : decode cJ6_bitCount_0f7a4 42 = .ok (.iload_n 0, 1) := by decide +kernel
theorem dJ6_bitCount_0f7a4_43 : decode cJ6_bitCount_0f7a4 43 = .ok (.bipush 16, 2) := by decide +kernel
theorem dJ6_bitCount_0f7a4_45 : decode cJ6_bitCount_0f7a4 45 = .ok (.iushr, 1) := by decide +kernel
theorem dJ6_bitCount_0f7a4_46 : decode cJ6_bitCount_0f7a4 46 = .ok (.iadd, 1) := by decide +kernel
theorem dJ6_bitCount_0f7a4_47 : decode cJ6_bitCount_0f7a4 47 = .ok (.istore_n 0, 1) := by decide +kernel
theorem dJ6_bitCount_0f7a4_48 : decode cJ6_bitCount_0f7a4 48 = .ok (.iload_n 0, 1) := by decide +kernel
theorem dJ6_bitCount_0f7a4_49 : decode cJ6_bitCount_0f7a4 49 = .ok (.bipush 63, 2) := by decide +kernel
theorem dJ6_bitCount_0f7a4_51 : decode cJ6_bitCount_0f7a4 51 = .ok (.iand, 1) := by decide +kernel
theorem dJ6_bitCount_0f7a4_52 : decode cJ6_bitCount_0f7a4 52 = .ok (.ireturn, 1) := by decide +kernel
theorem dJ13_bitCount_95d88_0 : decode cJ13_bitCount_95d88 0 = .ok (.lload_n 0, 1) := by decide +kernel
theorem dJ13_bitCount_95d88_1 : decode cJ13_bitCount_95d88 1 = .ok (.lload_n 0, 1) := by decide +kernel
theorem dJ13_bitCount_95d88_2 : decode cJ13_bitCount_95d88 2 = .ok (.iconst 1, 1) := by decide +kernel
theorem dJ13_bitCount_95d88_3 : decode cJ13_bitCount_95d88 3 = .ok (.lushr, 1) := by decide +kernel
theorem dJ13_bitCount_95d88_4 : decode cJ13_bitCount_95d88 4 = .ok (.ldc2_w 314, 3) := by decide +kernel
theorem dJ13_bitCount_95d88_7 : decode cJ13_bitCount_95d88 7 = .ok (.land, 1) := by decide +kernel
theorem dJ13_bitCount_95d88_8 : decode cJ13_bitCount_95d88 8 = .ok (.lsub, 1) := by decide +kernel
theorem dJ13_bitCount_95d88_9 : decode cJ13_bitCount_95d88 9 = .ok (.lstore_n 0, 1) := by decide +kernel
theorem dJ13_bitCount_95d88_10 : decode cJ13_bitCount_95d88 10 = .ok (.lload_n 0, 1) := by decide +kernel
theorem dJ13_bitCount_95d88_11 : decode cJ13_bitCount_95d88 11 = .ok (.ldc2_w 316, 3) := by decide +kernel
theorem dJ13_bitCount_95d88_14 : decode cJ13_bitCount_95d88 14 = .ok (.land, 1) := by decide +kernel
theorem dJ13_bitCount_95d88_15 : decode cJ13_bitCount_95d88 15 = .ok (.lload_n 0, 1) := by decide +kernel
theorem dJ13_bitCount_95d88_16 : decode cJ13_bitCount_95d88 16 = .ok (.iconst 2, 1) := by decide +kernel
theorem dJ13_bitCount_95d88_17 : decode cJ13_bitCount_95d88 17 = .ok (.lushr, 1) := by decide +kernel
theorem dJ13_bitCount_95d88_18 : decode cJ13_bitCount_95d88 18 = .ok (.ldc2_w 316, 3) := by decide +kernel
theorem dJ13_bitCount_95d88_21 : decode cJ13_bitCount_95d88 21 = .ok (.land, 1) := by decide +kernel
theorem dJ13_bitCount_95d88_22 : decode cJ13_bitCount_95d88 22 = .ok (.ladd, 1) := by decide +kernel
theorem dJ13_bitCount_95d88_23 : decode cJ13_bitCount_95d88 23 = .ok (.lstore_n 0, 1) := by decide +kernel
theorem dJ13_bitCount_95d88_24 : decode cJ13_bitCount_95d88 24 = .ok (.lload_n 0, 1) := by decide +kernel
theorem dJ13_bitCount_95d88_25 : decode cJ13_bitCount_95d88 25 = .ok (.lload_n 0, 1) := by decide +kernel
theorem dJ13_bitCount_95d88_26 : decode cJ13_bitCount_95d88 26 = .ok (.iconst 4, 1) := by decide +kernel
theorem dJ13_bitCount_95d88_27 : decode cJ13_bitCount_95d88 27 = .ok (.lushr, 1) := by decide +kernel
theorem dJ13_bitCount_95d88_28 : decode cJ13_bitCount_95d88 28 = .ok (.ladd, 1) := by decide +kernel
theorem dJ13_bitCount_95d88_29 : decode cJ13_bitCount_95d88 29 = .ok (.ldc2_w 318, 3) := by decide +kernel
theorem dJ13_bitCount_95d88_32 : decode cJ13_bitCount_95d88 32 = .ok (.land, 1) := by decide +kernel
theorem dJ13_bitCount_95d88_33 : decode cJ13_bitCount_95d88 33 = .ok (.lstore_n 0, 1) := by decide +kernel
theorem dJ13_bitCount_95d88_34 : decode cJ13_bitCount_95d88 34 = .ok (.lload_n 0, 1) := by decide +kernel
theorem dJ13_bitCount_95d88_35 : decode cJ13_bitCount_95d88 35 = .ok (.lload_n 0, 1) := by decide +kernel
theorem dJ13_bitCount_95d88_36 : decode cJ13_bitCount_95d88 36 = .ok (.bipush 8, 2) := by decide +kernel
theorem dJ13_bitCount_95d88_38 : decode cJ13_bitCount_95d88 38 = .ok (.lushr, 1) := by decide +kernel
theorem dJ13_bitCount_95d88_39 : decode cJ13_bitCount_95d88 39 = .ok (.ladd, 1) := by decide +kernel
theorem dJ13_bitCount_95d88_40 : decode cJ13_bitCount_95d88 40 = .ok (.lstore_n 0, 1) := by decide +kernel
theorem dJ13_bitCount_95d88_41 : decode cJ13_bitCount_95d88 41 = .ok (.lload_n 0, 1) := by decide +kernel
theorem dJ13_bitCount_95d88_42 : decode cJ13_bitCount_95d88 42 = .ok (.lload_n 0, 1) := by decide +kernel
theorem dJ13_bitCount_95d88_43 : decode cJ13_bitCount_95d88 43 = .ok (.bipush 16, 2) := by decide +kernel
theorem dJ13_bitCount_95d88_45 : decode cJ13_bitCount_95d88 45 = .ok (.lushr, 1) := by decide +kernel
theorem dJ13_bitCount_95d88_46 : decode cJ13_bitCount_95d88 46 = .ok (.ladd, 1) := by decide +kernel
theorem dJ13_bitCount_95d88_47 : decode cJ13_bitCount_95d88 47 = .ok (.lstore_n 0, 1) := by decide +kernel
theorem dJ13_bitCount_95d88_48 : decode cJ13_bitCount_95d88 48 = .ok (.lload_n 0, 1) := by decide +kernel
theorem dJ13_bitCount_95d88_49 : decode cJ13_bitCount_95d88 49 = .ok (.lload_n 0, 1) := by decide +kernel
theorem dJ13_bitCount_95d88_50 : decode cJ13_bitCount_95d88 50 = .ok (.bipush 32, 2) := by decide +kernel
theorem dJ13_bitCount_95d88_52 : decode cJ13_bitCount_95d88 52 = .ok (.lushr, 1) := by decide +kernel
theorem dJ13_bitCount_95d88_53 : decode cJ13_bitCount_95d88 53 = .ok (.ladd, 1) := by decide +kernel
theorem dJ13_bitCount_95d88_54 : decode cJ13_bitCount_95d88 54 = .ok (.lstore_n 0, 1) := by decide +kernel
theorem dJ13_bitCount_95d88_55 : decode cJ13_bitCount_95d88 55 = .ok (.lload_n 0, 1) := by decide +kernel
theorem dJ13_bitCount_95d88_56 : decode cJ13_bitCount_95d88 56 = .ok (.l2i, 1) := by decide +kernel
theorem dJ13_bitCount_95d88_57 : decode cJ13_bitCount_95d88 57 = .ok (.bipush 127, 2) := by decide +kernel
theorem dJ13_bitCount_95d88_59 : decode cJ13_bitCount_95d88 59 = .ok (.iand, 1) := by decide +kernel
theorem dJ13_bitCount_95d88_60 : decode cJ13_bitCount_95d88 60 = .ok (.ireturn, 1) := by decide +kernel
theorem dJ9_abs_0f7a4_0 : decode cJ9_abs_0f7a4 0 = .ok (.iload_n 0, 1) := by decide +kernel
theorem dJ9_abs_0f7a4_1 : decode cJ9_abs_0f7a4 1 = .ok (.ifCond .ge 8, 3) := by decide +kernel
theorem dJ9_abs_0f7a4_4 : decode cJ9_abs_0f7a4 4 = .ok (.iload_n 0, 1) := by decide +kernel
theorem dJ9_abs_0f7a4_5 : decode cJ9_abs_0f7a4 5 = .ok (.ineg, 1) := by decide +kernel
theorem dJ9_abs_0f7a4_6 : decode cJ9_abs_0f7a4 6 = .ok (.goto 4, 3) := by decide +kernel
theorem dJ9_abs_0f7a4_9 : decode cJ9_abs_0f7a4 9 = .ok (.iload_n 0, 1) := by decide +kernel
theorem dJ9_abs_0f7a4_10 : decode cJ9_abs_0f7a4 10 = .ok (.ireturn, 1) := by decide +kernel
theorem dJ9_max_7cf53_0 : decode cJ9_max_7cf53 0 = .ok (.iload_n 0, 1) := by decide +kernel
theorem dJ9_max_7cf53_1 : decode cJ9_max_7cf53 1 = .ok (.iload_n 1, 1) := by decide +kernel
theorem dJ9_max_7cf53_2 : decode cJ9_max_7cf53 2 = .ok (.if_icmp .lt 7, 3) := by decide +kernel
theorem dJ9_max_7cf53_5 : decode cJ9_max_7cf53 5 = .ok (.iload_n 0, 1) := by decide +kernel
theorem dJ9_max_7cf53_6 : decode cJ9_max_7cf53 6 = .ok (.goto 4, 3) := by decide +kernel
theorem dJ9_max_7cf53_9 : decode cJ9_max_7cf53 9 = .ok (.iload_n 1, 1) := by decide +kernel
theorem dJ9_max_7cf53_10 : decode cJ9_max_7cf53 10 = .ok (.ireturn, 1) := by decide +kernel
theorem dJ9_max_f86c9_0 : decode cJ9_max_f86c9 0 = .ok (.lload_n 0, 1) := by decide +kernel
theorem dJ9_max_f86c9_1 : decode cJ9_max_f86c9 1 = .ok (.lload_n 2, 1) := by decide +kernel
theorem dJ9_max_f86c9_2 : decode cJ9_max_f86c9 2 = .ok (.lcmp, 1) := by decide +kernel
theorem dJ9_max_f86c9_3 : decode cJ9_max_f86c9 3 = .ok (.ifCond .lt 7, 3) := by decide +kernel
theorem dJ9_max_f86c9_6 : decode cJ9_max_f86c9 6 = .ok (.lload_n 0, 1) := by decide +kernel
theorem dJ9_max_f86c9_7 : decode cJ9_max_f86c9 7 = .ok (.goto 4, 3) := by decide +kernel
theorem dJ9_max_f86c9_10 : decode cJ9_max_f86c9 10 = .ok (.lload_n 2, 1) := by decide +kernel
theorem dJ9_max_f86c9_11 : decode cJ9_max_f86c9 11 = .ok (.lreturn, 1) := by decide +kernel
theorem dJ9_min_7cf53_0 : decode cJ9_min_7cf53 0 = .ok (.iload_n 0, 1) := by decide +kernel
theorem dJ9_min_7cf53_1 : decode cJ9_min_7cf53 1 = .ok (.iload_n 1, 1) := by decide +kernel
theorem dJ9_min_7cf53_2 : decode cJ9_min_7cf53 2 = .ok (.if_icmp .gt 7, 3) := by decide +kernel
theorem dJ9_min_7cf53_5 : decode cJ9_min_7cf53 5 = .ok (.iload_n 0, 1) := by decide +kernel
theorem dJ9_min_7cf53_6 : decode cJ9_min_7cf53 6 = .ok (.goto 4, 3) := by decide +kernel
theorem dJ9_min_7cf53_9 : decode cJ9_min_7cf53 9 = .ok (.iload_n 1, 1) := by decide +kernel
theorem dJ9_min_7cf53_10 : decode cJ9_min_7cf53 10 = .ok (.ireturn, 1) := by decide +kernel
theorem dL_law_0 : decode cL_law 0 = .ok (.new 7, 3) := by decide +kernel
theorem dL_law_3 : decode cL_law 3 = .ok (.dup, 1) := by decide +kernel
theorem dL_law_4 : decode cL_law 4 = .ok (.invokespecial 9, 3) := by decide +kernel
theorem dL_law_7 : decode cL_law 7 = .ok (.astore_n 1, 1) := by decide +kernel
theorem dL_law_8 : decode cL_law 8 = .ok (.new 10, 3) := by decide +kernel
theorem dL_law_11 : decode cL_law 11 = .ok (.dup, 1) := by decide +kernel
theorem dL_law_12 : decode cL_law 12 = .ok (.invokespecial 12, 3) := by decide +kernel
theorem dL_law_15 : decode cL_law 15 = .ok (.astore_n 2, 1) := by decide +kernel
theorem dL_law_16 : decode cL_law 16 = .ok (.iconst 0, 1) := by decide +kernel
theorem dL_law_17 : decode cL_law 17 = .ok (.istore_n 3, 1) := by decide +kernel
theorem dL_law_18 : decode cL_law 18 = .ok (.iload_n 3, 1) := by decide +kernel
theorem dL_law_19 : decode cL_law 19 = .ok (.aload_n 0, 1) := by decide +kernel
theorem dL_law_20 : decode cL_law 20 = .ok (.arraylength, 1) := by decide +kernel
theorem dL_law_21 : decode cL_law 21 = .ok (.bipush 8, 2) := by decide +kernel
theorem dL_law_23 : decode cL_law 23 = .ok (.isub, 1) := by decide +kernel
theorem dL_law_24 : decode cL_law 24 = .ok (.if_icmp .gt 1323, 3) := by decide +kernel
theorem dL_law_27 : decode cL_law 27 = .ok (.aload_n 0, 1) := by decide +kernel
theorem dL_law_28 : decode cL_law 28 = .ok (.iload_n 3, 1) := by decide +kernel
theorem dL_law_29 : decode cL_law 29 = .ok (.iaload, 1) := by decide +kernel
theorem dL_law_30 : decode cL_law 30 = .ok (.bipush 63, 2) := by decide +kernel
theorem dL_law_32 : decode cL_law 32 = .ok (.iand, 1) := by decide +kernel
theorem dL_law_33 : decode cL_law 33 = .ok (.tableswitch 1308 0 34 #[155, 208, 271, 284, 317, 350, 383, 416, 439, 472, 505, 528, 551, 574, 587, 610, 653, 728, 816, 829, 862, 915, 948, 981, 995, 1018, 1041, 1074, 1107, 1120, 1163, 1176, 1189, 1232, 1255], 155) := by decide +kernel
theorem dL_law_188 : decode cL_law 188 = .ok (.aload_n 1, 1) := by decide +kernel
theorem dL_law_189 : decode cL_law 189 = .ok (.aload_n 0, 1) := by decide +kernel
theorem dL_law_190 : decode cL_law 190 = .ok (.iload_n 3, 1) := by decide +kernel
theorem dL_law_191 : decode cL_law 191 = .ok (.iconst 1, 1) := by decide +kernel
theorem dL_law_192 : decode cL_law 192 = .ok (.iadd, 1) := by decide +kernel
theorem dL_law_193 : decode cL_law 193 = .ok (.iaload, 1) := by decide +kernel
theorem dL_law_194 : decode cL_law 194 = .ok (.aload_n 0, 1) := by decide +kernel
theorem dL_law_195 : decode cL_law 195 = .ok (.iload_n 3, 1) := by decide +kernel
theorem dL_law_196 : decode cL_law 196 = .ok (.iconst 2, 1) := by decide +kernel
theorem dL_law_197 : decode cL_law 197 = .ok (.iadd, 1) := by decide +kernel
theorem dL_law_198 : decode cL_law 198 = .ok (.iaload, 1) := by decide +kernel
theorem dL_law_199 : decode cL_law 199 = .ok (.aload_n 0, 1) := by decide +kernel
theorem dL_law_200 : decode cL_law 200 = .ok (.iload_n 3, 1) := by decide +kernel
theorem dL_law_201 : decode cL_law 201 = .ok (.iconst 3, 1) := by decide +kernel
theorem dL_law_202 : decode cL_law 202 = .ok (.iadd, 1) := by decide +kernel
theorem dL_law_203 : decode cL_law 203 = .ok (.iaload, 1) := by decide +kernel
theorem dL_law_204 : decode cL_law 204 = .ok (.aload_n 0, 1) := by decide +kernel
theorem dL_law_205 : decode cL_law 205 = .ok (.iload_n 3, 1) := by decide +kernel
theorem dL_law_206 : decode cL_law 206 = .ok (.iconst 4, 1) := by decide +kernel
theorem dL_law_207 : decode cL_law 207 = .ok (.iadd, 1) := by decide +kernel
theorem dL_law_208 : decode cL_law 208 = .ok (.iaload, 1) := by decide +kernel
theorem dL_law_209 : decode cL_law 209 = .ok (.invokevirtual 13, 3) := by decide +kernel
theorem dL_law_212 : decode cL_law 212 = .ok (.aload_n 2, 1) := by decide +kernel
theorem dL_law_213 : decode cL_law 213 = .ok (.aload_n 0, 1) := by decide +kernel
theorem dL_law_214 : decode cL_law 214 = .ok (.iload_n 3, 1) := by decide +kernel
theorem dL_law_215 : decode cL_law 215 = .ok (.iconst 1, 1) := by decide +kernel
theorem dL_law_216 : decode cL_law 216 = .ok (.iadd, 1) := by decide +kernel
theorem dL_law_217 : decode cL_law 217 = .ok (.iaload, 1) := by decide +kernel
theorem dL_law_218 : decode cL_law 218 = .ok (.aload_n 0, 1) := by decide +kernel
theorem dL_law_219 : decode cL_law 219 = .ok (.iload_n 3, 1) := by decide +kernel
theorem dL_law_220 : decode cL_law 220 = .ok (.iconst 2, 1) := by decide +kernel
theorem dL_law_221 : decode cL_law 221 = .ok (.iadd, 1) := by decide +kernel
theorem dL_law_222 : decode cL_law 222 = .ok (.iaload, 1) := by decide +kernel
theorem dL_law_223 : decode cL_law 223 = .ok (.aload_n 0, 1) := by decide +kernel
theorem dL_law_224 : decode cL_law 224 = .ok (.iload_n 3, 1) := by decide +kernel
theorem dL_law_225 : decode cL_law 225 = .ok (.iconst 3, 1) := by decide +kernel
theorem dL_law_226 : decode cL_law 226 = .ok (.iadd, 1) := by decide +kernel
theorem dL_law_227 : decode cL_law 227 = .ok (.iaload, 1) := by decide +kernel
theorem dL_law_228 : decode cL_law 228 = .ok (.aload_n 0, 1) := by decide +kernel
theorem dL_law_229 : decode cL_law 229 = .ok (.iload_n 3, 1) := by decide +kernel
theorem dL_law_230 : decode cL_law 230 = .ok (.iconst 4, 1) := by decide +kernel
theorem dL_law_231 : decode cL_law 231 = .ok (.iadd, 1) := by decide +kernel
theorem dL_law_232 : decode cL_law 232 = .ok (.iaload, 1) := by decide +kernel
theorem dL_law_233 : decode cL_law 233 = .ok (.invokevirtual 17, 3) := by decide +kernel
theorem dL_law_236 : decode cL_law 236 = .ok (.if_icmp .eq 1105, 3) := by decide +kernel
theorem dL_law_239 : decode cL_law 239 = .ok (.iconst 0, 1) := by decide +kernel
theorem dL_law_240 : decode cL_law 240 = .ok (.ireturn, 1) := by decide +kernel
theorem dL_law_241 : decode cL_law 241 = .ok (.aload_n 1, 1) := by decide +kernel
theorem dL_law_242 : decode cL_law 242 = .ok (.aload_n 0, 1) := by decide +kernel
theorem dL_law_243 : decode cL_law 243 = .ok (.iload_n 3, 1) := by decide +kernel
theorem dL_law_244 : decode cL_law 244 = .ok (.iconst 1, 1) := by decide +kernel
theorem dL_law_245 : decode cL_law 245 = .ok (.iadd, 1) := by decide +kernel
theorem dL_law_246 : decode cL_law 246 = .ok (.iaload, 1) := by decide +kernel
theorem dL_law_247 : decode cL_law 247 = .ok (.i2l, 1) := by decide +kernel
theorem dL_law_248 : decode cL_law 248 = .ok (.bipush 32, 2) := by decide +kernel
theorem dL_law_250 : decode cL_law 250 = .ok (.lshl, 1) := by decide +kernel
theorem dL_law_251 : decode cL_law 251 = .ok (.aload_n 0, 1) := by decide +kernel
theorem dL_law_252 : decode cL_law 252 = .ok (.iload_n 3, 1) := by decide +kernel
theorem dL_law_253 : decode cL_law 253 = .ok (.iconst 2, 1) := by decide +kernel
theorem dL_law_254 : decode cL_law 254 = .ok (.iadd, 1) := by decide +kernel
theorem dL_law_255 : decode cL_law 255 = .ok (.iaload, 1) := by decide +kernel
theorem dL_law_256 : decode cL_law 256 = .ok (.i2l, 1) := by decide +kernel
theorem dL_law_257 : decode cL_law 257 = .ok (.ldc2_w 18, 3) := by decide +kernel
theorem dL_law_260 : decode cL_law 260 = .ok (.land, 1) := by decide +kernel
theorem dL_law_261 : decode cL_law 261 = .ok (.lor, 1) := by decide +kernel
theorem dL_law_262 : decode cL_law 262 = .ok (.aload_n 0, 1) := by decide +kernel
theorem dL_law_263 : decode cL_law 263 = .ok (.iload_n 3, 1) := by decide +kernel
theorem dL_law_264 : decode cL_law 264 = .ok (.iconst 3, 1) := by decide +kernel
theorem dL_law_265 : decode cL_law 265 = .ok (.iadd, 1) := by decide +kernel
theorem dL_law_266 : decode cL_law 266 = .ok (.iaload, 1) := by decide +kernel
theorem dL_law_267 : decode cL_law 267 = .ok (.invokevirtual 20, 3) := by decide +kernel
theorem dL_law_270 : decode cL_law 270 = .ok (.aload_n 2, 1) := by decide +kernel
theorem dL_law_271 : decode cL_law 271 = .ok (.aload_n 0, 1) := by decide +kernel
theorem dL_law_272 : decode cL_law 272 = .ok (.iload_n 3, 1) := by decide +kernel
theorem dL_law_273 : decode cL_law 273 = .ok (.iconst 1, 1) := by decide +kernel
theorem dL_law_274 : decode cL_law 274 = .ok (.iadd, 1) := by decide +kernel
theorem dL_law_275 : decode cL_law 275 = .ok (.iaload, 1) := by decide +kernel
theorem dL_law_276 : decode cL_law 276 = .ok (.i2l, 1) := by decide +kernel
theorem dL_law_277 : decode cL_law 277 = .ok (.bipush 32, 2) := by decide +kernel
theorem dL_law_279 : decode cL_law 279 = .ok (.lshl, 1) := by decide +kernel
theorem dL_law_280 : decode cL_law 280 = .ok (.aload_n 0, 1) := by decide +kernel
theorem dL_law_281 : decode cL_law 281 = .ok (.iload_n 3, 1) := by decide +kernel
theorem dL_law_282 : decode cL_law 282 = .ok (.iconst 2, 1) := by decide +kernel
theorem dL_law_283 : decode cL_law 283 = .ok (.iadd, 1) := by decide +kernel
theorem dL_law_284 : decode cL_law 284 = .ok (.iaload, 1) := by decide +kernel
theorem dL_law_285 : decode cL_law 285 = .ok (.i2l, 1) := by decide +kernel
theorem dL_law_286 : decode cL_law 286 = .ok (.ldc2_w 18, 3) := by decide +kernel
theorem dL_law_289 : decode cL_law 289 = .ok (.land, 1) := by decide +kernel
theorem dL_law_290 : decode cL_law 290 = .ok (.lor, 1) := by decide +kernel
theorem dL_law_291 : decode cL_law 291 = .ok (.aload_n 0, 1) := by decide +kernel
theorem dL_law_292 : decode cL_law 292 = .ok (.iload_n 3, 1) := by decide +kernel
theorem dL_law_293 : decode cL_law 293 = .ok (.iconst 3, 1) := by decide +kernel
theorem dL_law_294 : decode cL_law 294 = .ok (.iadd, 1) := by decide +kernel
theorem dL_law_295 : decode cL_law 295 = .ok (.iaload, 1) := by decide +kernel
theorem dL_law_296 : decode cL_law 296 = .ok (.invokevirtual 24, 3) := by decide +kernel
theorem dL_law_299 : decode cL_law 299 = .ok (.if_icmp .eq 1042, 3) := by decide +kernel
theorem dL_law_302 : decode cL_law 302 = .ok (.iconst 0, 1) := by decide +kernel
theorem dL_law_303 : decode cL_law 303 = .ok (.ireturn, 1) := by decide +kernel
theorem dL_law_304 : decode cL_law 304 = .ok (.aload_n 1, 1) := by decide +kernel
theorem dL_law_305 : decode cL_law 305 = .ok (.invokevirtual 25, 3) := by decide +kernel
theorem dL_law_308 : decode cL_law 308 = .ok (.aload_n 2, 1) := by decide +kernel
theorem dL_law_309 : decode cL_law 309 = .ok (.invokevirtual 29, 3) := by decide +kernel
theorem dL_law_312 : decode cL_law 312 = .ok (.if_icmp .eq 1029, 3) := by decide +kernel
theorem dL_law_315 : decode cL_law 315 = .ok (.iconst 0, 1) := by decide +kernel
theorem dL_law_316 : decode cL_law 316 = .ok (.ireturn, 1) := by decide +kernel
theorem dL_law_317 : decode cL_law 317 = .ok (.aload_n 1, 1) := by decide +kernel
theorem dL_law_318 : decode cL_law 318 = .ok (.aload_n 0, 1) := by decide +kernel
theorem dL_law_319 : decode cL_law 319 = .ok (.iload_n 3, 1) := by decide +kernel
theorem dL_law_320 : decode cL_law 320 = .ok (.iconst 1, 1) := by decide +kernel
theorem dL_law_321 : decode cL_law 321 = .ok (.iadd, 1) := by decide +kernel
theorem dL_law_322 : decode cL_law 322 = .ok (.iaload, 1) := by decide +kernel
theorem dL_law_323 : decode cL_law 323 = .ok (.aload_n 0, 1) := by decide +kernel
theorem dL_law_324 : decode cL_law 324 = .ok (.iload_n 3, 1) := by decide +kernel
theorem dL_law_325 : decode cL_law 325 = .ok (.iconst 2, 1) := by decide +kernel
theorem dL_law_326 : decode cL_law 326 = .ok (.iadd, 1) := by decide +kernel
theorem dL_law_327 : decode cL_law 327 = .ok (.iaload, 1) := by decide +kernel
theorem dL_law_328 : decode cL_law 328 = .ok (.invokevirtual 30, 3) := by decide +kernel
theorem dL_law_331 : decode cL_law 331 = .ok (.aload_n 2, 1) := by decide +kernel
theorem dL_law_332 : decode cL_law 332 = .ok (.aload_n 0, 1) := by decide +kernel
theorem dL_law_333 : decode cL_law 333 = .ok (.iload_n 3, 1) := by decide +kernel
theorem dL_law_334 : decode cL_law 334 = .ok (.iconst 1, 1) := by decide +kernel
theorem dL_law_335 : decode cL_law 335 = .ok (.iadd, 1) := by decide +kernel
theorem dL_law_336 : decode cL_law 336 = .ok (.iaload, 1) := by decide +kernel
theorem dL_law_337 : decode cL_law 337 = .ok (.aload_n 0, 1) := by decide +kernel
theorem dL_law_338 : decode cL_law 338 = .ok (.iload_n 3, 1) := by decide +kernel
theorem dL_law_339 : decode cL_law 339 = .ok (.iconst 2, 1) := by decide +kernel
theorem dL_law_340 : decode cL_law 340 = .ok (.iadd, 1) := by decide +kernel
theorem dL_law_341 : decode cL_law 341 = .ok (.iaload, 1) := by decide +kernel
theorem dL_law_342 : decode cL_law 342 = .ok (.invokevirtual 34, 3) := by decide +kernel
theorem dL_law_345 : decode cL_law 345 = .ok (.if_icmp .eq 996, 3) := by decide +kernel
theorem dL_law_348 : decode cL_law 348 = .ok (.iconst 0, 1) := by decide +kernel
theorem dL_law_349 : decode cL_law 349 = .ok (.ireturn, 1) := by decide +kernel
theorem dL_law_350 : decode cL_law 350 = .ok (.aload_n 1, 1) := by decide +kernel
theorem dL_law_351 : decode cL_law 351 = .ok (.aload_n 0, 1) := by decide +kernel
theorem dL_law_352 : decode cL_law 352 = .ok (.iload_n 3, 1) := by decide +kernel
theorem dL_law_353 : decode cL_law 353 = .ok (.iconst 1, 1) := by decide +kernel
theorem dL_law_354 : decode cL_law 354 = .ok (.iadd, 1) := by decide +kernel
theorem dL_law_355 : decode cL_law 355 = .ok (.iaload, 1) := by decide +kernel
theorem dL_law_356 : decode cL_law 356 = .ok (.aload_n 0, 1) := by decide +kernel
theorem dL_law_357 : decode cL_law 357 = .ok (.iload_n 3, 1) := by decide +kernel
theorem dL_law_358 : decode cL_law 358 = .ok (.iconst 2, 1) := by decide +kernel
theorem dL_law_359 : decode cL_law 359 = .ok (.iadd, 1) := by decide +kernel
theorem dL_law_360 : decode cL_law 360 = .ok (.iaload, 1) := by decide +kernel
theorem dL_law_361 : decode cL_law 361 = .ok (.invokevirtual 35, 3) := by decide +kernel
theorem dL_law_364 : decode cL_law 364 = .ok (.aload_n 2, 1) := by decide +kernel
theorem dL_law_365 : decode cL_law 365 = .ok (.aload_n 0, 1) := by decide +kernel
theorem dL_law_366 : decode cL_law 366 = .ok (.iload_n 3, 1) := by decide +kernel
theorem dL_law_367 : decode cL_law 367 = .ok (.iconst 1, 1) := by decide +kernel
theorem dL_law_368 : decode cL_law 368 = .ok (.iadd, 1) := by decide +kernel
theorem dL_law_369 : decode cL_law 369 = .ok (.iaload, 1) := by decide +kernel
theorem dL_law_370 : decode cL_law 370 = .ok (.aload_n 0, 1) := by decide +kernel
theorem dL_law_371 : decode cL_law 371 = .ok (.iload_n 3, 1) := by decide +kernel
theorem dL_law_372 : decode cL_law 372 = .ok (.iconst 2, 1) := by decide +kernel
theorem dL_law_373 : decode cL_law 373 = .ok (.iadd, 1) := by decide +kernel
theorem dL_law_374 : decode cL_law 374 = .ok (.iaload, 1) := by decide +kernel
theorem dL_law_375 : decode cL_law 375 = .ok (.invokevirtual 38, 3) := by decide +kernel
theorem dL_law_378 : decode cL_law 378 = .ok (.if_icmp .eq 963, 3) := by decide +kernel
theorem dL_law_381 : decode cL_law 381 = .ok (.iconst 0, 1) := by decide +kernel
theorem dL_law_382 : decode cL_law 382 = .ok (.ireturn, 1) := by decide +kernel
theorem dL_law_383 : decode cL_law 383 = .ok (.aload_n 1, 1) := by decide +kernel
theorem dL_law_384 : decode cL_law 384 = .ok (.aload_n 0, 1) := by decide +kernel
theorem dL_law_385 : decode cL_law 385 = .ok (.iload_n 3, 1) := by decide +kernel
theorem dL_law_386 : decode cL_law 386 = .ok (.iconst 1, 1) := by decide +kernel
theorem dL_law_387 : decode cL_law 387 = .ok (.iadd, 1) := by decide +kernel
theorem dL_law_388 : decode cL_law 388 = .ok (.iaload, 1) := by decide +kernel
theorem dL_law_389 : decode cL_law 389 = .ok (.aload_n 0, 1) := by decide +kernel
theorem dL_law_390 : decode cL_law 390 = .ok (.iload_n 3, 1) := by decide +kernel
theorem dL_law_391 : decode cL_law 391 = .ok (.iconst 2, 1) := by decide +kernel
theorem dL_law_392 : decode cL_law 392 = .ok (.iadd, 1) := by decide +kernel
theorem dL_law_393 : decode cL_law 393 = .ok (.iaload, 1) := by decide +kernel
theorem dL_law_394 : decode cL_law 394 = .ok (.invokevirtual 39, 3) := by decide +kernel
theorem dL_law_397 : decode cL_law 397 = .ok (.aload_n 2, 1) := by decide +kernel
theorem dL_law_398 : decode cL_law 398 = .ok (.aload_n 0, 1) := by decide +kernel
theorem dL_law_399 : decode cL_law 399 = .ok (.iload_n 3, 1) := by decide +kernel
theorem dL_law_400 : decode cL_law 400 = .ok (.iconst 1, 1) := by decide +kernel
theorem dL_law_401 : decode cL_law 401 = .ok (.iadd, 1) := by decide +kernel
theorem dL_law_402 : decode cL_law 402 = .ok (.iaload, 1) := by decide +kernel
theorem dL_law_403 : decode cL_law 403 = .ok (.aload_n 0, 1) := by decide +kernel
theorem dL_law_404 : decode cL_law 404 = .ok (.iload_n 3, 1) := by decide +kernel
theorem dL_law_405 : decode cL_law 405 = .ok (.iconst 2, 1) := by decide +kernel
theorem dL_law_406 : decode cL_law 406 = .ok (.iadd, 1) := by decide +kernel
theorem dL_law_407 : decode cL_law 407 = .ok (.iaload, 1) := by decide +kernel
theorem dL_law_408 : decode cL_law 408 = .ok (.invokevirtual 42, 3) := by decide +kernel
theorem dL_law_411 : decode cL_law 411 = .ok (.if_icmp .eq 930, 3) := by decide +kernel
theorem dL_law_414 : decode cL_law 414 = .ok (.iconst 0, 1) := by decide +kernel
theorem dL_law_415 : decode cL_law 415 = .ok (.ireturn, 1) := by decide +kernel
theorem dL_law_416 : decode cL_law 416 = .ok (.aload_n 1, 1) := by decide +kernel
theorem dL_law_417 : decode cL_law 417 = .ok (.aload_n 0, 1) := by decide +kernel
theorem dL_law_418 : decode cL_law 418 = .ok (.iload_n 3, 1) := by decide +kernel
theorem dL_law_419 : decode cL_law 419 = .ok (.iconst 1, 1) := by decide +kernel
theorem dL_law_420 : decode cL_law 420 = .ok (.iadd, 1) := by decide +kernel
theorem dL_law_421 : decode cL_law 421 = .ok (.iaload, 1) := by decide +kernel
theorem dL_law_422 : decode cL_law 422 = .ok (.aload_n 0, 1) := by decide +kernel
theorem dL_law_423 : decode cL_law 423 = .ok (.iload_n 3, 1) := by decide +kernel
theorem dL_law_424 : decode cL_law 424 = .ok (.iconst 2, 1) := by decide +kernel
theorem dL_law_425 : decode cL_law 425 = .ok (.iadd, 1) := by decide +kernel
theorem dL_law_426 : decode cL_law 426 = .ok (.iaload, 1) := by decide +kernel
theorem dL_law_427 : decode cL_law 427 = .ok (.invokevirtual 43, 3) := by decide +kernel
theorem dL_law_430 : decode cL_law 430 = .ok (.aload_n 2, 1) := by decide +kernel
theorem dL_law_431 : decode cL_law 431 = .ok (.aload_n 0, 1) := by decide +kernel
theorem dL_law_432 : decode cL_law 432 = .ok (.iload_n 3, 1) := by decide +kernel
theorem dL_law_433 : decode cL_law 433 = .ok (.iconst 1, 1) := by decide +kernel
theorem dL_law_434 : decode cL_law 434 = .ok (.iadd, 1) := by decide +kernel
theorem dL_law_435 : decode cL_law 435 = .ok (.iaload, 1) := by decide +kernel
theorem dL_law_436 : decode cL_law 436 = .ok (.aload_n 0, 1) := by decide +kernel
theorem dL_law_437 : decode cL_law 437 = .ok (.iload_n 3, 1) := by decide +kernel
theorem dL_law_438 : decode cL_law 438 = .ok (.iconst 2, 1) := by decide +kernel
theorem dL_law_439 : decode cL_law 439 = .ok (.iadd, 1) := by decide +kernel
theorem dL_law_440 : decode cL_law 440 = .ok (.iaload, 1) := by decide +kernel
theorem dL_law_441 : decode cL_law 441 = .ok (.invokevirtual 46, 3) := by decide +kernel
theorem dL_law_444 : decode cL_law 444 = .ok (.if_icmp .eq 897, 3) := by decide +kernel
theorem dL_law_447 : decode cL_law 447 = .ok (.iconst 0, 1) := by decide +kernel
theorem dL_law_448 : decode cL_law 448 = .ok (.ireturn, 1) := by decide +kernel
theorem dL_law_449 : decode cL_law 449 = .ok (.aload_n 1, 1) := by decide +kernel
theorem dL_law_450 : decode cL_law 450 = .ok (.aload_n 0, 1) := by decide +kernel
theorem dL_law_451 : decode cL_law 451 = .ok (.iload_n 3, 1) := by decide +kernel
theorem dL_law_452 : decode cL_law 452 = .ok (.iconst 1, 1) := by decide +kernel
theorem dL_law_453 : decode cL_law 453 = .ok (.iadd, 1) := by decide +kernel
theorem dL_law_454 : decode cL_law 454 = .ok (.iaload, 1) := by decide +kernel
theorem dL_law_455 : decode cL_law 455 = .ok (.invokevirtual 47, 3) := by decide +kernel
theorem dL_law_458 : decode cL_law 458 = .ok (.aload_n 2, 1) := by decide +kernel
theorem dL_law_459 : decode cL_law 459 = .ok (.aload_n 0, 1) := by decide +kernel
theorem dL_law_460 : decode cL_law 460 = .ok (.iload_n 3, 1) := by decide +kernel
theorem dL_law_461 : decode cL_law 461 = .ok (.iconst 1, 1) := by decide +kernel
theorem dL_law_462 : decode cL_law 462 = .ok (.iadd, 1) := by decide +kernel
theorem dL_law_463 : decode cL_law 463 = .ok (.iaload, 1) := by decide +kernel
theorem dL_law_464 : decode cL_law 464 = .ok (.invokevirtual 51, 3) := by decide +kernel
theorem dL_law_467 : decode cL_law 467 = .ok (.if_icmp .eq 874, 3) := by decide +kernel
theorem dL_law_470 : decode cL_law 470 = .ok (.iconst 0, 1) := by decide +kernel
theorem dL_law_471 : decode cL_law 471 = .ok (.ireturn, 1) := by decide +kernel
theorem dL_law_472 : decode cL_law 472 = .ok (.aload_n 1, 1) := by decide +kernel
theorem dL_law_473 : decode cL_law 473 = .ok (.aload_n 0, 1) := by decide +kernel
theorem dL_law_474 : decode cL_law 474 = .ok (.iload_n 3, 1) := by decide +kernel
theorem dL_law_475 : decode cL_law 475 = .ok (.iconst 1, 1) := by decide +kernel
theorem dL_law_476 : decode cL_law 476 = .ok (.iadd, 1) := by decide +kernel
theorem dL_law_477 : decode cL_law 477 = .ok (.iaload, 1) := by decide +kernel
theorem dL_law_478 : decode cL_law 478 = .ok (.aload_n 0, 1) := by decide +kernel
theorem dL_law_479 : decode cL_law 479 = .ok (.iload_n 3, 1) := by decide +kernel
theorem dL_law_480 : decode cL_law 480 = .ok (.iconst 2, 1) := by decide +kernel
theorem dL_law_481 : decode cL_law 481 = .ok (.iadd, 1) := by decide +kernel
theorem dL_law_482 : decode cL_law 482 = .ok (.iaload, 1) := by decide +kernel
theorem dL_law_483 : decode cL_law 483 = .ok (.invokevirtual 52, 3) := by decide +kernel
theorem dL_law_486 : decode cL_law 486 = .ok (.aload_n 2, 1) := by decide +kernel
theorem dL_law_487 : decode cL_law 487 = .ok (.aload_n 0, 1) := by decide +kernel
theorem dL_law_488 : decode cL_law 488 = .ok (.iload_n 3, 1) := by decide +kernel
theorem dL_law_489 : decode cL_law 489 = .ok (.iconst 1, 1) := by decide +kernel
theorem dL_law_490 : decode cL_law 490 = .ok (.iadd, 1) := by decide +kernel
theorem dL_law_491 : decode cL_law 491 = .ok (.iaload, 1) := by decide +kernel
theorem dL_law_492 : decode cL_law 492 = .ok (.aload_n 0, 1) := by decide +kernel
theorem dL_law_493 : decode cL_law 493 = .ok (.iload_n 3, 1) := by decide +kernel
theorem dL_law_494 : decode cL_law 494 = .ok (.iconst 2, 1) := by decide +kernel
theorem dL_law_495 : decode cL_law 495 = .ok (.iadd, 1) := by decide +kernel
theorem dL_law_496 : decode cL_law 496 = .ok (.iaload, 1) := by decide +kernel
theorem dL_law_497 : decode cL_law 497 = .ok (.invokevirtual 55, 3) := by decide +kernel
theorem dL_law_500 : decode cL_law 500 = .ok (.if_icmp .eq 841, 3) := by decide +kernel
theorem dL_law_503 : decode cL_law 503 = .ok (.iconst 0, 1) := by decide +kernel
theorem dL_law_504 : decode cL_law 504 = .ok (.ireturn, 1) := by decide +kernel
theorem dL_law_505 : decode cL_law 505 = .ok (.aload_n 1, 1) := by decide +kernel
theorem dL_law_506 : decode cL_law 506 = .ok (.aload_n 0, 1) := by decide +kernel
theorem dL_law_507 : decode cL_law 507 = .ok (.iload_n 3, 1) := by decide +kernel
theorem dL_law_508 : decode cL_law 508 = .ok (.iconst 1, 1) := by decide +kernel
theorem dL_law_509 : decode cL_law 509 = .ok (.iadd, 1) := by decide +kernel
theorem dL_law_510 : decode cL_law 510 = .ok (.iaload, 1) := by decide +kernel
theorem dL_law_511 : decode cL_law 511 = .ok (.aload_n 0, 1) := by decide +kernel
theorem dL_law_512 : decode cL_law 512 = .ok (.iload_n 3, 1) := by decide +kernel
theorem dL_law_513 : decode cL_law 513 = .ok (.iconst 2, 1) := by decide +kernel
theorem dL_law_514 : decode cL_law 514 = .ok (.iadd, 1) := by decide +kernel
theorem dL_law_515 : decode cL_law 515 = .ok (.iaload, 1) := by decide +kernel
theorem dL_law_516 : decode cL_law 516 = .ok (.invokevirtual 56, 3) := by decide +kernel
theorem dL_law_519 : decode cL_law 519 = .ok (.aload_n 2, 1) := by decide +kernel
theorem dL_law_520 : decode cL_law 520 = .ok (.aload_n 0, 1) := by decide +kernel
theorem dL_law_521 : decode cL_law 521 = .ok (.iload_n 3, 1) := by decide +kernel
theorem dL_law_522 : decode cL_law 522 = .ok (.iconst 1, 1) := by decide +kernel
theorem dL_law_523 : decode cL_law 523 = .ok (.iadd, 1) := by decide +kernel
theorem dL_law_524 : decode cL_law 524 = .ok (.iaload, 1) := by decide +kernel
theorem dL_law_525 : decode cL_law 525 = .ok (.aload_n 0, 1) := by decide +kernel
theorem dL_law_526 : decode cL_law 526 = .ok (.iload_n 3, 1) := by decide +kernel
theorem dL_law_527 : decode cL_law 527 = .ok (.iconst 2, 1) := by decide +kernel
theorem dL_law_528 : decode cL_law 528 = .ok (.iadd, 1) := by decide +kernel
theorem dL_law_529 : decode cL_law 529 = .ok (.iaload, 1) := by decide +kernel
theorem dL_law_530 : decode cL_law 530 = .ok (.invokevirtual 59, 3) := by decide +kernel
theorem dL_law_533 : decode cL_law 533 = .ok (.if_icmp .eq 808, 3) := by decide +kernel
theorem dL_law_536 : decode cL_law 536 = .ok (.iconst 0, 1) := by decide +kernel
theorem dL_law_537 : decode cL_law 537 = .ok (.ireturn, 1) := by decide +kernel
theorem dL_law_538 : decode cL_law 538 = .ok (.aload_n 1, 1) := by decide +kernel
theorem dL_law_539 : decode cL_law 539 = .ok (.aload_n 0, 1) := by decide +kernel
theorem dL_law_540 : decode cL_law 540 = .ok (.iload_n 3, 1) := by decide +kernel
theorem dL_law_541 : decode cL_law 541 = .ok (.iconst 1, 1) := by decide +kernel
theorem dL_law_542 : decode cL_law 542 = .ok (.iadd, 1) := by decide +kernel
theorem dL_law_543 : decode cL_law 543 = .ok (.iaload, 1) := by decide +kernel
theorem dL_law_544 : decode cL_law 544 = .ok (.invokevirtual 60, 3) := by decide +kernel
theorem dL_law_547 : decode cL_law 547 = .ok (.aload_n 2, 1) := by decide +kernel
theorem dL_law_548 : decode cL_law 548 = .ok (.aload_n 0, 1) := by decide +kernel
theorem dL_law_549 : decode cL_law 549 = .ok (.iload_n 3, 1) := by decide +kernel
theorem dL_law_550 : decode cL_law 550 = .ok (.iconst 1, 1) := by decide +kernel
theorem dL_law_551 : decode cL_law 551 = .ok (.iadd, 1) := by decide +kernel
theorem dL_law_552 : decode cL_law 552 = .ok (.iaload, 1) := by decide +kernel
theorem dL_law_553 : decode cL_law 553 = .ok (.invokevirtual 63, 3) := by decide +kernel
theorem dL_law_556 : decode cL_law 556 = .ok (.if_icmp .eq 785, 3) := by decide +kernel
theorem dL_law_559 : decode cL_law 559 = .ok (.iconst 0, 1) := by decide +kernel
theorem dL_law_560 : decode cL_law 560 = .ok (.ireturn, 1) := by decide +kernel
theorem dL_law_561 : decode cL_law 561 = .ok (.aload_n 1, 1) := by decide +kernel
theorem dL_law_562 : decode cL_law 562 = .ok (.aload_n 0, 1) := by decide +kernel
theorem dL_law_563 : decode cL_law 563 = .ok (.iload_n 3, 1) := by decide +kernel
theorem dL_law_564 : decode cL_law 564 = .ok (.iconst 1, 1) := by decide +kernel
theorem dL_law_565 : decode cL_law 565 = .ok (.iadd, 1) := by decide +kernel
theorem dL_law_566 : decode cL_law 566 = .ok (.iaload, 1) := by decide +kernel
theorem dL_law_567 : decode cL_law 567 = .ok (.invokevirtual 64, 3) := by decide +kernel
theorem dL_law_570 : decode cL_law 570 = .ok (.aload_n 2, 1) := by decide +kernel
theorem dL_law_571 : decode cL_law 571 = .ok (.aload_n 0, 1) := by decide +kernel
theorem dL_law_572 : decode cL_law 572 = .ok (.iload_n 3, 1) := by decide +kernel
theorem dL_law_573 : decode cL_law 573 = .ok (.iconst 1, 1) := by decide +kernel
theorem dL_law_574 : decode cL_law 574 = .ok (.iadd, 1) := by decide +kernel
theorem dL_law_575 : decode cL_law 575 = .ok (.iaload, 1) := by decide +kernel
theorem dL_law_576 : decode cL_law 576 = .ok (.invokevirtual 67, 3) := by decide +kernel
theorem dL_law_579 : decode cL_law 579 = .ok (.if_icmp .eq 762, 3) := by decide +kernel
theorem dL_law_582 : decode cL_law 582 = .ok (.iconst 0, 1) := by decide +kernel
theorem dL_law_583 : decode cL_law 583 = .ok (.ireturn, 1) := by decide +kernel
theorem dL_law_584 : decode cL_law 584 = .ok (.aload_n 1, 1) := by decide +kernel
theorem dL_law_585 : decode cL_law 585 = .ok (.aload_n 0, 1) := by decide +kernel
theorem dL_law_586 : decode cL_law 586 = .ok (.iload_n 3, 1) := by decide +kernel
theorem dL_law_587 : decode cL_law 587 = .ok (.iconst 1, 1) := by decide +kernel
theorem dL_law_588 : decode cL_law 588 = .ok (.iadd, 1) := by decide +kernel
theorem dL_law_589 : decode cL_law 589 = .ok (.iaload, 1) := by decide +kernel
theorem dL_law_590 : decode cL_law 590 = .ok (.invokevirtual 68, 3) := by decide +kernel
theorem dL_law_593 : decode cL_law 593 = .ok (.aload_n 2, 1) := by decide +kernel
theorem dL_law_594 : decode cL_law 594 = .ok (.aload_n 0, 1) := by decide +kernel
theorem dL_law_595 : decode cL_law 595 = .ok (.iload_n 3, 1) := by decide +kernel
theorem dL_law_596 : decode cL_law 596 = .ok (.iconst 1, 1) := by decide +kernel
theorem dL_law_597 : decode cL_law 597 = .ok (.iadd, 1) := by decide +kernel
theorem dL_law_598 : decode cL_law 598 = .ok (.iaload, 1) := by decide +kernel
theorem dL_law_599 : decode cL_law 599 = .ok (.invokevirtual 71, 3) := by decide +kernel
theorem dL_law_602 : decode cL_law 602 = .ok (.if_icmp .eq 739, 3) := by decide +kernel
theorem dL_law_605 : decode cL_law 605 = .ok (.iconst 0, 1) := by decide +kernel
theorem dL_law_606 : decode cL_law 606 = .ok (.ireturn, 1) := by decide +kernel
theorem dL_law_607 : decode cL_law 607 = .ok (.aload_n 1, 1) := by decide +kernel
theorem dL_law_608 : decode cL_law 608 = .ok (.invokevirtual 72, 3) := by decide +kernel
theorem dL_law_611 : decode cL_law 611 = .ok (.aload_n 2, 1) := by decide +kernel
theorem dL_law_612 : decode cL_law 612 = .ok (.invokevirtual 75, 3) := by decide +kernel
theorem dL_law_615 : decode cL_law 615 = .ok (.if_icmp .eq 726, 3) := by decide +kernel
theorem dL_law_618 : decode cL_law 618 = .ok (.iconst 0, 1) := by decide +kernel
theorem dL_law_619 : decode cL_law 619 = .ok (.ireturn, 1) := by decide +kernel
theorem dL_law_620 : decode cL_law 620 = .ok (.aload_n 1, 1) := by decide +kernel
theorem dL_law_621 : decode cL_law 621 = .ok (.aload_n 0, 1) := by decide +kernel
theorem dL_law_622 : decode cL_law 622 = .ok (.iload_n 3, 1) := by decide +kernel
theorem dL_law_623 : decode cL_law 623 = .ok (.iconst 1, 1) := by decide +kernel
theorem dL_law_624 : decode cL_law 624 = .ok (.iadd, 1) := by decide +kernel
theorem dL_law_625 : decode cL_law 625 = .ok (.iaload, 1) := by decide +kernel
theorem dL_law_626 : decode cL_law 626 = .ok (.invokevirtual 76, 3) := by decide +kernel
theorem dL_law_629 : decode cL_law 629 = .ok (.aload_n 2, 1) := by decide +kernel
theorem dL_law_630 : decode cL_law 630 = .ok (.aload_n 0, 1) := by decide +kernel
theorem dL_law_631 : decode cL_law 631 = .ok (.iload_n 3, 1) := by decide +kernel
theorem dL_law_632 : decode cL_law 632 = .ok (.iconst 1, 1) := by decide +kernel
theorem dL_law_633 : decode cL_law 633 = .ok (.iadd, 1) := by decide +kernel
theorem dL_law_634 : decode cL_law 634 = .ok (.iaload, 1) := by decide +kernel
theorem dL_law_635 : decode cL_law 635 = .ok (.invokevirtual 79, 3) := by decide +kernel
theorem dL_law_638 : decode cL_law 638 = .ok (.if_icmp .eq 703, 3) := by decide +kernel
theorem dL_law_641 : decode cL_law 641 = .ok (.iconst 0, 1) := by decide +kernel
theorem dL_law_642 : decode cL_law 642 = .ok (.ireturn, 1) := by decide +kernel
theorem dL_law_643 : decode cL_law 643 = .ok (.aload_n 1, 1) := by decide +kernel
theorem dL_law_644 : decode cL_law 644 = .ok (.aload_n 0, 1) := by decide +kernel
theorem dL_law_645 : decode cL_law 645 = .ok (.iload_n 3, 1) := by decide +kernel
theorem dL_law_646 : decode cL_law 646 = .ok (.iconst 1, 1) := by decide +kernel
theorem dL_law_647 : decode cL_law 647 = .ok (.iadd, 1) := by decide +kernel
theorem dL_law_648 : decode cL_law 648 = .ok (.iaload, 1) := by decide +kernel
theorem dL_law_649 : decode cL_law 649 = .ok (.aload_n 0, 1) := by decide +kernel
theorem dL_law_650 : decode cL_law 650 = .ok (.iload_n 3, 1) := by decide +kernel
theorem dL_law_651 : decode cL_law 651 = .ok (.iconst 2, 1) := by decide +kernel
theorem dL_law_652 : decode cL_law 652 = .ok (.iadd, 1) := by decide +kernel
theorem dL_law_653 : decode cL_law 653 = .ok (.iaload, 1) := by decide +kernel
theorem dL_law_654 : decode cL_law 654 = .ok (.aload_n 0, 1) := by decide +kernel
theorem dL_law_655 : decode cL_law 655 = .ok (.iload_n 3, 1) := by decide +kernel
theorem dL_law_656 : decode cL_law 656 = .ok (.iconst 3, 1) := by decide +kernel
theorem dL_law_657 : decode cL_law 657 = .ok (.iadd, 1) := by decide +kernel
theorem dL_law_658 : decode cL_law 658 = .ok (.iaload, 1) := by decide +kernel
theorem dL_law_659 : decode cL_law 659 = .ok (.invokevirtual 80, 3) := by decide +kernel
theorem dL_law_662 : decode cL_law 662 = .ok (.aload_n 2, 1) := by decide +kernel
theorem dL_law_663 : decode cL_law 663 = .ok (.aload_n 0, 1) := by decide +kernel
theorem dL_law_664 : decode cL_law 664 = .ok (.iload_n 3, 1) := by decide +kernel
theorem dL_law_665 : decode cL_law 665 = .ok (.iconst 1, 1) := by decide +kernel
theorem dL_law_666 : decode cL_law 666 = .ok (.iadd, 1) := by decide +kernel
theorem dL_law_667 : decode cL_law 667 = .ok (.iaload, 1) := by decide +kernel
theorem dL_law_668 : decode cL_law 668 = .ok (.aload_n 0, 1) := by decide +kernel
theorem dL_law_669 : decode cL_law 669 = .ok (.iload_n 3, 1) := by decide +kernel
theorem dL_law_670 : decode cL_law 670 = .ok (.iconst 2, 1) := by decide +kernel
theorem dL_law_671 : decode cL_law 671 = .ok (.iadd, 1) := by decide +kernel
theorem dL_law_672 : decode cL_law 672 = .ok (.iaload, 1) := by decide +kernel
theorem dL_law_673 : decode cL_law 673 = .ok (.aload_n 0, 1) := by decide +kernel
theorem dL_law_674 : decode cL_law 674 = .ok (.iload_n 3, 1) := by decide +kernel
theorem dL_law_675 : decode cL_law 675 = .ok (.iconst 3, 1) := by decide +kernel
theorem dL_law_676 : decode cL_law 676 = .ok (.iadd, 1) := by decide +kernel
theorem dL_law_677 : decode cL_law 677 = .ok (.iaload, 1) := by decide +kernel
theorem dL_law_678 : decode cL_law 678 = .ok (.invokevirtual 84, 3) := by decide +kernel
theorem dL_law_681 : decode cL_law 681 = .ok (.if_icmp .eq 660, 3) := by decide +kernel
theorem dL_law_684 : decode cL_law 684 = .ok (.iconst 0, 1) := by decide +kernel
theorem dL_law_685 : decode cL_law 685 = .ok (.ireturn, 1) := by decide +kernel
theorem dL_law_686 : decode cL_law 686 = .ok (.aload_n 1, 1) := by decide +kernel
theorem dL_law_687 : decode cL_law 687 = .ok (.aload_n 0, 1) := by decide +kernel
theorem dL_law_688 : decode cL_law 688 = .ok (.iload_n 3, 1) := by decide +kernel
theorem dL_law_689 : decode cL_law 689 = .ok (.iconst 1, 1) := by decide +kernel
theorem dL_law_690 : decode cL_law 690 = .ok (.iadd, 1) := by decide +kernel
theorem dL_law_691 : decode cL_law 691 = .ok (.iaload, 1) := by decide +kernel
theorem dL_law_692 : decode cL_law 692 = .ok (.aload_n 0, 1) := by decide +kernel
theorem dL_law_693 : decode cL_law 693 = .ok (.iload_n 3, 1) := by decide +kernel
theorem dL_law_694 : decode cL_law 694 = .ok (.iconst 2, 1) := by decide +kernel
theorem dL_law_695 : decode cL_law 695 = .ok (.iadd, 1) := by decide +kernel
theorem dL_law_696 : decode cL_law 696 = .ok (.iaload, 1) := by decide +kernel
theorem dL_law_697 : decode cL_law 697 = .ok (.aload_n 0, 1) := by decide +kernel
theorem dL_law_698 : decode cL_law 698 = .ok (.iload_n 3, 1) := by decide +kernel
theorem dL_law_699 : decode cL_law 699 = .ok (.iconst 3, 1) := by decide +kernel
theorem dL_law_700 : decode cL_law 700 = .ok (.iadd, 1) := by decide +kernel
theorem dL_law_701 : decode cL_law 701 = .ok (.iaload, 1) := by decide +kernel
theorem dL_law_702 : decode cL_law 702 = .ok (.aload_n 0, 1) := by decide +kernel
theorem dL_law_703 : decode cL_law 703 = .ok (.iload_n 3, 1) := by decide +kernel
theorem dL_law_704 : decode cL_law 704 = .ok (.iconst 4, 1) := by decide +kernel
theorem dL_law_705 : decode cL_law 705 = .ok (.iadd, 1) := by decide +kernel
theorem dL_law_706 : decode cL_law 706 = .ok (.iaload, 1) := by decide +kernel
theorem dL_law_707 : decode cL_law 707 = .ok (.aload_n 0, 1) := by decide +kernel
theorem dL_law_708 : decode cL_law 708 = .ok (.iload_n 3, 1) := by decide +kernel
theorem dL_law_709 : decode cL_law 709 = .ok (.iconst 5, 1) := by decide +kernel
theorem dL_law_710 : decode cL_law 710 = .ok (.iadd, 1) := by decide +kernel
theorem dL_law_711 : decode cL_law 711 = .ok (.iaload, 1) := by decide +kernel
theorem dL_law_712 : decode cL_law 712 = .ok (.aload_n 0, 1) := by decide +kernel
theorem dL_law_713 : decode cL_law 713 = .ok (.iload_n 3, 1) := by decide +kernel
theorem dL_law_714 : decode cL_law 714 = .ok (.bipush 6, 2) := by decide +kernel
theorem dL_law_716 : decode cL_law 716 = .ok (.iadd, 1) := by decide +kernel
theorem dL_law_717 : decode cL_law 717 = .ok (.iaload, 1) := by decide +kernel
theorem dL_law_718 : decode cL_law 718 = .ok (.invokevirtual 85, 3) := by decide +kernel
theorem dL_law_721 : decode cL_law 721 = .ok (.aload_n 2, 1) := by decide +kernel
theorem dL_law_722 : decode cL_law 722 = .ok (.aload_n 0, 1) := by decide +kernel
theorem dL_law_723 : decode cL_law 723 = .ok (.iload_n 3, 1) := by decide +kernel
theorem dL_law_724 : decode cL_law 724 = .ok (.iconst 1, 1) := by decide +kernel
theorem dL_law_725 : decode cL_law 725 = .ok (.iadd, 1) := by decide +kernel
theorem dL_law_726 : decode cL_law 726 = .ok (.iaload, 1) := by decide +kernel
theorem dL_law_727 : decode cL_law 727 = .ok (.aload_n 0, 1) := by decide +kernel
theorem dL_law_728 : decode cL_law 728 = .ok (.iload_n 3, 1) := by decide +kernel
theorem dL_law_729 : decode cL_law 729 = .ok (.iconst 2, 1) := by decide +kernel
theorem dL_law_730 : decode cL_law 730 = .ok (.iadd, 1) := by decide +kernel
theorem dL_law_731 : decode cL_law 731 = .ok (.iaload, 1) := by decide +kernel
theorem dL_law_732 : decode cL_law 732 = .ok (.aload_n 0, 1) := by decide +kernel
theorem dL_law_733 : decode cL_law 733 = .ok (.iload_n 3, 1) := by decide +kernel
theorem dL_law_734 : decode cL_law 734 = .ok (.iconst 3, 1) := by decide +kernel
theorem dL_law_735 : decode cL_law 735 = .ok (.iadd, 1) := by decide +kernel
theorem dL_law_736 : decode cL_law 736 = .ok (.iaload, 1) := by decide +kernel
theorem dL_law_737 : decode cL_law 737 = .ok (.aload_n 0, 1) := by decide +kernel
theorem dL_law_738 : decode cL_law 738 = .ok (.iload_n 3, 1) := by decide +kernel
theorem dL_law_739 : decode cL_law 739 = .ok (.iconst 4, 1) := by decide +kernel
theorem dL_law_740 : decode cL_law 740 = .ok (.iadd, 1) := by decide +kernel
theorem dL_law_741 : decode cL_law 741 = .ok (.iaload, 1) := by decide +kernel
theorem dL_law_742 : decode cL_law 742 = .ok (.aload_n 0, 1) := by decide +kernel
theorem dL_law_743 : decode cL_law 743 = .ok (.iload_n 3, 1) := by decide +kernel
theorem dL_law_744 : decode cL_law 744 = .ok (.iconst 5, 1) := by decide +kernel
theorem dL_law_745 : decode cL_law 745 = .ok (.iadd, 1) := by decide +kernel
theorem dL_law_746 : decode cL_law 746 = .ok (.iaload, 1) := by decide +kernel
theorem dL_law_747 : decode cL_law 747 = .ok (.aload_n 0, 1) := by decide +kernel
theorem dL_law_748 : decode cL_law 748 = .ok (.iload_n 3, 1) := by decide +kernel
theorem dL_law_749 : decode cL_law 749 = .ok (.bipush 6, 2) := by decide +kernel
theorem dL_law_751 : decode cL_law 751 = .ok (.iadd, 1) := by decide +kernel
theorem dL_law_752 : decode cL_law 752 = .ok (.iaload, 1) := by decide +kernel
theorem dL_law_753 : decode cL_law 753 = .ok (.invokevirtual 89, 3) := by decide +kernel
theorem dL_law_756 : decode cL_law 756 = .ok (.if_icmp .eq 585, 3) := by decide +kernel
theorem dL_law_759 : decode cL_law 759 = .ok (.iconst 0, 1) := by decide +kernel
theorem dL_law_760 : decode cL_law 760 = .ok (.ireturn, 1) := by decide +kernel
theorem dL_law_761 : decode cL_law 761 = .ok (.aload_n 1, 1) := by decide +kernel
theorem dL_law_762 : decode cL_law 762 = .ok (.aload_n 0, 1) := by decide +kernel
theorem dL_law_763 : decode cL_law 763 = .ok (.iload_n 3, 1) := by decide +kernel
theorem dL_law_764 : decode cL_law 764 = .ok (.iconst 1, 1) := by decide +kernel
theorem dL_law_765 : decode cL_law 765 = .ok (.iadd, 1) := by decide +kernel
theorem dL_law_766 : decode cL_law 766 = .ok (.iaload, 1) := by decide +kernel
theorem dL_law_767 : decode cL_law 767 = .ok (.aload_n 0, 1) := by decide +kernel
theorem dL_law_768 : decode cL_law 768 = .ok (.iload_n 3, 1) := by decide +kernel
theorem dL_law_769 : decode cL_law 769 = .ok (.iconst 2, 1) := by decide +kernel
theorem dL_law_770 : decode cL_law 770 = .ok (.iadd, 1) := by decide +kernel
theorem dL_law_771 : decode cL_law 771 = .ok (.iaload, 1) := by decide +kernel
theorem dL_law_772 : decode cL_law 772 = .ok (.aload_n 0, 1) := by decide +kernel
theorem dL_law_773 : decode cL_law 773 = .ok (.iload_n 3, 1) := by decide +kernel
theorem dL_law_774 : decode cL_law 774 = .ok (.iconst 3, 1) := by decide +kernel
theorem dL_law_775 : decode cL_law 775 = .ok (.iadd, 1) := by decide +kernel
theorem dL_law_776 : decode cL_law 776 = .ok (.iaload, 1) := by decide +kernel
theorem dL_law_777 : decode cL_law 777 = .ok (.aload_n 0, 1) := by decide +kernel
theorem dL_law_778 : decode cL_law 778 = .ok (.iload_n 3, 1) := by decide +kernel
theorem dL_law_779 : decode cL_law 779 = .ok (.iconst 4, 1) := by decide +kernel
theorem dL_law_780 : decode cL_law 780 = .ok (.iadd, 1) := by decide +kernel
theorem dL_law_781 : decode cL_law 781 = .ok (.iaload, 1) := by decide +kernel
theorem dL_law_782 : decode cL_law 782 = .ok (.aload_n 0, 1) := by decide +kernel
theorem dL_law_783 : decode cL_law 783 = .ok (.iload_n 3, 1) := by decide +kernel
theorem dL_law_784 : decode cL_law 784 = .ok (.iconst 5, 1) := by decide +kernel
theorem dL_law_785 : decode cL_law 785 = .ok (.iadd, 1) := by decide +kernel
theorem dL_law_786 : decode cL_law 786 = .ok (.iaload, 1) := by decide +kernel
theorem dL_law_787 : decode cL_law 787 = .ok (.aload_n 0, 1) := by decide +kernel
theorem dL_law_788 : decode cL_law 788 = .ok (.iload_n 3, 1) := by decide +kernel
theorem dL_law_789 : decode cL_law 789 = .ok (.bipush 6, 2) := by decide +kernel
theorem dL_law_791 : decode cL_law 791 = .ok (.iadd, 1) := by decide +kernel
theorem dL_law_792 : decode cL_law 792 = .ok (.iaload, 1) := by decide +kernel
theorem dL_law_793 : decode cL_law 793 = .ok (.aload_n 0, 1) := by decide +kernel
theorem dL_law_794 : decode cL_law 794 = .ok (.iload_n 3, 1) := by decide +kernel
theorem dL_law_795 : decode cL_law 795 = .ok (.bipush 7, 2) := by decide +kernel
theorem dL_law_797 : decode cL_law 797 = .ok (.iadd, 1) := by decide +kernel
theorem dL_law_798 : decode cL_law 798 = .ok (.iaload, 1) := by decide +kernel
theorem dL_law_799 : decode cL_law 799 = .ok (.invokevirtual 90, 3) := by decide +kernel
theorem dL_law_802 : decode cL_law 802 = .ok (.aload_n 2, 1) := by decide +kernel
theorem dL_law_803 : decode cL_law 803 = .ok (.aload_n 0, 1) := by decide +kernel
theorem dL_law_804 : decode cL_law 804 = .ok (.iload_n 3, 1) := by decide +kernel
theorem dL_law_805 : decode cL_law 805 = .ok (.iconst 1, 1) := by decide +kernel
theorem dL_law_806 : decode cL_law 806 = .ok (.iadd, 1) := by decide +kernel
theorem dL_law_807 : decode cL_law 807 = .ok (.iaload, 1) := by decide +kernel
theorem dL_law_808 : decode cL_law 808 = .ok (.aload_n 0, 1) := by decide +kernel
theorem dL_law_809 : decode cL_law 809 = .ok (.iload_n 3, 1) := by decide +kernel
theorem dL_law_810 : decode cL_law 810 = .ok (.iconst 2, 1) := by decide +kernel
theorem dL_law_811 : decode cL_law 811 = .ok (.iadd, 1) := by decide +kernel
theorem dL_law_812 : decode cL_law 812 = .ok (.iaload, 1) := by decide +kernel
theorem dL_law_813 : decode cL_law 813 = .ok (.aload_n 0, 1) := by decide +kernel
theorem dL_law_814 : decode cL_law 814 = .ok (.iload_n 3, 1) := by decide +kernel
theorem dL_law_815 : decode cL_law 815 = .ok (.iconst 3, 1) := by decide +kernel
theorem dL_law_816 : decode cL_law 816 = .ok (.iadd, 1) := by decide +kernel
theorem dL_law_817 : decode cL_law 817 = .ok (.iaload, 1) := by decide +kernel
theorem dL_law_818 : decode cL_law 818 = .ok (.aload_n 0, 1) := by decide +kernel
theorem dL_law_819 : decode cL_law 819 = .ok (.iload_n 3, 1) := by decide +kernel
theorem dL_law_820 : decode cL_law 820 = .ok (.iconst 4, 1) := by decide +kernel
theorem dL_law_821 : decode cL_law 821 = .ok (.iadd, 1) := by decide +kernel
theorem dL_law_822 : decode cL_law 822 = .ok (.iaload, 1) := by decide +kernel
theorem dL_law_823 : decode cL_law 823 = .ok (.aload_n 0, 1) := by decide +kernel
theorem dL_law_824 : decode cL_law 824 = .ok (.iload_n 3, 1) := by decide +kernel
theorem dL_law_825 : decode cL_law 825 = .ok (.iconst 5, 1) := by decide +kernel
theorem dL_law_826 : decode cL_law 826 = .ok (.iadd, 1) := by decide +kernel
theorem dL_law_827 : decode cL_law 827 = .ok (.iaload, 1) := by decide +kernel
theorem dL_law_828 : decode cL_law 828 = .ok (.aload_n 0, 1) := by decide +kernel
theorem dL_law_829 : decode cL_law 829 = .ok (.iload_n 3, 1) := by decide +kernel
theorem dL_law_830 : decode cL_law 830 = .ok (.bipush 6, 2) := by decide +kernel
theorem dL_law_832 : decode cL_law 832 = .ok (.iadd, 1) := by decide +kernel
theorem dL_law_833 : decode cL_law 833 = .ok (.iaload, 1) := by decide +kernel
theorem dL_law_834 : decode cL_law 834 = .ok (.aload_n 0, 1) := by decide +kernel
theorem dL_law_835 : decode cL_law 835 = .ok (.iload_n 3, 1) := by decide +kernel
theorem dL_law_836 : decode cL_law 836 = .ok (.bipush 7, 2) := by decide +kernel
theorem dL_law_838 : decode cL_law 838 = .ok (.iadd, 1) := by decide +kernel
theorem dL_law_839 : decode cL_law 839 = .ok (.iaload, 1) := by decide +kernel
theorem dL_law_840 : decode cL_law 840 = .ok (.invokevirtual 94, 3) := by decide +kernel
theorem dL_law_843 : decode cL_law 843 = .ok (.lcmp, 1) := by decide +kernel
theorem dL_law_844 : decode cL_law 844 = .ok (.ifCond .eq 497, 3) := by decide +kernel
theorem dL_law_847 : decode cL_law 847 = .ok (.iconst 0, 1) := by decide +kernel
theorem dL_law_848 : decode cL_law 848 = .ok (.ireturn, 1) := by decide +kernel
theorem dL_law_849 : decode cL_law 849 = .ok (.aload_n 1, 1) := by decide +kernel
theorem dL_law_850 : decode cL_law 850 = .ok (.invokevirtual 95, 3) := by decide +kernel
theorem dL_law_853 : decode cL_law 853 = .ok (.aload_n 2, 1) := by decide +kernel
theorem dL_law_854 : decode cL_law 854 = .ok (.invokevirtual 98, 3) := by decide +kernel
theorem dL_law_857 : decode cL_law 857 = .ok (.if_icmp .eq 484, 3) := by decide +kernel
theorem dL_law_860 : decode cL_law 860 = .ok (.iconst 0, 1) := by decide +kernel
theorem dL_law_861 : decode cL_law 861 = .ok (.ireturn, 1) := by decide +kernel
theorem dL_law_862 : decode cL_law 862 = .ok (.aload_n 1, 1) := by decide +kernel
theorem dL_law_863 : decode cL_law 863 = .ok (.aload_n 0, 1) := by decide +kernel
theorem dL_law_864 : decode cL_law 864 = .ok (.iload_n 3, 1) := by decide +kernel
theorem dL_law_865 : decode cL_law 865 = .ok (.iconst 1, 1) := by decide +kernel
theorem dL_law_866 : decode cL_law 866 = .ok (.iadd, 1) := by decide +kernel
theorem dL_law_867 : decode cL_law 867 = .ok (.iaload, 1) := by decide +kernel
theorem dL_law_868 : decode cL_law 868 = .ok (.aload_n 0, 1) := by decide +kernel
theorem dL_law_869 : decode cL_law 869 = .ok (.iload_n 3, 1) := by decide +kernel
theorem dL_law_870 : decode cL_law 870 = .ok (.iconst 2, 1) := by decide +kernel
theorem dL_law_871 : decode cL_law 871 = .ok (.iadd, 1) := by decide +kernel
theorem dL_law_872 : decode cL_law 872 = .ok (.iaload, 1) := by decide +kernel
theorem dL_law_873 : decode cL_law 873 = .ok (.invokevirtual 99, 3) := by decide +kernel
theorem dL_law_876 : decode cL_law 876 = .ok (.aload_n 2, 1) := by decide +kernel
theorem dL_law_877 : decode cL_law 877 = .ok (.aload_n 0, 1) := by decide +kernel
theorem dL_law_878 : decode cL_law 878 = .ok (.iload_n 3, 1) := by decide +kernel
theorem dL_law_879 : decode cL_law 879 = .ok (.iconst 1, 1) := by decide +kernel
theorem dL_law_880 : decode cL_law 880 = .ok (.iadd, 1) := by decide +kernel
theorem dL_law_881 : decode cL_law 881 = .ok (.iaload, 1) := by decide +kernel
theorem dL_law_882 : decode cL_law 882 = .ok (.aload_n 0, 1) := by decide +kernel
theorem dL_law_883 : decode cL_law 883 = .ok (.iload_n 3, 1) := by decide +kernel
theorem dL_law_884 : decode cL_law 884 = .ok (.iconst 2, 1) := by decide +kernel
theorem dL_law_885 : decode cL_law 885 = .ok (.iadd, 1) := by decide +kernel
theorem dL_law_886 : decode cL_law 886 = .ok (.iaload, 1) := by decide +kernel
theorem dL_law_887 : decode cL_law 887 = .ok (.invokevirtual 102, 3) := by decide +kernel
theorem dL_law_890 : decode cL_law 890 = .ok (.if_icmp .eq 451, 3) := by decide +kernel
theorem dL_law_893 : decode cL_law 893 = .ok (.iconst 0, 1) := by decide +kernel
theorem dL_law_894 : decode cL_law 894 = .ok (.ireturn, 1) := by decide +kernel
theorem dL_law_895 : decode cL_law 895 = .ok (.aload_n 1, 1) := by decide +kernel
theorem dL_law_896 : decode cL_law 896 = .ok (.aload_n 0, 1) := by decide +kernel
theorem dL_law_897 : decode cL_law 897 = .ok (.iload_n 3, 1) := by decide +kernel
theorem dL_law_898 : decode cL_law 898 = .ok (.iconst 1, 1) := by decide +kernel
theorem dL_law_899 : decode cL_law 899 = .ok (.iadd, 1) := by decide +kernel
theorem dL_law_900 : decode cL_law 900 = .ok (.iaload, 1) := by decide +kernel
theorem dL_law_901 : decode cL_law 901 = .ok (.aload_n 0, 1) := by decide +kernel
theorem dL_law_902 : decode cL_law 902 = .ok (.iload_n 3, 1) := by decide +kernel
theorem dL_law_903 : decode cL_law 903 = .ok (.iconst 2, 1) := by decide +kernel
theorem dL_law_904 : decode cL_law 904 = .ok (.iadd, 1) := by decide +kernel
theorem dL_law_905 : decode cL_law 905 = .ok (.iaload, 1) := by decide +kernel
theorem dL_law_906 : decode cL_law 906 = .ok (.aload_n 0, 1) := by decide +kernel
theorem dL_law_907 : decode cL_law 907 = .ok (.iload_n 3, 1) := by decide +kernel
theorem dL_law_908 : decode cL_law 908 = .ok (.iconst 3, 1) := by decide +kernel
theorem dL_law_909 : decode cL_law 909 = .ok (.iadd, 1) := by decide +kernel
theorem dL_law_910 : decode cL_law 910 = .ok (.iaload, 1) := by decide +kernel
theorem dL_law_911 : decode cL_law 911 = .ok (.aload_n 0, 1) := by decide +kernel
theorem dL_law_912 : decode cL_law 912 = .ok (.iload_n 3, 1) := by decide +kernel
theorem dL_law_913 : decode cL_law 913 = .ok (.iconst 4, 1) := by decide +kernel
theorem dL_law_914 : decode cL_law 914 = .ok (.iadd, 1) := by decide +kernel
theorem dL_law_915 : decode cL_law 915 = .ok (.iaload, 1) := by decide +kernel
theorem dL_law_916 : decode cL_law 916 = .ok (.invokevirtual 103, 3) := by decide +kernel
theorem dL_law_919 : decode cL_law 919 = .ok (.aload_n 2, 1) := by decide +kernel
theorem dL_law_920 : decode cL_law 920 = .ok (.aload_n 0, 1) := by decide +kernel
theorem dL_law_921 : decode cL_law 921 = .ok (.iload_n 3, 1) := by decide +kernel
theorem dL_law_922 : decode cL_law 922 = .ok (.iconst 1, 1) := by decide +kernel
theorem dL_law_923 : decode cL_law 923 = .ok (.iadd, 1) := by decide +kernel
theorem dL_law_924 : decode cL_law 924 = .ok (.iaload, 1) := by decide +kernel
theorem dL_law_925 : decode cL_law 925 = .ok (.aload_n 0, 1) := by decide +kernel
theorem dL_law_926 : decode cL_law 926 = .ok (.iload_n 3, 1) := by decide +kernel
theorem dL_law_927 : decode cL_law 927 = .ok (.iconst 2, 1) := by decide +kernel
theorem dL_law_928 : decode cL_law 928 = .ok (.iadd, 1) := by decide +kernel
theorem dL_law_929 : decode cL_law 929 = .ok (.iaload, 1) := by decide +kernel
theorem dL_law_930 : decode cL_law 930 = .ok (.aload_n 0, 1) := by decide +kernel
theorem dL_law_931 : decode cL_law 931 = .ok (.iload_n 3, 1) := by decide +kernel
theorem dL_law_932 : decode cL_law 932 = .ok (.iconst 3, 1) := by decide +kernel
theorem dL_law_933 : decode cL_law 933 = .ok (.iadd, 1) := by decide +kernel
theorem dL_law_934 : decode cL_law 934 = .ok (.iaload, 1) := by decide +kernel
theorem dL_law_935 : decode cL_law 935 = .ok (.aload_n 0, 1) := by decide +kernel
theorem dL_law_936 : decode cL_law 936 = .ok (.iload_n 3, 1) := by decide +kernel
theorem dL_law_937 : decode cL_law 937 = .ok (.iconst 4, 1) := by decide +kernel
theorem dL_law_938 : decode cL_law 938 = .ok (.iadd, 1) := by decide +kernel
theorem dL_law_939 : decode cL_law 939 = .ok (.iaload, 1) := by decide +kernel
theorem dL_law_940 : decode cL_law 940 = .ok (.invokevirtual 106, 3) := by decide +kernel
theorem dL_law_943 : decode cL_law 943 = .ok (.if_icmp .eq 398, 3) := by decide +kernel
theorem dL_law_946 : decode cL_law 946 = .ok (.iconst 0, 1) := by decide +kernel
theorem dL_law_947 : decode cL_law 947 = .ok (.ireturn, 1) := by decide +kernel
theorem dL_law_948 : decode cL_law 948 = .ok (.aload_n 1, 1) := by decide +kernel
theorem dL_law_949 : decode cL_law 949 = .ok (.aload_n 0, 1) := by decide +kernel
theorem dL_law_950 : decode cL_law 950 = .ok (.iload_n 3, 1) := by decide +kernel
theorem dL_law_951 : decode cL_law 951 = .ok (.iconst 1, 1) := by decide +kernel
theorem dL_law_952 : decode cL_law 952 = .ok (.iadd, 1) := by decide +kernel
theorem dL_law_953 : decode cL_law 953 = .ok (.iaload, 1) := by decide +kernel
theorem dL_law_954 : decode cL_law 954 = .ok (.aload_n 0, 1) := by decide +kernel
theorem dL_law_955 : decode cL_law 955 = .ok (.iload_n 3, 1) := by decide +kernel
theorem dL_law_956 : decode cL_law 956 = .ok (.iconst 2, 1) := by decide +kernel
theorem dL_law_957 : decode cL_law 957 = .ok (.iadd, 1) := by decide +kernel
theorem dL_law_958 : decode cL_law 958 = .ok (.iaload, 1) := by decide +kernel
theorem dL_law_959 : decode cL_law 959 = .ok (.invokevirtual 107, 3) := by decide +kernel
theorem dL_law_962 : decode cL_law 962 = .ok (.aload_n 2, 1) := by decide +kernel
theorem dL_law_963 : decode cL_law 963 = .ok (.aload_n 0, 1) := by decide +kernel
theorem dL_law_964 : decode cL_law 964 = .ok (.iload_n 3, 1) := by decide +kernel
theorem dL_law_965 : decode cL_law 965 = .ok (.iconst 1, 1) := by decide +kernel
theorem dL_law_966 : decode cL_law 966 = .ok (.iadd, 1) := by decide +kernel
theorem dL_law_967 : decode cL_law 967 = .ok (.iaload, 1) := by decide +kernel
theorem dL_law_968 : decode cL_law 968 = .ok (.aload_n 0, 1) := by decide +kernel
theorem dL_law_969 : decode cL_law 969 = .ok (.iload_n 3, 1) := by decide +kernel
theorem dL_law_970 : decode cL_law 970 = .ok (.iconst 2, 1) := by decide +kernel
theorem dL_law_971 : decode cL_law 971 = .ok (.iadd, 1) := by decide +kernel
theorem dL_law_972 : decode cL_law 972 = .ok (.iaload, 1) := by decide +kernel
theorem dL_law_973 : decode cL_law 973 = .ok (.invokevirtual 110, 3) := by decide +kernel
theorem dL_law_976 : decode cL_law 976 = .ok (.if_icmp .eq 365, 3) := by decide +kernel
theorem dL_law_979 : decode cL_law 979 = .ok (.iconst 0, 1) := by decide +kernel
theorem dL_law_980 : decode cL_law 980 = .ok (.ireturn, 1) := by decide +kernel
theorem dL_law_981 : decode cL_law 981 = .ok (.aload_n 1, 1) := by decide +kernel
theorem dL_law_982 : decode cL_law 982 = .ok (.aload_n 0, 1) := by decide +kernel
theorem dL_law_983 : decode cL_law 983 = .ok (.iload_n 3, 1) := by decide +kernel
theorem dL_law_984 : decode cL_law 984 = .ok (.iconst 1, 1) := by decide +kernel
theorem dL_law_985 : decode cL_law 985 = .ok (.iadd, 1) := by decide +kernel
theorem dL_law_986 : decode cL_law 986 = .ok (.iaload, 1) := by decide +kernel
theorem dL_law_987 : decode cL_law 987 = .ok (.aload_n 0, 1) := by decide +kernel
theorem dL_law_988 : decode cL_law 988 = .ok (.iload_n 3, 1) := by decide +kernel
theorem dL_law_989 : decode cL_law 989 = .ok (.iconst 2, 1) := by decide +kernel
theorem dL_law_990 : decode cL_law 990 = .ok (.iadd, 1) := by decide +kernel
theorem dL_law_991 : decode cL_law 991 = .ok (.iaload, 1) := by decide +kernel
theorem dL_law_992 : decode cL_law 992 = .ok (.invokevirtual 111, 3) := by decide +kernel
theorem dL_law_995 : decode cL_law 995 = .ok (.aload_n 2, 1) := by decide +kernel
theorem dL_law_996 : decode cL_law 996 = .ok (.aload_n 0, 1) := by decide +kernel
theorem dL_law_997 : decode cL_law 997 = .ok (.iload_n 3, 1) := by decide +kernel
theorem dL_law_998 : decode cL_law 998 = .ok (.iconst 1, 1) := by decide +kernel
theorem dL_law_999 : decode cL_law 999 = .ok (.iadd, 1) := by decide +kernel
theorem dL_law_1000 : decode cL_law 1000 = .ok (.iaload, 1) := by decide +kernel
theorem dL_law_1001 : decode cL_law 1001 = .ok (.aload_n 0, 1) := by decide +kernel
theorem dL_law_1002 : decode cL_law 1002 = .ok (.iload_n 3, 1) := by decide +kernel
theorem dL_law_1003 : decode cL_law 1003 = .ok (.iconst 2, 1) := by decide +kernel
theorem dL_law_1004 : decode cL_law 1004 = .ok (.iadd, 1) := by decide +kernel
theorem dL_law_1005 : decode cL_law 1005 = .ok (.iaload, 1) := by decide +kernel
theorem dL_law_1006 : decode cL_law 1006 = .ok (.invokevirtual 114, 3) := by decide +kernel
theorem dL_law_1009 : decode cL_law 1009 = .ok (.if_icmp .eq 332, 3) := by decide +kernel
theorem dL_law_1012 : decode cL_law 1012 = .ok (.iconst 0, 1) := by decide +kernel
theorem dL_law_1013 : decode cL_law 1013 = .ok (.ireturn, 1) := by decide +kernel
theorem dL_law_1014 : decode cL_law 1014 = .ok (.aload_n 1, 1) := by decide +kernel
theorem dL_law_1015 : decode cL_law 1015 = .ok (.invokevirtual 115, 3) := by decide +kernel
theorem dL_law_1018 : decode cL_law 1018 = .ok (.aload_n 2, 1) := by decide +kernel
theorem dL_law_1019 : decode cL_law 1019 = .ok (.invokevirtual 119, 3) := by decide +kernel
theorem dL_law_1022 : decode cL_law 1022 = .ok (.lcmp, 1) := by decide +kernel
theorem dL_law_1023 : decode cL_law 1023 = .ok (.ifCond .eq 318, 3) := by decide +kernel
theorem dL_law_1026 : decode cL_law 1026 = .ok (.iconst 0, 1) := by decide +kernel
theorem dL_law_1027 : decode cL_law 1027 = .ok (.ireturn, 1) := by decide +kernel
theorem dL_law_1028 : decode cL_law 1028 = .ok (.aload_n 1, 1) := by decide +kernel
theorem dL_law_1029 : decode cL_law 1029 = .ok (.aload_n 0, 1) := by decide +kernel
theorem dL_law_1030 : decode cL_law 1030 = .ok (.iload_n 3, 1) := by decide +kernel
theorem dL_law_1031 : decode cL_law 1031 = .ok (.iconst 1, 1) := by decide +kernel
theorem dL_law_1032 : decode cL_law 1032 = .ok (.iadd, 1) := by decide +kernel
theorem dL_law_1033 : decode cL_law 1033 = .ok (.iaload, 1) := by decide +kernel
theorem dL_law_1034 : decode cL_law 1034 = .ok (.invokevirtual 120, 3) := by decide +kernel
theorem dL_law_1037 : decode cL_law 1037 = .ok (.aload_n 2, 1) := by decide +kernel
theorem dL_law_1038 : decode cL_law 1038 = .ok (.aload_n 0, 1) := by decide +kernel
theorem dL_law_1039 : decode cL_law 1039 = .ok (.iload_n 3, 1) := by decide +kernel
theorem dL_law_1040 : decode cL_law 1040 = .ok (.iconst 1, 1) := by decide +kernel
theorem dL_law_1041 : decode cL_law 1041 = .ok (.iadd, 1) := by decide +kernel
theorem dL_law_1042 : decode cL_law 1042 = .ok (.iaload, 1) := by decide +kernel
theorem dL_law_1043 : decode cL_law 1043 = .ok (.invokevirtual 123, 3) := by decide +kernel
theorem dL_law_1046 : decode cL_law 1046 = .ok (.if_icmp .eq 295, 3) := by decide +kernel
theorem dL_law_1049 : decode cL_law 1049 = .ok (.iconst 0, 1) := by decide +kernel
theorem dL_law_1050 : decode cL_law 1050 = .ok (.ireturn, 1) := by decide +kernel
theorem dL_law_1051 : decode cL_law 1051 = .ok (.aload_n 1, 1) := by decide +kernel
theorem dL_law_1052 : decode cL_law 1052 = .ok (.aload_n 0, 1) := by decide +kernel
theorem dL_law_1053 : decode cL_law 1053 = .ok (.iload_n 3, 1) := by decide +kernel
theorem dL_law_1054 : decode cL_law 1054 = .ok (.iconst 1, 1) := by decide +kernel
theorem dL_law_1055 : decode cL_law 1055 = .ok (.iadd, 1) := by decide +kernel
theorem dL_law_1056 : decode cL_law 1056 = .ok (.iaload, 1) := by decide +kernel
theorem dL_law_1057 : decode cL_law 1057 = .ok (.invokevirtual 124, 3) := by decide +kernel
theorem dL_law_1060 : decode cL_law 1060 = .ok (.aload_n 2, 1) := by decide +kernel
theorem dL_law_1061 : decode cL_law 1061 = .ok (.aload_n 0, 1) := by decide +kernel
theorem dL_law_1062 : decode cL_law 1062 = .ok (.iload_n 3, 1) := by decide +kernel
theorem dL_law_1063 : decode cL_law 1063 = .ok (.iconst 1, 1) := by decide +kernel
theorem dL_law_1064 : decode cL_law 1064 = .ok (.iadd, 1) := by decide +kernel
theorem dL_law_1065 : decode cL_law 1065 = .ok (.iaload, 1) := by decide +kernel
theorem dL_law_1066 : decode cL_law 1066 = .ok (.invokevirtual 127, 3) := by decide +kernel
theorem dL_law_1069 : decode cL_law 1069 = .ok (.if_icmp .eq 272, 3) := by decide +kernel
theorem dL_law_1072 : decode cL_law 1072 = .ok (.iconst 0, 1) := by decide +kernel
theorem dL_law_1073 : decode cL_law 1073 = .ok (.ireturn, 1) := by decide +kernel
theorem dL_law_1074 : decode cL_law 1074 = .ok (.aload_n 1, 1) := by decide +kernel
theorem dL_law_1075 : decode cL_law 1075 = .ok (.aload_n 0, 1) := by decide +kernel
theorem dL_law_1076 : decode cL_law 1076 = .ok (.iload_n 3, 1) := by decide +kernel
theorem dL_law_1077 : decode cL_law 1077 = .ok (.iconst 1, 1) := by decide +kernel
theorem dL_law_1078 : decode cL_law 1078 = .ok (.iadd, 1) := by decide +kernel
theorem dL_law_1079 : decode cL_law 1079 = .ok (.iaload, 1) := by decide +kernel
theorem dL_law_1080 : decode cL_law 1080 = .ok (.aload_n 0, 1) := by decide +kernel
theorem dL_law_1081 : decode cL_law 1081 = .ok (.iload_n 3, 1) := by decide +kernel
theorem dL_law_1082 : decode cL_law 1082 = .ok (.iconst 2, 1) := by decide +kernel
theorem dL_law_1083 : decode cL_law 1083 = .ok (.iadd, 1) := by decide +kernel
theorem dL_law_1084 : decode cL_law 1084 = .ok (.iaload, 1) := by decide +kernel
theorem dL_law_1085 : decode cL_law 1085 = .ok (.invokevirtual 128, 3) := by decide +kernel
theorem dL_law_1088 : decode cL_law 1088 = .ok (.aload_n 2, 1) := by decide +kernel
theorem dL_law_1089 : decode cL_law 1089 = .ok (.aload_n 0, 1) := by decide +kernel
theorem dL_law_1090 : decode cL_law 1090 = .ok (.iload_n 3, 1) := by decide +kernel
theorem dL_law_1091 : decode cL_law 1091 = .ok (.iconst 1, 1) := by decide +kernel
theorem dL_law_1092 : decode cL_law 1092 = .ok (.iadd, 1) := by decide +kernel
theorem dL_law_1093 : decode cL_law 1093 = .ok (.iaload, 1) := by decide +kernel
theorem dL_law_1094 : decode cL_law 1094 = .ok (.aload_n 0, 1) := by decide +kernel
theorem dL_law_1095 : decode cL_law 1095 = .ok (.iload_n 3, 1) := by decide +kernel
theorem dL_law_1096 : decode cL_law 1096 = .ok (.iconst 2, 1) := by decide +kernel
theorem dL_law_1097 : decode cL_law 1097 = .ok (.iadd, 1) := by decide +kernel
theorem dL_law_1098 : decode cL_law 1098 = .ok (.iaload, 1) := by decide +kernel
theorem dL_law_1099 : decode cL_law 1099 = .ok (.invokevirtual 131, 3) := by decide +kernel
theorem dL_law_1102 : decode cL_law 1102 = .ok (.if_icmp .eq 239, 3) := by decide +kernel
theorem dL_law_1105 : decode cL_law 1105 = .ok (.iconst 0, 1) := by decide +kernel
theorem dL_law_1106 : decode cL_law 1106 = .ok (.ireturn, 1) := by decide +kernel
theorem dL_law_1107 : decode cL_law 1107 = .ok (.aload_n 1, 1) := by decide +kernel
theorem dL_law_1108 : decode cL_law 1108 = .ok (.aload_n 0, 1) := by decide +kernel
theorem dL_law_1109 : decode cL_law 1109 = .ok (.iload_n 3, 1) := by decide +kernel
theorem dL_law_1110 : decode cL_law 1110 = .ok (.iconst 1, 1) := by decide +kernel
theorem dL_law_1111 : decode cL_law 1111 = .ok (.iadd, 1) := by decide +kernel
theorem dL_law_1112 : decode cL_law 1112 = .ok (.iaload, 1) := by decide +kernel
theorem dL_law_1113 : decode cL_law 1113 = .ok (.aload_n 0, 1) := by decide +kernel
theorem dL_law_1114 : decode cL_law 1114 = .ok (.iload_n 3, 1) := by decide +kernel
theorem dL_law_1115 : decode cL_law 1115 = .ok (.iconst 2, 1) := by decide +kernel
theorem dL_law_1116 : decode cL_law 1116 = .ok (.iadd, 1) := by decide +kernel
theorem dL_law_1117 : decode cL_law 1117 = .ok (.iaload, 1) := by decide +kernel
theorem dL_law_1118 : decode cL_law 1118 = .ok (.invokevirtual 132, 3) := by decide +kernel
theorem dL_law_1121 : decode cL_law 1121 = .ok (.aload_n 2, 1) := by decide +kernel
theorem dL_law_1122 : decode cL_law 1122 = .ok (.aload_n 0, 1) := by decide +kernel
theorem dL_law_1123 : decode cL_law 1123 = .ok (.iload_n 3, 1) := by decide +kernel
theorem dL_law_1124 : decode cL_law 1124 = .ok (.iconst 1, 1) := by decide +kernel
theorem dL_law_1125 : decode cL_law 1125 = .ok (.iadd, 1) := by decide +kernel
theorem dL_law_1126 : decode cL_law 1126 = .ok (.iaload, 1) := by decide +kernel
theorem dL_law_1127 : decode cL_law 1127 = .ok (.aload_n 0, 1) := by decide +kernel
theorem dL_law_1128 : decode cL_law 1128 = .ok (.iload_n 3, 1) := by decide +kernel
theorem dL_law_1129 : decode cL_law 1129 = .ok (.iconst 2, 1) := by decide +kernel
theorem dL_law_1130 : decode cL_law 1130 = .ok (.iadd, 1) := by decide +kernel
theorem dL_law_1131 : decode cL_law 1131 = .ok (.iaload, 1) := by decide +kernel
theorem dL_law_1132 : decode cL_law 1132 = .ok (.invokevirtual 135, 3) := by decide +kernel
theorem dL_law_1135 : decode cL_law 1135 = .ok (.if_icmp .eq 206, 3) := by decide +kernel
theorem dL_law_1138 : decode cL_law 1138 = .ok (.iconst 0, 1) := by decide +kernel
theorem dL_law_1139 : decode cL_law 1139 = .ok (.ireturn, 1) := by decide +kernel
theorem dL_law_1140 : decode cL_law 1140 = .ok (.aload_n 1, 1) := by decide +kernel
theorem dL_law_1141 : decode cL_law 1141 = .ok (.invokevirtual 136, 3) := by decide +kernel
theorem dL_law_1144 : decode cL_law 1144 = .ok (.aload_n 2, 1) := by decide +kernel
theorem dL_law_1145 : decode cL_law 1145 = .ok (.invokevirtual 139, 3) := by decide +kernel
theorem dL_law_1148 : decode cL_law 1148 = .ok (.if_icmp .eq 193, 3) := by decide +kernel
theorem dL_law_1151 : decode cL_law 1151 = .ok (.iconst 0, 1) := by decide +kernel
theorem dL_law_1152 : decode cL_law 1152 = .ok (.ireturn, 1) := by decide +kernel
theorem dL_law_1153 : decode cL_law 1153 = .ok (.aload_n 1, 1) := by decide +kernel
theorem dL_law_1154 : decode cL_law 1154 = .ok (.aload_n 0, 1) := by decide +kernel
theorem dL_law_1155 : decode cL_law 1155 = .ok (.iload_n 3, 1) := by decide +kernel
theorem dL_law_1156 : decode cL_law 1156 = .ok (.iconst 1, 1) := by decide +kernel
theorem dL_law_1157 : decode cL_law 1157 = .ok (.iadd, 1) := by decide +kernel
theorem dL_law_1158 : decode cL_law 1158 = .ok (.iaload, 1) := by decide +kernel
theorem dL_law_1159 : decode cL_law 1159 = .ok (.aload_n 0, 1) := by decide +kernel
theorem dL_law_1160 : decode cL_law 1160 = .ok (.iload_n 3, 1) := by decide +kernel
theorem dL_law_1161 : decode cL_law 1161 = .ok (.iconst 2, 1) := by decide +kernel
theorem dL_law_1162 : decode cL_law 1162 = .ok (.iadd, 1) := by decide +kernel
theorem dL_law_1163 : decode cL_law 1163 = .ok (.iaload, 1) := by decide +kernel
theorem dL_law_1164 : decode cL_law 1164 = .ok (.aload_n 0, 1) := by decide +kernel
theorem dL_law_1165 : decode cL_law 1165 = .ok (.iload_n 3, 1) := by decide +kernel
theorem dL_law_1166 : decode cL_law 1166 = .ok (.iconst 3, 1) := by decide +kernel
theorem dL_law_1167 : decode cL_law 1167 = .ok (.iadd, 1) := by decide +kernel
theorem dL_law_1168 : decode cL_law 1168 = .ok (.iaload, 1) := by decide +kernel
theorem dL_law_1169 : decode cL_law 1169 = .ok (.invokevirtual 140, 3) := by decide +kernel
theorem dL_law_1172 : decode cL_law 1172 = .ok (.aload_n 2, 1) := by decide +kernel
theorem dL_law_1173 : decode cL_law 1173 = .ok (.aload_n 0, 1) := by decide +kernel
theorem dL_law_1174 : decode cL_law 1174 = .ok (.iload_n 3, 1) := by decide +kernel
theorem dL_law_1175 : decode cL_law 1175 = .ok (.iconst 1, 1) := by decide +kernel
theorem dL_law_1176 : decode cL_law 1176 = .ok (.iadd, 1) := by decide +kernel
theorem dL_law_1177 : decode cL_law 1177 = .ok (.iaload, 1) := by decide +kernel
theorem dL_law_1178 : decode cL_law 1178 = .ok (.aload_n 0, 1) := by decide +kernel
theorem dL_law_1179 : decode cL_law 1179 = .ok (.iload_n 3, 1) := by decide +kernel
theorem dL_law_1180 : decode cL_law 1180 = .ok (.iconst 2, 1) := by decide +kernel
theorem dL_law_1181 : decode cL_law 1181 = .ok (.iadd, 1) := by decide +kernel
theorem dL_law_1182 : decode cL_law 1182 = .ok (.iaload, 1) := by decide +kernel
theorem dL_law_1183 : decode cL_law 1183 = .ok (.aload_n 0, 1) := by decide +kernel
theorem dL_law_1184 : decode cL_law 1184 = .ok (.iload_n 3, 1) := by decide +kernel
theorem dL_law_1185 : decode cL_law 1185 = .ok (.iconst 3, 1) := by decide +kernel
theorem dL_law_1186 : decode cL_law 1186 = .ok (.iadd, 1) := by decide +kernel
theorem dL_law_1187 : decode cL_law 1187 = .ok (.iaload, 1) := by decide +kernel
theorem dL_law_1188 : decode cL_law 1188 = .ok (.invokevirtual 143, 3) := by decide +kernel
theorem dL_law_1191 : decode cL_law 1191 = .ok (.if_icmp .eq 150, 3) := by decide +kernel
theorem dL_law_1194 : decode cL_law 1194 = .ok (.iconst 0, 1) := by decide +kernel
theorem dL_law_1195 : decode cL_law 1195 = .ok (.ireturn, 1) := by decide +kernel
theorem dL_law_1196 : decode cL_law 1196 = .ok (.aload_n 1, 1) := by decide +kernel
theorem dL_law_1197 : decode cL_law 1197 = .ok (.invokevirtual 144, 3) := by decide +kernel
theorem dL_law_1200 : decode cL_law 1200 = .ok (.aload_n 2, 1) := by decide +kernel
theorem dL_law_1201 : decode cL_law 1201 = .ok (.invokevirtual 147, 3) := by decide +kernel
theorem dL_law_1204 : decode cL_law 1204 = .ok (.if_icmp .eq 137, 3) := by decide +kernel
theorem dL_law_1207 : decode cL_law 1207 = .ok (.iconst 0, 1) := by decide +kernel
theorem dL_law_1208 : decode cL_law 1208 = .ok (.ireturn, 1) := by decide +kernel
theorem dL_law_1209 : decode cL_law 1209 = .ok (.aload_n 1, 1) := by decide +kernel
theorem dL_law_1210 : decode cL_law 1210 = .ok (.invokevirtual 148, 3) := by decide +kernel
theorem dL_law_1213 : decode cL_law 1213 = .ok (.aload_n 2, 1) := by decide +kernel
theorem dL_law_1214 : decode cL_law 1214 = .ok (.invokevirtual 151, 3) := by decide +kernel
theorem dL_law_1217 : decode cL_law 1217 = .ok (.if_icmp .eq 124, 3) := by decide +kernel
theorem dL_law_1220 : decode cL_law 1220 = .ok (.iconst 0, 1) := by decide +kernel
theorem dL_law_1221 : decode cL_law 1221 = .ok (.ireturn, 1) := by decide +kernel
theorem dL_law_1222 : decode cL_law 1222 = .ok (.aload_n 1, 1) := by decide +kernel
theorem dL_law_1223 : decode cL_law 1223 = .ok (.aload_n 0, 1) := by decide +kernel
theorem dL_law_1224 : decode cL_law 1224 = .ok (.iload_n 3, 1) := by decide +kernel
theorem dL_law_1225 : decode cL_law 1225 = .ok (.iconst 1, 1) := by decide +kernel
theorem dL_law_1226 : decode cL_law 1226 = .ok (.iadd, 1) := by decide +kernel
theorem dL_law_1227 : decode cL_law 1227 = .ok (.iaload, 1) := by decide +kernel
theorem dL_law_1228 : decode cL_law 1228 = .ok (.aload_n 0, 1) := by decide +kernel
theorem dL_law_1229 : decode cL_law 1229 = .ok (.iload_n 3, 1) := by decide +kernel
theorem dL_law_1230 : decode cL_law 1230 = .ok (.iconst 2, 1) := by decide +kernel
theorem dL_law_1231 : decode cL_law 1231 = .ok (.iadd, 1) := by decide +kernel
theorem dL_law_1232 : decode cL_law 1232 = .ok (.iaload, 1) := by decide +kernel
theorem dL_law_1233 : decode cL_law 1233 = .ok (.aload_n 0, 1) := by decide +kernel
theorem dL_law_1234 : decode cL_law 1234 = .ok (.iload_n 3, 1) := by decide +kernel
theorem dL_law_1235 : decode cL_law 1235 = .ok (.iconst 3, 1) := by decide +kernel
theorem dL_law_1236 : decode cL_law 1236 = .ok (.iadd, 1) := by decide +kernel
theorem dL_law_1237 : decode cL_law 1237 = .ok (.iaload, 1) := by decide +kernel
theorem dL_law_1238 : decode cL_law 1238 = .ok (.invokevirtual 152, 3) := by decide +kernel
theorem dL_law_1241 : decode cL_law 1241 = .ok (.aload_n 2, 1) := by decide +kernel
theorem dL_law_1242 : decode cL_law 1242 = .ok (.aload_n 0, 1) := by decide +kernel
theorem dL_law_1243 : decode cL_law 1243 = .ok (.iload_n 3, 1) := by decide +kernel
theorem dL_law_1244 : decode cL_law 1244 = .ok (.iconst 1, 1) := by decide +kernel
theorem dL_law_1245 : decode cL_law 1245 = .ok (.iadd, 1) := by decide +kernel
theorem dL_law_1246 : decode cL_law 1246 = .ok (.iaload, 1) := by decide +kernel
theorem dL_law_1247 : decode cL_law 1247 = .ok (.aload_n 0, 1) := by decide +kernel
theorem dL_law_1248 : decode cL_law 1248 = .ok (.iload_n 3, 1) := by decide +kernel
theorem dL_law_1249 : decode cL_law 1249 = .ok (.iconst 2, 1) := by decide +kernel
theorem dL_law_1250 : decode cL_law 1250 = .ok (.iadd, 1) := by decide +kernel
theorem dL_law_1251 : decode cL_law 1251 = .ok (.iaload, 1) := by decide +kernel
theorem dL_law_1252 : decode cL_law 1252 = .ok (.aload_n 0, 1) := by decide +kernel
theorem dL_law_1253 : decode cL_law 1253 = .ok (.iload_n 3, 1) := by decide +kernel
theorem dL_law_1254 : decode cL_law 1254 = .ok (.iconst 3, 1) := by decide +kernel
theorem dL_law_1255 : decode cL_law 1255 = .ok (.iadd, 1) := by decide +kernel
theorem dL_law_1256 : decode cL_law 1256 = .ok (.iaload, 1) := by decide +kernel
theorem dL_law_1257 : decode cL_law 1257 = .ok (.invokevirtual 155, 3) := by decide +kernel
theorem dL_law_1260 : decode cL_law 1260 = .ok (.if_icmp .eq 81, 3) := by decide +kernel
theorem dL_law_1263 : decode cL_law 1263 = .ok (.iconst 0, 1) := by decide +kernel
theorem dL_law_1264 : decode cL_law 1264 = .ok (.ireturn, 1) := by decide +kernel
theorem dL_law_1265 : decode cL_law 1265 = .ok (.aload_n 1, 1) := by decide +kernel
theorem dL_law_1266 : decode cL_law 1266 = .ok (.aload_n 0, 1) := by decide +kernel
theorem dL_law_1267 : decode cL_law 1267 = .ok (.iload_n 3, 1) := by decide +kernel
theorem dL_law_1268 : decode cL_law 1268 = .ok (.iconst 1, 1) := by decide +kernel
theorem dL_law_1269 : decode cL_law 1269 = .ok (.iadd, 1) := by decide +kernel
theorem dL_law_1270 : decode cL_law 1270 = .ok (.iaload, 1) := by decide +kernel
theorem dL_law_1271 : decode cL_law 1271 = .ok (.invokevirtual 156, 3) := by decide +kernel
theorem dL_law_1274 : decode cL_law 1274 = .ok (.aload_n 2, 1) := by decide +kernel
theorem dL_law_1275 : decode cL_law 1275 = .ok (.aload_n 0, 1) := by decide +kernel
theorem dL_law_1276 : decode cL_law 1276 = .ok (.iload_n 3, 1) := by decide +kernel
theorem dL_law_1277 : decode cL_law 1277 = .ok (.iconst 1, 1) := by decide +kernel
theorem dL_law_1278 : decode cL_law 1278 = .ok (.iadd, 1) := by decide +kernel
theorem dL_law_1279 : decode cL_law 1279 = .ok (.iaload, 1) := by decide +kernel
theorem dL_law_1280 : decode cL_law 1280 = .ok (.invokevirtual 159, 3) := by decide +kernel
theorem dL_law_1283 : decode cL_law 1283 = .ok (.if_icmp .eq 58, 3) := by decide +kernel
theorem dL_law_1286 : decode cL_law 1286 = .ok (.iconst 0, 1) := by decide +kernel
theorem dL_law_1287 : decode cL_law 1287 = .ok (.ireturn, 1) := by decide +kernel
theorem dL_law_1288 : decode cL_law 1288 = .ok (.aload_n 1, 1) := by decide +kernel
theorem dL_law_1289 : decode cL_law 1289 = .ok (.aload_n 0, 1) := by decide +kernel
theorem dL_law_1290 : decode cL_law 1290 = .ok (.iload_n 3, 1) := by decide +kernel
theorem dL_law_1291 : decode cL_law 1291 = .ok (.iconst 1, 1) := by decide +kernel
theorem dL_law_1292 : decode cL_law 1292 = .ok (.iadd, 1) := by decide +kernel
theorem dL_law_1293 : decode cL_law 1293 = .ok (.iaload, 1) := by decide +kernel
theorem dL_law_1294 : decode cL_law 1294 = .ok (.aload_n 0, 1) := by decide +kernel
theorem dL_law_1295 : decode cL_law 1295 = .ok (.iload_n 3, 1) := by decide +kernel
theorem dL_law_1296 : decode cL_law 1296 = .ok (.iconst 2, 1) := by decide +kernel
theorem dL_law_1297 : decode cL_law 1297 = .ok (.iadd, 1) := by decide +kernel
theorem dL_law_1298 : decode cL_law 1298 = .ok (.iaload, 1) := by decide +kernel
theorem dL_law_1299 : decode cL_law 1299 = .ok (.aload_n 0, 1) := by decide +kernel
theorem dL_law_1300 : decode cL_law 1300 = .ok (.iload_n 3, 1) := by decide +kernel
theorem dL_law_1301 : decode cL_law 1301 = .ok (.iconst 3, 1) := by decide +kernel
theorem dL_law_1302 : decode cL_law 1302 = .ok (.iadd, 1) := by decide +kernel
theorem dL_law_1303 : decode cL_law 1303 = .ok (.iaload, 1) := by decide +kernel
theorem dL_law_1304 : decode cL_law 1304 = .ok (.aload_n 0, 1) := by decide +kernel
theorem dL_law_1305 : decode cL_law 1305 = .ok (.iload_n 3, 1) := by decide +kernel
theorem dL_law_1306 : decode cL_law 1306 = .ok (.iconst 4, 1) := by decide +kernel
theorem dL_law_1307 : decode cL_law 1307 = .ok (.iadd, 1) := by decide +kernel
theorem dL_law_1308 : decode cL_law 1308 = .ok (.iaload, 1) := by decide +kernel
theorem dL_law_1309 : decode cL_law 1309 = .ok (.invokevirtual 160, 3) := by decide +kernel
theorem dL_law_1312 : decode cL_law 1312 = .ok (.aload_n 2, 1) := by decide +kernel
theorem dL_law_1313 : decode cL_law 1313 = .ok (.aload_n 0, 1) := by decide +kernel
theorem dL_law_1314 : decode cL_law 1314 = .ok (.iload_n 3, 1) := by decide +kernel
theorem dL_law_1315 : decode cL_law 1315 = .ok (.iconst 1, 1) := by decide +kernel
theorem dL_law_1316 : decode cL_law 1316 = .ok (.iadd, 1) := by decide +kernel
theorem dL_law_1317 : decode cL_law 1317 = .ok (.iaload, 1) := by decide +kernel
theorem dL_law_1318 : decode cL_law 1318 = .ok (.aload_n 0, 1) := by decide +kernel
theorem dL_law_1319 : decode cL_law 1319 = .ok (.iload_n 3, 1) := by decide +kernel
theorem dL_law_1320 : decode cL_law 1320 = .ok (.iconst 2, 1) := by decide +kernel
theorem dL_law_1321 : decode cL_law 1321 = .ok (.iadd, 1) := by decide +kernel
theorem dL_law_1322 : decode cL_law 1322 = .ok (.iaload, 1) := by decide +kernel
theorem dL_law_1323 : decode cL_law 1323 = .ok (.aload_n 0, 1) := by decide +kernel
theorem dL_law_1324 : decode cL_law 1324 = .ok (.iload_n 3, 1) := by decide +kernel
theorem dL_law_1325 : decode cL_law 1325 = .ok (.iconst 3, 1) := by decide +kernel
theorem dL_law_1326 : decode cL_law 1326 = .ok (.iadd, 1) := by decide +kernel
theorem dL_law_1327 : decode cL_law 1327 = .ok (.iaload, 1) := by decide +kernel
theorem dL_law_1328 : decode cL_law 1328 = .ok (.aload_n 0, 1) := by decide +kernel
theorem dL_law_1329 : decode cL_law 1329 = .ok (.iload_n 3, 1) := by decide +kernel
theorem dL_law_1330 : decode cL_law 1330 = .ok (.iconst 4, 1) := by decide +kernel
theorem dL_law_1331 : decode cL_law 1331 = .ok (.iadd, 1) := by decide +kernel
theorem dL_law_1332 : decode cL_law 1332 = .ok (.iaload, 1) := by decide +kernel
theorem dL_law_1333 : decode cL_law 1333 = .ok (.invokevirtual 163, 3) := by decide +kernel
theorem dL_law_1336 : decode cL_law 1336 = .ok (.if_icmp .eq 5, 3) := by decide +kernel
theorem dL_law_1339 : decode cL_law 1339 = .ok (.iconst 0, 1) := by decide +kernel
theorem dL_law_1340 : decode cL_law 1340 = .ok (.ireturn, 1) := by decide +kernel
theorem dL_law_1341 : decode cL_law 1341 = .ok (.iinc 3 8, 3) := by decide +kernel
theorem dL_law_1344 : decode cL_law 1344 = .ok (.goto (-1326), 3) := by decide +kernel
theorem dL_law_1347 : decode cL_law 1347 = .ok (.iconst 1, 1) := by decide +kernel
theorem dL_law_1348 : decode cL_law 1348 = .ok (.ireturn, 1) := by decide +kernel
