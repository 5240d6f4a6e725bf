theorem dX10_readNumber_101 : decode cX10_readNumber 101 = .ok (.ireturn, 1) := by decide +kernel
theorem dX10_readNumber_102 : decode cX10_readNumber 102 = .ok (.iload 4, 2) := by decide +kernel
theorem dX10_readNumber_104 : decode cX10_readNumber 104 = .ok (.i2l, 1) := by decide +kernel
theorem dX10_readNumber_105 : decode cX10_readNumber 105 = .ok (.iload_n 1, 1) := by decide +kernel
theorem dX10_readNumber_106 : decode cX10_readNumber 106 = .ok (.i2l, 1) := by decide +kernel
theorem dX10_readNumber_107 : decode cX10_readNumber 107 = .ok (.iload_n 2, 1) := by decide +kernel
theorem dX10_readNumber_108 : decode cX10_readNumber 108 = .ok (.i2l, 1) := by decide +kernel
theorem dX10_readNumber_109 : decode cX10_readNumber 109 = .ok (.invokestatic 59, 3) := by decide +kernel
theorem dX10_readNumber_112 : decode cX10_readNumber 112 = .ok (.ifCond .ne 10, 3) := by decide +kernel
theorem dX10_readNumber_115 : decode cX10_readNumber 115 = .ok (.aload_n 0, 1) := by decide +kernel
theorem dX10_readNumber_116 : decode cX10_readNumber 116 = .ok (.iload_n 3, 1) := by decide +kernel
theorem dX10_readNumber_117 : decode cX10_readNumber 117 = .ok (.putfield 95, 3) := by decide +kernel
theorem dX10_readNumber_120 : decode cX10_readNumber 120 = .ok (.iconst (-1), 1) := by decide +kernel
theorem dX10_readNumber_121 : decode cX10_readNumber 121 = .ok (.ireturn, 1) := by decide +kernel
theorem dX10_readNumber_122 : decode cX10_readNumber 122 = .ok (.iload 4, 2) := by decide +kernel
theorem dX10_readNumber_124 : decode cX10_readNumber 124 = .ok (.ireturn, 1) := by decide +kernel
theorem dX10_readLodgers_0 : decode cX10_readLodgers 0 = .ok (.iconst 0, 1) := by decide +kernel
theorem dX10_readLodgers_1 : decode cX10_readLodgers 1 = .ok (.istore_n 1, 1) := by decide +kernel
theorem dX10_readLodgers_2 : decode cX10_readLodgers 2 = .ok (.iconst 1, 1) := by decide +kernel
theorem dX10_readLodgers_3 : decode cX10_readLodgers 3 = .ok (.istore_n 2, 1) := by decide +kernel
theorem dX10_readLodgers_4 : decode cX10_readLodgers 4 = .ok (.iload_n 2, 1) := by decide +kernel
theorem dX10_readLodgers_5 : decode cX10_readLodgers 5 = .ok (.ifCond .eq 84, 3) := by decide +kernel
theorem dX10_readLodgers_8 : decode cX10_readLodgers 8 = .ok (.aload_n 0, 1) := by decide +kernel
theorem dX10_readLodgers_9 : decode cX10_readLodgers 9 = .ok (.invokevirtual 98, 3) := by decide +kernel
theorem dX10_readLodgers_12 : decode cX10_readLodgers 12 = .ok (.bipush 120, 2) := by decide +kernel
theorem dX10_readLodgers_14 : decode cX10_readLodgers 14 = .ok (.isub, 1) := by decide +kernel
theorem dX10_readLodgers_15 : decode cX10_readLodgers 15 = .ok (.istore_n 3, 1) := by decide +kernel
theorem dX10_readLodgers_16 : decode cX10_readLodgers 16 = .ok (.iload_n 3, 1) := by decide +kernel
theorem dX10_readLodgers_17 : decode cX10_readLodgers 17 = .ok (.i2l, 1) := by decide +kernel
theorem dX10_readLodgers_18 : decode cX10_readLodgers 18 = .ok (.lconst 0, 1) := by decide +kernel
theorem dX10_readLodgers_19 : decode cX10_readLodgers 19 = .ok (.ldc2_w 106, 3) := by decide +kernel
theorem dX10_readLodgers_22 : decode cX10_readLodgers 22 = .ok (.invokestatic 59, 3) := by decide +kernel
theorem dX10_readLodgers_25 : decode cX10_readLodgers 25 = .ok (.istore 4, 2) := by decide +kernel
theorem dX10_readLodgers_27 : decode cX10_readLodgers 27 = .ok (.iload 4, 2) := by decide +kernel
theorem dX10_readLodgers_29 : decode cX10_readLodgers 29 = .ok (.ifCond .eq 9, 3) := by decide +kernel
theorem dX10_readLodgers_32 : decode cX10_readLodgers 32 = .ok (.iload_n 1, 1) := by decide +kernel
theorem dX10_readLodgers_33 : decode cX10_readLodgers 33 = .ok (.iload_n 3, 1) := by decide +kernel
theorem dX10_readLodgers_34 : decode cX10_readLodgers 34 = .ok (.ishr, 1) := by decide +kernel
theorem dX10_readLodgers_35 : decode cX10_readLodgers 35 = .ok (.ifCond .ne 12, 3) := by decide +kernel
theorem dX10_readLodgers_38 : decode cX10_readLodgers 38 = .ok (.iload 4, 2) := by decide +kernel
theorem dX10_readLodgers_40 : decode cX10_readLodgers 40 = .ok (.ifCond .ne 9, 3) := by decide +kernel
theorem dX10_readLodgers_43 : decode cX10_readLodgers 43 = .ok (.iload_n 1, 1) := by decide +kernel
theorem dX10_readLodgers_44 : decode cX10_readLodgers 44 = .ok (.ifCond .ne 5, 3) := by decide +kernel
theorem dX10_readLodgers_47 : decode cX10_readLodgers 47 = .ok (.iconst 0, 1) := by decide +kernel
theorem dX10_readLodgers_48 : decode cX10_readLodgers 48 = .ok (.ireturn, 1) := by decide +kernel
theorem dX10_readLodgers_49 : decode cX10_readLodgers 49 = .ok (.iload_n 1, 1) := by decide +kernel
theorem dX10_readLodgers_50 : decode cX10_readLodgers 50 = .ok (.iload 4, 2) := by decide +kernel
theorem dX10_readLodgers_52 : decode cX10_readLodgers 52 = .ok (.ifCond .eq 9, 3) := by decide +kernel
theorem dX10_readLodgers_55 : decode cX10_readLodgers 55 = .ok (.iconst 1, 1) := by decide +kernel
theorem dX10_readLodgers_56 : decode cX10_readLodgers 56 = .ok (.iload_n 3, 1) := by decide +kernel
theorem dX10_readLodgers_57 : decode cX10_readLodgers 57 = .ok (.ishl, 1) := by decide +kernel
theorem dX10_readLodgers_58 : decode cX10_readLodgers 58 = .ok (.goto 4, 3) := by decide +kernel
theorem dX10_readLodgers_61 : decode cX10_readLodgers 61 = .ok (.iconst 0, 1) := by decide +kernel
theorem dX10_readLodgers_62 : decode cX10_readLodgers 62 = .ok (.ior, 1) := by decide +kernel
theorem dX10_readLodgers_63 : decode cX10_readLodgers 63 = .ok (.istore_n 1, 1) := by decide +kernel
theorem dX10_readLodgers_64 : decode cX10_readLodgers 64 = .ok (.aload_n 0, 1) := by decide +kernel
theorem dX10_readLodgers_65 : decode cX10_readLodgers 65 = .ok (.dup, 1) := by decide +kernel
theorem dX10_readLodgers_66 : decode cX10_readLodgers 66 = .ok (.getfield 95, 3) := by decide +kernel
theorem dX10_readLodgers_69 : decode cX10_readLodgers 69 = .ok (.iload 4, 2) := by decide +kernel
theorem dX10_readLodgers_71 : decode cX10_readLodgers 71 = .ok (.ifCond .eq 7, 3) := by decide +kernel
theorem dX10_readLodgers_74 : decode cX10_readLodgers 74 = .ok (.iconst 1, 1) := by decide +kernel
theorem dX10_readLodgers_75 : decode cX10_readLodgers 75 = .ok (.goto 4, 3) := by decide +kernel
theorem dX10_readLodgers_78 : decode cX10_readLodgers 78 = .ok (.iconst 0, 1) := by decide +kernel
theorem dX10_readLodgers_79 : decode cX10_readLodgers 79 = .ok (.iadd, 1) := by decide +kernel
theorem dX10_readLodgers_80 : decode cX10_readLodgers 80 = .ok (.putfield 95, 3) := by decide +kernel
theorem dX10_readLodgers_83 : decode cX10_readLodgers 83 = .ok (.iload 4, 2) := by decide +kernel
theorem dX10_readLodgers_85 : decode cX10_readLodgers 85 = .ok (.istore_n 2, 1) := by decide +kernel
theorem dX10_readLodgers_86 : decode cX10_readLodgers 86 = .ok (.goto (-82), 3) := by decide +kernel
theorem dX10_readLodgers_89 : decode cX10_readLodgers 89 = .ok (.iload_n 1, 1) := by decide +kernel
theorem dX10_readLodgers_90 : decode cX10_readLodgers 90 = .ok (.ireturn, 1) := by decide +kernel
theorem dX10_readSock_0 : decode cX10_readSock 0 = .ok (.aload_n 0, 1) := by decide +kernel
theorem dX10_readSock_1 : decode cX10_readSock 1 = .ok (.getfield 16, 3) := by decide +kernel
theorem dX10_readSock_4 : decode cX10_readSock 4 = .ok (.iload_n 1, 1) := by decide +kernel
theorem dX10_readSock_5 : decode cX10_readSock 5 = .ok (.aload_n 0, 1) := by decide +kernel
theorem dX10_readSock_6 : decode cX10_readSock 6 = .ok (.invokevirtual 98, 3) := by decide +kernel
theorem dX10_readSock_9 : decode cX10_readSock 9 = .ok (.bipush 97, 2) := by decide +kernel
theorem dX10_readSock_11 : decode cX10_readSock 11 = .ok (.isub, 1) := by decide +kernel
theorem dX10_readSock_12 : decode cX10_readSock 12 = .ok (.iastore, 1) := by decide +kernel
theorem dX10_readSock_13 : decode cX10_readSock 13 = .ok (.aload_n 0, 1) := by decide +kernel
theorem dX10_readSock_14 : decode cX10_readSock 14 = .ok (.getfield 16, 3) := by decide +kernel
theorem dX10_readSock_17 : decode cX10_readSock 17 = .ok (.iload_n 1, 1) := by decide +kernel
theorem dX10_readSock_18 : decode cX10_readSock 18 = .ok (.iaload, 1) := by decide +kernel
theorem dX10_readSock_19 : decode cX10_readSock 19 = .ok (.i2l, 1) := by decide +kernel
theorem dX10_readSock_20 : decode cX10_readSock 20 = .ok (.lconst 0, 1) := by decide +kernel
theorem dX10_readSock_21 : decode cX10_readSock 21 = .ok (.ldc2_w 75, 3) := by decide +kernel
theorem dX10_readSock_24 : decode cX10_readSock 24 = .ok (.invokestatic 59, 3) := by decide +kernel
theorem dX10_readSock_27 : decode cX10_readSock 27 = .ok (.ifCond .ne 5, 3) := by decide +kernel
theorem dX10_readSock_30 : decode cX10_readSock 30 = .ok (.iconst 0, 1) := by decide +kernel
theorem dX10_readSock_31 : decode cX10_readSock 31 = .ok (.ireturn, 1) := by decide +kernel
theorem dX10_readSock_32 : decode cX10_readSock 32 = .ok (.aload_n 0, 1) := by decide +kernel
theorem dX10_readSock_33 : decode cX10_readSock 33 = .ok (.dup, 1) := by decide +kernel
theorem dX10_readSock_34 : decode cX10_readSock 34 = .ok (.getfield 95, 3) := by decide +kernel
theorem dX10_readSock_37 : decode cX10_readSock 37 = .ok (.iconst 1, 1) := by decide +kernel
theorem dX10_readSock_38 : decode cX10_readSock 38 = .ok (.iadd, 1) := by decide +kernel
theorem dX10_readSock_39 : decode cX10_readSock 39 = .ok (.putfield 95, 3) := by decide +kernel
theorem dX10_readSock_42 : decode cX10_readSock 42 = .ok (.aload_n 0, 1) := by decide +kernel
theorem dX10_readSock_43 : decode cX10_readSock 43 = .ok (.invokevirtual 98, 3) := by decide +kernel
theorem dX10_readSock_46 : decode cX10_readSock 46 = .ok (.istore_n 2, 1) := by decide +kernel
theorem dX10_readSock_47 : decode cX10_readSock 47 = .ok (.iload_n 2, 1) := by decide +kernel
theorem dX10_readSock_48 : decode cX10_readSock 48 = .ok (.bipush 108, 2) := by decide +kernel
theorem dX10_readSock_50 : decode cX10_readSock 50 = .ok (.if_icmp .eq 11, 3) := by decide +kernel
theorem dX10_readSock_53 : decode cX10_readSock 53 = .ok (.iload_n 2, 1) := by decide +kernel
theorem dX10_readSock_54 : decode cX10_readSock 54 = .ok (.bipush 114, 2) := by decide +kernel
theorem dX10_readSock_56 : decode cX10_readSock 56 = .ok (.if_icmp .eq 5, 3) := by decide +kernel
theorem dX10_readSock_59 : decode cX10_readSock 59 = .ok (.iconst 0, 1) := by decide +kernel
theorem dX10_readSock_60 : decode cX10_readSock 60 = .ok (.ireturn, 1) := by decide +kernel
theorem dX10_readSock_61 : decode cX10_readSock 61 = .ok (.aload_n 0, 1) := by decide +kernel
theorem dX10_readSock_62 : decode cX10_readSock 62 = .ok (.dup, 1) := by decide +kernel
theorem dX10_readSock_63 : decode cX10_readSock 63 = .ok (.getfield 95, 3) := by decide +kernel
theorem dX10_readSock_66 : decode cX10_readSock 66 = .ok (.iconst 1, 1) := by decide +kernel
theorem dX10_readSock_67 : decode cX10_readSock 67 = .ok (.iadd, 1) := by decide +kernel
theorem dX10_readSock_68 : decode cX10_readSock 68 = .ok (.putfield 95, 3) := by decide +kernel
theorem dX10_readSock_71 : decode cX10_readSock 71 = .ok (.aload_n 0, 1) := by decide +kernel
theorem dX10_readSock_72 : decode cX10_readSock 72 = .ok (.getfield 16, 3) := by decide +kernel
theorem dX10_readSock_75 : decode cX10_readSock 75 = .ok (.iload_n 1, 1) := by decide +kernel
theorem dX10_readSock_76 : decode cX10_readSock 76 = .ok (.iconst 1, 1) := by decide +kernel
theorem dX10_readSock_77 : decode cX10_readSock 77 = .ok (.iadd, 1) := by decide +kernel
theorem dX10_readSock_78 : decode cX10_readSock 78 = .ok (.iload_n 2, 1) := by decide +kernel
theorem dX10_readSock_79 : decode cX10_readSock 79 = .ok (.bipush 108, 2) := by decide +kernel
theorem dX10_readSock_81 : decode cX10_readSock 81 = .ok (.if_icmp .ne 7, 3) := by decide +kernel
theorem dX10_readSock_84 : decode cX10_readSock 84 = .ok (.iconst 0, 1) := by decide +kernel
theorem dX10_readSock_85 : decode cX10_readSock 85 = .ok (.goto 4, 3) := by decide +kernel
theorem dX10_readSock_88 : decode cX10_readSock 88 = .ok (.iconst 1, 1) := by decide +kernel
theorem dX10_readSock_89 : decode cX10_readSock 89 = .ok (.iastore, 1) := by decide +kernel
theorem dX10_readSock_90 : decode cX10_readSock 90 = .ok (.aload_n 0, 1) := by decide +kernel
theorem dX10_readSock_91 : decode cX10_readSock 91 = .ok (.getfield 16, 3) := by decide +kernel
theorem dX10_readSock_94 : decode cX10_readSock 94 = .ok (.iload_n 1, 1) := by decide +kernel
theorem dX10_readSock_95 : decode cX10_readSock 95 = .ok (.iconst 2, 1) := by decide +kernel
theorem dX10_readSock_96 : decode cX10_readSock 96 = .ok (.iadd, 1) := by decide +kernel
theorem dX10_readSock_97 : decode cX10_readSock 97 = .ok (.aload_n 0, 1) := by decide +kernel
theorem dX10_readSock_98 : decode cX10_readSock 98 = .ok (.iconst 0, 1) := by decide +kernel
theorem dX10_readSock_99 : decode cX10_readSock 99 = .ok (.bipush 99, 2) := by decide +kernel
theorem dX10_readSock_101 : decode cX10_readSock 101 = .ok (.invokevirtual 108, 3) := by decide +kernel
theorem dX10_readSock_104 : decode cX10_readSock 104 = .ok (.iastore, 1) := by decide +kernel
theorem dX10_readSock_105 : decode cX10_readSock 105 = .ok (.aload_n 0, 1) := by decide +kernel
theorem dX10_readSock_106 : decode cX10_readSock 106 = .ok (.getfield 16, 3) := by decide +kernel
theorem dX10_readSock_109 : decode cX10_readSock 109 = .ok (.iload_n 1, 1) := by decide +kernel
theorem dX10_readSock_110 : decode cX10_readSock 110 = .ok (.iconst 2, 1) := by decide +kernel
theorem dX10_readSock_111 : decode cX10_readSock 111 = .ok (.iadd, 1) := by decide +kernel
theorem dX10_readSock_112 : decode cX10_readSock 112 = .ok (.iaload, 1) := by decide +kernel
theorem dX10_readSock_113 : decode cX10_readSock 113 = .ok (.ifCond .ge 5, 3) := by decide +kernel
theorem dX10_readSock_116 : decode cX10_readSock 116 = .ok (.iconst 0, 1) := by decide +kernel
theorem dX10_readSock_117 : decode cX10_readSock 117 = .ok (.ireturn, 1) := by decide +kernel
theorem dX10_readSock_118 : decode cX10_readSock 118 = .ok (.aload_n 0, 1) := by decide +kernel
theorem dX10_readSock_119 : decode cX10_readSock 119 = .ok (.getfield 16, 3) := by decide +kernel
theorem dX10_readSock_122 : decode cX10_readSock 122 = .ok (.iload_n 1, 1) := by decide +kernel
theorem dX10_readSock_123 : decode cX10_readSock 123 = .ok (.iconst 3, 1) := by decide +kernel
theorem dX10_readSock_124 : decode cX10_readSock 124 = .ok (.iadd, 1) := by decide +kernel
theorem dX10_readSock_125 : decode cX10_readSock 125 = .ok (.aload_n 0, 1) := by decide +kernel
theorem dX10_readSock_126 : decode cX10_readSock 126 = .ok (.getfield 16, 3) := by decide +kernel
theorem dX10_readSock_129 : decode cX10_readSock 129 = .ok (.iload_n 1, 1) := by decide +kernel
theorem dX10_readSock_130 : decode cX10_readSock 130 = .ok (.iconst 2, 1) := by decide +kernel
theorem dX10_readSock_131 : decode cX10_readSock 131 = .ok (.iadd, 1) := by decide +kernel
theorem dX10_readSock_132 : decode cX10_readSock 132 = .ok (.iaload, 1) := by decide +kernel
theorem dX10_readSock_133 : decode cX10_readSock 133 = .ok (.iastore, 1) := by decide +kernel
theorem dX10_readSock_134 : decode cX10_readSock 134 = .ok (.aload_n 0, 1) := by decide +kernel
theorem dX10_readSock_135 : decode cX10_readSock 135 = .ok (.bipush 45, 2) := by decide +kernel
theorem dX10_readSock_137 : decode cX10_readSock 137 = .ok (.invokevirtual 111, 3) := by decide +kernel
theorem dX10_readSock_140 : decode cX10_readSock 140 = .ok (.ifCond .eq 38, 3) := by decide +kernel
theorem dX10_readSock_143 : decode cX10_readSock 143 = .ok (.aload_n 0, 1) := by decide +kernel
theorem dX10_readSock_144 : decode cX10_readSock 144 = .ok (.getfield 16, 3) := by decide +kernel
theorem dX10_readSock_147 : decode cX10_readSock 147 = .ok (.iload_n 1, 1) := by decide +kernel
theorem dX10_readSock_148 : decode cX10_readSock 148 = .ok (.iconst 3, 1) := by decide +kernel
theorem dX10_readSock_149 : decode cX10_readSock 149 = .ok (.iadd, 1) := by decide +kernel
theorem dX10_readSock_150 : decode cX10_readSock 150 = .ok (.aload_n 0, 1) := by decide +kernel
theorem dX10_readSock_151 : decode cX10_readSock 151 = .ok (.aload_n 0, 1) := by decide +kernel
theorem dX10_readSock_152 : decode cX10_readSock 152 = .ok (.getfield 16, 3) := by decide +kernel
theorem dX10_readSock_155 : decode cX10_readSock 155 = .ok (.iload_n 1, 1) := by decide +kernel
theorem dX10_readSock_156 : decode cX10_readSock 156 = .ok (.iconst 2, 1) := by decide +kernel
theorem dX10_readSock_157 : decode cX10_readSock 157 = .ok (.iadd, 1) := by decide +kernel
theorem dX10_readSock_158 : decode cX10_readSock 158 = .ok (.iaload, 1) := by decide +kernel
theorem dX10_readSock_159 : decode cX10_readSock 159 = .ok (.bipush 99, 2) := by decide +kernel
theorem dX10_readSock_161 : decode cX10_readSock 161 = .ok (.invokevirtual 108, 3) := by decide +kernel
theorem dX10_readSock_164 : decode cX10_readSock 164 = .ok (.iastore, 1) := by decide +kernel
theorem dX10_readSock_165 : decode cX10_readSock 165 = .ok (.aload_n 0, 1) := by decide +kernel
theorem dX10_readSock_166 : decode cX10_readSock 166 = .ok (.getfield 16, 3) := by decide +kernel
theorem dX10_readSock_169 : decode cX10_readSock 169 = .ok (.iload_n 1, 1) := by decide +kernel
theorem dX10_readSock_170 : decode cX10_readSock 170 = .ok (.iconst 3, 1) := by decide +kernel
theorem dX10_readSock_171 : decode cX10_readSock 171 = .ok (.iadd, 1) := by decide +kernel
theorem dX10_readSock_172 : decode cX10_readSock 172 = .ok (.iaload, 1) := by decide +kernel
theorem dX10_readSock_173 : decode cX10_readSock 173 = .ok (.ifCond .ge 5, 3) := by decide +kernel
theorem dX10_readSock_176 : decode cX10_readSock 176 = .ok (.iconst 0, 1) := by decide +kernel
theorem dX10_readSock_177 : decode cX10_readSock 177 = .ok (.ireturn, 1) := by decide +kernel
theorem dX10_readSock_178 : decode cX10_readSock 178 = .ok (.aload_n 0, 1) := by decide +kernel
theorem dX10_readSock_179 : decode cX10_readSock 179 = .ok (.getfield 16, 3) := by decide +kernel
theorem dX10_readSock_182 : decode cX10_readSock 182 = .ok (.iload_n 1, 1) := by decide +kernel
theorem dX10_readSock_183 : decode cX10_readSock 183 = .ok (.iconst 4, 1) := by decide +kernel
theorem dX10_readSock_184 : decode cX10_readSock 184 = .ok (.iadd, 1) := by decide +kernel
theorem dX10_readSock_185 : decode cX10_readSock 185 = .ok (.bipush 7, 2) := by decide +kernel
theorem dX10_readSock_187 : decode cX10_readSock 187 = .ok (.iastore, 1) := by decide +kernel
theorem dX10_readSock_188 : decode cX10_readSock 188 = .ok (.aload_n 0, 1) := by decide +kernel
theorem dX10_readSock_189 : decode cX10_readSock 189 = .ok (.bipush 58, 2) := by decide +kernel
theorem dX10_readSock_191 : decode cX10_readSock 191 = .ok (.invokevirtual 111, 3) := by decide +kernel
theorem dX10_readSock_194 : decode cX10_readSock 194 = .ok (.ifCond .eq 15, 3) := by decide +kernel
theorem dX10_readSock_197 : decode cX10_readSock 197 = .ok (.aload_n 0, 1) := by decide +kernel
theorem dX10_readSock_198 : decode cX10_readSock 198 = .ok (.getfield 16, 3) := by decide +kernel
theorem dX10_readSock_201 : decode cX10_readSock 201 = .ok (.iload_n 1, 1) := by decide +kernel
theorem dX10_readSock_202 : decode cX10_readSock 202 = .ok (.iconst 4, 1) := by decide +kernel
theorem dX10_readSock_203 : decode cX10_readSock 203 = .ok (.iadd, 1) := by decide +kernel
theorem dX10_readSock_204 : decode cX10_readSock 204 = .ok (.aload_n 0, 1) := by decide +kernel
theorem dX10_readSock_205 : decode cX10_readSock 205 = .ok (.invokevirtual 114, 3) := by decide +kernel
theorem dX10_readSock_208 : decode cX10_readSock 208 = .ok (.iastore, 1) := by decide +kernel
theorem dX10_readSock_209 : decode cX10_readSock 209 = .ok (.aload_n 0, 1) := by decide +kernel
theorem dX10_readSock_210 : decode cX10_readSock 210 = .ok (.getfield 16, 3) := by decide +kernel
theorem dX10_readSock_213 : decode cX10_readSock 213 = .ok (.iload_n 1, 1) := by decide +kernel
theorem dX10_readSock_214 : decode cX10_readSock 214 = .ok (.iconst 4, 1) := by decide +kernel
theorem dX10_readSock_215 : decode cX10_readSock 215 = .ok (.iadd, 1) := by decide +kernel
theorem dX10_readSock_216 : decode cX10_readSock 216 = .ok (.iaload, 1) := by decide +kernel
theorem dX10_readSock_217 : decode cX10_readSock 217 = .ok (.ifCond .le 7, 3) := by decide +kernel
theorem dX10_readSock_220 : decode cX10_readSock 220 = .ok (.iconst 1, 1) := by decide +kernel
theorem dX10_readSock_221 : decode cX10_readSock 221 = .ok (.goto 4, 3) := by decide +kernel
theorem dX10_readSock_224 : decode cX10_readSock 224 = .ok (.iconst 0, 1) := by decide +kernel
theorem dX10_readSock_225 : decode cX10_readSock 225 = .ok (.ireturn, 1) := by decide +kernel
theorem dX10_readSocks_0 : decode cX10_readSocks 0 = .ok (.aload_n 0, 1) := by decide +kernel
theorem dX10_readSocks_1 : decode cX10_readSocks 1 = .ok (.iconst 0, 1) := by decide +kernel
theorem dX10_readSocks_2 : decode cX10_readSocks 2 = .ok (.putfield 95, 3) := by decide +kernel
theorem dX10_readSocks_5 : decode cX10_readSocks 5 = .ok (.iconst 0, 1) := by decide +kernel
theorem dX10_readSocks_6 : decode cX10_readSocks 6 = .ok (.istore_n 1, 1) := by decide +kernel
theorem dX10_readSocks_7 : decode cX10_readSocks 7 = .ok (.iload_n 1, 1) := by decide +kernel
theorem dX10_readSocks_8 : decode cX10_readSocks 8 = .ok (.bipush 8, 2) := by decide +kernel
theorem dX10_readSocks_10 : decode cX10_readSocks 10 = .ok (.if_icmp .ge 63, 3) := by decide +kernel
theorem dX10_readSocks_13 : decode cX10_readSocks 13 = .ok (.aload_n 0, 1) := by decide +kernel
theorem dX10_readSocks_14 : decode cX10_readSocks 14 = .ok (.iconst 5, 1) := by decide +kernel
theorem dX10_readSocks_15 : decode cX10_readSocks 15 = .ok (.iload_n 1, 1) := by decide +kernel
theorem dX10_readSocks_16 : decode cX10_readSocks 16 = .ok (.imul, 1) := by decide +kernel
theorem dX10_readSocks_17 : decode cX10_readSocks 17 = .ok (.invokevirtual 117, 3) := by decide +kernel
theorem dX10_readSocks_20 : decode cX10_readSocks 20 = .ok (.ifCond .ne 5, 3) := by decide +kernel
theorem dX10_readSocks_23 : decode cX10_readSocks 23 = .ok (.iconst 0, 1) := by decide +kernel
theorem dX10_readSocks_24 : decode cX10_readSocks 24 = .ok (.ireturn, 1) := by decide +kernel
theorem dX10_readSocks_25 : decode cX10_readSocks 25 = .ok (.aload_n 0, 1) := by decide +kernel
theorem dX10_readSocks_26 : decode cX10_readSocks 26 = .ok (.iload_n 1, 1) := by decide +kernel
theorem dX10_readSocks_27 : decode cX10_readSocks 27 = .ok (.iconst 1, 1) := by decide +kernel
theorem dX10_readSocks_28 : decode cX10_readSocks 28 = .ok (.iadd, 1) := by decide +kernel
theorem dX10_readSocks_29 : decode cX10_readSocks 29 = .ok (.putfield 120, 3) := by decide +kernel
theorem dX10_readSocks_32 : decode cX10_readSocks 32 = .ok (.aload_n 0, 1) := by decide +kernel
theorem dX10_readSocks_33 : decode cX10_readSocks 33 = .ok (.invokevirtual 98, 3) := by decide +kernel
theorem dX10_readSocks_36 : decode cX10_readSocks 36 = .ok (.istore_n 2, 1) := by decide +kernel
theorem dX10_readSocks_37 : decode cX10_readSocks 37 = .ok (.iload_n 2, 1) := by decide +kernel
theorem dX10_readSocks_38 : decode cX10_readSocks 38 = .ok (.ifCond .ge 5, 3) := by decide +kernel
theorem dX10_readSocks_41 : decode cX10_readSocks 41 = .ok (.iconst 1, 1) := by decide +kernel
theorem dX10_readSocks_42 : decode cX10_readSocks 42 = .ok (.ireturn, 1) := by decide +kernel
theorem dX10_readSocks_43 : decode cX10_readSocks 43 = .ok (.iload_n 2, 1) := by decide +kernel
theorem dX10_readSocks_44 : decode cX10_readSocks 44 = .ok (.bipush 44, 2) := by decide +kernel
theorem dX10_readSocks_46 : decode cX10_readSocks 46 = .ok (.if_icmp .ne 9, 3) := by decide +kernel
theorem dX10_readSocks_49 : decode cX10_readSocks 49 = .ok (.iload_n 1, 1) := by decide +kernel
theorem dX10_readSocks_50 : decode cX10_readSocks 50 = .ok (.bipush 7, 2) := by decide +kernel
theorem dX10_readSocks_52 : decode cX10_readSocks 52 = .ok (.if_icmp .ne 5, 3) := by decide +kernel
theorem dX10_readSocks_55 : decode cX10_readSocks 55 = .ok (.iconst 0, 1) := by decide +kernel
theorem dX10_readSocks_56 : decode cX10_readSocks 56 = .ok (.ireturn, 1) := by decide +kernel
theorem dX10_readSocks_57 : decode cX10_readSocks 57 = .ok (.aload_n 0, 1) := by decide +kernel
theorem dX10_readSocks_58 : decode cX10_readSocks 58 = .ok (.dup, 1) := by decide +kernel
theorem dX10_readSocks_59 : decode cX10_readSocks 59 = .ok (.getfield 95, 3) := by decide +kernel
theorem dX10_readSocks_62 : decode cX10_readSocks 62 = .ok (.iconst 1, 1) := by decide +kernel
theorem dX10_readSocks_63 : decode cX10_readSocks 63 = .ok (.iadd, 1) := by decide +kernel
theorem dX10_readSocks_64 : decode cX10_readSocks 64 = .ok (.putfield 95, 3) := by decide +kernel
theorem dX10_readSocks_67 : decode cX10_readSocks 67 = .ok (.iinc 1 1, 3) := by decide +kernel
theorem dX10_readSocks_70 : decode cX10_readSocks 70 = .ok (.goto (-63), 3) := by decide +kernel
theorem dX10_readSocks_73 : decode cX10_readSocks 73 = .ok (.iconst 0, 1) := by decide +kernel
theorem dX10_readSocks_74 : decode cX10_readSocks 74 = .ok (.ireturn, 1) := by decide +kernel
theorem dX10_socks_0 : decode cX10_socks 0 = .ok (.aload_n 0, 1) := by decide +kernel
theorem dX10_socks_1 : decode cX10_socks 1 = .ok (.invokevirtual 123, 3) := by decide +kernel
theorem dX10_socks_4 : decode cX10_socks 4 = .ok (.istore_n 1, 1) := by decide +kernel
theorem dX10_socks_5 : decode cX10_socks 5 = .ok (.aload_n 0, 1) := by decide +kernel
theorem dX10_socks_6 : decode cX10_socks 6 = .ok (.iconst 0, 1) := by decide +kernel
theorem dX10_socks_7 : decode cX10_socks 7 = .ok (.putfield 91, 3) := by decide +kernel
theorem dX10_socks_10 : decode cX10_socks 10 = .ok (.iload_n 1, 1) := by decide +kernel
theorem dX10_socks_11 : decode cX10_socks 11 = .ok (.ifCond .ne 11, 3) := by decide +kernel
theorem dX10_socks_14 : decode cX10_socks 14 = .ok (.bipush (-20), 2) := by decide +kernel
theorem dX10_socks_16 : decode cX10_socks 16 = .ok (.aload_n 0, 1) := by decide +kernel
theorem dX10_socks_17 : decode cX10_socks 17 = .ok (.getfield 95, 3) := by decide +kernel
theorem dX10_socks_20 : decode cX10_socks 20 = .ok (.isub, 1) := by decide +kernel
theorem dX10_socks_21 : decode cX10_socks 21 = .ok (.ireturn, 1) := by decide +kernel
theorem dX10_socks_22 : decode cX10_socks 22 = .ok (.aload_n 0, 1) := by decide +kernel
theorem dX10_socks_23 : decode cX10_socks 23 = .ok (.getfield 7, 3) := by decide +kernel
theorem dX10_socks_26 : decode cX10_socks 26 = .ok (.iconst 0, 1) := by decide +kernel
theorem dX10_socks_27 : decode cX10_socks 27 = .ok (.iaload, 1) := by decide +kernel
theorem dX10_socks_28 : decode cX10_socks 28 = .ok (.aload_n 0, 1) := by decide +kernel
theorem dX10_socks_29 : decode cX10_socks 29 = .ok (.getfield 120, 3) := by decide +kernel
theorem dX10_socks_32 : decode cX10_socks 32 = .ok (.iadd, 1) := by decide +kernel
theorem dX10_socks_33 : decode cX10_socks 33 = .ok (.bipush 12, 2) := by decide +kernel
theorem dX10_socks_35 : decode cX10_socks 35 = .ok (.if_icmp .le 6, 3) := by decide +kernel
theorem dX10_socks_38 : decode cX10_socks 38 = .ok (.bipush (-3), 2) := by decide +kernel
theorem dX10_socks_40 : decode cX10_socks 40 = .ok (.ireturn, 1) := by decide +kernel
theorem dX10_socks_41 : decode cX10_socks 41 = .ok (.iconst 0, 1) := by decide +kernel
theorem dX10_socks_42 : decode cX10_socks 42 = .ok (.istore_n 2, 1) := by decide +kernel
theorem dX10_socks_43 : decode cX10_socks 43 = .ok (.iload_n 2, 1) := by decide +kernel
theorem dX10_socks_44 : decode cX10_socks 44 = .ok (.aload_n 0, 1) := by decide +kernel
theorem dX10_socks_45 : decode cX10_socks 45 = .ok (.getfield 120, 3) := by decide +kernel
theorem dX10_socks_48 : decode cX10_socks 48 = .ok (.if_icmp .ge 61, 3) := by decide +kernel
theorem dX10_socks_51 : decode cX10_socks 51 = .ok (.aload_n 0, 1) := by decide +kernel
theorem dX10_socks_52 : decode cX10_socks 52 = .ok (.aload_n 0, 1) := by decide +kernel
theorem dX10_socks_53 : decode cX10_socks 53 = .ok (.getfield 16, 3) := by decide +kernel
theorem dX10_socks_56 : decode cX10_socks 56 = .ok (.iconst 5, 1) := by decide +kernel
theorem dX10_socks_57 : decode cX10_socks 57 = .ok (.iload_n 2, 1) := by decide +kernel
theorem dX10_socks_58 : decode cX10_socks 58 = .ok (.imul, 1) := by decide +kernel
theorem dX10_socks_59 : decode cX10_socks 59 = .ok (.iaload, 1) := by decide +kernel
theorem dX10_socks_60 : decode cX10_socks 60 = .ok (.aload_n 0, 1) := by decide +kernel
theorem dX10_socks_61 : decode cX10_socks 61 = .ok (.getfield 16, 3) := by decide +kernel
theorem dX10_socks_64 : decode cX10_socks 64 = .ok (.iconst 5, 1) := by decide +kernel
theorem dX10_socks_65 : decode cX10_socks 65 = .ok (.iload_n 2, 1) := by decide +kernel
theorem dX10_socks_66 : decode cX10_socks 66 = .ok (.imul, 1) := by decide +kernel
theorem dX10_socks_67 : decode cX10_socks 67 = .ok (.iconst 1, 1) := by decide +kernel
theorem dX10_socks_68 : decode cX10_socks 68 = .ok (.iadd, 1) := by decide +kernel
theorem dX10_socks_69 : decode cX10_socks 69 = .ok (.iaload, 1) := by decide +kernel
theorem dX10_socks_70 : decode cX10_socks 70 = .ok (.aload_n 0, 1) := by decide +kernel
theorem dX10_socks_71 : decode cX10_socks 71 = .ok (.getfield 16, 3) := by decide +kernel
theorem dX10_socks_74 : decode cX10_socks 74 = .ok (.iconst 5, 1) := by decide +kernel
theorem dX10_socks_75 : decode cX10_socks 75 = .ok (.iload_n 2, 1) := by decide +kernel
theorem dX10_socks_76 : decode cX10_socks 76 = .ok (.imul, 1) := by decide +kernel
theorem dX10_socks_77 : decode cX10_socks 77 = .ok (.iconst 2, 1) := by decide +kernel
theorem dX10_socks_78 : decode cX10_socks 78 = .ok (.iadd, 1) := by decide +kernel
theorem dX10_socks_79 : decode cX10_socks 79 = .ok (.iaload, 1) := by decide +kernel
theorem dX10_socks_80 : decode cX10_socks 80 = .ok (.aload_n 0, 1) := by decide +kernel
theorem dX10_socks_81 : decode cX10_socks 81 = .ok (.getfield 16, 3) := by decide +kernel
theorem dX10_socks_84 : decode cX10_socks 84 = .ok (.iconst 5, 1) := by decide +kernel
theorem dX10_socks_85 : decode cX10_socks 85 = .ok (.iload_n 2, 1) := by decide +kernel
theorem dX10_socks_86 : decode cX10_socks 86 = .ok (.imul, 1) := by decide +kernel
theorem dX10_socks_87 : decode cX10_socks 87 = .ok (.iconst 3, 1) := by decide +kernel
theorem dX10_socks_88 : decode cX10_socks 88 = .ok (.iadd, 1) := by decide +kernel
theorem dX10_socks_89 : decode cX10_socks 89 = .ok (.iaload, 1) := by decide +kernel
theorem dX10_socks_90 : decode cX10_socks 90 = .ok (.aload_n 0, 1) := by decide +kernel
theorem dX10_socks_91 : decode cX10_socks 91 = .ok (.getfield 16, 3) := by decide +kernel
theorem dX10_socks_94 : decode cX10_socks 94 = .ok (.iconst 5, 1) := by decide +kernel
theorem dX10_socks_95 : decode cX10_socks 95 = .ok (.iload_n 2, 1) := by decide +kernel
theorem dX10_socks_96 : decode cX10_socks 96 = .ok (.imul, 1) := by decide +kernel
theorem dX10_socks_97 : decode cX10_socks 97 = .ok (.iconst 4, 1) := by decide +kernel
theorem dX10_socks_98 : decode cX10_socks 98 = .ok (.iadd, 1) := by decide +kernel
theorem dX10_socks_99 : decode cX10_socks 99 = .ok (.iaload, 1) := by decide +kernel
theorem dX10_socks_100 : decode cX10_socks 100 = .ok (.invokevirtual 79, 3) := by decide +kernel
theorem dX10_socks_103 : decode cX10_socks 103 = .ok (.iinc 2 1, 3) := by decide +kernel
theorem dX10_socks_106 : decode cX10_socks 106 = .ok (.goto (-63), 3) := by decide +kernel
theorem dX10_socks_109 : decode cX10_socks 109 = .ok (.aload_n 0, 1) := by decide +kernel
theorem dX10_socks_110 : decode cX10_socks 110 = .ok (.getfield 120, 3) := by decide +kernel
theorem dX10_socks_113 : decode cX10_socks 113 = .ok (.ireturn, 1) := by decide +kernel
theorem dX10_told_0 : decode cX10_told 0 = .ok (.aload_n 0, 1) := by decide +kernel
theorem dX10_told_1 : decode cX10_told 1 = .ok (.iload_n 1, 1) := by decide +kernel
theorem dX10_told_2 : decode cX10_told 2 = .ok (.invokevirtual 63, 3) := by decide +kernel
theorem dX10_told_5 : decode cX10_told 5 = .ok (.ifCond .eq 24, 3) := by decide +kernel
theorem dX10_told_8 : decode cX10_told 8 = .ok (.iload_n 2, 1) := by decide +kernel
theorem dX10_told_9 : decode cX10_told 9 = .ok (.i2l, 1) := by decide +kernel
theorem dX10_told_10 : decode cX10_told 10 = .ok (.lconst 0, 1) := by decide +kernel
theorem dX10_told_11 : decode cX10_told 11 = .ok (.ldc2_w 127, 3) := by decide +kernel
theorem dX10_told_14 : decode cX10_told 14 = .ok (.invokestatic 59, 3) := by decide +kernel
theorem dX10_told_17 : decode cX10_told 17 = .ok (.ifCond .eq 12, 3) := by decide +kernel
theorem dX10_told_20 : decode cX10_told 20 = .ok (.aload_n 0, 1) := by decide +kernel
theorem dX10_told_21 : decode cX10_told 21 = .ok (.iload_n 1, 1) := by decide +kernel
theorem dX10_told_22 : decode cX10_told 22 = .ok (.iload_n 2, 1) := by decide +kernel
theorem dX10_told_23 : decode cX10_told 23 = .ok (.invokevirtual 67, 3) := by decide +kernel
theorem dX10_told_26 : decode cX10_told 26 = .ok (.goto 4, 3) := by decide +kernel
theorem dX10_told_29 : decode cX10_told 29 = .ok (.iconst (-1), 1) := by decide +kernel
theorem dX10_told_30 : decode cX10_told 30 = .ok (.ireturn, 1) := by decide +kernel
theorem dX10_fade_0 : decode cX10_fade 0 = .ok (.iload_n 1, 1) := by decide +kernel
theorem dX10_fade_1 : decode cX10_fade 1 = .ok (.i2l, 1) := by decide +kernel
theorem dX10_fade_2 : decode cX10_fade 2 = .ok (.lconst 0, 1) := by decide +kernel
theorem dX10_fade_3 : decode cX10_fade 3 = .ok (.ldc2_w 75, 3) := by decide +kernel
theorem dX10_fade_6 : decode cX10_fade 6 = .ok (.invokestatic 59, 3) := by decide +kernel
theorem dX10_fade_9 : decode cX10_fade 9 = .ok (.ifCond .eq 15, 3) := by decide +kernel
theorem dX10_fade_12 : decode cX10_fade 12 = .ok (.iload_n 2, 1) := by decide +kernel
theorem dX10_fade_13 : decode cX10_fade 13 = .ok (.i2l, 1) := by decide +kernel
theorem dX10_fade_14 : decode cX10_fade 14 = .ok (.lconst 0, 1) := by decide +kernel
theorem dX10_fade_15 : decode cX10_fade 15 = .ok (.ldc2_w 129, 3) := by decide +kernel
theorem dX10_fade_18 : decode cX10_fade 18 = .ok (.invokestatic 59, 3) := by decide +kernel
theorem dX10_fade_21 : decode cX10_fade 21 = .ok (.ifCond .ne 5, 3) := by decide +kernel
theorem dX10_fade_24 : decode cX10_fade 24 = .ok (.iconst (-1), 1) := by decide +kernel
theorem dX10_fade_25 : decode cX10_fade 25 = .ok (.ireturn, 1) := by decide +kernel
theorem dX10_fade_26 : decode cX10_fade 26 = .ok (.aload_n 0, 1) := by decide +kernel
theorem dX10_fade_27 : decode cX10_fade 27 = .ok (.getfield 7, 3) := by decide +kernel
theorem dX10_fade_30 : decode cX10_fade 30 = .ok (.iconst 4, 1) := by decide +kernel
theorem dX10_fade_31 : decode cX10_fade 31 = .ok (.iload_n 1, 1) := by decide +kernel
theorem dX10_fade_32 : decode cX10_fade 32 = .ok (.iadd, 1) := by decide +kernel
theorem dX10_fade_33 : decode cX10_fade 33 = .ok (.iaload, 1) := by decide +kernel
theorem dX10_fade_34 : decode cX10_fade 34 = .ok (.istore_n 3, 1) := by decide +kernel
theorem dX10_fade_35 : decode cX10_fade 35 = .ok (.aload_n 0, 1) := by decide +kernel
theorem dX10_fade_36 : decode cX10_fade 36 = .ok (.getfield 7, 3) := by decide +kernel
theorem dX10_fade_39 : decode cX10_fade 39 = .ok (.iconst 4, 1) := by decide +kernel
theorem dX10_fade_40 : decode cX10_fade 40 = .ok (.iload_n 1, 1) := by decide +kernel
theorem dX10_fade_41 : decode cX10_fade 41 = .ok (.iadd, 1) := by decide +kernel
theorem dX10_fade_42 : decode cX10_fade 42 = .ok (.iload_n 2, 1) := by decide +kernel
theorem dX10_fade_43 : decode cX10_fade 43 = .ok (.iastore, 1) := by decide +kernel
theorem dX10_fade_44 : decode cX10_fade 44 = .ok (.iload_n 3, 1) := by decide +kernel
theorem dX10_fade_45 : decode cX10_fade 45 = .ok (.ireturn, 1) := by decide +kernel
theorem dX10_set_0 : decode cX10_set 0 = .ok (.iload_n 1, 1) := by decide +kernel
theorem dX10_set_1 : decode cX10_set 1 = .ok (.ifCond .ne 18, 3) := by decide +kernel
theorem dX10_set_4 : decode cX10_set 4 = .ok (.iload_n 2, 1) := by decide +kernel
theorem dX10_set_5 : decode cX10_set 5 = .ok (.i2l, 1) := by decide +kernel
theorem dX10_set_6 : decode cX10_set 6 = .ok (.lconst 0, 1) := by decide +kernel
theorem dX10_set_7 : decode cX10_set 7 = .ok (.ldc2_w 131, 3) := by decide +kernel
theorem dX10_set_10 : decode cX10_set 10 = .ok (.invokestatic 59, 3) := by decide +kernel
theorem dX10_set_13 : decode cX10_set 13 = .ok (.ifCond .ne 23, 3) := by decide +kernel
theorem dX10_set_16 : decode cX10_set 16 = .ok (.goto 18, 3) := by decide +kernel
theorem dX10_set_19 : decode cX10_set 19 = .ok (.iload_n 1, 1) := by decide +kernel
theorem dX10_set_20 : decode cX10_set 20 = .ok (.iconst 1, 1) := by decide +kernel
theorem dX10_set_21 : decode cX10_set 21 = .ok (.if_icmp .ne 13, 3) := by decide +kernel
theorem dX10_set_24 : decode cX10_set 24 = .ok (.iload_n 2, 1) := by decide +kernel
theorem dX10_set_25 : decode cX10_set 25 = .ok (.i2l, 1) := by decide +kernel
theorem dX10_set_26 : decode cX10_set 26 = .ok (.lconst 0, 1) := by decide +kernel
theorem dX10_set_27 : decode cX10_set 27 = .ok (.lconst 1, 1) := by decide +kernel
theorem dX10_set_28 : decode cX10_set 28 = .ok (.invokestatic 59, 3) := by decide +kernel
theorem dX10_set_31 : decode cX10_set 31 = .ok (.ifCond .ne 5, 3) := by decide +kernel
theorem dX10_set_34 : decode cX10_set 34 = .ok (.iconst (-1), 1) := by decide +kernel
theorem dX10_set_35 : decode cX10_set 35 = .ok (.ireturn, 1) := by decide +kernel
theorem dX10_set_36 : decode cX10_set 36 = .ok (.aload_n 0, 1) := by decide +kernel
theorem dX10_set_37 : decode cX10_set 37 = .ok (.getfield 7, 3) := by decide +kernel
theorem dX10_set_40 : decode cX10_set 40 = .ok (.iconst 2, 1) := by decide +kernel
theorem dX10_set_41 : decode cX10_set 41 = .ok (.iload_n 1, 1) := by decide +kernel
theorem dX10_set_42 : decode cX10_set 42 = .ok (.iadd, 1) := by decide +kernel
theorem dX10_set_43 : decode cX10_set 43 = .ok (.iaload, 1) := by decide +kernel
theorem dX10_set_44 : decode cX10_set 44 = .ok (.istore_n 3, 1) := by decide +kernel
theorem dX10_set_45 : decode cX10_set 45 = .ok (.aload_n 0, 1) := by decide +kernel
theorem dX10_set_46 : decode cX10_set 46 = .ok (.getfield 7, 3) := by decide +kernel
theorem dX10_set_49 : decode cX10_set 49 = .ok (.iconst 2, 1) := by decide +kernel
theorem dX10_set_50 : decode cX10_set 50 = .ok (.iload_n 1, 1) := by decide +kernel
theorem dX10_set_51 : decode cX10_set 51 = .ok (.iadd, 1) := by decide +kernel
theorem dX10_set_52 : decode cX10_set 52 = .ok (.iload_n 2, 1) := by decide +kernel
theorem dX10_set_53 : decode cX10_set 53 = .ok (.iastore, 1) := by decide +kernel
theorem dX10_set_54 : decode cX10_set 54 = .ok (.iload_n 3, 1) := by decide +kernel
theorem dX10_set_55 : decode cX10_set 55 = .ok (.ireturn, 1) := by decide +kernel
theorem dX10_faded_0 : decode cX10_faded 0 = .ok (.iload_n 1, 1) := by decide +kernel
theorem dX10_faded_1 : decode cX10_faded 1 = .ok (.iload_n 2, 1) := by decide +kernel
theorem dX10_faded_2 : decode cX10_faded 2 = .ok (.iadd, 1) := by decide +kernel
theorem dX10_faded_3 : decode cX10_faded 3 = .ok (.bipush 99, 2) := by decide +kernel
theorem dX10_faded_5 : decode cX10_faded 5 = .ok (.if_icmp .le 8, 3) := by decide +kernel
theorem dX10_faded_8 : decode cX10_faded 8 = .ok (.bipush 99, 2) := by decide +kernel
theorem dX10_faded_10 : decode cX10_faded 10 = .ok (.goto 6, 3) := by decide +kernel
theorem dX10_faded_13 : decode cX10_faded 13 = .ok (.iload_n 1, 1) := by decide +kernel
theorem dX10_faded_14 : decode cX10_faded 14 = .ok (.iload_n 2, 1) := by decide +kernel
theorem dX10_faded_15 : decode cX10_faded 15 = .ok (.iadd, 1) := by decide +kernel
theorem dX10_faded_16 : decode cX10_faded 16 = .ok (.ireturn, 1) := by decide +kernel
theorem dX10_part2_0 : decode cX10_part2 0 = .ok (.aload_n 0, 1) := by decide +kernel
theorem dX10_part2_1 : decode cX10_part2 1 = .ok (.iload_n 1, 1) := by decide +kernel
theorem dX10_part2_2 : decode cX10_part2 2 = .ok (.iconst 5, 1) := by decide +kernel
theorem dX10_part2_3 : decode cX10_part2 3 = .ok (.invokevirtual 67, 3) := by decide +kernel
theorem dX10_part2_6 : decode cX10_part2 6 = .ok (.istore_n 2, 1) := by decide +kernel
theorem dX10_part2_7 : decode cX10_part2 7 = .ok (.iload_n 2, 1) := by decide +kernel
theorem dX10_part2_8 : decode cX10_part2 8 = .ok (.ifCond .lt 33, 3) := by decide +kernel
theorem dX10_part2_11 : decode cX10_part2 11 = .ok (.aload_n 0, 1) := by decide +kernel
theorem dX10_part2_12 : decode cX10_part2 12 = .ok (.iload_n 1, 1) := by decide +kernel
theorem dX10_part2_13 : decode cX10_part2 13 = .ok (.iconst 5, 1) := by decide +kernel
theorem dX10_part2_14 : decode cX10_part2 14 = .ok (.bipush (-4), 2) := by decide +kernel
theorem dX10_part2_16 : decode cX10_part2 16 = .ok (.invokevirtual 71, 3) := by decide +kernel
theorem dX10_part2_19 : decode cX10_part2 19 = .ok (.aload_n 0, 1) := by decide +kernel
theorem dX10_part2_20 : decode cX10_part2 20 = .ok (.iload_n 2, 1) := by decide +kernel
theorem dX10_part2_21 : decode cX10_part2 21 = .ok (.iconst 5, 1) := by decide +kernel
theorem dX10_part2_22 : decode cX10_part2 22 = .ok (.bipush (-4), 2) := by decide +kernel
theorem dX10_part2_24 : decode cX10_part2 24 = .ok (.invokevirtual 71, 3) := by decide +kernel
theorem dX10_part2_27 : decode cX10_part2 27 = .ok (.aload_n 0, 1) := by decide +kernel
theorem dX10_part2_28 : decode cX10_part2 28 = .ok (.iload_n 1, 1) := by decide +kernel
theorem dX10_part2_29 : decode cX10_part2 29 = .ok (.iconst 4, 1) := by decide +kernel
theorem dX10_part2_30 : decode cX10_part2 30 = .ok (.iconst 0, 1) := by decide +kernel
theorem dX10_part2_31 : decode cX10_part2 31 = .ok (.invokevirtual 71, 3) := by decide +kernel
theorem dX10_part2_34 : decode cX10_part2 34 = .ok (.aload_n 0, 1) := by decide +kernel
theorem dX10_part2_35 : decode cX10_part2 35 = .ok (.iload_n 2, 1) := by decide +kernel
theorem dX10_part2_36 : decode cX10_part2 36 = .ok (.iconst 4, 1) := by decide +kernel
theorem dX10_part2_37 : decode cX10_part2 37 = .ok (.iconst 0, 1) := by decide +kernel
theorem dX10_part2_38 : decode cX10_part2 38 = .ok (.invokevirtual 71, 3) := by decide +kernel
theorem dX10_part2_41 : decode cX10_part2 41 = .ok (.return_, 1) := by decide +kernel
theorem dX10_monday_0 : decode cX10_monday 0 = .ok (.iload_n 1, 1) := by decide +kernel
theorem dX10_monday_1 : decode cX10_monday 1 = .ok (.i2l, 1) := by decide +kernel
theorem dX10_monday_2 : decode cX10_monday 2 = .ok (.lconst 0, 1) := by decide +kernel
theorem dX10_monday_3 : decode cX10_monday 3 = .ok (.aload_n 0, 1) := by decide +kernel
theorem dX10_monday_4 : decode cX10_monday 4 = .ok (.invokevirtual 133, 3) := by decide +kernel
theorem dX10_monday_7 : decode cX10_monday 7 = .ok (.i2l, 1) := by decide +kernel
theorem dX10_monday_8 : decode cX10_monday 8 = .ok (.invokestatic 59, 3) := by decide +kernel
theorem dX10_monday_11 : decode cX10_monday 11 = .ok (.ifCond .eq 11, 3) := by decide +kernel
theorem dX10_monday_14 : decode cX10_monday 14 = .ok (.iload_n 2, 1) := by decide +kernel
theorem dX10_monday_15 : decode cX10_monday 15 = .ok (.iload_n 1, 1) := by decide +kernel
theorem dX10_monday_16 : decode cX10_monday 16 = .ok (.iconst (-1), 1) := by decide +kernel
theorem dX10_monday_17 : decode cX10_monday 17 = .ok (.ixor, 1) := by decide +kernel
theorem dX10_monday_18 : decode cX10_monday 18 = .ok (.iand, 1) := by decide +kernel
theorem dX10_monday_19 : decode cX10_monday 19 = .ok (.ifCond .eq 5, 3) := by decide +kernel
theorem dX10_monday_22 : decode cX10_monday 22 = .ok (.iconst (-1), 1) := by decide +kernel
theorem dX10_monday_23 : decode cX10_monday 23 = .ok (.ireturn, 1) := by decide +kernel
theorem dX10_monday_24 : decode cX10_monday 24 = .ok (.iconst 0, 1) := by decide +kernel
theorem dX10_monday_25 : decode cX10_monday 25 = .ok (.istore_n 3, 1) := by decide +kernel
theorem dX10_monday_26 : decode cX10_monday 26 = .ok (.iload_n 3, 1) := by decide +kernel
theorem dX10_monday_27 : decode cX10_monday 27 = .ok (.aload_n 0, 1) := by decide +kernel
theorem dX10_monday_28 : decode cX10_monday 28 = .ok (.getfield 7, 3) := by decide +kernel
theorem dX10_monday_31 : decode cX10_monday 31 = .ok (.iconst 0, 1) := by decide +kernel
theorem dX10_monday_32 : decode cX10_monday 32 = .ok (.iaload, 1) := by decide +kernel
theorem dX10_monday_33 : decode cX10_monday 33 = .ok (.if_icmp .ge 69, 3) := by decide +kernel
theorem dX10_monday_36 : decode cX10_monday 36 = .ok (.aload_n 0, 1) := by decide +kernel
theorem dX10_monday_37 : decode cX10_monday 37 = .ok (.iload_n 3, 1) := by decide +kernel
theorem dX10_monday_38 : decode cX10_monday 38 = .ok (.iconst 5, 1) := by decide +kernel
theorem dX10_monday_39 : decode cX10_monday 39 = .ok (.invokevirtual 67, 3) := by decide +kernel
theorem dX10_monday_42 : decode cX10_monday 42 = .ok (.ifCond .lt 25, 3) := by decide +kernel
theorem dX10_monday_45 : decode cX10_monday 45 = .ok (.iload_n 1, 1) := by decide +kernel
theorem dX10_monday_46 : decode cX10_monday 46 = .ok (.iload_n 3, 1) := by decide +kernel
theorem dX10_monday_47 : decode cX10_monday 47 = .ok (.invokestatic 136, 3) := by decide +kernel
theorem dX10_monday_50 : decode cX10_monday 50 = .ok (.iload_n 1, 1) := by decide +kernel
theorem dX10_monday_51 : decode cX10_monday 51 = .ok (.aload_n 0, 1) := by decide +kernel
theorem dX10_monday_52 : decode cX10_monday 52 = .ok (.iload_n 3, 1) := by decide +kernel
theorem dX10_monday_53 : decode cX10_monday 53 = .ok (.iconst 5, 1) := by decide +kernel
theorem dX10_monday_54 : decode cX10_monday 54 = .ok (.invokevirtual 67, 3) := by decide +kernel
theorem dX10_monday_57 : decode cX10_monday 57 = .ok (.invokestatic 136, 3) := by decide +kernel
theorem dX10_monday_60 : decode cX10_monday 60 = .ok (.if_icmp .eq 7, 3) := by decide +kernel
theorem dX10_monday_63 : decode cX10_monday 63 = .ok (.iconst 1, 1) := by decide +kernel
theorem dX10_monday_64 : decode cX10_monday 64 = .ok (.goto 4, 3) := by decide +kernel
theorem dX10_monday_67 : decode cX10_monday 67 = .ok (.iconst 0, 1) := by decide +kernel
theorem dX10_monday_68 : decode cX10_monday 68 = .ok (.istore 4, 2) := by decide +kernel
theorem dX10_monday_70 : decode cX10_monday 70 = .ok (.iload_n 1, 1) := by decide +kernel
theorem dX10_monday_71 : decode cX10_monday 71 = .ok (.iload_n 3, 1) := by decide +kernel
theorem dX10_monday_72 : decode cX10_monday 72 = .ok (.invokestatic 136, 3) := by decide +kernel
theorem dX10_monday_75 : decode cX10_monday 75 = .ok (.ifCond .eq 13, 3) := by decide +kernel
theorem dX10_monday_78 : decode cX10_monday 78 = .ok (.aload_n 0, 1) := by decide +kernel
theorem dX10_monday_79 : decode cX10_monday 79 = .ok (.iload_n 3, 1) := by decide +kernel
theorem dX10_monday_80 : decode cX10_monday 80 = .ok (.iconst 4, 1) := by decide +kernel
theorem dX10_monday_81 : decode cX10_monday 81 = .ok (.invokevirtual 67, 3) := by decide +kernel
theorem dX10_monday_84 : decode cX10_monday 84 = .ok (.iconst 1, 1) := by decide +kernel
theorem dX10_monday_85 : decode cX10_monday 85 = .ok (.if_icmp .eq 8, 3) := by decide +kernel
theorem dX10_monday_88 : decode cX10_monday 88 = .ok (.iload 4, 2) := by decide +kernel
theorem dX10_monday_90 : decode cX10_monday 90 = .ok (.ifCond .eq 6, 3) := by decide +kernel
theorem dX10_monday_93 : decode cX10_monday 93 = .ok (.bipush (-2), 2) := by decide +kernel
theorem dX10_monday_95 : decode cX10_monday 95 = .ok (.ireturn, 1) := by decide +kernel
theorem dX10_monday_96 : decode cX10_monday 96 = .ok (.iinc 3 1, 3) := by decide +kernel
theorem dX10_monday_99 : decode cX10_monday 99 = .ok (.goto (-73), 3) := by decide +kernel
theorem dX10_monday_102 : decode cX10_monday 102 = .ok (.aload_n 0, 1) := by decide +kernel
theorem dX10_monday_103 : decode cX10_monday 103 = .ok (.getfield 7, 3) := by decide +kernel
theorem dX10_monday_106 : decode cX10_monday 106 = .ok (.iconst 1, 1) := by decide +kernel
theorem dX10_monday_107 : decode cX10_monday 107 = .ok (.iaload, 1) := by decide +kernel
theorem dX10_monday_108 : decode cX10_monday 108 = .ok (.bipush 12, 2) := by decide +kernel
theorem dX10_monday_110 : decode cX10_monday 110 = .ok (.if_icmp .ne 6, 3) := by decide +kernel
theorem dX10_monday_113 : decode cX10_monday 113 = .ok (.bipush (-3), 2) := by decide +kernel
theorem dX10_monday_115 : decode cX10_monday 115 = .ok (.ireturn, 1) := by decide +kernel
theorem dX10_monday_116 : decode cX10_monday 116 = .ok (.aload_n 0, 1) := by decide +kernel
theorem dX10_monday_117 : decode cX10_monday 117 = .ok (.getfield 7, 3) := by decide +kernel
theorem dX10_monday_120 : decode cX10_monday 120 = .ok (.sipush 133, 3) := by decide +kernel
theorem dX10_monday_123 : decode cX10_monday 123 = .ok (.iconst 3, 1) := by decide +kernel
theorem dX10_monday_124 : decode cX10_monday 124 = .ok (.aload_n 0, 1) := by decide +kernel
theorem dX10_monday_125 : decode cX10_monday 125 = .ok (.getfield 7, 3) := by decide +kernel
theorem dX10_monday_128 : decode cX10_monday 128 = .ok (.iconst 1, 1) := by decide +kernel
theorem dX10_monday_129 : decode cX10_monday 129 = .ok (.iaload, 1) := by decide +kernel
theorem dX10_monday_130 : decode cX10_monday 130 = .ok (.imul, 1) := by decide +kernel
theorem dX10_monday_131 : decode cX10_monday 131 = .ok (.iadd, 1) := by decide +kernel
theorem dX10_monday_132 : decode cX10_monday 132 = .ok (.iload_n 1, 1) := by decide +kernel
theorem dX10_monday_133 : decode cX10_monday 133 = .ok (.iastore, 1) := by decide +kernel
theorem dX10_monday_134 : decode cX10_monday 134 = .ok (.aload_n 0, 1) := by decide +kernel
theorem dX10_monday_135 : decode cX10_monday 135 = .ok (.getfield 7, 3) := by decide +kernel
theorem dX10_monday_138 : decode cX10_monday 138 = .ok (.sipush 133, 3) := by decide +kernel
theorem dX10_monday_141 : decode cX10_monday 141 = .ok (.iconst 3, 1) := by decide +kernel
theorem dX10_monday_142 : decode cX10_monday 142 = .ok (.aload_n 0, 1) := by decide +kernel
theorem dX10_monday_143 : decode cX10_monday 143 = .ok (.getfield 7, 3) := by decide +kernel
theorem dX10_monday_146 : decode cX10_monday 146 = .ok (.iconst 1, 1) := by decide +kernel
theorem dX10_monday_147 : decode cX10_monday 147 = .ok (.iaload, 1) := by decide +kernel
theorem dX10_monday_148 : decode cX10_monday 148 = .ok (.imul, 1) := by decide +kernel
theorem dX10_monday_149 : decode cX10_monday 149 = .ok (.iadd, 1) := by decide +kernel
theorem dX10_monday_150 : decode cX10_monday 150 = .ok (.iconst 1, 1) := by decide +kernel
theorem dX10_monday_151 : decode cX10_monday 151 = .ok (.iadd, 1) := by decide +kernel
theorem dX10_monday_152 : decode cX10_monday 152 = .ok (.aload_n 0, 1) := by decide +kernel
theorem dX10_monday_153 : decode cX10_monday 153 = .ok (.iconst 1, 1) := by decide +kernel
theorem dX10_monday_154 : decode cX10_monday 154 = .ok (.invokevirtual 140, 3) := by decide +kernel
theorem dX10_monday_157 : decode cX10_monday 157 = .ok (.iastore, 1) := by decide +kernel
theorem dX10_monday_158 : decode cX10_monday 158 = .ok (.aload_n 0, 1) := by decide +kernel
theorem dX10_monday_159 : decode cX10_monday 159 = .ok (.getfield 7, 3) := by decide +kernel
theorem dX10_monday_162 : decode cX10_monday 162 = .ok (.sipush 133, 3) := by decide +kernel
theorem dX10_monday_165 : decode cX10_monday 165 = .ok (.iconst 3, 1) := by decide +kernel
theorem dX10_monday_166 : decode cX10_monday 166 = .ok (.aload_n 0, 1) := by decide +kernel
theorem dX10_monday_167 : decode cX10_monday 167 = .ok (.getfield 7, 3) := by decide +kernel
theorem dX10_monday_170 : decode cX10_monday 170 = .ok (.iconst 1, 1) := by decide +kernel
theorem dX10_monday_171 : decode cX10_monday 171 = .ok (.iaload, 1) := by decide +kernel
theorem dX10_monday_172 : decode cX10_monday 172 = .ok (.imul, 1) := by decide +kernel
theorem dX10_monday_173 : decode cX10_monday 173 = .ok (.iadd, 1) := by decide +kernel
theorem dX10_monday_174 : decode cX10_monday 174 = .ok (.iconst 2, 1) := by decide +kernel
theorem dX10_monday_175 : decode cX10_monday 175 = .ok (.iadd, 1) := by decide +kernel
theorem dX10_monday_176 : decode cX10_monday 176 = .ok (.aload_n 0, 1) := by decide +kernel
theorem dX10_monday_177 : decode cX10_monday 177 = .ok (.invokevirtual 133, 3) := by decide +kernel
theorem dX10_monday_180 : decode cX10_monday 180 = .ok (.iastore, 1) := by decide +kernel
theorem dX10_monday_181 : decode cX10_monday 181 = .ok (.iconst 0, 1) := by decide +kernel
theorem dX10_monday_182 : decode cX10_monday 182 = .ok (.istore_n 3, 1) := by decide +kernel
theorem dX10_monday_183 : decode cX10_monday 183 = .ok (.iconst 0, 1) := by decide +kernel
theorem dX10_monday_184 : decode cX10_monday 184 = .ok (.istore 4, 2) := by decide +kernel
theorem dX10_monday_186 : decode cX10_monday 186 = .ok (.iload 4, 2) := by decide +kernel
theorem dX10_monday_188 : decode cX10_monday 188 = .ok (.aload_n 0, 1) := by decide +kernel
theorem dX10_monday_189 : decode cX10_monday 189 = .ok (.getfield 7, 3) := by decide +kernel
theorem dX10_monday_192 : decode cX10_monday 192 = .ok (.iconst 0, 1) := by decide +kernel
theorem dX10_monday_193 : decode cX10_monday 193 = .ok (.iaload, 1) := by decide +kernel
theorem dX10_monday_194 : decode cX10_monday 194 = .ok (.if_icmp .ge 122, 3) := by decide +kernel
theorem dX10_monday_197 : decode cX10_monday 197 = .ok (.iload_n 1, 1) := by decide +kernel
theorem dX10_monday_198 : decode cX10_monday 198 = .ok (.iload 4, 2) := by decide +kernel
theorem dX10_monday_200 : decode cX10_monday 200 = .ok (.invokestatic 136, 3) := by decide +kernel
theorem dX10_monday_203 : decode cX10_monday 203 = .ok (.ifCond .eq 107, 3) := by decide +kernel
theorem dX10_monday_206 : decode cX10_monday 206 = .ok (.aload_n 0, 1) := by decide +kernel
theorem dX10_monday_207 : decode cX10_monday 207 = .ok (.iload 4, 2) := by decide +kernel
theorem dX10_monday_209 : decode cX10_monday 209 = .ok (.iconst 2, 1) := by decide +kernel
theorem dX10_monday_210 : decode cX10_monday 210 = .ok (.aload_n 0, 1) := by decide +kernel
theorem dX10_monday_211 : decode cX10_monday 211 = .ok (.aload_n 0, 1) := by decide +kernel
theorem dX10_monday_212 : decode cX10_monday 212 = .ok (.iload 4, 2) := by decide +kernel
theorem dX10_monday_214 : decode cX10_monday 214 = .ok (.iconst 2, 1) := by decide +kernel
theorem dX10_monday_215 : decode cX10_monday 215 = .ok (.invokevirtual 67, 3) := by decide +kernel
theorem dX10_monday_218 : decode cX10_monday 218 = .ok (.aload_n 0, 1) := by decide +kernel
theorem dX10_monday_219 : decode cX10_monday 219 = .ok (.getfield 7, 3) := by decide +kernel
theorem dX10_monday_222 : decode cX10_monday 222 = .ok (.iconst 4, 1) := by decide +kernel
theorem dX10_monday_223 : decode cX10_monday 223 = .ok (.aload_n 0, 1) := by decide +kernel
theorem dX10_monday_224 : decode cX10_monday 224 = .ok (.iload 4, 2) := by decide +kernel
theorem dX10_monday_226 : decode cX10_monday 226 = .ok (.iconst 0, 1) := by decide +kernel
theorem dX10_monday_227 : decode cX10_monday 227 = .ok (.invokevirtual 67, 3) := by decide +kernel
theorem dX10_monday_230 : decode cX10_monday 230 = .ok (.iadd, 1) := by decide +kernel
theorem dX10_monday_231 : decode cX10_monday 231 = .ok (.iaload, 1) := by decide +kernel
theorem dX10_monday_232 : decode cX10_monday 232 = .ok (.invokevirtual 144, 3) := by decide +kernel
theorem dX10_monday_235 : decode cX10_monday 235 = .ok (.invokevirtual 71, 3) := by decide +kernel
theorem dX10_monday_238 : decode cX10_monday 238 = .ok (.aload_n 0, 1) := by decide +kernel
theorem dX10_monday_239 : decode cX10_monday 239 = .ok (.iload 4, 2) := by decide +kernel
theorem dX10_monday_241 : decode cX10_monday 241 = .ok (.iconst 3, 1) := by decide +kernel
theorem dX10_monday_242 : decode cX10_monday 242 = .ok (.aload_n 0, 1) := by decide +kernel
theorem dX10_monday_243 : decode cX10_monday 243 = .ok (.aload_n 0, 1) := by decide +kernel
theorem dX10_monday_244 : decode cX10_monday 244 = .ok (.iload 4, 2) := by decide +kernel
theorem dX10_monday_246 : decode cX10_monday 246 = .ok (.iconst 3, 1) := by decide +kernel
theorem dX10_monday_247 : decode cX10_monday 247 = .ok (.invokevirtual 67, 3) := by decide +kernel
theorem dX10_monday_250 : decode cX10_monday 250 = .ok (.aload_n 0, 1) := by decide +kernel
theorem dX10_monday_251 : decode cX10_monday 251 = .ok (.getfield 7, 3) := by decide +kernel
theorem dX10_monday_254 : decode cX10_monday 254 = .ok (.iconst 4, 1) := by decide +kernel
theorem dX10_monday_255 : decode cX10_monday 255 = .ok (.aload_n 0, 1) := by decide +kernel
theorem dX10_monday_256 : decode cX10_monday 256 = .ok (.iload 4, 2) := by decide +kernel
theorem dX10_monday_258 : decode cX10_monday 258 = .ok (.iconst 0, 1) := by decide +kernel
theorem dX10_monday_259 : decode cX10_monday 259 = .ok (.invokevirtual 67, 3) := by decide +kernel
theorem dX10_monday_262 : decode cX10_monday 262 = .ok (.iadd, 1) := by decide +kernel
theorem dX10_monday_263 : decode cX10_monday 263 = .ok (.iaload, 1) := by decide +kernel
theorem dX10_monday_264 : decode cX10_monday 264 = .ok (.invokevirtual 144, 3) := by decide +kernel
theorem dX10_monday_267 : decode cX10_monday 267 = .ok (.invokevirtual 71, 3) := by decide +kernel
theorem dX10_monday_270 : decode cX10_monday 270 = .ok (.aload_n 0, 1) := by decide +kernel
theorem dX10_monday_271 : decode cX10_monday 271 = .ok (.iload 4, 2) := by decide +kernel
theorem dX10_monday_273 : decode cX10_monday 273 = .ok (.bipush 6, 2) := by decide +kernel
theorem dX10_monday_275 : decode cX10_monday 275 = .ok (.aload_n 0, 1) := by decide +kernel
theorem dX10_monday_276 : decode cX10_monday 276 = .ok (.iload 4, 2) := by decide +kernel
theorem dX10_monday_278 : decode cX10_monday 278 = .ok (.bipush 6, 2) := by decide +kernel
theorem dX10_monday_280 : decode cX10_monday 280 = .ok (.invokevirtual 67, 3) := by decide +kernel
theorem dX10_monday_283 : decode cX10_monday 283 = .ok (.iconst 1, 1) := by decide +kernel
theorem dX10_monday_284 : decode cX10_monday 284 = .ok (.iadd, 1) := by decide +kernel
theorem dX10_monday_285 : decode cX10_monday 285 = .ok (.invokevirtual 71, 3) := by decide +kernel
theorem dX10_monday_288 : decode cX10_monday 288 = .ok (.iload_n 2, 1) := by decide +kernel
theorem dX10_monday_289 : decode cX10_monday 289 = .ok (.iload 4, 2) := by decide +kernel
theorem dX10_monday_291 : decode cX10_monday 291 = .ok (.invokestatic 136, 3) := by decide +kernel
theorem dX10_monday_294 : decode cX10_monday 294 = .ok (.ifCond .ne 16, 3) := by decide +kernel
theorem dX10_monday_297 : decode cX10_monday 297 = .ok (.aload_n 0, 1) := by decide +kernel
theorem dX10_monday_298 : decode cX10_monday 298 = .ok (.iload 4, 2) := by decide +kernel
theorem dX10_monday_300 : decode cX10_monday 300 = .ok (.invokevirtual 147, 3) := by decide +kernel
theorem dX10_monday_303 : decode cX10_monday 303 = .ok (.iload_n 3, 1) := by decide +kernel
theorem dX10_monday_304 : decode cX10_monday 304 = .ok (.iconst 1, 1) := by decide +kernel
theorem dX10_monday_305 : decode cX10_monday 305 = .ok (.iload 4, 2) := by decide +kernel
theorem dX10_monday_307 : decode cX10_monday 307 = .ok (.ishl, 1) := by decide +kernel
theorem dX10_monday_308 : decode cX10_monday 308 = .ok (.ior, 1) := by decide +kernel
theorem dX10_monday_309 : decode cX10_monday 309 = .ok (.istore_n 3, 1) := by decide +kernel
theorem dX10_monday_310 : decode cX10_monday 310 = .ok (.iinc 4 1, 3) := by decide +kernel
theorem dX10_monday_313 : decode cX10_monday 313 = .ok (.goto (-127), 3) := by decide +kernel
theorem dX10_monday_316 : decode cX10_monday 316 = .ok (.iconst 0, 1) := by decide +kernel
theorem dX10_monday_317 : decode cX10_monday 317 = .ok (.istore 4, 2) := by decide +kernel
theorem dX10_monday_319 : decode cX10_monday 319 = .ok (.iload 4, 2) := by decide +kernel
theorem dX10_monday_321 : decode cX10_monday 321 = .ok (.aload_n 0, 1) := by decide +kernel
theorem dX10_monday_322 : decode cX10_monday 322 = .ok (.getfield 7, 3) := by decide +kernel
theorem dX10_monday_325 : decode cX10_monday 325 = .ok (.iconst 0, 1) := by decide +kernel
theorem dX10_monday_326 : decode cX10_monday 326 = .ok (.iaload, 1) := by decide +kernel
theorem dX10_monday_327 : decode cX10_monday 327 = .ok (.if_icmp .ge 40, 3) := by decide +kernel
theorem dX10_monday_330 : decode cX10_monday 330 = .ok (.iload_n 3, 1) := by decide +kernel
theorem dX10_monday_331 : decode cX10_monday 331 = .ok (.iload 4, 2) := by decide +kernel
theorem dX10_monday_333 : decode cX10_monday 333 = .ok (.invokestatic 136, 3) := by decide +kernel
theorem dX10_monday_336 : decode cX10_monday 336 = .ok (.ifCond .eq 25, 3) := by decide +kernel
theorem dX10_monday_339 : decode cX10_monday 339 = .ok (.aload_n 0, 1) := by decide +kernel
theorem dX10_monday_340 : decode cX10_monday 340 = .ok (.iload 4, 2) := by decide +kernel
theorem dX10_monday_342 : decode cX10_monday 342 = .ok (.iconst 4, 1) := by decide +kernel
theorem dX10_monday_343 : decode cX10_monday 343 = .ok (.iconst 1, 1) := by decide +kernel
theorem dX10_monday_344 : decode cX10_monday 344 = .ok (.invokevirtual 71, 3) := by decide +kernel
theorem dX10_monday_347 : decode cX10_monday 347 = .ok (.aload_n 0, 1) := by decide +kernel
theorem dX10_monday_348 : decode cX10_monday 348 = .ok (.iload 4, 2) := by decide +kernel
theorem dX10_monday_350 : decode cX10_monday 350 = .ok (.bipush 7, 2) := by decide +kernel
theorem dX10_monday_352 : decode cX10_monday 352 = .ok (.aload_n 0, 1) := by decide +kernel
theorem dX10_monday_353 : decode cX10_monday 353 = .ok (.getfield 7, 3) := by decide +kernel
theorem dX10_monday_356 : decode cX10_monday 356 = .ok (.iconst 1, 1) := by decide +kernel
theorem dX10_monday_357 : decode cX10_monday 357 = .ok (.iaload, 1) := by decide +kernel
theorem dX10_monday_358 : decode cX10_monday 358 = .ok (.invokevirtual 71, 3) := by decide +kernel
theorem dX10_monday_361 : decode cX10_monday 361 = .ok (.iinc 4 1, 3) := by decide +kernel
theorem dX10_monday_364 : decode cX10_monday 364 = .ok (.goto (-45), 3) := by decide +kernel
theorem dX10_monday_367 : decode cX10_monday 367 = .ok (.aload_n 0, 1) := by decide +kernel
theorem dX10_monday_368 : decode cX10_monday 368 = .ok (.getfield 7, 3) := by decide +kernel
theorem dX10_monday_371 : decode cX10_monday 371 = .ok (.iconst 1, 1) := by decide +kernel
theorem dX10_monday_372 : decode cX10_monday 372 = .ok (.dup2, 1) := by decide +kernel
theorem dX10_monday_373 : decode cX10_monday 373 = .ok (.iaload, 1) := by decide +kernel
theorem dX10_monday_374 : decode cX10_monday 374 = .ok (.iconst 1, 1) := by decide +kernel
theorem dX10_monday_375 : decode cX10_monday 375 = .ok (.iadd, 1) := by decide +kernel
theorem dX10_monday_376 : decode cX10_monday 376 = .ok (.iastore, 1) := by decide +kernel
theorem dX10_monday_377 : decode cX10_monday 377 = .ok (.iload_n 3, 1) := by decide +kernel
theorem dX10_monday_378 : decode cX10_monday 378 = .ok (.invokestatic 151, 3) := by decide +kernel
theorem dX10_monday_381 : decode cX10_monday 381 = .ok (.ireturn, 1) := by decide +kernel
theorem dX10_found_0 : decode cX10_found 0 = .ok (.aload_n 0, 1) := by decide +kernel
theorem dX10_found_1 : decode cX10_found 1 = .ok (.iload_n 1, 1) := by decide +kernel
theorem dX10_found_2 : decode cX10_found 2 = .ok (.invokevirtual 63, 3) := by decide +kernel
theorem dX10_found_5 : decode cX10_found 5 = .ok (.ifCond .ne 5, 3) := by decide +kernel
theorem dX10_found_8 : decode cX10_found 8 = .ok (.iconst (-1), 1) := by decide +kernel
theorem dX10_found_9 : decode cX10_found 9 = .ok (.ireturn, 1) := by decide +kernel
theorem dX10_found_10 : decode cX10_found 10 = .ok (.aload_n 0, 1) := by decide +kernel
theorem dX10_found_11 : decode cX10_found 11 = .ok (.iload_n 1, 1) := by decide +kernel
theorem dX10_found_12 : decode cX10_found 12 = .ok (.iconst 4, 1) := by decide +kernel
theorem dX10_found_13 : decode cX10_found 13 = .ok (.invokevirtual 67, 3) := by decide +kernel
theorem dX10_found_16 : decode cX10_found 16 = .ok (.iconst 1, 1) := by decide +kernel
theorem dX10_found_17 : decode cX10_found 17 = .ok (.if_icmp .eq 6, 3) := by decide +kernel
theorem dX10_found_20 : decode cX10_found 20 = .ok (.bipush (-2), 2) := by decide +kernel
theorem dX10_found_22 : decode cX10_found 22 = .ok (.ireturn, 1) := by decide +kernel
theorem dX10_found_23 : decode cX10_found 23 = .ok (.aload_n 0, 1) := by decide +kernel
theorem dX10_found_24 : decode cX10_found 24 = .ok (.iload_n 1, 1) := by decide +kernel
theorem dX10_found_25 : decode cX10_found 25 = .ok (.bipush 7, 2) := by decide +kernel
theorem dX10_found_27 : decode cX10_found 27 = .ok (.invokevirtual 67, 3) := by decide +kernel
theorem dX10_found_30 : decode cX10_found 30 = .ok (.istore_n 2, 1) := by decide +kernel
theorem dX10_found_31 : decode cX10_found 31 = .ok (.aload_n 0, 1) := by decide +kernel
theorem dX10_found_32 : decode cX10_found 32 = .ok (.iload_n 1, 1) := by decide +kernel
theorem dX10_found_33 : decode cX10_found 33 = .ok (.iconst 4, 1) := by decide +kernel
theorem dX10_found_34 : decode cX10_found 34 = .ok (.iconst 0, 1) := by decide +kernel
theorem dX10_found_35 : decode cX10_found 35 = .ok (.invokevirtual 71, 3) := by decide +kernel
theorem dX10_found_38 : decode cX10_found 38 = .ok (.aload_n 0, 1) := by decide +kernel
theorem dX10_found_39 : decode cX10_found 39 = .ok (.iload_n 1, 1) := by decide +kernel
theorem dX10_found_40 : decode cX10_found 40 = .ok (.bipush 7, 2) := by decide +kernel
theorem dX10_found_42 : decode cX10_found 42 = .ok (.bipush (-4), 2) := by decide +kernel
theorem dX10_found_44 : decode cX10_found 44 = .ok (.invokevirtual 71, 3) := by decide +kernel
theorem dX10_found_47 : decode cX10_found 47 = .ok (.iload_n 2, 1) := by decide +kernel
theorem dX10_found_48 : decode cX10_found 48 = .ok (.ireturn, 1) := by decide +kernel
theorem dX10_more_0 : decode cX10_more 0 = .ok (.iload_n 0, 1) := by decide +kernel
theorem dX10_more_1 : decode cX10_more 1 = .ok (.iload_n 1, 1) := by decide +kernel
theorem dX10_more_2 : decode cX10_more 2 = .ok (.if_icmp .le 7, 3) := by decide +kernel
theorem dX10_more_5 : decode cX10_more 5 = .ok (.iload_n 0, 1) := by decide +kernel
theorem dX10_more_6 : decode cX10_more 6 = .ok (.goto 4, 3) := by decide +kernel
theorem dX10_more_9 : decode cX10_more 9 = .ok (.iload_n 1, 1) := by decide +kernel
theorem dX10_more_10 : decode cX10_more 10 = .ok (.ireturn, 1) := by decide +kernel
theorem dX10_alikeOf_0 : decode cX10_alikeOf 0 = .ok (.aload_n 0, 1) := by decide +kernel
theorem dX10_alikeOf_1 : decode cX10_alikeOf 1 = .ok (.iload_n 1, 1) := by decide +kernel
theorem dX10_alikeOf_2 : decode cX10_alikeOf 2 = .ok (.iconst 3, 1) := by decide +kernel
theorem dX10_alikeOf_3 : decode cX10_alikeOf 3 = .ok (.invokevirtual 67, 3) := by decide +kernel
theorem dX10_alikeOf_6 : decode cX10_alikeOf 6 = .ok (.aload_n 0, 1) := by decide +kernel
theorem dX10_alikeOf_7 : decode cX10_alikeOf 7 = .ok (.iload_n 2, 1) := by decide +kernel
theorem dX10_alikeOf_8 : decode cX10_alikeOf 8 = .ok (.iconst 2, 1) := by decide +kernel
theorem dX10_alikeOf_9 : decode cX10_alikeOf 9 = .ok (.invokevirtual 67, 3) := by decide +kernel
theorem dX10_alikeOf_12 : decode cX10_alikeOf 12 = .ok (.isub, 1) := by decide +kernel
theorem dX10_alikeOf_13 : decode cX10_alikeOf 13 = .ok (.istore_n 3, 1) := by decide +kernel
theorem dX10_alikeOf_14 : decode cX10_alikeOf 14 = .ok (.aload_n 0, 1) := by decide +kernel
theorem dX10_alikeOf_15 : decode cX10_alikeOf 15 = .ok (.iload_n 2, 1) := by decide +kernel
theorem dX10_alikeOf_16 : decode cX10_alikeOf 16 = .ok (.iconst 3, 1) := by decide +kernel
theorem dX10_alikeOf_17 : decode cX10_alikeOf 17 = .ok (.invokevirtual 67, 3) := by decide +kernel
theorem dX10_alikeOf_20 : decode cX10_alikeOf 20 = .ok (.aload_n 0, 1) := by decide +kernel
theorem dX10_alikeOf_21 : decode cX10_alikeOf 21 = .ok (.iload_n 1, 1) := by decide +kernel
theorem dX10_alikeOf_22 : decode cX10_alikeOf 22 = .ok (.iconst 2, 1) := by decide +kernel
theorem dX10_alikeOf_23 : decode cX10_alikeOf 23 = .ok (.invokevirtual 67, 3) := by decide +kernel
theorem dX10_alikeOf_26 : decode cX10_alikeOf 26 = .ok (.isub, 1) := by decide +kernel
theorem dX10_alikeOf_27 : decode cX10_alikeOf 27 = .ok (.istore 4, 2) := by decide +kernel
theorem dX10_alikeOf_29 : decode cX10_alikeOf 29 = .ok (.iload_n 3, 1) := by decide +kernel
theorem dX10_alikeOf_30 : decode cX10_alikeOf 30 = .ok (.iload 4, 2) := by decide +kernel
theorem dX10_alikeOf_32 : decode cX10_alikeOf 32 = .ok (.invokestatic 154, 3) := by decide +kernel
theorem dX10_alikeOf_35 : decode cX10_alikeOf 35 = .ok (.istore 5, 2) := by decide +kernel
theorem dX10_alikeOf_37 : decode cX10_alikeOf 37 = .ok (.iconst 0, 1) := by decide +kernel
theorem dX10_alikeOf_38 : decode cX10_alikeOf 38 = .ok (.aload_n 0, 1) := by decide +kernel
theorem dX10_alikeOf_39 : decode cX10_alikeOf 39 = .ok (.iload_n 1, 1) := by decide +kernel
theorem dX10_alikeOf_40 : decode cX10_alikeOf 40 = .ok (.iconst 2, 1) := by decide +kernel
theorem dX10_alikeOf_41 : decode cX10_alikeOf 41 = .ok (.invokevirtual 67, 3) := by decide +kernel
theorem dX10_alikeOf_44 : decode cX10_alikeOf 44 = .ok (.aload_n 0, 1) := by decide +kernel
theorem dX10_alikeOf_45 : decode cX10_alikeOf 45 = .ok (.iload_n 2, 1) := by decide +kernel
theorem dX10_alikeOf_46 : decode cX10_alikeOf 46 = .ok (.iconst 3, 1) := by decide +kernel
theorem dX10_alikeOf_47 : decode cX10_alikeOf 47 = .ok (.invokevirtual 67, 3) := by decide +kernel
theorem dX10_alikeOf_50 : decode cX10_alikeOf 50 = .ok (.isub, 1) := by decide +kernel
theorem dX10_alikeOf_51 : decode cX10_alikeOf 51 = .ok (.aload_n 0, 1) := by decide +kernel
theorem dX10_alikeOf_52 : decode cX10_alikeOf 52 = .ok (.iload_n 2, 1) := by decide +kernel
theorem dX10_alikeOf_53 : decode cX10_alikeOf 53 = .ok (.iconst 2, 1) := by decide +kernel
theorem dX10_alikeOf_54 : decode cX10_alikeOf 54 = .ok (.invokevirtual 67, 3) := by decide +kernel
theorem dX10_alikeOf_57 : decode cX10_alikeOf 57 = .ok (.aload_n 0, 1) := by decide +kernel
theorem dX10_alikeOf_58 : decode cX10_alikeOf 58 = .ok (.iload_n 1, 1) := by decide +kernel
theorem dX10_alikeOf_59 : decode cX10_alikeOf 59 = .ok (.iconst 3, 1) := by decide +kernel
theorem dX10_alikeOf_60 : decode cX10_alikeOf 60 = .ok (.invokevirtual 67, 3) := by decide +kernel
theorem dX10_alikeOf_63 : decode cX10_alikeOf 63 = .ok (.isub, 1) := by decide +kernel
theorem dX10_alikeOf_64 : decode cX10_alikeOf 64 = .ok (.invokestatic 154, 3) := by decide +kernel
theorem dX10_alikeOf_67 : decode cX10_alikeOf 67 = .ok (.invokestatic 154, 3) := by decide +kernel
theorem dX10_alikeOf_70 : decode cX10_alikeOf 70 = .ok (.istore 6, 2) := by decide +kernel
theorem dX10_alikeOf_72 : decode cX10_alikeOf 72 = .ok (.iload 5, 2) := by decide +kernel
theorem dX10_alikeOf_74 : decode cX10_alikeOf 74 = .ok (.aload_n 0, 1) := by decide +kernel
theorem dX10_alikeOf_75 : decode cX10_alikeOf 75 = .ok (.getfield 7, 3) := by decide +kernel
theorem dX10_alikeOf_78 : decode cX10_alikeOf 78 = .ok (.iconst 2, 1) := by decide +kernel
theorem dX10_alikeOf_79 : decode cX10_alikeOf 79 = .ok (.iaload, 1) := by decide +kernel
theorem dX10_alikeOf_80 : decode cX10_alikeOf 80 = .ok (.if_icmp .gt 7, 3) := by decide +kernel
theorem dX10_alikeOf_83 : decode cX10_alikeOf 83 = .ok (.iconst 2, 1) := by decide +kernel
theorem dX10_alikeOf_84 : decode cX10_alikeOf 84 = .ok (.goto 19, 3) := by decide +kernel
theorem dX10_alikeOf_87 : decode cX10_alikeOf 87 = .ok (.iload 6, 2) := by decide +kernel
theorem dX10_alikeOf_89 : decode cX10_alikeOf 89 = .ok (.aload_n 0, 1) := by decide +kernel
theorem dX10_alikeOf_90 : decode cX10_alikeOf 90 = .ok (.getfield 7, 3) := by decide +kernel
theorem dX10_alikeOf_93 : decode cX10_alikeOf 93 = .ok (.iconst 2, 1) := by decide +kernel
theorem dX10_alikeOf_94 : decode cX10_alikeOf 94 = .ok (.iaload, 1) := by decide +kernel
theorem dX10_alikeOf_95 : decode cX10_alikeOf 95 = .ok (.if_icmp .gt 7, 3) := by decide +kernel
theorem dX10_alikeOf_98 : decode cX10_alikeOf 98 = .ok (.iconst 1, 1) := by decide +kernel
theorem dX10_alikeOf_99 : decode cX10_alikeOf 99 = .ok (.goto 4, 3) := by decide +kernel
theorem dX10_alikeOf_102 : decode cX10_alikeOf 102 = .ok (.iconst 0, 1) := by decide +kernel
theorem dX10_alikeOf_103 : decode cX10_alikeOf 103 = .ok (.ireturn, 1) := by decide +kernel
theorem dX10_alike_0 : decode cX10_alike 0 = .ok (.aload_n 0, 1) := by decide +kernel
theorem dX10_alike_1 : decode cX10_alike 1 = .ok (.iload_n 1, 1) := by decide +kernel
theorem dX10_alike_2 : decode cX10_alike 2 = .ok (.iload_n 2, 1) := by decide +kernel
theorem dX10_alike_3 : decode cX10_alike 3 = .ok (.invokevirtual 157, 3) := by decide +kernel
theorem dX10_alike_6 : decode cX10_alike 6 = .ok (.ifCond .eq 12, 3) := by decide +kernel
theorem dX10_alike_9 : decode cX10_alike 9 = .ok (.aload_n 0, 1) := by decide +kernel
theorem dX10_alike_10 : decode cX10_alike 10 = .ok (.iload_n 1, 1) := by decide +kernel
theorem dX10_alike_11 : decode cX10_alike 11 = .ok (.iload_n 2, 1) := by decide +kernel
theorem dX10_alike_12 : decode cX10_alike 12 = .ok (.invokevirtual 160, 3) := by decide +kernel
theorem dX10_alike_15 : decode cX10_alike 15 = .ok (.goto 4, 3) := by decide +kernel
theorem dX10_alike_18 : decode cX10_alike 18 = .ok (.iconst (-1), 1) := by decide +kernel
theorem dX10_alike_19 : decode cX10_alike 19 = .ok (.ireturn, 1) := by decide +kernel
theorem dX10_bars_0 : decode cX10_bars 0 = .ok (.aload_n 0, 1) := by decide +kernel
theorem dX10_bars_1 : decode cX10_bars 1 = .ok (.iload_n 1, 1) := by decide +kernel
theorem dX10_bars_2 : decode cX10_bars 2 = .ok (.iconst 0, 1) := by decide +kernel
theorem dX10_bars_3 : decode cX10_bars 3 = .ok (.invokevirtual 67, 3) := by decide +kernel
theorem dX10_bars_6 : decode cX10_bars 6 = .ok (.aload_n 0, 1) := by decide +kernel
theorem dX10_bars_7 : decode cX10_bars 7 = .ok (.iload_n 2, 1) := by decide +kernel
theorem dX10_bars_8 : decode cX10_bars 8 = .ok (.iconst 0, 1) := by decide +kernel
theorem dX10_bars_9 : decode cX10_bars 9 = .ok (.invokevirtual 67, 3) := by decide +kernel
theorem dX10_bars_12 : decode cX10_bars 12 = .ok (.if_icmp .eq 7, 3) := by decide +kernel
theorem dX10_bars_15 : decode cX10_bars 15 = .ok (.iconst 1, 1) := by decide +kernel
theorem dX10_bars_16 : decode cX10_bars 16 = .ok (.goto 4, 3) := by decide +kernel
theorem dX10_bars_19 : decode cX10_bars 19 = .ok (.iconst 0, 1) := by decide +kernel
theorem dX10_bars_20 : decode cX10_bars 20 = .ok (.istore_n 3, 1) := by decide +kernel
theorem dX10_bars_21 : decode cX10_bars 21 = .ok (.iload_n 3, 1) := by decide +kernel
theorem dX10_bars_22 : decode cX10_bars 22 = .ok (.aload_n 0, 1) := by decide +kernel
theorem dX10_bars_23 : decode cX10_bars 23 = .ok (.getfield 7, 3) := by decide +kernel
theorem dX10_bars_26 : decode cX10_bars 26 = .ok (.iconst 3, 1) := by decide +kernel
theorem dX10_bars_27 : decode cX10_bars 27 = .ok (.iaload, 1) := by decide +kernel
theorem dX10_bars_28 : decode cX10_bars 28 = .ok (.iconst 1, 1) := by decide +kernel
theorem dX10_bars_29 : decode cX10_bars 29 = .ok (.if_icmp .ne 22, 3) := by decide +kernel
theorem dX10_bars_32 : decode cX10_bars 32 = .ok (.aload_n 0, 1) := by decide +kernel
theorem dX10_bars_33 : decode cX10_bars 33 = .ok (.iload_n 1, 1) := by decide +kernel
theorem dX10_bars_34 : decode cX10_bars 34 = .ok (.iconst 1, 1) := by decide +kernel
theorem dX10_bars_35 : decode cX10_bars 35 = .ok (.invokevirtual 67, 3) := by decide +kernel
theorem dX10_bars_38 : decode cX10_bars 38 = .ok (.aload_n 0, 1) := by decide +kernel
theorem dX10_bars_39 : decode cX10_bars 39 = .ok (.iload_n 2, 1) := by decide +kernel
theorem dX10_bars_40 : decode cX10_bars 40 = .ok (.iconst 1, 1) := by decide +kernel
theorem dX10_bars_41 : decode cX10_bars 41 = .ok (.invokevirtual 67, 3) := by decide +kernel
theorem dX10_bars_44 : decode cX10_bars 44 = .ok (.if_icmp .ne 7, 3) := by decide +kernel
theorem dX10_bars_47 : decode cX10_bars 47 = .ok (.iconst 2, 1) := by decide +kernel
theorem dX10_bars_48 : decode cX10_bars 48 = .ok (.goto 4, 3) := by decide +kernel
theorem dX10_bars_51 : decode cX10_bars 51 = .ok (.iconst 0, 1) := by decide +kernel
theorem dX10_bars_52 : decode cX10_bars 52 = .ok (.ior, 1) := by decide +kernel
theorem dX10_bars_53 : decode cX10_bars 53 = .ok (.istore_n 3, 1) := by decide +kernel
theorem dX10_bars_54 : decode cX10_bars 54 = .ok (.iload_n 3, 1) := by decide +kernel
theorem dX10_bars_55 : decode cX10_bars 55 = .ok (.aload_n 0, 1) := by decide +kernel
theorem dX10_bars_56 : decode cX10_bars 56 = .ok (.iload_n 1, 1) := by decide +kernel
theorem dX10_bars_57 : decode cX10_bars 57 = .ok (.iload_n 2, 1) := by decide +kernel
theorem dX10_bars_58 : decode cX10_bars 58 = .ok (.invokevirtual 160, 3) := by decide +kernel
theorem dX10_bars_61 : decode cX10_bars 61 = .ok (.ifCond .ne 7, 3) := by decide +kernel
theorem dX10_bars_64 : decode cX10_bars 64 = .ok (.iconst 4, 1) := by decide +kernel
theorem dX10_bars_65 : decode cX10_bars 65 = .ok (.goto 4, 3) := by decide +kernel
theorem dX10_bars_68 : decode cX10_bars 68 = .ok (.iconst 0, 1) := by decide +kernel
theorem dX10_bars_69 : decode cX10_bars 69 = .ok (.ior, 1) := by decide +kernel
theorem dX10_bars_70 : decode cX10_bars 70 = .ok (.istore_n 3, 1) := by decide +kernel
theorem dX10_bars_71 : decode cX10_bars 71 = .ok (.iconst 0, 1) := by decide +kernel
theorem dX10_bars_72 : decode cX10_bars 72 = .ok (.istore 4, 2) := by decide +kernel
theorem dX10_bars_74 : decode cX10_bars 74 = .ok (.iload 4, 2) := by decide +kernel
theorem dX10_bars_76 : decode cX10_bars 76 = .ok (.aload_n 0, 1) := by decide +kernel
theorem dX10_bars_77 : decode cX10_bars 77 = .ok (.getfield 7, 3) := by decide +kernel
theorem dX10_bars_80 : decode cX10_bars 80 = .ok (.iconst 1, 1) := by decide +kernel
theorem dX10_bars_81 : decode cX10_bars 81 = .ok (.iaload, 1) := by decide +kernel
theorem dX10_bars_82 : decode cX10_bars 82 = .ok (.if_icmp .ge 151, 3) := by decide +kernel
theorem dX10_bars_85 : decode cX10_bars 85 = .ok (.aload_n 0, 1) := by decide +kernel
theorem dX10_bars_86 : decode cX10_bars 86 = .ok (.getfield 7, 3) := by decide +kernel
theorem dX10_bars_89 : decode cX10_bars 89 = .ok (.sipush 133, 3) := by decide +kernel
theorem dX10_bars_92 : decode cX10_bars 92 = .ok (.iconst 3, 1) := by decide +kernel
theorem dX10_bars_93 : decode cX10_bars 93 = .ok (.iload 4, 2) := by decide +kernel
theorem dX10_bars_95 : decode cX10_bars 95 = .ok (.imul, 1) := by decide +kernel
theorem dX10_bars_96 : decode cX10_bars 96 = .ok (.iadd, 1) := by decide +kernel
theorem dX10_bars_97 : decode cX10_bars 97 = .ok (.iaload, 1) := by decide +kernel
theorem dX10_bars_98 : decode cX10_bars 98 = .ok (.istore 5, 2) := by decide +kernel
theorem dX10_bars_100 : decode cX10_bars 100 = .ok (.aload_n 0, 1) := by decide +kernel
theorem dX10_bars_101 : decode cX10_bars 101 = .ok (.getfield 7, 3) := by decide +kernel
theorem dX10_bars_104 : decode cX10_bars 104 = .ok (.sipush 133, 3) := by decide +kernel
theorem dX10_bars_107 : decode cX10_bars 107 = .ok (.iconst 3, 1) := by decide +kernel
theorem dX10_bars_108 : decode cX10_bars 108 = .ok (.iload 4, 2) := by decide +kernel
theorem dX10_bars_110 : decode cX10_bars 110 = .ok (.imul, 1) := by decide +kernel
theorem dX10_bars_111 : decode cX10_bars 111 = .ok (.iadd, 1) := by decide +kernel
theorem dX10_bars_112 : decode cX10_bars 112 = .ok (.iconst 1, 1) := by decide +kernel
theorem dX10_bars_113 : decode cX10_bars 113 = .ok (.iadd, 1) := by decide +kernel
theorem dX10_bars_114 : decode cX10_bars 114 = .ok (.iaload, 1) := by decide +kernel
theorem dX10_bars_115 : decode cX10_bars 115 = .ok (.istore 6, 2) := by decide +kernel
theorem dX10_bars_117 : decode cX10_bars 117 = .ok (.aload_n 0, 1) := by decide +kernel
theorem dX10_bars_118 : decode cX10_bars 118 = .ok (.getfield 7, 3) := by decide +kernel
theorem dX10_bars_121 : decode cX10_bars 121 = .ok (.sipush 133, 3) := by decide +kernel
theorem dX10_bars_124 : decode cX10_bars 124 = .ok (.iconst 3, 1) := by decide +kernel
theorem dX10_bars_125 : decode cX10_bars 125 = .ok (.iload 4, 2) := by decide +kernel
theorem dX10_bars_127 : decode cX10_bars 127 = .ok (.imul, 1) := by decide +kernel
theorem dX10_bars_128 : decode cX10_bars 128 = .ok (.iadd, 1) := by decide +kernel
theorem dX10_bars_129 : decode cX10_bars 129 = .ok (.iconst 2, 1) := by decide +kernel
theorem dX10_bars_130 : decode cX10_bars 130 = .ok (.iadd, 1) := by decide +kernel
theorem dX10_bars_131 : decode cX10_bars 131 = .ok (.iaload, 1) := by decide +kernel
theorem dX10_bars_132 : decode cX10_bars 132 = .ok (.istore 7, 2) := by decide +kernel
theorem dX10_bars_134 : decode cX10_bars 134 = .ok (.iload 5, 2) := by decide +kernel
theorem dX10_bars_136 : decode cX10_bars 136 = .ok (.iload_n 1, 1) := by decide +kernel
theorem dX10_bars_137 : decode cX10_bars 137 = .ok (.invokestatic 136, 3) := by decide +kernel
theorem dX10_bars_140 : decode cX10_bars 140 = .ok (.ifCond .eq 21, 3) := by decide +kernel
theorem dX10_bars_143 : decode cX10_bars 143 = .ok (.iload 5, 2) := by decide +kernel
theorem dX10_bars_145 : decode cX10_bars 145 = .ok (.iload_n 2, 1) := by decide +kernel
theorem dX10_bars_146 : decode cX10_bars 146 = .ok (.invokestatic 136, 3) := by decide +kernel
theorem dX10_bars_149 : decode cX10_bars 149 = .ok (.ifCond .ne 12, 3) := by decide +kernel
theorem dX10_bars_152 : decode cX10_bars 152 = .ok (.iload 6, 2) := by decide +kernel
theorem dX10_bars_154 : decode cX10_bars 154 = .ok (.iload_n 2, 1) := by decide +kernel
theorem dX10_bars_155 : decode cX10_bars 155 = .ok (.invokestatic 136, 3) := by decide +kernel
theorem dX10_bars_158 : decode cX10_bars 158 = .ok (.ifCond .eq 30, 3) := by decide +kernel
theorem dX10_bars_161 : decode cX10_bars 161 = .ok (.iload 5, 2) := by decide +kernel
theorem dX10_bars_163 : decode cX10_bars 163 = .ok (.iload_n 2, 1) := by decide +kernel
theorem dX10_bars_164 : decode cX10_bars 164 = .ok (.invokestatic 136, 3) := by decide +kernel
theorem dX10_bars_167 : decode cX10_bars 167 = .ok (.ifCond .eq 25, 3) := by decide +kernel
theorem dX10_bars_170 : decode cX10_bars 170 = .ok (.iload 5, 2) := by decide +kernel
theorem dX10_bars_172 : decode cX10_bars 172 = .ok (.iload_n 1, 1) := by decide +kernel
theorem dX10_bars_173 : decode cX10_bars 173 = .ok (.invokestatic 136, 3) := by decide +kernel
theorem dX10_bars_176 : decode cX10_bars 176 = .ok (.ifCond .ne 16, 3) := by decide +kernel
theorem dX10_bars_179 : decode cX10_bars 179 = .ok (.iload 6, 2) := by decide +kernel
theorem dX10_bars_181 : decode cX10_bars 181 = .ok (.iload_n 1, 1) := by decide +kernel
theorem dX10_bars_182 : decode cX10_bars 182 = .ok (.invokestatic 136, 3) := by decide +kernel
theorem dX10_bars_185 : decode cX10_bars 185 = .ok (.ifCond .ne 7, 3) := by decide +kernel
theorem dX10_bars_188 : decode cX10_bars 188 = .ok (.iconst 1, 1) := by decide +kernel
theorem dX10_bars_189 : decode cX10_bars 189 = .ok (.goto 4, 3) := by decide +kernel
theorem dX10_bars_192 : decode cX10_bars 192 = .ok (.iconst 0, 1) := by decide +kernel
theorem dX10_bars_193 : decode cX10_bars 193 = .ok (.istore 8, 2) := by decide +kernel
theorem dX10_bars_195 : decode cX10_bars 195 = .ok (.iload_n 3, 1) := by decide +kernel
theorem dX10_bars_196 : decode cX10_bars 196 = .ok (.iload 7, 2) := by decide +kernel
theorem dX10_bars_198 : decode cX10_bars 198 = .ok (.iload_n 1, 1) := by decide +kernel
theorem dX10_bars_199 : decode cX10_bars 199 = .ok (.invokestatic 136, 3) := by decide +kernel
theorem dX10_bars_202 : decode cX10_bars 202 = .ok (.ifCond .eq 22, 3) := by decide +kernel
theorem dX10_bars_205 : decode cX10_bars 205 = .ok (.iload 7, 2) := by decide +kernel
theorem dX10_bars_207 : decode cX10_bars 207 = .ok (.iload_n 2, 1) := by decide +kernel
theorem dX10_bars_208 : decode cX10_bars 208 = .ok (.invokestatic 136, 3) := by decide +kernel
theorem dX10_bars_211 : decode cX10_bars 211 = .ok (.ifCond .eq 13, 3) := by decide +kernel
theorem dX10_bars_214 : decode cX10_bars 214 = .ok (.iload 8, 2) := by decide +kernel
theorem dX10_bars_216 : decode cX10_bars 216 = .ok (.ifCond .eq 8, 3) := by decide +kernel
theorem dX10_bars_219 : decode cX10_bars 219 = .ok (.bipush 8, 2) := by decide +kernel
theorem dX10_bars_221 : decode cX10_bars 221 = .ok (.goto 4, 3) := by decide +kernel
theorem dX10_bars_224 : decode cX10_bars 224 = .ok (.iconst 0, 1) := by decide +kernel
theorem dX10_bars_225 : decode cX10_bars 225 = .ok (.ior, 1) := by decide +kernel
theorem dX10_bars_226 : decode cX10_bars 226 = .ok (.istore_n 3, 1) := by decide +kernel
theorem dX10_bars_227 : decode cX10_bars 227 = .ok (.iinc 4 1, 3) := by decide +kernel
theorem dX10_bars_230 : decode cX10_bars 230 = .ok (.goto (-156), 3) := by decide +kernel
theorem dX10_bars_233 : decode cX10_bars 233 = .ok (.iload_n 3, 1) := by decide +kernel
theorem dX10_bars_234 : decode cX10_bars 234 = .ok (.ireturn, 1) := by decide +kernel
theorem dX10_fellows_0 : decode cX10_fellows 0 = .ok (.aload_n 0, 1) := by decide +kernel
theorem dX10_fellows_1 : decode cX10_fellows 1 = .ok (.iload_n 1, 1) := by decide +kernel
theorem dX10_fellows_2 : decode cX10_fellows 2 = .ok (.iload_n 2, 1) := by decide +kernel
theorem dX10_fellows_3 : decode cX10_fellows 3 = .ok (.invokevirtual 157, 3) := by decide +kernel
theorem dX10_fellows_6 : decode cX10_fellows 6 = .ok (.ifCond .eq 12, 3) := by decide +kernel
theorem dX10_fellows_9 : decode cX10_fellows 9 = .ok (.aload_n 0, 1) := by decide +kernel
theorem dX10_fellows_10 : decode cX10_fellows 10 = .ok (.iload_n 1, 1) := by decide +kernel
theorem dX10_fellows_11 : decode cX10_fellows 11 = .ok (.iload_n 2, 1) := by decide +kernel
theorem dX10_fellows_12 : decode cX10_fellows 12 = .ok (.invokevirtual 163, 3) := by decide +kernel
theorem dX10_fellows_15 : decode cX10_fellows 15 = .ok (.goto 4, 3) := by decide +kernel
theorem dX10_fellows_18 : decode cX10_fellows 18 = .ok (.iconst (-1), 1) := by decide +kernel
theorem dX10_fellows_19 : decode cX10_fellows 19 = .ok (.ireturn, 1) := by decide +kernel
theorem dX10_count_0 : decode cX10_count 0 = .ok (.iload_n 1, 1) := by decide +kernel
theorem dX10_count_1 : decode cX10_count 1 = .ok (.tableswitch 72 0 5 #[39, 46, 46, 46, 57, 64], 39) := by decide +kernel
theorem dX10_count_40 : decode cX10_count 40 = .ok (.aload_n 0, 1) := by decide +kernel
theorem dX10_count_41 : decode cX10_count 41 = .ok (.getfield 7, 3) := by decide +kernel
theorem dX10_count_44 : decode cX10_count 44 = .ok (.iconst 0, 1) := by decide +kernel
theorem dX10_count_45 : decode cX10_count 45 = .ok (.iaload, 1) := by decide +kernel
theorem dX10_count_46 : decode cX10_count 46 = .ok (.ireturn, 1) := by decide +kernel
theorem dX10_count_47 : decode cX10_count 47 = .ok (.aload_n 0, 1) := by decide +kernel
theorem dX10_count_48 : decode cX10_count 48 = .ok (.iload_n 1, 1) := by decide +kernel
theorem dX10_count_49 : decode cX10_count 49 = .ok (.iconst 1, 1) := by decide +kernel
theorem dX10_count_50 : decode cX10_count 50 = .ok (.isub, 1) := by decide +kernel
theorem dX10_count_51 : decode cX10_count 51 = .ok (.invokevirtual 140, 3) := by decide +kernel
theorem dX10_count_54 : decode cX10_count 54 = .ok (.invokestatic 151, 3) := by decide +kernel
theorem dX10_count_57 : decode cX10_count 57 = .ok (.ireturn, 1) := by decide +kernel
theorem dX10_count_58 : decode cX10_count 58 = .ok (.aload_n 0, 1) := by decide +kernel
theorem dX10_count_59 : decode cX10_count 59 = .ok (.getfield 7, 3) := by decide +kernel
theorem dX10_count_62 : decode cX10_count 62 = .ok (.iconst 1, 1) := by decide +kernel
theorem dX10_count_63 : decode cX10_count 63 = .ok (.iaload, 1) := by decide +kernel
theorem dX10_count_64 : decode cX10_count 64 = .ok (.ireturn, 1) := by decide +kernel
theorem dX10_count_65 : decode cX10_count 65 = .ok (.aload_n 0, 1) := by decide +kernel
theorem dX10_count_66 : decode cX10_count 66 = .ok (.bipush (-4), 2) := by decide +kernel
theorem dX10_count_68 : decode cX10_count 68 = .ok (.iconst 0, 1) := by decide +kernel
theorem dX10_count_69 : decode cX10_count 69 = .ok (.invokevirtual 166, 3) := by decide +kernel
theorem dX10_count_72 : decode cX10_count 72 = .ok (.ireturn, 1) := by decide +kernel
theorem dX10_count_73 : decode cX10_count 73 = .ok (.iconst (-1), 1) := by decide +kernel
theorem dX10_count_74 : decode cX10_count 74 = .ok (.ireturn, 1) := by decide +kernel
theorem dX10_lostOf_0 : decode cX10_lostOf 0 = .ok (.iconst 0, 1) := by decide +kernel
theorem dX10_lostOf_1 : decode cX10_lostOf 1 = .ok (.istore_n 3, 1) := by decide +kernel
theorem dX10_lostOf_2 : decode cX10_lostOf 2 = .ok (.iconst 0, 1) := by decide +kernel
theorem dX10_lostOf_3 : decode cX10_lostOf 3 = .ok (.istore 4, 2) := by decide +kernel
theorem dX10_lostOf_5 : decode cX10_lostOf 5 = .ok (.iload 4, 2) := by decide +kernel
theorem dX10_lostOf_7 : decode cX10_lostOf 7 = .ok (.aload_n 0, 1) := by decide +kernel
theorem dX10_lostOf_8 : decode cX10_lostOf 8 = .ok (.getfield 7, 3) := by decide +kernel
theorem dX10_lostOf_11 : decode cX10_lostOf 11 = .ok (.iconst 0, 1) := by decide +kernel
theorem dX10_lostOf_12 : decode cX10_lostOf 12 = .ok (.iaload, 1) := by decide +kernel
theorem dX10_lostOf_13 : decode cX10_lostOf 13 = .ok (.if_icmp .ge 54, 3) := by decide +kernel
theorem dX10_lostOf_16 : decode cX10_lostOf 16 = .ok (.iload_n 3, 1) := by decide +kernel
theorem dX10_lostOf_17 : decode cX10_lostOf 17 = .ok (.aload_n 0, 1) := by decide +kernel
theorem dX10_lostOf_18 : decode cX10_lostOf 18 = .ok (.iload 4, 2) := by decide +kernel
theorem dX10_lostOf_20 : decode cX10_lostOf 20 = .ok (.iconst 4, 1) := by decide +kernel
theorem dX10_lostOf_21 : decode cX10_lostOf 21 = .ok (.invokevirtual 67, 3) := by decide +kernel
theorem dX10_lostOf_24 : decode cX10_lostOf 24 = .ok (.iconst 1, 1) := by decide +kernel
theorem dX10_lostOf_25 : decode cX10_lostOf 25 = .ok (.if_icmp .ne 33, 3) := by decide +kernel
theorem dX10_lostOf_28 : decode cX10_lostOf 28 = .ok (.aload_n 0, 1) := by decide +kernel
theorem dX10_lostOf_29 : decode cX10_lostOf 29 = .ok (.iload 4, 2) := by decide +kernel
theorem dX10_lostOf_31 : decode cX10_lostOf 31 = .ok (.iconst 1, 1) := by decide +kernel
theorem dX10_lostOf_32 : decode cX10_lostOf 32 = .ok (.invokevirtual 67, 3) := by decide +kernel
theorem dX10_lostOf_35 : decode cX10_lostOf 35 = .ok (.iload_n 2, 1) := by decide +kernel
theorem dX10_lostOf_36 : decode cX10_lostOf 36 = .ok (.if_icmp .ne 22, 3) := by decide +kernel
theorem dX10_lostOf_39 : decode cX10_lostOf 39 = .ok (.iload_n 1, 1) := by decide +kernel
theorem dX10_lostOf_40 : decode cX10_lostOf 40 = .ok (.ifCond .lt 14, 3) := by decide +kernel
theorem dX10_lostOf_43 : decode cX10_lostOf 43 = .ok (.aload_n 0, 1) := by decide +kernel
theorem dX10_lostOf_44 : decode cX10_lostOf 44 = .ok (.iload 4, 2) := by decide +kernel
theorem dX10_lostOf_46 : decode cX10_lostOf 46 = .ok (.iconst 0, 1) := by decide +kernel
theorem dX10_lostOf_47 : decode cX10_lostOf 47 = .ok (.invokevirtual 67, 3) := by decide +kernel
theorem dX10_lostOf_50 : decode cX10_lostOf 50 = .ok (.iload_n 1, 1) := by decide +kernel
theorem dX10_lostOf_51 : decode cX10_lostOf 51 = .ok (.if_icmp .ne 7, 3) := by decide +kernel
theorem dX10_lostOf_54 : decode cX10_lostOf 54 = .ok (.iconst 1, 1) := by decide +kernel
theorem dX10_lostOf_55 : decode cX10_lostOf 55 = .ok (.goto 4, 3) := by decide +kernel
theorem dX10_lostOf_58 : decode cX10_lostOf 58 = .ok (.iconst 0, 1) := by decide +kernel
theorem dX10_lostOf_59 : decode cX10_lostOf 59 = .ok (.iadd, 1) := by decide +kernel
theorem dX10_lostOf_60 : decode cX10_lostOf 60 = .ok (.istore_n 3, 1) := by decide +kernel
theorem dX10_lostOf_61 : decode cX10_lostOf 61 = .ok (.iinc 4 1, 3) := by decide +kernel
theorem dX10_lostOf_64 : decode cX10_lostOf 64 = .ok (.goto (-59), 3) := by decide +kernel
theorem dX10_lostOf_67 : decode cX10_lostOf 67 = .ok (.iload_n 3, 1) := by decide +kernel
theorem dX10_lostOf_68 : decode cX10_lostOf 68 = .ok (.ireturn, 1) := by decide +kernel
theorem dX10_distance_0 : decode cX10_distance 0 = .ok (.aload_n 0, 1) := by decide +kernel
theorem dX10_distance_1 : decode cX10_distance 1 = .ok (.iload_n 1, 1) := by decide +kernel
theorem dX10_distance_2 : decode cX10_distance 2 = .ok (.iconst 2, 1) := by decide +kernel
theorem dX10_distance_3 : decode cX10_distance 3 = .ok (.invokevirtual 67, 3) := by decide +kernel
theorem dX10_distance_6 : decode cX10_distance 6 = .ok (.aload_n 0, 1) := by decide +kernel
theorem dX10_distance_7 : decode cX10_distance 7 = .ok (.iload_n 1, 1) := by decide +kernel
theorem dX10_distance_8 : decode cX10_distance 8 = .ok (.iconst 3, 1) := by decide +kernel
theorem dX10_distance_9 : decode cX10_distance 9 = .ok (.invokevirtual 67, 3) := by decide +kernel
theorem dX10_distance_12 : decode cX10_distance 12 = .ok (.iadd, 1) := by decide +kernel
theorem dX10_distance_13 : decode cX10_distance 13 = .ok (.aload_n 0, 1) := by decide +kernel
theorem dX10_distance_14 : decode cX10_distance 14 = .ok (.iload_n 2, 1) := by decide +kernel
theorem dX10_distance_15 : decode cX10_distance 15 = .ok (.iconst 2, 1) := by decide +kernel
theorem dX10_distance_16 : decode cX10_distance 16 = .ok (.invokevirtual 67, 3) := by decide +kernel
theorem dX10_distance_19 : decode cX10_distance 19 = .ok (.isub, 1) := by decide +kernel
theorem dX10_distance_20 : decode cX10_distance 20 = .ok (.aload_n 0, 1) := by decide +kernel
theorem dX10_distance_21 : decode cX10_distance 21 = .ok (.iload_n 2, 1) := by decide +kernel
theorem dX10_distance_22 : decode cX10_distance 22 = .ok (.iconst 3, 1) := by decide +kernel
theorem dX10_distance_23 : decode cX10_distance 23 = .ok (.invokevirtual 67, 3) := by decide +kernel
theorem dX10_distance_26 : decode cX10_distance 26 = .ok (.isub, 1) := by decide +kernel
theorem dX10_distance_27 : decode cX10_distance 27 = .ok (.istore_n 3, 1) := by decide +kernel
theorem dX10_distance_28 : decode cX10_distance 28 = .ok (.iload_n 3, 1) := by decide +kernel
theorem dX10_distance_29 : decode cX10_distance 29 = .ok (.ifCond .ge 8, 3) := by decide +kernel
theorem dX10_distance_32 : decode cX10_distance 32 = .ok (.iload_n 3, 1) := by decide +kernel
theorem dX10_distance_33 : decode cX10_distance 33 = .ok (.ineg, 1) := by decide +kernel
theorem dX10_distance_34 : decode cX10_distance 34 = .ok (.goto 4, 3) := by decide +kernel
theorem dX10_distance_37 : decode cX10_distance 37 = .ok (.iload_n 3, 1) := by decide +kernel
theorem dX10_distance_38 : decode cX10_distance 38 = .ok (.ireturn, 1) := by decide +kernel
theorem dX10_lowest_0 : decode cX10_lowest 0 = .ok (.iconst 0, 1) := by decide +kernel
theorem dX10_lowest_1 : decode cX10_lowest 1 = .ok (.istore_n 1, 1) := by decide +kernel
theorem dX10_lowest_2 : decode cX10_lowest 2 = .ok (.iload_n 0, 1) := by decide +kernel
theorem dX10_lowest_3 : decode cX10_lowest 3 = .ok (.iload_n 1, 1) := by decide +kernel
theorem dX10_lowest_4 : decode cX10_lowest 4 = .ok (.invokestatic 136, 3) := by decide +kernel
theorem dX10_lowest_7 : decode cX10_lowest 7 = .ok (.ifCond .ne 9, 3) := by decide +kernel
theorem dX10_lowest_10 : decode cX10_lowest 10 = .ok (.iinc 1 1, 3) := by decide +kernel
theorem dX10_lowest_13 : decode cX10_lowest 13 = .ok (.goto (-11), 3) := by decide +kernel
theorem dX10_lowest_16 : decode cX10_lowest 16 = .ok (.iload_n 1, 1) := by decide +kernel
theorem dX10_lowest_17 : decode cX10_lowest 17 = .ok (.ireturn, 1) := by decide +kernel
theorem dX10_worthBy_0 : decode cX10_worthBy 0 = .ok (.iload_n 2, 1) := by decide +kernel
theorem dX10_worthBy_1 : decode cX10_worthBy 1 = .ok (.iload_n 3, 1) := by decide +kernel
theorem dX10_worthBy_2 : decode cX10_worthBy 2 = .ok (.if_icmp .ne 16, 3) := by decide +kernel
theorem dX10_worthBy_5 : decode cX10_worthBy 5 = .ok (.aload_n 0, 1) := by decide +kernel
theorem dX10_worthBy_6 : decode cX10_worthBy 6 = .ok (.getfield 19, 3) := by decide +kernel
theorem dX10_worthBy_9 : decode cX10_worthBy 9 = .ok (.iload_n 1, 1) := by decide +kernel
theorem dX10_worthBy_10 : decode cX10_worthBy 10 = .ok (.iconst 1, 1) := by decide +kernel
theorem dX10_worthBy_11 : decode cX10_worthBy 11 = .ok (.iload_n 2, 1) := by decide +kernel
theorem dX10_worthBy_12 : decode cX10_worthBy 12 = .ok (.ishl, 1) := by decide +kernel
theorem dX10_worthBy_13 : decode cX10_worthBy 13 = .ok (.iconst (-1), 1) := by decide +kernel
theorem dX10_worthBy_14 : decode cX10_worthBy 14 = .ok (.ixor, 1) := by decide +kernel
theorem dX10_worthBy_15 : decode cX10_worthBy 15 = .ok (.iand, 1) := by decide +kernel
theorem dX10_worthBy_16 : decode cX10_worthBy 16 = .ok (.iaload, 1) := by decide +kernel
theorem dX10_worthBy_17 : decode cX10_worthBy 17 = .ok (.ireturn, 1) := by decide +kernel
theorem dX10_worthBy_18 : decode cX10_worthBy 18 = .ok (.aload_n 0, 1) := by decide +kernel
theorem dX10_worthBy_19 : decode cX10_worthBy 19 = .ok (.getfield 19, 3) := by decide +kernel
theorem dX10_worthBy_22 : decode cX10_worthBy 22 = .ok (.iload_n 1, 1) := by decide +kernel
theorem dX10_worthBy_23 : decode cX10_worthBy 23 = .ok (.iconst 1, 1) := by decide +kernel
theorem dX10_worthBy_24 : decode cX10_worthBy 24 = .ok (.iload_n 2, 1) := by decide +kernel
theorem dX10_worthBy_25 : decode cX10_worthBy 25 = .ok (.ishl, 1) := by decide +kernel
theorem dX10_worthBy_26 : decode cX10_worthBy 26 = .ok (.iconst (-1), 1) := by decide +kernel
theorem dX10_worthBy_27 : decode cX10_worthBy 27 = .ok (.ixor, 1) := by decide +kernel
theorem dX10_worthBy_28 : decode cX10_worthBy 28 = .ok (.iand, 1) := by decide +kernel
theorem dX10_worthBy_29 : decode cX10_worthBy 29 = .ok (.iconst 1, 1) := by decide +kernel
theorem dX10_worthBy_30 : decode cX10_worthBy 30 = .ok (.iload_n 3, 1) := by decide +kernel
theorem dX10_worthBy_31 : decode cX10_worthBy 31 = .ok (.ishl, 1) := by decide +kernel
theorem dX10_worthBy_32 : decode cX10_worthBy 32 = .ok (.iconst (-1), 1) := by decide +kernel
theorem dX10_worthBy_33 : decode cX10_worthBy 33 = .ok (.ixor, 1) := by decide +kernel
theorem dX10_worthBy_34 : decode cX10_worthBy 34 = .ok (.iand, 1) := by decide +kernel
theorem dX10_worthBy_35 : decode cX10_worthBy 35 = .ok (.iaload, 1) := by decide +kernel
theorem dX10_worthBy_36 : decode cX10_worthBy 36 = .ok (.sipush 10000, 3) := by decide +kernel
theorem dX10_worthBy_39 : decode cX10_worthBy 39 = .ok (.iadd, 1) := by decide +kernel
theorem dX10_worthBy_40 : decode cX10_worthBy 40 = .ok (.aload_n 0, 1) := by decide +kernel
theorem dX10_worthBy_41 : decode cX10_worthBy 41 = .ok (.iload_n 2, 1) := by decide +kernel
theorem dX10_worthBy_42 : decode cX10_worthBy 42 = .ok (.iload_n 3, 1) := by decide +kernel
theorem dX10_worthBy_43 : decode cX10_worthBy 43 = .ok (.invokevirtual 169, 3) := by decide +kernel
theorem dX10_worthBy_46 : decode cX10_worthBy 46 = .ok (.isub, 1) := by decide +kernel
theorem dX10_worthBy_47 : decode cX10_worthBy 47 = .ok (.ireturn, 1) := by decide +kernel
theorem dX10_findPairs_0 : decode cX10_findPairs 0 = .ok (.aload_n 0, 1) := by decide +kernel
theorem dX10_findPairs_1 : decode cX10_findPairs 1 = .ok (.iconst 0, 1) := by decide +kernel
theorem dX10_findPairs_2 : decode cX10_findPairs 2 = .ok (.invokevirtual 140, 3) := by decide +kernel
theorem dX10_findPairs_5 : decode cX10_findPairs 5 = .ok (.istore_n 1, 1) := by decide +kernel
theorem dX10_findPairs_6 : decode cX10_findPairs 6 = .ok (.aload_n 0, 1) := by decide +kernel
theorem dX10_findPairs_7 : decode cX10_findPairs 7 = .ok (.getfield 19, 3) := by decide +kernel
theorem dX10_findPairs_10 : decode cX10_findPairs 10 = .ok (.iconst 0, 1) := by decide +kernel
theorem dX10_findPairs_11 : decode cX10_findPairs 11 = .ok (.iconst 0, 1) := by decide +kernel
theorem dX10_findPairs_12 : decode cX10_findPairs 12 = .ok (.iastore, 1) := by decide +kernel
theorem dX10_findPairs_13 : decode cX10_findPairs 13 = .ok (.iconst 1, 1) := by decide +kernel
theorem dX10_findPairs_14 : decode cX10_findPairs 14 = .ok (.istore_n 2, 1) := by decide +kernel
theorem dX10_findPairs_15 : decode cX10_findPairs 15 = .ok (.iload_n 2, 1) := by decide +kernel
theorem dX10_findPairs_16 : decode cX10_findPairs 16 = .ok (.iload_n 1, 1) := by decide +kernel
theorem dX10_findPairs_17 : decode cX10_findPairs 17 = .ok (.if_icmp .gt 99, 3) := by decide +kernel
theorem dX10_findPairs_20 : decode cX10_findPairs 20 = .ok (.iload_n 2, 1) := by decide +kernel
theorem dX10_findPairs_21 : decode cX10_findPairs 21 = .ok (.iload_n 1, 1) := by decide +kernel
theorem dX10_findPairs_22 : decode cX10_findPairs 22 = .ok (.iconst (-1), 1) := by decide +kernel
theorem dX10_findPairs_23 : decode cX10_findPairs 23 = .ok (.ixor, 1) := by decide +kernel
theorem dX10_findPairs_24 : decode cX10_findPairs 24 = .ok (.iand, 1) := by decide +kernel
theorem dX10_findPairs_25 : decode cX10_findPairs 25 = .ok (.ifCond .ne 85, 3) := by decide +kernel
theorem dX10_findPairs_28 : decode cX10_findPairs 28 = .ok (.iload_n 2, 1) := by decide +kernel
theorem dX10_findPairs_29 : decode cX10_findPairs 29 = .ok (.invokestatic 172, 3) := by decide +kernel
theorem dX10_findPairs_32 : decode cX10_findPairs 32 = .ok (.istore_n 3, 1) := by decide +kernel
theorem dX10_findPairs_33 : decode cX10_findPairs 33 = .ok (.aload_n 0, 1) := by decide +kernel
theorem dX10_findPairs_34 : decode cX10_findPairs 34 = .ok (.getfield 19, 3) := by decide +kernel
theorem dX10_findPairs_37 : decode cX10_findPairs 37 = .ok (.iload_n 2, 1) := by decide +kernel
theorem dX10_findPairs_38 : decode cX10_findPairs 38 = .ok (.aload_n 0, 1) := by decide +kernel
theorem dX10_findPairs_39 : decode cX10_findPairs 39 = .ok (.iload_n 2, 1) := by decide +kernel
theorem dX10_findPairs_40 : decode cX10_findPairs 40 = .ok (.iload_n 3, 1) := by decide +kernel
theorem dX10_findPairs_41 : decode cX10_findPairs 41 = .ok (.iload_n 3, 1) := by decide +kernel
theorem dX10_findPairs_42 : decode cX10_findPairs 42 = .ok (.invokevirtual 175, 3) := by decide +kernel
theorem dX10_findPairs_45 : decode cX10_findPairs 45 = .ok (.iastore, 1) := by decide +kernel
theorem dX10_findPairs_46 : decode cX10_findPairs 46 = .ok (.iload_n 3, 1) := by decide +kernel
theorem dX10_findPairs_47 : decode cX10_findPairs 47 = .ok (.iconst 1, 1) := by decide +kernel
theorem dX10_findPairs_48 : decode cX10_findPairs 48 = .ok (.iadd, 1) := by decide +kernel
theorem dX10_findPairs_49 : decode cX10_findPairs 49 = .ok (.istore 4, 2) := by decide +kernel
theorem dX10_findPairs_51 : decode cX10_findPairs 51 = .ok (.iload 4, 2) := by decide +kernel
theorem dX10_findPairs_53 : decode cX10_findPairs 53 = .ok (.aload_n 0, 1) := by decide +kernel
theorem dX10_findPairs_54 : decode cX10_findPairs 54 = .ok (.getfield 7, 3) := by decide +kernel
theorem dX10_findPairs_57 : decode cX10_findPairs 57 = .ok (.iconst 0, 1) := by decide +kernel
theorem dX10_findPairs_58 : decode cX10_findPairs 58 = .ok (.iaload, 1) := by decide +kernel
theorem dX10_findPairs_59 : decode cX10_findPairs 59 = .ok (.if_icmp .ge 51, 3) := by decide +kernel
theorem dX10_findPairs_62 : decode cX10_findPairs 62 = .ok (.iload_n 2, 1) := by decide +kernel
theorem dX10_findPairs_63 : decode cX10_findPairs 63 = .ok (.iload 4, 2) := by decide +kernel
theorem dX10_findPairs_65 : decode cX10_findPairs 65 = .ok (.invokestatic 136, 3) := by decide +kernel
theorem dX10_findPairs_68 : decode cX10_findPairs 68 = .ok (.ifCond .eq 36, 3) := by decide +kernel
theorem dX10_findPairs_71 : decode cX10_findPairs 71 = .ok (.aload_n 0, 1) := by decide +kernel
theorem dX10_findPairs_72 : decode cX10_findPairs 72 = .ok (.iload_n 3, 1) := by decide +kernel
theorem dX10_findPairs_73 : decode cX10_findPairs 73 = .ok (.iload 4, 2) := by decide +kernel
theorem dX10_findPairs_75 : decode cX10_findPairs 75 = .ok (.invokevirtual 163, 3) := by decide +kernel
theorem dX10_findPairs_78 : decode cX10_findPairs 78 = .ok (.ifCond .ne 26, 3) := by decide +kernel
theorem dX10_findPairs_81 : decode cX10_findPairs 81 = .ok (.aload_n 0, 1) := by decide +kernel
theorem dX10_findPairs_82 : decode cX10_findPairs 82 = .ok (.getfield 19, 3) := by decide +kernel
theorem dX10_findPairs_85 : decode cX10_findPairs 85 = .ok (.iload_n 2, 1) := by decide +kernel
theorem dX10_findPairs_86 : decode cX10_findPairs 86 = .ok (.aload_n 0, 1) := by decide +kernel
theorem dX10_findPairs_87 : decode cX10_findPairs 87 = .ok (.getfield 19, 3) := by decide +kernel
theorem dX10_findPairs_90 : decode cX10_findPairs 90 = .ok (.iload_n 2, 1) := by decide +kernel
theorem dX10_findPairs_91 : decode cX10_findPairs 91 = .ok (.iaload, 1) := by decide +kernel
theorem dX10_findPairs_92 : decode cX10_findPairs 92 = .ok (.aload_n 0, 1) := by decide +kernel
theorem dX10_findPairs_93 : decode cX10_findPairs 93 = .ok (.iload_n 2, 1) := by decide +kernel
theorem dX10_findPairs_94 : decode cX10_findPairs 94 = .ok (.iload_n 3, 1) := by decide +kernel
theorem dX10_findPairs_95 : decode cX10_findPairs 95 = .ok (.iload 4, 2) := by decide +kernel
theorem dX10_findPairs_97 : decode cX10_findPairs 97 = .ok (.invokevirtual 175, 3) := by decide +kernel
theorem dX10_findPairs_100 : decode cX10_findPairs 100 = .ok (.invokestatic 154, 3) := by decide +kernel
theorem dX10_findPairs_103 : decode cX10_findPairs 103 = .ok (.iastore, 1) := by decide +kernel
theorem dX10_findPairs_104 : decode cX10_findPairs 104 = .ok (.iinc 4 1, 3) := by decide +kernel
theorem dX10_findPairs_107 : decode cX10_findPairs 107 = .ok (.goto (-56), 3) := by decide +kernel
theorem dX10_findPairs_110 : decode cX10_findPairs 110 = .ok (.iinc 2 1, 3) := by decide +kernel
theorem dX10_findPairs_113 : decode cX10_findPairs 113 = .ok (.goto (-98), 3) := by decide +kernel
theorem dX10_findPairs_116 : decode cX10_findPairs 116 = .ok (.iconst 0, 1) := by decide +kernel
theorem dX10_findPairs_117 : decode cX10_findPairs 117 = .ok (.istore_n 2, 1) := by decide +kernel
theorem dX10_findPairs_118 : decode cX10_findPairs 118 = .ok (.iload_n 2, 1) := by decide +kernel
theorem dX10_findPairs_119 : decode cX10_findPairs 119 = .ok (.bipush 12, 2) := by decide +kernel
theorem dX10_findPairs_121 : decode cX10_findPairs 121 = .ok (.if_icmp .ge 17, 3) := by decide +kernel
theorem dX10_findPairs_124 : decode cX10_findPairs 124 = .ok (.aload_n 0, 1) := by decide +kernel
theorem dX10_findPairs_125 : decode cX10_findPairs 125 = .ok (.getfield 22, 3) := by decide +kernel
theorem dX10_findPairs_128 : decode cX10_findPairs 128 = .ok (.iload_n 2, 1) := by decide +kernel
theorem dX10_findPairs_129 : decode cX10_findPairs 129 = .ok (.bipush (-4), 2) := by decide +kernel
theorem dX10_findPairs_131 : decode cX10_findPairs 131 = .ok (.iastore, 1) := by decide +kernel
theorem dX10_findPairs_132 : decode cX10_findPairs 132 = .ok (.iinc 2 1, 3) := by decide +kernel
theorem dX10_findPairs_135 : decode cX10_findPairs 135 = .ok (.goto (-17), 3) := by decide +kernel
theorem dX10_findPairs_138 : decode cX10_findPairs 138 = .ok (.iload_n 1, 1) := by decide +kernel
theorem dX10_findPairs_139 : decode cX10_findPairs 139 = .ok (.istore_n 2, 1) := by decide +kernel
theorem dX10_findPairs_140 : decode cX10_findPairs 140 = .ok (.iload_n 2, 1) := by decide +kernel
theorem dX10_findPairs_141 : decode cX10_findPairs 141 = .ok (.ifCond .eq 118, 3) := by decide +kernel
theorem dX10_findPairs_144 : decode cX10_findPairs 144 = .ok (.iload_n 2, 1) := by decide +kernel
theorem dX10_findPairs_145 : decode cX10_findPairs 145 = .ok (.invokestatic 172, 3) := by decide +kernel
theorem dX10_findPairs_148 : decode cX10_findPairs 148 = .ok (.istore_n 3, 1) := by decide +kernel
theorem dX10_findPairs_149 : decode cX10_findPairs 149 = .ok (.iload_n 3, 1) := by decide +kernel
theorem dX10_findPairs_150 : decode cX10_findPairs 150 = .ok (.istore 4, 2) := by decide +kernel
theorem dX10_findPairs_152 : decode cX10_findPairs 152 = .ok (.aload_n 0, 1) := by decide +kernel
theorem dX10_findPairs_153 : decode cX10_findPairs 153 = .ok (.getfield 7, 3) := by decide +kernel
theorem dX10_findPairs_156 : decode cX10_findPairs 156 = .ok (.iconst 0, 1) := by decide +kernel
theorem dX10_findPairs_157 : decode cX10_findPairs 157 = .ok (.iaload, 1) := by decide +kernel
theorem dX10_findPairs_158 : decode cX10_findPairs 158 = .ok (.iconst 1, 1) := by decide +kernel
theorem dX10_findPairs_159 : decode cX10_findPairs 159 = .ok (.isub, 1) := by decide +kernel
theorem dX10_findPairs_160 : decode cX10_findPairs 160 = .ok (.istore 5, 2) := by decide +kernel
theorem dX10_findPairs_162 : decode cX10_findPairs 162 = .ok (.iload 5, 2) := by decide +kernel
theorem dX10_findPairs_164 : decode cX10_findPairs 164 = .ok (.iload_n 3, 1) := by decide +kernel
theorem dX10_findPairs_165 : decode cX10_findPairs 165 = .ok (.if_icmp .le 54, 3) := by decide +kernel
theorem dX10_findPairs_168 : decode cX10_findPairs 168 = .ok (.iload_n 2, 1) := by decide +kernel
theorem dX10_findPairs_169 : decode cX10_findPairs 169 = .ok (.iload 5, 2) := by decide +kernel
theorem dX10_findPairs_171 : decode cX10_findPairs 171 = .ok (.invokestatic 136, 3) := by decide +kernel
theorem dX10_findPairs_174 : decode cX10_findPairs 174 = .ok (.ifCond .eq 35, 3) := by decide +kernel
theorem dX10_findPairs_177 : decode cX10_findPairs 177 = .ok (.aload_n 0, 1) := by decide +kernel
theorem dX10_findPairs_178 : decode cX10_findPairs 178 = .ok (.iload_n 3, 1) := by decide +kernel
theorem dX10_findPairs_179 : decode cX10_findPairs 179 = .ok (.iload 5, 2) := by decide +kernel
theorem dX10_findPairs_181 : decode cX10_findPairs 181 = .ok (.invokevirtual 163, 3) := by decide +kernel
theorem dX10_findPairs_184 : decode cX10_findPairs 184 = .ok (.ifCond .ne 25, 3) := by decide +kernel
theorem dX10_findPairs_187 : decode cX10_findPairs 187 = .ok (.aload_n 0, 1) := by decide +kernel
theorem dX10_findPairs_188 : decode cX10_findPairs 188 = .ok (.iload_n 2, 1) := by decide +kernel
theorem dX10_findPairs_189 : decode cX10_findPairs 189 = .ok (.iload_n 3, 1) := by decide +kernel
theorem dX10_findPairs_190 : decode cX10_findPairs 190 = .ok (.iload 5, 2) := by decide +kernel
theorem dX10_findPairs_192 : decode cX10_findPairs 192 = .ok (.invokevirtual 175, 3) := by decide +kernel
theorem dX10_findPairs_195 : decode cX10_findPairs 195 = .ok (.aload_n 0, 1) := by decide +kernel
theorem dX10_findPairs_196 : decode cX10_findPairs 196 = .ok (.getfield 19, 3) := by decide +kernel
theorem dX10_findPairs_199 : decode cX10_findPairs 199 = .ok (.iload_n 2, 1) := by decide +kernel
theorem dX10_findPairs_200 : decode cX10_findPairs 200 = .ok (.iaload, 1) := by decide +kernel
theorem dX10_findPairs_201 : decode cX10_findPairs 201 = .ok (.if_icmp .ne 8, 3) := by decide +kernel
theorem dX10_findPairs_204 : decode cX10_findPairs 204 = .ok (.iload 5, 2) := by decide +kernel
theorem dX10_findPairs_206 : decode cX10_findPairs 206 = .ok (.goto 5, 3) := by decide +kernel
theorem dX10_findPairs_209 : decode cX10_findPairs 209 = .ok (.iload 4, 2) := by decide +kernel
theorem dX10_findPairs_211 : decode cX10_findPairs 211 = .ok (.istore 4, 2) := by decide +kernel
theorem dX10_findPairs_213 : decode cX10_findPairs 213 = .ok (.iinc 5 (-1), 3) := by decide +kernel
theorem dX10_findPairs_216 : decode cX10_findPairs 216 = .ok (.goto (-54), 3) := by decide +kernel
theorem dX10_findPairs_219 : decode cX10_findPairs 219 = .ok (.iload_n 2, 1) := by decide +kernel
theorem dX10_findPairs_220 : decode cX10_findPairs 220 = .ok (.iconst 1, 1) := by decide +kernel
theorem dX10_findPairs_221 : decode cX10_findPairs 221 = .ok (.iload_n 3, 1) := by decide +kernel
theorem dX10_findPairs_222 : decode cX10_findPairs 222 = .ok (.ishl, 1) := by decide +kernel
theorem dX10_findPairs_223 : decode cX10_findPairs 223 = .ok (.iconst (-1), 1) := by decide +kernel
theorem dX10_findPairs_224 : decode cX10_findPairs 224 = .ok (.ixor, 1) := by decide +kernel
theorem dX10_findPairs_225 : decode cX10_findPairs 225 = .ok (.iconst 1, 1) := by decide +kernel
theorem dX10_findPairs_226 : decode cX10_findPairs 226 = .ok (.iload 4, 2) := by decide +kernel
theorem dX10_findPairs_228 : decode cX10_findPairs 228 = .ok (.ishl, 1) := by decide +kernel
theorem dX10_findPairs_229 : decode cX10_findPairs 229 = .ok (.iconst (-1), 1) := by decide +kernel
theorem dX10_findPairs_230 : decode cX10_findPairs 230 = .ok (.ixor, 1) := by decide +kernel
theorem dX10_findPairs_231 : decode cX10_findPairs 231 = .ok (.iand, 1) := by decide +kernel
theorem dX10_findPairs_232 : decode cX10_findPairs 232 = .ok (.iand, 1) := by decide +kernel
theorem dX10_findPairs_233 : decode cX10_findPairs 233 = .ok (.istore_n 2, 1) := by decide +kernel
theorem dX10_findPairs_234 : decode cX10_findPairs 234 = .ok (.iload 4, 2) := by decide +kernel
theorem dX10_findPairs_236 : decode cX10_findPairs 236 = .ok (.iload_n 3, 1) := by decide +kernel
theorem dX10_findPairs_237 : decode cX10_findPairs 237 = .ok (.if_icmp .eq 19, 3) := by decide +kernel
theorem dX10_findPairs_240 : decode cX10_findPairs 240 = .ok (.aload_n 0, 1) := by decide +kernel
theorem dX10_findPairs_241 : decode cX10_findPairs 241 = .ok (.getfield 22, 3) := by decide +kernel
theorem dX10_findPairs_244 : decode cX10_findPairs 244 = .ok (.iload_n 3, 1) := by decide +kernel
theorem dX10_findPairs_245 : decode cX10_findPairs 245 = .ok (.iload 4, 2) := by decide +kernel
theorem dX10_findPairs_247 : decode cX10_findPairs 247 = .ok (.iastore, 1) := by decide +kernel
theorem dX10_findPairs_248 : decode cX10_findPairs 248 = .ok (.aload_n 0, 1) := by decide +kernel
theorem dX10_findPairs_249 : decode cX10_findPairs 249 = .ok (.getfield 22, 3) := by decide +kernel
theorem dX10_findPairs_252 : decode cX10_findPairs 252 = .ok (.iload 4, 2) := by decide +kernel
theorem dX10_findPairs_254 : decode cX10_findPairs 254 = .ok (.iload_n 3, 1) := by decide +kernel
theorem dX10_findPairs_255 : decode cX10_findPairs 255 = .ok (.iastore, 1) := by decide +kernel
theorem dX10_findPairs_256 : decode cX10_findPairs 256 = .ok (.goto (-116), 3) := by decide +kernel
theorem dX10_findPairs_259 : decode cX10_findPairs 259 = .ok (.return_, 1) := by decide +kernel
theorem dX10_pairs_0 : decode cX10_pairs 0 = .ok (.iload_n 1, 1) := by decide +kernel
theorem dX10_pairs_1 : decode cX10_pairs 1 = .ok (.i2l, 1) := by decide +kernel
theorem dX10_pairs_2 : decode cX10_pairs 2 = .ok (.lconst 0, 1) := by decide +kernel
theorem dX10_pairs_3 : decode cX10_pairs 3 = .ok (.lconst 1, 1) := by decide +kernel
theorem dX10_pairs_4 : decode cX10_pairs 4 = .ok (.invokestatic 59, 3) := by decide +kernel
theorem dX10_pairs_7 : decode cX10_pairs 7 = .ok (.ifCond .ne 5, 3) := by decide +kernel
theorem dX10_pairs_10 : decode cX10_pairs 10 = .ok (.iconst (-1), 1) := by decide +kernel
theorem dX10_pairs_11 : decode cX10_pairs 11 = .ok (.ireturn, 1) := by decide +kernel
theorem dX10_pairs_12 : decode cX10_pairs 12 = .ok (.aload_n 0, 1) := by decide +kernel
theorem dX10_pairs_13 : decode cX10_pairs 13 = .ok (.invokevirtual 179, 3) := by decide +kernel
theorem dX10_pairs_16 : decode cX10_pairs 16 = .ok (.iconst 0, 1) := by decide +kernel
theorem dX10_pairs_17 : decode cX10_pairs 17 = .ok (.istore_n 2, 1) := by decide +kernel
theorem dX10_pairs_18 : decode cX10_pairs 18 = .ok (.iconst 0, 1) := by decide +kernel
theorem dX10_pairs_19 : decode cX10_pairs 19 = .ok (.istore_n 3, 1) := by decide +kernel
theorem dX10_pairs_20 : decode cX10_pairs 20 = .ok (.iconst 0, 1) := by decide +kernel
theorem dX10_pairs_21 : decode cX10_pairs 21 = .ok (.istore 4, 2) := by decide +kernel
theorem dX10_pairs_23 : decode cX10_pairs 23 = .ok (.iload 4, 2) := by decide +kernel
theorem dX10_pairs_25 : decode cX10_pairs 25 = .ok (.aload_n 0, 1) := by decide +kernel
theorem dX10_pairs_26 : decode cX10_pairs 26 = .ok (.getfield 7, 3) := by decide +kernel
theorem dX10_pairs_29 : decode cX10_pairs 29 = .ok (.iconst 0, 1) := by decide +kernel
theorem dX10_pairs_30 : decode cX10_pairs 30 = .ok (.iaload, 1) := by decide +kernel
theorem dX10_pairs_31 : decode cX10_pairs 31 = .ok (.if_icmp .ge 40, 3) := by decide +kernel
theorem dX10_pairs_34 : decode cX10_pairs 34 = .ok (.aload_n 0, 1) := by decide +kernel
theorem dX10_pairs_35 : decode cX10_pairs 35 = .ok (.getfield 22, 3) := by decide +kernel
theorem dX10_pairs_38 : decode cX10_pairs 38 = .ok (.iload 4, 2) := by decide +kernel
theorem dX10_pairs_40 : decode cX10_pairs 40 = .ok (.iaload, 1) := by decide +kernel
theorem dX10_pairs_41 : decode cX10_pairs 41 = .ok (.iload 4, 2) := by decide +kernel
theorem dX10_pairs_43 : decode cX10_pairs 43 = .ok (.if_icmp .le 22, 3) := by decide +kernel
theorem dX10_pairs_46 : decode cX10_pairs 46 = .ok (.iinc 3 1, 3) := by decide +kernel
theorem dX10_pairs_49 : decode cX10_pairs 49 = .ok (.iload_n 2, 1) := by decide +kernel
theorem dX10_pairs_50 : decode cX10_pairs 50 = .ok (.aload_n 0, 1) := by decide +kernel
theorem dX10_pairs_51 : decode cX10_pairs 51 = .ok (.iload 4, 2) := by decide +kernel
theorem dX10_pairs_53 : decode cX10_pairs 53 = .ok (.aload_n 0, 1) := by decide +kernel
theorem dX10_pairs_54 : decode cX10_pairs 54 = .ok (.getfield 22, 3) := by decide +kernel
theorem dX10_pairs_57 : decode cX10_pairs 57 = .ok (.iload 4, 2) := by decide +kernel
theorem dX10_pairs_59 : decode cX10_pairs 59 = .ok (.iaload, 1) := by decide +kernel
theorem dX10_pairs_60 : decode cX10_pairs 60 = .ok (.invokevirtual 169, 3) := by decide +kernel
theorem dX10_pairs_63 : decode cX10_pairs 63 = .ok (.iadd, 1) := by decide +kernel
theorem dX10_pairs_64 : decode cX10_pairs 64 = .ok (.istore_n 2, 1) := by decide +kernel
theorem dX10_pairs_65 : decode cX10_pairs 65 = .ok (.iinc 4 1, 3) := by decide +kernel
theorem dX10_pairs_68 : decode cX10_pairs 68 = .ok (.goto (-45), 3) := by decide +kernel
theorem dX10_pairs_71 : decode cX10_pairs 71 = .ok (.iload_n 1, 1) := by decide +kernel
theorem dX10_pairs_72 : decode cX10_pairs 72 = .ok (.ifCond .ne 7, 3) := by decide +kernel
theorem dX10_pairs_75 : decode cX10_pairs 75 = .ok (.iload_n 3, 1) := by decide +kernel
theorem dX10_pairs_76 : decode cX10_pairs 76 = .ok (.goto 4, 3) := by decide +kernel
theorem dX10_pairs_79 : decode cX10_pairs 79 = .ok (.iload_n 2, 1) := by decide +kernel
theorem dX10_pairs_80 : decode cX10_pairs 80 = .ok (.ireturn, 1) := by decide +kernel
theorem dX10_fellow_0 : decode cX10_fellow 0 = .ok (.aload_n 0, 1) := by decide +kernel
theorem dX10_fellow_1 : decode cX10_fellow 1 = .ok (.iload_n 1, 1) := by decide +kernel
theorem dX10_fellow_2 : decode cX10_fellow 2 = .ok (.invokevirtual 63, 3) := by decide +kernel
theorem dX10_fellow_5 : decode cX10_fellow 5 = .ok (.ifCond .ne 5, 3) := by decide +kernel
theorem dX10_fellow_8 : decode cX10_fellow 8 = .ok (.iconst (-1), 1) := by decide +kernel
theorem dX10_fellow_9 : decode cX10_fellow 9 = .ok (.ireturn, 1) := by decide +kernel
theorem dX10_fellow_10 : decode cX10_fellow 10 = .ok (.aload_n 0, 1) := by decide +kernel
theorem dX10_fellow_11 : decode cX10_fellow 11 = .ok (.invokevirtual 179, 3) := by decide +kernel
theorem dX10_fellow_14 : decode cX10_fellow 14 = .ok (.aload_n 0, 1) := by decide +kernel
theorem dX10_fellow_15 : decode cX10_fellow 15 = .ok (.getfield 22, 3) := by decide +kernel
theorem dX10_fellow_18 : decode cX10_fellow 18 = .ok (.iload_n 1, 1) := by decide +kernel
theorem dX10_fellow_19 : decode cX10_fellow 19 = .ok (.iaload, 1) := by decide +kernel
theorem dX10_fellow_20 : decode cX10_fellow 20 = .ok (.ireturn, 1) := by decide +kernel
theorem dX10_pairUp_0 : decode cX10_pairUp 0 = .ok (.aload_n 0, 1) := by decide +kernel
theorem dX10_pairUp_1 : decode cX10_pairUp 1 = .ok (.invokevirtual 179, 3) := by decide +kernel
theorem dX10_pairUp_4 : decode cX10_pairUp 4 = .ok (.iconst 0, 1) := by decide +kernel
theorem dX10_pairUp_5 : decode cX10_pairUp 5 = .ok (.istore_n 1, 1) := by decide +kernel
theorem dX10_pairUp_6 : decode cX10_pairUp 6 = .ok (.iconst 0, 1) := by decide +kernel
theorem dX10_pairUp_7 : decode cX10_pairUp 7 = .ok (.istore_n 2, 1) := by decide +kernel
theorem dX10_pairUp_8 : decode cX10_pairUp 8 = .ok (.iload_n 2, 1) := by decide +kernel
theorem dX10_pairUp_9 : decode cX10_pairUp 9 = .ok (.aload_n 0, 1) := by decide +kernel
theorem dX10_pairUp_10 : decode cX10_pairUp 10 = .ok (.getfield 7, 3) := by decide +kernel
theorem dX10_pairUp_13 : decode cX10_pairUp 13 = .ok (.iconst 0, 1) := by decide +kernel
theorem dX10_pairUp_14 : decode cX10_pairUp 14 = .ok (.iaload, 1) := by decide +kernel
theorem dX10_pairUp_15 : decode cX10_pairUp 15 = .ok (.if_icmp .ge 40, 3) := by decide +kernel
theorem dX10_pairUp_18 : decode cX10_pairUp 18 = .ok (.aload_n 0, 1) := by decide +kernel
theorem dX10_pairUp_19 : decode cX10_pairUp 19 = .ok (.getfield 22, 3) := by decide +kernel
theorem dX10_pairUp_22 : decode cX10_pairUp 22 = .ok (.iload_n 2, 1) := by decide +kernel
theorem dX10_pairUp_23 : decode cX10_pairUp 23 = .ok (.iaload, 1) := by decide +kernel
theorem dX10_pairUp_24 : decode cX10_pairUp 24 = .ok (.ifCond .lt 25, 3) := by decide +kernel
theorem dX10_pairUp_27 : decode cX10_pairUp 27 = .ok (.aload_n 0, 1) := by decide +kernel
theorem dX10_pairUp_28 : decode cX10_pairUp 28 = .ok (.iload_n 2, 1) := by decide +kernel
theorem dX10_pairUp_29 : decode cX10_pairUp 29 = .ok (.iconst 4, 1) := by decide +kernel
theorem dX10_pairUp_30 : decode cX10_pairUp 30 = .ok (.iconst 2, 1) := by decide +kernel
theorem dX10_pairUp_31 : decode cX10_pairUp 31 = .ok (.invokevirtual 71, 3) := by decide +kernel
theorem dX10_pairUp_34 : decode cX10_pairUp 34 = .ok (.aload_n 0, 1) := by decide +kernel
theorem dX10_pairUp_35 : decode cX10_pairUp 35 = .ok (.iload_n 2, 1) := by decide +kernel
theorem dX10_pairUp_36 : decode cX10_pairUp 36 = .ok (.iconst 5, 1) := by decide +kernel
theorem dX10_pairUp_37 : decode cX10_pairUp 37 = .ok (.aload_n 0, 1) := by decide +kernel
theorem dX10_pairUp_38 : decode cX10_pairUp 38 = .ok (.getfield 22, 3) := by decide +kernel
theorem dX10_pairUp_41 : decode cX10_pairUp 41 = .ok (.iload_n 2, 1) := by decide +kernel
theorem dX10_pairUp_42 : decode cX10_pairUp 42 = .ok (.iaload, 1) := by decide +kernel
theorem dX10_pairUp_43 : decode cX10_pairUp 43 = .ok (.invokevirtual 71, 3) := by decide +kernel
theorem dX10_pairUp_46 : decode cX10_pairUp 46 = .ok (.iinc 1 1, 3) := by decide +kernel
theorem dX10_pairUp_49 : decode cX10_pairUp 49 = .ok (.iinc 2 1, 3) := by decide +kernel
theorem dX10_pairUp_52 : decode cX10_pairUp 52 = .ok (.goto (-44), 3) := by decide +kernel
theorem dX10_pairUp_55 : decode cX10_pairUp 55 = .ok (.iload_n 1, 1) := by decide +kernel
theorem dX10_pairUp_56 : decode cX10_pairUp 56 = .ok (.iconst 2, 1) := by decide +kernel
theorem dX10_pairUp_57 : decode cX10_pairUp 57 = .ok (.idiv, 1) := by decide +kernel
theorem dX10_pairUp_58 : decode cX10_pairUp 58 = .ok (.ireturn, 1) := by decide +kernel
theorem dX10_part_0 : decode cX10_part 0 = .ok (.aload_n 0, 1) := by decide +kernel
theorem dX10_part_1 : decode cX10_part 1 = .ok (.iload_n 1, 1) := by decide +kernel
theorem dX10_part_2 : decode cX10_part 2 = .ok (.invokevirtual 63, 3) := by decide +kernel
theorem dX10_part_5 : decode cX10_part 5 = .ok (.ifCond .ne 5, 3) := by decide +kernel
theorem dX10_part_8 : decode cX10_part 8 = .ok (.iconst (-1), 1) := by decide +kernel
theorem dX10_part_9 : decode cX10_part 9 = .ok (.ireturn, 1) := by decide +kernel
theorem dX10_part_10 : decode cX10_part 10 = .ok (.aload_n 0, 1) := by decide +kernel
theorem dX10_part_11 : decode cX10_part 11 = .ok (.iload_n 1, 1) := by decide +kernel
theorem dX10_part_12 : decode cX10_part 12 = .ok (.iconst 5, 1) := by decide +kernel
theorem dX10_part_13 : decode cX10_part 13 = .ok (.invokevirtual 67, 3) := by decide +kernel
theorem dX10_part_16 : decode cX10_part 16 = .ok (.istore_n 2, 1) := by decide +kernel
theorem dX10_part_17 : decode cX10_part 17 = .ok (.iload_n 2, 1) := by decide +kernel
theorem dX10_part_18 : decode cX10_part 18 = .ok (.ifCond .ge 6, 3) := by decide +kernel
theorem dX10_part_21 : decode cX10_part 21 = .ok (.bipush (-2), 2) := by decide +kernel
theorem dX10_part_23 : decode cX10_part 23 = .ok (.ireturn, 1) := by decide +kernel
theorem dX10_part_24 : decode cX10_part 24 = .ok (.aload_n 0, 1) := by decide +kernel
theorem dX10_part_25 : decode cX10_part 25 = .ok (.iload_n 1, 1) := by decide +kernel
theorem dX10_part_26 : decode cX10_part 26 = .ok (.invokevirtual 147, 3) := by decide +kernel
theorem dX10_part_29 : decode cX10_part 29 = .ok (.iload_n 2, 1) := by decide +kernel
theorem dX10_part_30 : decode cX10_part 30 = .ok (.ireturn, 1) := by decide +kernel
theorem dX10_judge_0 : decode cX10_judge 0 = .ok (.iload_n 1, 1) := by decide +kernel
theorem dX10_judge_1 : decode cX10_judge 1 = .ok (.iload_n 2, 1) := by decide +kernel
theorem dX10_judge_2 : decode cX10_judge 2 = .ok (.invokestatic 182, 3) := by decide +kernel
theorem dX10_judge_5 : decode cX10_judge 5 = .ok (.ifCond .ne 5, 3) := by decide +kernel
theorem dX10_judge_8 : decode cX10_judge 8 = .ok (.iconst (-1), 1) := by decide +kernel
theorem dX10_judge_9 : decode cX10_judge 9 = .ok (.ireturn, 1) := by decide +kernel
theorem dX10_judge_10 : decode cX10_judge 10 = .ok (.aload_n 0, 1) := by decide +kernel
theorem dX10_judge_11 : decode cX10_judge 11 = .ok (.iload_n 1, 1) := by decide +kernel
theorem dX10_judge_12 : decode cX10_judge 12 = .ok (.iload_n 2, 1) := by decide +kernel
theorem dX10_judge_13 : decode cX10_judge 13 = .ok (.iload_n 3, 1) := by decide +kernel
theorem dX10_judge_14 : decode cX10_judge 14 = .ok (.aload_n 0, 1) := by decide +kernel
theorem dX10_judge_15 : decode cX10_judge 15 = .ok (.getfield 7, 3) := by decide +kernel
theorem dX10_judge_18 : decode cX10_judge 18 = .ok (.iconst 0, 1) := by decide +kernel
theorem dX10_judge_19 : decode cX10_judge 19 = .ok (.iaload, 1) := by decide +kernel
theorem dX10_judge_20 : decode cX10_judge 20 = .ok (.invokevirtual 185, 3) := by decide +kernel
theorem dX10_judge_23 : decode cX10_judge 23 = .ok (.istore 4, 2) := by decide +kernel
theorem dX10_judge_25 : decode cX10_judge 25 = .ok (.iload 4, 2) := by decide +kernel
theorem dX10_judge_27 : decode cX10_judge 27 = .ok (.ifCond .ge 6, 3) := by decide +kernel
theorem dX10_judge_30 : decode cX10_judge 30 = .ok (.iload 4, 2) := by decide +kernel
theorem dX10_judge_32 : decode cX10_judge 32 = .ok (.ireturn, 1) := by decide +kernel
theorem dX10_judge_33 : decode cX10_judge 33 = .ok (.aload_n 0, 1) := by decide +kernel
theorem dX10_judge_34 : decode cX10_judge 34 = .ok (.iconst 0, 1) := by decide +kernel
theorem dX10_judge_35 : decode cX10_judge 35 = .ok (.invokevirtual 140, 3) := by decide +kernel
theorem dX10_judge_38 : decode cX10_judge 38 = .ok (.istore 5, 2) := by decide +kernel
theorem dX10_judge_40 : decode cX10_judge 40 = .ok (.bipush 16, 2) := by decide +kernel
theorem dX10_judge_42 : decode cX10_judge 42 = .ok (.iload_n 1, 1) := by decide +kernel
theorem dX10_judge_43 : decode cX10_judge 43 = .ok (.imul, 1) := by decide +kernel
theorem dX10_judge_44 : decode cX10_judge 44 = .ok (.iload_n 3, 1) := by decide +kernel
theorem dX10_judge_45 : decode cX10_judge 45 = .ok (.iadd, 1) := by decide +kernel
theorem dX10_judge_46 : decode cX10_judge 46 = .ok (.istore 6, 2) := by decide +kernel
theorem dX10_judge_48 : decode cX10_judge 48 = .ok (.iconst 0, 1) := by decide +kernel
theorem dX10_judge_49 : decode cX10_judge 49 = .ok (.istore 7, 2) := by decide +kernel
theorem dX10_judge_51 : decode cX10_judge 51 = .ok (.iload 7, 2) := by decide +kernel
theorem dX10_judge_53 : decode cX10_judge 53 = .ok (.aload_n 0, 1) := by decide +kernel
theorem dX10_judge_54 : decode cX10_judge 54 = .ok (.getfield 7, 3) := by decide +kernel
theorem dX10_judge_57 : decode cX10_judge 57 = .ok (.iconst 0, 1) := by decide +kernel
theorem dX10_judge_58 : decode cX10_judge 58 = .ok (.iaload, 1) := by decide +kernel
theorem dX10_judge_59 : decode cX10_judge 59 = .ok (.if_icmp .ge 92, 3) := by decide +kernel
theorem dX10_judge_62 : decode cX10_judge 62 = .ok (.aload_n 0, 1) := by decide +kernel
theorem dX10_judge_63 : decode cX10_judge 63 = .ok (.getfield 56, 3) := by decide +kernel
theorem dX10_judge_66 : decode cX10_judge 66 = .ok (.iload 6, 2) := by decide +kernel
theorem dX10_judge_68 : decode cX10_judge 68 = .ok (.iload 7, 2) := by decide +kernel
theorem dX10_judge_70 : decode cX10_judge 70 = .ok (.iadd, 1) := by decide +kernel
theorem dX10_judge_71 : decode cX10_judge 71 = .ok (.iaload, 1) := by decide +kernel
theorem dX10_judge_72 : decode cX10_judge 72 = .ok (.istore 8, 2) := by decide +kernel
theorem dX10_judge_74 : decode cX10_judge 74 = .ok (.iload 8, 2) := by decide +kernel
theorem dX10_judge_76 : decode cX10_judge 76 = .ok (.iconst (-1), 1) := by decide +kernel
theorem dX10_judge_77 : decode cX10_judge 77 = .ok (.if_icmp .eq 68, 3) := by decide +kernel
theorem dX10_judge_80 : decode cX10_judge 80 = .ok (.iload 5, 2) := by decide +kernel
theorem dX10_judge_82 : decode cX10_judge 82 = .ok (.iload 7, 2) := by decide +kernel
theorem dX10_judge_84 : decode cX10_judge 84 = .ok (.invokestatic 136, 3) := by decide +kernel
theorem dX10_judge_87 : decode cX10_judge 87 = .ok (.ifCond .eq 55, 3) := by decide +kernel
theorem dX10_judge_90 : decode cX10_judge 90 = .ok (.aload_n 0, 1) := by decide +kernel
theorem dX10_judge_91 : decode cX10_judge 91 = .ok (.iload 8, 2) := by decide +kernel
theorem dX10_judge_93 : decode cX10_judge 93 = .ok (.invokevirtual 63, 3) := by decide +kernel
theorem dX10_judge_96 : decode cX10_judge 96 = .ok (.ifCond .eq 46, 3) := by decide +kernel
theorem dX10_judge_99 : decode cX10_judge 99 = .ok (.iload 5, 2) := by decide +kernel
theorem dX10_judge_101 : decode cX10_judge 101 = .ok (.iload 8, 2) := by decide +kernel
theorem dX10_judge_103 : decode cX10_judge 103 = .ok (.invokestatic 136, 3) := by decide +kernel
theorem dX10_judge_106 : decode cX10_judge 106 = .ok (.ifCond .eq 36, 3) := by decide +kernel
theorem dX10_judge_109 : decode cX10_judge 109 = .ok (.iload 8, 2) := by decide +kernel
theorem dX10_judge_111 : decode cX10_judge 111 = .ok (.iload 7, 2) := by decide +kernel
theorem dX10_judge_113 : decode cX10_judge 113 = .ok (.if_icmp .eq 29, 3) := by decide +kernel
theorem dX10_judge_116 : decode cX10_judge 116 = .ok (.aload_n 0, 1) := by decide +kernel
theorem dX10_judge_117 : decode cX10_judge 117 = .ok (.getfield 56, 3) := by decide +kernel
theorem dX10_judge_120 : decode cX10_judge 120 = .ok (.iload 6, 2) := by decide +kernel
theorem dX10_judge_122 : decode cX10_judge 122 = .ok (.iload 8, 2) := by decide +kernel
theorem dX10_judge_124 : decode cX10_judge 124 = .ok (.iadd, 1) := by decide +kernel
theorem dX10_judge_125 : decode cX10_judge 125 = .ok (.iaload, 1) := by decide +kernel
theorem dX10_judge_126 : decode cX10_judge 126 = .ok (.iload 7, 2) := by decide +kernel
theorem dX10_judge_128 : decode cX10_judge 128 = .ok (.if_icmp .ne 14, 3) := by decide +kernel
theorem dX10_judge_131 : decode cX10_judge 131 = .ok (.aload_n 0, 1) := by decide +kernel
theorem dX10_judge_132 : decode cX10_judge 132 = .ok (.iload 7, 2) := by decide +kernel
theorem dX10_judge_134 : decode cX10_judge 134 = .ok (.iload 8, 2) := by decide +kernel
theorem dX10_judge_136 : decode cX10_judge 136 = .ok (.invokevirtual 163, 3) := by decide +kernel
theorem dX10_judge_139 : decode cX10_judge 139 = .ok (.ifCond .eq 6, 3) := by decide +kernel
theorem dX10_judge_142 : decode cX10_judge 142 = .ok (.iload 7, 2) := by decide +kernel
theorem dX10_judge_144 : decode cX10_judge 144 = .ok (.ireturn, 1) := by decide +kernel
theorem dX10_judge_145 : decode cX10_judge 145 = .ok (.iinc 7 1, 3) := by decide +kernel
theorem dX10_judge_148 : decode cX10_judge 148 = .ok (.goto (-97), 3) := by decide +kernel
theorem dX10_judge_151 : decode cX10_judge 151 = .ok (.bipush (-4), 2) := by decide +kernel
theorem dX10_judge_153 : decode cX10_judge 153 = .ok (.ireturn, 1) := by decide +kernel
theorem dX10_findWorths_0 : decode cX10_findWorths 0 = .ok (.iload_n 1, 1) := by decide +kernel
theorem dX10_findWorths_1 : decode cX10_findWorths 1 = .ok (.iload_n 2, 1) := by decide +kernel
theorem dX10_findWorths_2 : decode cX10_findWorths 2 = .ok (.invokestatic 182, 3) := by decide +kernel
theorem dX10_findWorths_5 : decode cX10_findWorths 5 = .ok (.ifCond .eq 42, 3) := by decide +kernel
theorem dX10_findWorths_8 : decode cX10_findWorths 8 = .ok (.iload 4, 2) := by decide +kernel
theorem dX10_findWorths_10 : decode cX10_findWorths 10 = .ok (.i2l, 1) := by decide +kernel
theorem dX10_findWorths_11 : decode cX10_findWorths 11 = .ok (.lconst 1, 1) := by decide +kernel
theorem dX10_findWorths_12 : decode cX10_findWorths 12 = .ok (.ldc2_w 83, 3) := by decide +kernel
theorem dX10_findWorths_15 : decode cX10_findWorths 15 = .ok (.invokestatic 59, 3) := by decide +kernel
theorem dX10_findWorths_18 : decode cX10_findWorths 18 = .ok (.ifCond .eq 29, 3) := by decide +kernel
theorem dX10_findWorths_21 : decode cX10_findWorths 21 = .ok (.iload 5, 2) := by decide +kernel
theorem dX10_findWorths_23 : decode cX10_findWorths 23 = .ok (.i2l, 1) := by decide +kernel
theorem dX10_findWorths_24 : decode cX10_findWorths 24 = .ok (.lconst 0, 1) := by decide +kernel
theorem dX10_findWorths_25 : decode cX10_findWorths 25 = .ok (.ldc2_w 189, 3) := by decide +kernel
theorem dX10_findWorths_28 : decode cX10_findWorths 28 = .ok (.invokestatic 59, 3) := by decide +kernel
theorem dX10_findWorths_31 : decode cX10_findWorths 31 = .ok (.ifCond .eq 16, 3) := by decide +kernel
theorem dX10_findWorths_34 : decode cX10_findWorths 34 = .ok (.iload 6, 2) := by decide +kernel
theorem dX10_findWorths_36 : decode cX10_findWorths 36 = .ok (.i2l, 1) := by decide +kernel
theorem dX10_findWorths_37 : decode cX10_findWorths 37 = .ok (.lconst 0, 1) := by decide +kernel
theorem dX10_findWorths_38 : decode cX10_findWorths 38 = .ok (.ldc2_w 77, 3) := by decide +kernel
theorem dX10_findWorths_41 : decode cX10_findWorths 41 = .ok (.invokestatic 59, 3) := by decide +kernel
theorem dX10_findWorths_44 : decode cX10_findWorths 44 = .ok (.ifCond .ne 5, 3) := by decide +kernel
theorem dX10_findWorths_47 : decode cX10_findWorths 47 = .ok (.iconst (-1), 1) := by decide +kernel
theorem dX10_findWorths_48 : decode cX10_findWorths 48 = .ok (.ireturn, 1) := by decide +kernel
theorem dX10_findWorths_49 : decode cX10_findWorths 49 = .ok (.aload_n 0, 1) := by decide +kernel
theorem dX10_findWorths_50 : decode cX10_findWorths 50 = .ok (.iload_n 1, 1) := by decide +kernel
theorem dX10_findWorths_51 : decode cX10_findWorths 51 = .ok (.iload_n 2, 1) := by decide +kernel
theorem dX10_findWorths_52 : decode cX10_findWorths 52 = .ok (.iload_n 3, 1) := by decide +kernel
theorem dX10_findWorths_53 : decode cX10_findWorths 53 = .ok (.iload 4, 2) := by decide +kernel
theorem dX10_findWorths_55 : decode cX10_findWorths 55 = .ok (.invokevirtual 185, 3) := by decide +kernel
theorem dX10_findWorths_58 : decode cX10_findWorths 58 = .ok (.istore 7, 2) := by decide +kernel
theorem dX10_findWorths_60 : decode cX10_findWorths 60 = .ok (.iload 7, 2) := by decide +kernel
theorem dX10_findWorths_62 : decode cX10_findWorths 62 = .ok (.ifCond .ge 6, 3) := by decide +kernel
theorem dX10_findWorths_65 : decode cX10_findWorths 65 = .ok (.iload 7, 2) := by decide +kernel
theorem dX10_findWorths_67 : decode cX10_findWorths 67 = .ok (.ireturn, 1) := by decide +kernel
theorem dX10_findWorths_68 : decode cX10_findWorths 68 = .ok (.bipush 16, 2) := by decide +kernel
theorem dX10_findWorths_70 : decode cX10_findWorths 70 = .ok (.iload_n 1, 1) := by decide +kernel
theorem dX10_findWorths_71 : decode cX10_findWorths 71 = .ok (.imul, 1) := by decide +kernel
theorem dX10_findWorths_72 : decode cX10_findWorths 72 = .ok (.iload_n 3, 1) := by decide +kernel
theorem dX10_findWorths_73 : decode cX10_findWorths 73 = .ok (.iadd, 1) := by decide +kernel
theorem dX10_findWorths_74 : decode cX10_findWorths 74 = .ok (.istore 8, 2) := by decide +kernel
theorem dX10_findWorths_76 : decode cX10_findWorths 76 = .ok (.iconst 0, 1) := by decide +kernel
theorem dX10_findWorths_77 : decode cX10_findWorths 77 = .ok (.istore 9, 2) := by decide +kernel
theorem dX10_findWorths_79 : decode cX10_findWorths 79 = .ok (.iload 9, 2) := by decide +kernel
theorem dX10_findWorths_81 : decode cX10_findWorths 81 = .ok (.iload 4, 2) := by decide +kernel
theorem dX10_findWorths_83 : decode cX10_findWorths 83 = .ok (.if_icmp .ge 33, 3) := by decide +kernel
theorem dX10_findWorths_86 : decode cX10_findWorths 86 = .ok (.aload_n 0, 1) := by decide +kernel
theorem dX10_findWorths_87 : decode cX10_findWorths 87 = .ok (.getfield 56, 3) := by decide +kernel
theorem dX10_findWorths_90 : decode cX10_findWorths 90 = .ok (.iload 8, 2) := by decide +kernel
theorem dX10_findWorths_92 : decode cX10_findWorths 92 = .ok (.iload 9, 2) := by decide +kernel
theorem dX10_findWorths_94 : decode cX10_findWorths 94 = .ok (.iadd, 1) := by decide +kernel
theorem dX10_findWorths_95 : decode cX10_findWorths 95 = .ok (.iaload, 1) := by decide +kernel
theorem dX10_findWorths_96 : decode cX10_findWorths 96 = .ok (.i2l, 1) := by decide +kernel
theorem dX10_findWorths_97 : decode cX10_findWorths 97 = .ok (.lconst 0, 1) := by decide +kernel
theorem dX10_findWorths_98 : decode cX10_findWorths 98 = .ok (.ldc2_w 191, 3) := by decide +kernel
theorem dX10_findWorths_101 : decode cX10_findWorths 101 = .ok (.invokestatic 59, 3) := by decide +kernel
theorem dX10_findWorths_104 : decode cX10_findWorths 104 = .ok (.ifCond .ne 6, 3) := by decide +kernel
theorem dX10_findWorths_107 : decode cX10_findWorths 107 = .ok (.bipush (-2), 2) := by decide +kernel
theorem dX10_findWorths_109 : decode cX10_findWorths 109 = .ok (.ireturn, 1) := by decide +kernel
theorem dX10_findWorths_110 : decode cX10_findWorths 110 = .ok (.iinc 9 1, 3) := by decide +kernel
theorem dX10_findWorths_113 : decode cX10_findWorths 113 = .ok (.goto (-34), 3) := by decide +kernel
theorem dX10_findWorths_116 : decode cX10_findWorths 116 = .ok (.aload_n 0, 1) := by decide +kernel
theorem dX10_findWorths_117 : decode cX10_findWorths 117 = .ok (.getfield 25, 3) := by decide +kernel
theorem dX10_findWorths_120 : decode cX10_findWorths 120 = .ok (.iload 4, 2) := by decide +kernel
theorem dX10_findWorths_122 : decode cX10_findWorths 122 = .ok (.lconst 0, 1) := by decide +kernel
theorem dX10_findWorths_123 : decode cX10_findWorths 123 = .ok (.lastore, 1) := by decide +kernel
theorem dX10_findWorths_124 : decode cX10_findWorths 124 = .ok (.aload_n 0, 1) := by decide +kernel
theorem dX10_findWorths_125 : decode cX10_findWorths 125 = .ok (.getfield 29, 3) := by decide +kernel
theorem dX10_findWorths_128 : decode cX10_findWorths 128 = .ok (.iload 4, 2) := by decide +kernel
theorem dX10_findWorths_130 : decode cX10_findWorths 130 = .ok (.lconst 1, 1) := by decide +kernel
theorem dX10_findWorths_131 : decode cX10_findWorths 131 = .ok (.lastore, 1) := by decide +kernel
theorem dX10_findWorths_132 : decode cX10_findWorths 132 = .ok (.iload 4, 2) := by decide +kernel
theorem dX10_findWorths_134 : decode cX10_findWorths 134 = .ok (.iconst 1, 1) := by decide +kernel
theorem dX10_findWorths_135 : decode cX10_findWorths 135 = .ok (.isub, 1) := by decide +kernel
theorem dX10_findWorths_136 : decode cX10_findWorths 136 = .ok (.istore 9, 2) := by decide +kernel
theorem dX10_findWorths_138 : decode cX10_findWorths 138 = .ok (.iload 9, 2) := by decide +kernel
theorem dX10_findWorths_140 : decode cX10_findWorths 140 = .ok (.ifCond .lt 110, 3) := by decide +kernel
theorem dX10_findWorths_143 : decode cX10_findWorths 143 = .ok (.aload_n 0, 1) := by decide +kernel
theorem dX10_findWorths_144 : decode cX10_findWorths 144 = .ok (.getfield 56, 3) := by decide +kernel
theorem dX10_findWorths_147 : decode cX10_findWorths 147 = .ok (.iload 8, 2) := by decide +kernel
theorem dX10_findWorths_149 : decode cX10_findWorths 149 = .ok (.iload 9, 2) := by decide +kernel
theorem dX10_findWorths_151 : decode cX10_findWorths 151 = .ok (.iadd, 1) := by decide +kernel
theorem dX10_findWorths_152 : decode cX10_findWorths 152 = .ok (.iaload, 1) := by decide +kernel
theorem dX10_findWorths_153 : decode cX10_findWorths 153 = .ok (.i2l, 1) := by decide +kernel
theorem dX10_findWorths_154 : decode cX10_findWorths 154 = .ok (.lstore 10, 2) := by decide +kernel
theorem dX10_findWorths_156 : decode cX10_findWorths 156 = .ok (.aload_n 0, 1) := by decide +kernel
theorem dX10_findWorths_157 : decode cX10_findWorths 157 = .ok (.getfield 29, 3) := by decide +kernel
theorem dX10_findWorths_160 : decode cX10_findWorths 160 = .ok (.iload 9, 2) := by decide +kernel
theorem dX10_findWorths_162 : decode cX10_findWorths 162 = .ok (.ldc2_w 191, 3) := by decide +kernel
theorem dX10_findWorths_165 : decode cX10_findWorths 165 = .ok (.aload_n 0, 1) := by decide +kernel
theorem dX10_findWorths_166 : decode cX10_findWorths 166 = .ok (.getfield 29, 3) := by decide +kernel
theorem dX10_findWorths_169 : decode cX10_findWorths 169 = .ok (.iload 9, 2) := by decide +kernel
theorem dX10_findWorths_171 : decode cX10_findWorths 171 = .ok (.iconst 1, 1) := by decide +kernel
theorem dX10_findWorths_172 : decode cX10_findWorths 172 = .ok (.iadd, 1) := by decide +kernel
theorem dX10_findWorths_173 : decode cX10_findWorths 173 = .ok (.laload, 1) := by decide +kernel
theorem dX10_findWorths_174 : decode cX10_findWorths 174 = .ok (.lmul, 1) := by decide +kernel
theorem dX10_findWorths_175 : decode cX10_findWorths 175 = .ok (.lastore, 1) := by decide +kernel
theorem dX10_findWorths_176 : decode cX10_findWorths 176 = .ok (.iload 6, 2) := by decide +kernel
theorem dX10_findWorths_178 : decode cX10_findWorths 178 = .ok (.ineg, 1) := by decide +kernel
theorem dX10_findWorths_179 : decode cX10_findWorths 179 = .ok (.i2l, 1) := by decide +kernel
theorem dX10_findWorths_180 : decode cX10_findWorths 180 = .ok (.aload_n 0, 1) := by decide +kernel
theorem dX10_findWorths_181 : decode cX10_findWorths 181 = .ok (.getfield 29, 3) := by decide +kernel
theorem dX10_findWorths_184 : decode cX10_findWorths 184 = .ok (.iload 9, 2) := by decide +kernel
theorem dX10_findWorths_186 : decode cX10_findWorths 186 = .ok (.laload, 1) := by decide +kernel
theorem dX10_findWorths_187 : decode cX10_findWorths 187 = .ok (.lmul, 1) := by decide +kernel
theorem dX10_findWorths_188 : decode cX10_findWorths 188 = .ok (.iload 5, 2) := by decide +kernel
theorem dX10_findWorths_190 : decode cX10_findWorths 190 = .ok (.i2l, 1) := by decide +kernel
theorem dX10_findWorths_191 : decode cX10_findWorths 191 = .ok (.lload 10, 2) := by decide +kernel
theorem dX10_findWorths_193 : decode cX10_findWorths 193 = .ok (.lmul, 1) := by decide +kernel
theorem dX10_findWorths_194 : decode cX10_findWorths 194 = .ok (.aload_n 0, 1) := by decide +kernel
theorem dX10_findWorths_195 : decode cX10_findWorths 195 = .ok (.getfield 29, 3) := by decide +kernel
theorem dX10_findWorths_198 : decode cX10_findWorths 198 = .ok (.iload 9, 2) := by decide +kernel
theorem dX10_findWorths_200 : decode cX10_findWorths 200 = .ok (.iconst 1, 1) := by decide +kernel
theorem dX10_findWorths_201 : decode cX10_findWorths 201 = .ok (.iadd, 1) := by decide +kernel
theorem dX10_findWorths_202 : decode cX10_findWorths 202 = .ok (.laload, 1) := by decide +kernel
theorem dX10_findWorths_203 : decode cX10_findWorths 203 = .ok (.lmul, 1) := by decide +kernel
theorem dX10_findWorths_204 : decode cX10_findWorths 204 = .ok (.ladd, 1) := by decide +kernel
theorem dX10_findWorths_205 : decode cX10_findWorths 205 = .ok (.ldc2_w 191, 3) := by decide +kernel
theorem dX10_findWorths_208 : decode cX10_findWorths 208 = .ok (.lload 10, 2) := by decide +kernel
theorem dX10_findWorths_210 : decode cX10_findWorths 210 = .ok (.lsub, 1) := by decide +kernel
theorem dX10_findWorths_211 : decode cX10_findWorths 211 = .ok (.aload_n 0, 1) := by decide +kernel
theorem dX10_findWorths_212 : decode cX10_findWorths 212 = .ok (.getfield 25, 3) := by decide +kernel
theorem dX10_findWorths_215 : decode cX10_findWorths 215 = .ok (.iload 9, 2) := by decide +kernel
theorem dX10_findWorths_217 : decode cX10_findWorths 217 = .ok (.iconst 1, 1) := by decide +kernel
theorem dX10_findWorths_218 : decode cX10_findWorths 218 = .ok (.iadd, 1) := by decide +kernel
theorem dX10_findWorths_219 : decode cX10_findWorths 219 = .ok (.laload, 1) := by decide +kernel
theorem dX10_findWorths_220 : decode cX10_findWorths 220 = .ok (.lmul, 1) := by decide +kernel
theorem dX10_findWorths_221 : decode cX10_findWorths 221 = .ok (.ladd, 1) := by decide +kernel
theorem dX10_findWorths_222 : decode cX10_findWorths 222 = .ok (.lstore 12, 2) := by decide +kernel
theorem dX10_findWorths_224 : decode cX10_findWorths 224 = .ok (.aload_n 0, 1) := by decide +kernel
theorem dX10_findWorths_225 : decode cX10_findWorths 225 = .ok (.getfield 25, 3) := by decide +kernel
theorem dX10_findWorths_228 : decode cX10_findWorths 228 = .ok (.iload 9, 2) := by decide +kernel
theorem dX10_findWorths_230 : decode cX10_findWorths 230 = .ok (.lload 12, 2) := by decide +kernel
theorem dX10_findWorths_232 : decode cX10_findWorths 232 = .ok (.lconst 0, 1) := by decide +kernel
theorem dX10_findWorths_233 : decode cX10_findWorths 233 = .ok (.lcmp, 1) := by decide +kernel
theorem dX10_findWorths_234 : decode cX10_findWorths 234 = .ok (.ifCond .le 8, 3) := by decide +kernel
theorem dX10_findWorths_237 : decode cX10_findWorths 237 = .ok (.lload 12, 2) := by decide +kernel
theorem dX10_findWorths_239 : decode cX10_findWorths 239 = .ok (.goto 4, 3) := by decide +kernel
theorem dX10_findWorths_242 : decode cX10_findWorths 242 = .ok (.lconst 0, 1) := by decide +kernel
theorem dX10_findWorths_243 : decode cX10_findWorths 243 = .ok (.lastore, 1) := by decide +kernel
theorem dX10_findWorths_244 : decode cX10_findWorths 244 = .ok (.iinc 9 (-1), 3) := by decide +kernel
theorem dX10_findWorths_247 : decode cX10_findWorths 247 = .ok (.goto (-109), 3) := by decide +kernel
theorem dX10_findWorths_250 : decode cX10_findWorths 250 = .ok (.iconst 0, 1) := by decide +kernel
theorem dX10_findWorths_251 : decode cX10_findWorths 251 = .ok (.ireturn, 1) := by decide +kernel
theorem dX10_thrown_0 : decode cX10_thrown 0 = .ok (.aload_n 0, 1) := by decide +kernel
theorem dX10_thrown_1 : decode cX10_thrown 1 = .ok (.iload_n 1, 1) := by decide +kernel
theorem dX10_thrown_2 : decode cX10_thrown 2 = .ok (.iload_n 2, 1) := by decide +kernel
theorem dX10_thrown_3 : decode cX10_thrown 3 = .ok (.iload_n 3, 1) := by decide +kernel
theorem dX10_thrown_4 : decode cX10_thrown 4 = .ok (.iload 4, 2) := by decide +kernel
theorem dX10_thrown_6 : decode cX10_thrown 6 = .ok (.iload 5, 2) := by decide +kernel
theorem dX10_thrown_8 : decode cX10_thrown 8 = .ok (.iload 6, 2) := by decide +kernel
theorem dX10_thrown_10 : decode cX10_thrown 10 = .ok (.invokevirtual 193, 3) := by decide +kernel
theorem dX10_thrown_13 : decode cX10_thrown 13 = .ok (.istore 7, 2) := by decide +kernel
theorem dX10_thrown_15 : decode cX10_thrown 15 = .ok (.iload 7, 2) := by decide +kernel
theorem dX10_thrown_17 : decode cX10_thrown 17 = .ok (.ifCond .ge 6, 3) := by decide +kernel
theorem dX10_thrown_20 : decode cX10_thrown 20 = .ok (.iload 7, 2) := by decide +kernel
theorem dX10_thrown_22 : decode cX10_thrown 22 = .ok (.ireturn, 1) := by decide +kernel
theorem dX10_thrown_23 : decode cX10_thrown 23 = .ok (.iconst 0, 1) := by decide +kernel
theorem dX10_thrown_24 : decode cX10_thrown 24 = .ok (.istore 8, 2) := by decide +kernel
theorem dX10_thrown_26 : decode cX10_thrown 26 = .ok (.iload 8, 2) := by decide +kernel
theorem dX10_thrown_28 : decode cX10_thrown 28 = .ok (.iload 4, 2) := by decide +kernel
theorem dX10_thrown_30 : decode cX10_thrown 30 = .ok (.if_icmp .ge 24, 3) := by decide +kernel
theorem dX10_thrown_33 : decode cX10_thrown 33 = .ok (.aload_n 0, 1) := by decide +kernel
theorem dX10_thrown_34 : decode cX10_thrown 34 = .ok (.getfield 25, 3) := by decide +kernel
theorem dX10_thrown_37 : decode cX10_thrown 37 = .ok (.iload 8, 2) := by decide +kernel
theorem dX10_thrown_39 : decode cX10_thrown 39 = .ok (.laload, 1) := by decide +kernel
theorem dX10_thrown_40 : decode cX10_thrown 40 = .ok (.lconst 0, 1) := by decide +kernel
theorem dX10_thrown_41 : decode cX10_thrown 41 = .ok (.lcmp, 1) := by decide +kernel
theorem dX10_thrown_42 : decode cX10_thrown 42 = .ok (.ifCond .ne 6, 3) := by decide +kernel
theorem dX10_thrown_45 : decode cX10_thrown 45 = .ok (.iload 8, 2) := by decide +kernel
theorem dX10_thrown_47 : decode cX10_thrown 47 = .ok (.ireturn, 1) := by decide +kernel
theorem dX10_thrown_48 : decode cX10_thrown 48 = .ok (.iinc 8 1, 3) := by decide +kernel
theorem dX10_thrown_51 : decode cX10_thrown 51 = .ok (.goto (-25), 3) := by decide +kernel
theorem dX10_thrown_54 : decode cX10_thrown 54 = .ok (.bipush (-4), 2) := by decide +kernel
theorem dX10_thrown_56 : decode cX10_thrown 56 = .ok (.ireturn, 1) := by decide +kernel
theorem dX10_common_0 : decode cX10_common 0 = .ok (.lload_n 0, 1) := by decide +kernel
theorem dX10_common_1 : decode cX10_common 1 = .ok (.lstore 4, 2) := by decide +kernel
theorem dX10_common_3 : decode cX10_common 3 = .ok (.lload_n 2, 1) := by decide +kernel
theorem dX10_common_4 : decode cX10_common 4 = .ok (.lstore 6, 2) := by decide +kernel
theorem dX10_common_6 : decode cX10_common 6 = .ok (.lload 6, 2) := by decide +kernel
theorem dX10_common_8 : decode cX10_common 8 = .ok (.lconst 0, 1) := by decide +kernel
theorem dX10_common_9 : decode cX10_common 9 = .ok (.lcmp, 1) := by decide +kernel
theorem dX10_common_10 : decode cX10_common 10 = .ok (.ifCond .eq 21, 3) := by decide +kernel
theorem dX10_common_13 : decode cX10_common 13 = .ok (.lload 4, 2) := by decide +kernel
theorem dX10_common_15 : decode cX10_common 15 = .ok (.lload 6, 2) := by decide +kernel
theorem dX10_common_17 : decode cX10_common 17 = .ok (.lrem, 1) := by decide +kernel
theorem dX10_common_18 : decode cX10_common 18 = .ok (.lstore 8, 2) := by decide +kernel
theorem dX10_common_20 : decode cX10_common 20 = .ok (.lload 6, 2) := by decide +kernel
theorem dX10_common_22 : decode cX10_common 22 = .ok (.lstore 4, 2) := by decide +kernel
theorem dX10_common_24 : decode cX10_common 24 = .ok (.lload 8, 2) := by decide +kernel
theorem dX10_common_26 : decode cX10_common 26 = .ok (.lstore 6, 2) := by decide +kernel
theorem dX10_common_28 : decode cX10_common 28 = .ok (.goto (-22), 3) := by decide +kernel
theorem dX10_common_31 : decode cX10_common 31 = .ok (.lload 4, 2) := by decide +kernel
theorem dX10_common_33 : decode cX10_common 33 = .ok (.lreturn, 1) := by decide +kernel
theorem dX10_worth_0 : decode cX10_worth 0 = .ok (.iload 7, 2) := by decide +kernel
theorem dX10_worth_2 : decode cX10_worth 2 = .ok (.i2l, 1) := by decide +kernel
theorem dX10_worth_3 : decode cX10_worth 3 = .ok (.lconst 0, 1) := by decide +kernel
theorem dX10_worth_4 : decode cX10_worth 4 = .ok (.lconst 1, 1) := by decide +kernel
theorem dX10_worth_5 : decode cX10_worth 5 = .ok (.invokestatic 59, 3) := by decide +kernel
theorem dX10_worth_8 : decode cX10_worth 8 = .ok (.ifCond .ne 7, 3) := by decide +kernel
theorem dX10_worth_11 : decode cX10_worth 11 = .ok (.ldc2_w 197, 3) := by decide +kernel
theorem dX10_worth_14 : decode cX10_worth 14 = .ok (.lreturn, 1) := by decide +kernel
theorem dX10_worth_15 : decode cX10_worth 15 = .ok (.aload_n 0, 1) := by decide +kernel
theorem dX10_worth_16 : decode cX10_worth 16 = .ok (.iload_n 1, 1) := by decide +kernel
theorem dX10_worth_17 : decode cX10_worth 17 = .ok (.iload_n 2, 1) := by decide +kernel
theorem dX10_worth_18 : decode cX10_worth 18 = .ok (.iload_n 3, 1) := by decide +kernel
theorem dX10_worth_19 : decode cX10_worth 19 = .ok (.iload 4, 2) := by decide +kernel
theorem dX10_worth_21 : decode cX10_worth 21 = .ok (.iload 5, 2) := by decide +kernel
theorem dX10_worth_23 : decode cX10_worth 23 = .ok (.iload 6, 2) := by decide +kernel
theorem dX10_worth_25 : decode cX10_worth 25 = .ok (.invokevirtual 193, 3) := by decide +kernel
theorem dX10_worth_28 : decode cX10_worth 28 = .ok (.istore 8, 2) := by decide +kernel
theorem dX10_worth_30 : decode cX10_worth 30 = .ok (.iload 8, 2) := by decide +kernel
theorem dX10_worth_32 : decode cX10_worth 32 = .ok (.ifCond .ge 7, 3) := by decide +kernel
theorem dX10_worth_35 : decode cX10_worth 35 = .ok (.iload 8, 2) := by decide +kernel
theorem dX10_worth_37 : decode cX10_worth 37 = .ok (.i2l, 1) := by decide +kernel
theorem dX10_worth_38 : decode cX10_worth 38 = .ok (.lreturn, 1) := by decide +kernel
theorem dX10_worth_39 : decode cX10_worth 39 = .ok (.aload_n 0, 1) := by decide +kernel
theorem dX10_worth_40 : decode cX10_worth 40 = .ok (.getfield 25, 3) := by decide +kernel
theorem dX10_worth_43 : decode cX10_worth 43 = .ok (.iconst 0, 1) := by decide +kernel
theorem dX10_worth_44 : decode cX10_worth 44 = .ok (.laload, 1) := by decide +kernel
theorem dX10_worth_45 : decode cX10_worth 45 = .ok (.aload_n 0, 1) := by decide +kernel
theorem dX10_worth_46 : decode cX10_worth 46 = .ok (.getfield 29, 3) := by decide +kernel
theorem dX10_worth_49 : decode cX10_worth 49 = .ok (.iconst 0, 1) := by decide +kernel
theorem dX10_worth_50 : decode cX10_worth 50 = .ok (.laload, 1) := by decide +kernel
theorem dX10_worth_51 : decode cX10_worth 51 = .ok (.invokestatic 199, 3) := by decide +kernel
theorem dX10_worth_54 : decode cX10_worth 54 = .ok (.lstore 9, 2) := by decide +kernel
theorem dX10_worth_56 : decode cX10_worth 56 = .ok (.iload 7, 2) := by decide +kernel
theorem dX10_worth_58 : decode cX10_worth 58 = .ok (.ifCond .ne 15, 3) := by decide +kernel
theorem dX10_worth_61 : decode cX10_worth 61 = .ok (.aload_n 0, 1) := by decide +kernel
theorem dX10_worth_62 : decode cX10_worth 62 = .ok (.getfield 25, 3) := by decide +kernel
theorem dX10_worth_65 : decode cX10_worth 65 = .ok (.iconst 0, 1) := by decide +kernel
theorem dX10_worth_66 : decode cX10_worth 66 = .ok (.laload, 1) := by decide +kernel
theorem dX10_worth_67 : decode cX10_worth 67 = .ok (.lload 9, 2) := by decide +kernel
theorem dX10_worth_69 : decode cX10_worth 69 = .ok (.ldiv, 1) := by decide +kernel
theorem dX10_worth_70 : decode cX10_worth 70 = .ok (.goto 12, 3) := by decide +kernel
theorem dX10_worth_73 : decode cX10_worth 73 = .ok (.aload_n 0, 1) := by decide +kernel
theorem dX10_worth_74 : decode cX10_worth 74 = .ok (.getfield 29, 3) := by decide +kernel
theorem dX10_worth_77 : decode cX10_worth 77 = .ok (.iconst 0, 1) := by decide +kernel
theorem dX10_worth_78 : decode cX10_worth 78 = .ok (.laload, 1) := by decide +kernel
theorem dX10_worth_79 : decode cX10_worth 79 = .ok (.lload 9, 2) := by decide +kernel
theorem dX10_worth_81 : decode cX10_worth 81 = .ok (.ldiv, 1) := by decide +kernel
theorem dX10_worth_82 : decode cX10_worth 82 = .ok (.lreturn, 1) := by decide +kernel
theorem dX10_boxOf_0 : decode cX10_boxOf 0 = .ok (.iconst 0, 1) := by decide +kernel
theorem dX10_boxOf_1 : decode cX10_boxOf 1 = .ok (.istore_n 3, 1) := by decide +kernel
theorem dX10_boxOf_2 : decode cX10_boxOf 2 = .ok (.iconst 0, 1) := by decide +kernel
theorem dX10_boxOf_3 : decode cX10_boxOf 3 = .ok (.istore 4, 2) := by decide +kernel
theorem dX10_boxOf_5 : decode cX10_boxOf 5 = .ok (.iload 4, 2) := by decide +kernel
theorem dX10_boxOf_7 : decode cX10_boxOf 7 = .ok (.aload_n 0, 1) := by decide +kernel
theorem dX10_boxOf_8 : decode cX10_boxOf 8 = .ok (.getfield 7, 3) := by decide +kernel
theorem dX10_boxOf_11 : decode cX10_boxOf 11 = .ok (.iconst 0, 1) := by decide +kernel
theorem dX10_boxOf_12 : decode cX10_boxOf 12 = .ok (.iaload, 1) := by decide +kernel
theorem dX10_boxOf_13 : decode cX10_boxOf 13 = .ok (.if_icmp .ge 53, 3) := by decide +kernel
theorem dX10_boxOf_16 : decode cX10_boxOf 16 = .ok (.iload_n 3, 1) := by decide +kernel
theorem dX10_boxOf_17 : decode cX10_boxOf 17 = .ok (.aload_n 0, 1) := by decide +kernel
theorem dX10_boxOf_18 : decode cX10_boxOf 18 = .ok (.iload 4, 2) := by decide +kernel
theorem dX10_boxOf_20 : decode cX10_boxOf 20 = .ok (.iconst 4, 1) := by decide +kernel
theorem dX10_boxOf_21 : decode cX10_boxOf 21 = .ok (.invokevirtual 67, 3) := by decide +kernel
theorem dX10_boxOf_24 : decode cX10_boxOf 24 = .ok (.ifCond .ne 33, 3) := by decide +kernel
theorem dX10_boxOf_27 : decode cX10_boxOf 27 = .ok (.aload_n 0, 1) := by decide +kernel
theorem dX10_boxOf_28 : decode cX10_boxOf 28 = .ok (.iload 4, 2) := by decide +kernel
theorem dX10_boxOf_30 : decode cX10_boxOf 30 = .ok (.iconst 0, 1) := by decide +kernel
theorem dX10_boxOf_31 : decode cX10_boxOf 31 = .ok (.invokevirtual 67, 3) := by decide +kernel
theorem dX10_boxOf_34 : decode cX10_boxOf 34 = .ok (.iload_n 1, 1) := by decide +kernel
theorem dX10_boxOf_35 : decode cX10_boxOf 35 = .ok (.if_icmp .ne 22, 3) := by decide +kernel
theorem dX10_boxOf_38 : decode cX10_boxOf 38 = .ok (.iload_n 2, 1) := by decide +kernel
theorem dX10_boxOf_39 : decode cX10_boxOf 39 = .ok (.ifCond .lt 14, 3) := by decide +kernel
theorem dX10_boxOf_42 : decode cX10_boxOf 42 = .ok (.aload_n 0, 1) := by decide +kernel
theorem dX10_boxOf_43 : decode cX10_boxOf 43 = .ok (.iload 4, 2) := by decide +kernel
theorem dX10_boxOf_45 : decode cX10_boxOf 45 = .ok (.iconst 1, 1) := by decide +kernel
theorem dX10_boxOf_46 : decode cX10_boxOf 46 = .ok (.invokevirtual 67, 3) := by decide +kernel
theorem dX10_boxOf_49 : decode cX10_boxOf 49 = .ok (.iload_n 2, 1) := by decide +kernel
theorem dX10_boxOf_50 : decode cX10_boxOf 50 = .ok (.if_icmp .ne 7, 3) := by decide +kernel
theorem dX10_boxOf_53 : decode cX10_boxOf 53 = .ok (.iconst 1, 1) := by decide +kernel
theorem dX10_boxOf_54 : decode cX10_boxOf 54 = .ok (.goto 4, 3) := by decide +kernel
theorem dX10_boxOf_57 : decode cX10_boxOf 57 = .ok (.iconst 0, 1) := by decide +kernel
theorem dX10_boxOf_58 : decode cX10_boxOf 58 = .ok (.iadd, 1) := by decide +kernel
theorem dX10_boxOf_59 : decode cX10_boxOf 59 = .ok (.istore_n 3, 1) := by decide +kernel
theorem dX10_boxOf_60 : decode cX10_boxOf 60 = .ok (.iinc 4 1, 3) := by decide +kernel
theorem dX10_boxOf_63 : decode cX10_boxOf 63 = .ok (.goto (-58), 3) := by decide +kernel
theorem dX10_boxOf_66 : decode cX10_boxOf 66 = .ok (.iload_n 3, 1) := by decide +kernel
theorem dX10_boxOf_67 : decode cX10_boxOf 67 = .ok (.ireturn, 1) := by decide +kernel
theorem dX10_worst_0 : decode cX10_worst 0 = .ok (.iconst 0, 1) := by decide +kernel
theorem dX10_worst_1 : decode cX10_worst 1 = .ok (.istore_n 1, 1) := by decide +kernel
theorem dX10_worst_2 : decode cX10_worst 2 = .ok (.iconst 0, 1) := by decide +kernel
theorem dX10_worst_3 : decode cX10_worst 3 = .ok (.istore_n 2, 1) := by decide +kernel
theorem dX10_worst_4 : decode cX10_worst 4 = .ok (.iload_n 2, 1) := by decide +kernel
theorem dX10_worst_5 : decode cX10_worst 5 = .ok (.bipush 6, 2) := by decide +kernel
theorem dX10_worst_7 : decode cX10_worst 7 = .ok (.if_icmp .ge 55, 3) := by decide +kernel
theorem dX10_worst_10 : decode cX10_worst 10 = .ok (.iload_n 1, 1) := by decide +kernel
theorem dX10_worst_11 : decode cX10_worst 11 = .ok (.aload_n 0, 1) := by decide +kernel
theorem dX10_worst_12 : decode cX10_worst 12 = .ok (.getfield 7, 3) := by decide +kernel
theorem dX10_worst_15 : decode cX10_worst 15 = .ok (.iconst 3, 1) := by decide +kernel
theorem dX10_worst_16 : decode cX10_worst 16 = .ok (.iaload, 1) := by decide +kernel
theorem dX10_worst_17 : decode cX10_worst 17 = .ok (.iconst 1, 1) := by decide +kernel
theorem dX10_worst_18 : decode cX10_worst 18 = .ok (.if_icmp .ne 21, 3) := by decide +kernel
theorem dX10_worst_21 : decode cX10_worst 21 = .ok (.aload_n 0, 1) := by decide +kernel
theorem dX10_worst_22 : decode cX10_worst 22 = .ok (.iload_n 2, 1) := by decide +kernel
theorem dX10_worst_23 : decode cX10_worst 23 = .ok (.iconst 0, 1) := by decide +kernel
theorem dX10_worst_24 : decode cX10_worst 24 = .ok (.invokevirtual 203, 3) := by decide +kernel
theorem dX10_worst_27 : decode cX10_worst 27 = .ok (.aload_n 0, 1) := by decide +kernel
theorem dX10_worst_28 : decode cX10_worst 28 = .ok (.iload_n 2, 1) := by decide +kernel
theorem dX10_worst_29 : decode cX10_worst 29 = .ok (.iconst 1, 1) := by decide +kernel
theorem dX10_worst_30 : decode cX10_worst 30 = .ok (.invokevirtual 203, 3) := by decide +kernel
theorem dX10_worst_33 : decode cX10_worst 33 = .ok (.invokestatic 154, 3) := by decide +kernel
theorem dX10_worst_36 : decode cX10_worst 36 = .ok (.goto 18, 3) := by decide +kernel
theorem dX10_worst_39 : decode cX10_worst 39 = .ok (.aload_n 0, 1) := by decide +kernel
theorem dX10_worst_40 : decode cX10_worst 40 = .ok (.iload_n 2, 1) := by decide +kernel
theorem dX10_worst_41 : decode cX10_worst 41 = .ok (.bipush (-4), 2) := by decide +kernel
theorem dX10_worst_43 : decode cX10_worst 43 = .ok (.invokevirtual 203, 3) := by decide +kernel
theorem dX10_worst_46 : decode cX10_worst 46 = .ok (.ifCond .le 7, 3) := by decide +kernel
theorem dX10_worst_49 : decode cX10_worst 49 = .ok (.iconst 1, 1) := by decide +kernel
theorem dX10_worst_50 : decode cX10_worst 50 = .ok (.goto 4, 3) := by decide +kernel
theorem dX10_worst_53 : decode cX10_worst 53 = .ok (.iconst 0, 1) := by decide +kernel
theorem dX10_worst_54 : decode cX10_worst 54 = .ok (.iadd, 1) := by decide +kernel
theorem dX10_worst_55 : decode cX10_worst 55 = .ok (.istore_n 1, 1) := by decide +kernel
theorem dX10_worst_56 : decode cX10_worst 56 = .ok (.iinc 2 1, 3) := by decide +kernel
theorem dX10_worst_59 : decode cX10_worst 59 = .ok (.goto (-55), 3) := by decide +kernel
theorem dX10_worst_62 : decode cX10_worst 62 = .ok (.iload_n 1, 1) := by decide +kernel
theorem dX10_worst_63 : decode cX10_worst 63 = .ok (.aload_n 0, 1) := by decide +kernel
theorem dX10_worst_64 : decode cX10_worst 64 = .ok (.iconst 0, 1) := by decide +kernel
theorem dX10_worst_65 : decode cX10_worst 65 = .ok (.invokevirtual 140, 3) := by decide +kernel
theorem dX10_worst_68 : decode cX10_worst 68 = .ok (.invokestatic 151, 3) := by decide +kernel
theorem dX10_worst_71 : decode cX10_worst 71 = .ok (.if_icmp .ge 9, 3) := by decide +kernel
theorem dX10_worst_74 : decode cX10_worst 74 = .ok (.iload_n 1, 1) := by decide +kernel
theorem dX10_worst_75 : decode cX10_worst 75 = .ok (.iconst 1, 1) := by decide +kernel
theorem dX10_worst_76 : decode cX10_worst 76 = .ok (.iadd, 1) := by decide +kernel
theorem dX10_worst_77 : decode cX10_worst 77 = .ok (.goto 5, 3) := by decide +kernel
theorem dX10_worst_80 : decode cX10_worst 80 = .ok (.bipush (-4), 2) := by decide +kernel
theorem dX10_worst_82 : decode cX10_worst 82 = .ok (.ireturn, 1) := by decide +kernel
theorem dX10_choose_0 : decode cX10_choose 0 = .ok (.iload_n 1, 1) := by decide +kernel
theorem dX10_choose_1 : decode cX10_choose 1 = .ok (.ifCond .lt 8, 3) := by decide +kernel
theorem dX10_choose_4 : decode cX10_choose 4 = .ok (.iload_n 1, 1) := by decide +kernel
theorem dX10_choose_5 : decode cX10_choose 5 = .ok (.iload_n 0, 1) := by decide +kernel
theorem dX10_choose_6 : decode cX10_choose 6 = .ok (.if_icmp .le 5, 3) := by decide +kernel
theorem dX10_choose_9 : decode cX10_choose 9 = .ok (.iconst 0, 1) := by decide +kernel
theorem dX10_choose_10 : decode cX10_choose 10 = .ok (.ireturn, 1) := by decide +kernel
theorem dX10_choose_11 : decode cX10_choose 11 = .ok (.lconst 1, 1) := by decide +kernel
theorem dX10_choose_12 : decode cX10_choose 12 = .ok (.lstore_n 2, 1) := by decide +kernel
theorem dX10_choose_13 : decode cX10_choose 13 = .ok (.iconst 0, 1) := by decide +kernel
theorem dX10_choose_14 : decode cX10_choose 14 = .ok (.istore 4, 2) := by decide +kernel
theorem dX10_choose_16 : decode cX10_choose 16 = .ok (.iload 4, 2) := by decide +kernel
theorem dX10_choose_18 : decode cX10_choose 18 = .ok (.iload_n 1, 1) := by decide +kernel
theorem dX10_choose_19 : decode cX10_choose 19 = .ok (.if_icmp .ge 23, 3) := by decide +kernel
theorem dX10_choose_22 : decode cX10_choose 22 = .ok (.lload_n 2, 1) := by decide +kernel
theorem dX10_choose_23 : decode cX10_choose 23 = .ok (.iload_n 0, 1) := by decide +kernel
theorem dX10_choose_24 : decode cX10_choose 24 = .ok (.iload 4, 2) := by decide +kernel
theorem dX10_choose_26 : decode cX10_choose 26 = .ok (.isub, 1) := by decide +kernel
theorem dX10_choose_27 : decode cX10_choose 27 = .ok (.i2l, 1) := by decide +kernel
theorem dX10_choose_28 : decode cX10_choose 28 = .ok (.lmul, 1) := by decide +kernel
theorem dX10_choose_29 : decode cX10_choose 29 = .ok (.iload 4, 2) := by decide +kernel
theorem dX10_choose_31 : decode cX10_choose 31 = .ok (.iconst 1, 1) := by decide +kernel
theorem dX10_choose_32 : decode cX10_choose 32 = .ok (.iadd, 1) := by decide +kernel
theorem dX10_choose_33 : decode cX10_choose 33 = .ok (.i2l, 1) := by decide +kernel
theorem dX10_choose_34 : decode cX10_choose 34 = .ok (.ldiv, 1) := by decide +kernel
theorem dX10_choose_35 : decode cX10_choose 35 = .ok (.lstore_n 2, 1) := by decide +kernel
theorem dX10_choose_36 : decode cX10_choose 36 = .ok (.iinc 4 1, 3) := by decide +kernel
theorem dX10_choose_39 : decode cX10_choose 39 = .ok (.goto (-23), 3) := by decide +kernel
theorem dX10_choose_42 : decode cX10_choose 42 = .ok (.lload_n 2, 1) := by decide +kernel
theorem dX10_choose_43 : decode cX10_choose 43 = .ok (.l2i, 1) := by decide +kernel
theorem dX10_choose_44 : decode cX10_choose 44 = .ok (.ireturn, 1) := by decide +kernel
theorem dX10_unpaired_0 : decode cX10_unpaired 0 = .ok (.aload_n 0, 1) := by decide +kernel
theorem dX10_unpaired_1 : decode cX10_unpaired 1 = .ok (.getfield 7, 3) := by decide +kernel
theorem dX10_unpaired_4 : decode cX10_unpaired 4 = .ok (.iconst 3, 1) := by decide +kernel
theorem dX10_unpaired_5 : decode cX10_unpaired 5 = .ok (.iaload, 1) := by decide +kernel
theorem dX10_unpaired_6 : decode cX10_unpaired 6 = .ok (.ifCond .ne 28, 3) := by decide +kernel
theorem dX10_unpaired_9 : decode cX10_unpaired 9 = .ok (.iload_n 2, 1) := by decide +kernel
theorem dX10_unpaired_10 : decode cX10_unpaired 10 = .ok (.ifCond .ne 7, 3) := by decide +kernel
theorem dX10_unpaired_13 : decode cX10_unpaired 13 = .ok (.iconst 1, 1) := by decide +kernel
theorem dX10_unpaired_14 : decode cX10_unpaired 14 = .ok (.goto 19, 3) := by decide +kernel
theorem dX10_unpaired_17 : decode cX10_unpaired 17 = .ok (.iload_n 2, 1) := by decide +kernel
theorem dX10_unpaired_18 : decode cX10_unpaired 18 = .ok (.iconst 1, 1) := by decide +kernel
theorem dX10_unpaired_19 : decode cX10_unpaired 19 = .ok (.if_icmp .ne 13, 3) := by decide +kernel
theorem dX10_unpaired_22 : decode cX10_unpaired 22 = .ok (.aload_n 0, 1) := by decide +kernel
theorem dX10_unpaired_23 : decode cX10_unpaired 23 = .ok (.iload_n 1, 1) := by decide +kernel
theorem dX10_unpaired_24 : decode cX10_unpaired 24 = .ok (.bipush (-4), 2) := by decide +kernel
theorem dX10_unpaired_26 : decode cX10_unpaired 26 = .ok (.invokevirtual 203, 3) := by decide +kernel
theorem dX10_unpaired_29 : decode cX10_unpaired 29 = .ok (.goto 4, 3) := by decide +kernel
theorem dX10_unpaired_32 : decode cX10_unpaired 32 = .ok (.iconst 0, 1) := by decide +kernel
theorem dX10_unpaired_33 : decode cX10_unpaired 33 = .ok (.ireturn, 1) := by decide +kernel
theorem dX10_unpaired_34 : decode cX10_unpaired 34 = .ok (.iload_n 2, 1) := by decide +kernel
theorem dX10_unpaired_35 : decode cX10_unpaired 35 = .ok (.ifCond .ne 7, 3) := by decide +kernel
theorem dX10_unpaired_38 : decode cX10_unpaired 38 = .ok (.iconst 1, 1) := by decide +kernel
theorem dX10_unpaired_39 : decode cX10_unpaired 39 = .ok (.goto 24, 3) := by decide +kernel
theorem dX10_unpaired_42 : decode cX10_unpaired 42 = .ok (.aload_n 0, 1) := by decide +kernel
theorem dX10_unpaired_43 : decode cX10_unpaired 43 = .ok (.iload_n 1, 1) := by decide +kernel
theorem dX10_unpaired_44 : decode cX10_unpaired 44 = .ok (.iconst 0, 1) := by decide +kernel
theorem dX10_unpaired_45 : decode cX10_unpaired 45 = .ok (.invokevirtual 203, 3) := by decide +kernel
theorem dX10_unpaired_48 : decode cX10_unpaired 48 = .ok (.iload_n 2, 1) := by decide +kernel
theorem dX10_unpaired_49 : decode cX10_unpaired 49 = .ok (.invokestatic 206, 3) := by decide +kernel
theorem dX10_unpaired_52 : decode cX10_unpaired 52 = .ok (.aload_n 0, 1) := by decide +kernel
theorem dX10_unpaired_53 : decode cX10_unpaired 53 = .ok (.iload_n 1, 1) := by decide +kernel
theorem dX10_unpaired_54 : decode cX10_unpaired 54 = .ok (.iconst 1, 1) := by decide +kernel
theorem dX10_unpaired_55 : decode cX10_unpaired 55 = .ok (.invokevirtual 203, 3) := by decide +kernel
theorem dX10_unpaired_58 : decode cX10_unpaired 58 = .ok (.iload_n 2, 1) := by decide +kernel
theorem dX10_unpaired_59 : decode cX10_unpaired 59 = .ok (.invokestatic 206, 3) := by decide +kernel
theorem dX10_unpaired_62 : decode cX10_unpaired 62 = .ok (.iadd, 1) := by decide +kernel
theorem dX10_unpaired_63 : decode cX10_unpaired 63 = .ok (.ireturn, 1) := by decide +kernel
theorem dX10_odds_0 : decode cX10_odds 0 = .ok (.iload_n 1, 1) := by decide +kernel
theorem dX10_odds_1 : decode cX10_odds 1 = .ok (.i2l, 1) := by decide +kernel
theorem dX10_odds_2 : decode cX10_odds 2 = .ok (.lconst 0, 1) := by decide +kernel
theorem dX10_odds_3 : decode cX10_odds 3 = .ok (.ldc2_w 191, 3) := by decide +kernel
theorem dX10_odds_6 : decode cX10_odds 6 = .ok (.invokestatic 59, 3) := by decide +kernel
theorem dX10_odds_9 : decode cX10_odds 9 = .ok (.ifCond .eq 13, 3) := by decide +kernel
theorem dX10_odds_12 : decode cX10_odds 12 = .ok (.iload_n 2, 1) := by decide +kernel
theorem dX10_odds_13 : decode cX10_odds 13 = .ok (.i2l, 1) := by decide +kernel
theorem dX10_odds_14 : decode cX10_odds 14 = .ok (.lconst 0, 1) := by decide +kernel
theorem dX10_odds_15 : decode cX10_odds 15 = .ok (.lconst 1, 1) := by decide +kernel
theorem dX10_odds_16 : decode cX10_odds 16 = .ok (.invokestatic 59, 3) := by decide +kernel
theorem dX10_odds_19 : decode cX10_odds 19 = .ok (.ifCond .ne 5, 3) := by decide +kernel
theorem dX10_odds_22 : decode cX10_odds 22 = .ok (.iconst (-1), 1) := by decide +kernel
theorem dX10_odds_23 : decode cX10_odds 23 = .ok (.ireturn, 1) := by decide +kernel
theorem dX10_odds_24 : decode cX10_odds 24 = .ok (.aload_n 0, 1) := by decide +kernel
theorem dX10_odds_25 : decode cX10_odds 25 = .ok (.iconst 0, 1) := by decide +kernel
theorem dX10_odds_26 : decode cX10_odds 26 = .ok (.invokevirtual 140, 3) := by decide +kernel
theorem dX10_odds_29 : decode cX10_odds 29 = .ok (.invokestatic 151, 3) := by decide +kernel
theorem dX10_odds_32 : decode cX10_odds 32 = .ok (.istore_n 3, 1) := by decide +kernel
theorem dX10_odds_33 : decode cX10_odds 33 = .ok (.iload_n 3, 1) := by decide +kernel
theorem dX10_odds_34 : decode cX10_odds 34 = .ok (.iload_n 1, 1) := by decide +kernel
theorem dX10_odds_35 : decode cX10_odds 35 = .ok (.if_icmp .ge 6, 3) := by decide +kernel
theorem dX10_odds_38 : decode cX10_odds 38 = .ok (.bipush (-2), 2) := by decide +kernel
theorem dX10_odds_40 : decode cX10_odds 40 = .ok (.ireturn, 1) := by decide +kernel
theorem dX10_odds_41 : decode cX10_odds 41 = .ok (.iconst 0, 1) := by decide +kernel
theorem dX10_odds_42 : decode cX10_odds 42 = .ok (.istore 4, 2) := by decide +kernel
theorem dX10_odds_44 : decode cX10_odds 44 = .ok (.iload 4, 2) := by decide +kernel
theorem dX10_odds_46 : decode cX10_odds 46 = .ok (.bipush 12, 2) := by decide +kernel
theorem dX10_odds_48 : decode cX10_odds 48 = .ok (.if_icmp .gt 26, 3) := by decide +kernel
theorem dX10_odds_51 : decode cX10_odds 51 = .ok (.aload_n 0, 1) := by decide +kernel
theorem dX10_odds_52 : decode cX10_odds 52 = .ok (.getfield 32, 3) := by decide +kernel
theorem dX10_odds_55 : decode cX10_odds 55 = .ok (.iload 4, 2) := by decide +kernel
theorem dX10_odds_57 : decode cX10_odds 57 = .ok (.iload 4, 2) := by decide +kernel
theorem dX10_odds_59 : decode cX10_odds 59 = .ok (.ifCond .ne 7, 3) := by decide +kernel
theorem dX10_odds_62 : decode cX10_odds 62 = .ok (.iconst 1, 1) := by decide +kernel
theorem dX10_odds_63 : decode cX10_odds 63 = .ok (.goto 4, 3) := by decide +kernel
theorem dX10_odds_66 : decode cX10_odds 66 = .ok (.iconst 0, 1) := by decide +kernel
theorem dX10_odds_67 : decode cX10_odds 67 = .ok (.iastore, 1) := by decide +kernel
theorem dX10_odds_68 : decode cX10_odds 68 = .ok (.iinc 4 1, 3) := by decide +kernel
theorem dX10_odds_71 : decode cX10_odds 71 = .ok (.goto (-27), 3) := by decide +kernel
theorem dX10_odds_74 : decode cX10_odds 74 = .ok (.iconst 0, 1) := by decide +kernel
theorem dX10_odds_75 : decode cX10_odds 75 = .ok (.istore 4, 2) := by decide +kernel
theorem dX10_odds_77 : decode cX10_odds 77 = .ok (.iload 4, 2) := by decide +kernel
theorem dX10_odds_79 : decode cX10_odds 79 = .ok (.bipush 6, 2) := by decide +kernel
theorem dX10_odds_81 : decode cX10_odds 81 = .ok (.if_icmp .ge 108, 3) := by decide +kernel
theorem dX10_odds_84 : decode cX10_odds 84 = .ok (.iconst 0, 1) := by decide +kernel
theorem dX10_odds_85 : decode cX10_odds 85 = .ok (.istore 5, 2) := by decide +kernel
theorem dX10_odds_87 : decode cX10_odds 87 = .ok (.iload 5, 2) := by decide +kernel
theorem dX10_odds_89 : decode cX10_odds 89 = .ok (.bipush 12, 2) := by decide +kernel
theorem dX10_odds_91 : decode cX10_odds 91 = .ok (.if_icmp .gt 62, 3) := by decide +kernel
theorem dX10_odds_94 : decode cX10_odds 94 = .ok (.aload_n 0, 1) := by decide +kernel
theorem dX10_odds_95 : decode cX10_odds 95 = .ok (.getfield 35, 3) := by decide +kernel
theorem dX10_odds_98 : decode cX10_odds 98 = .ok (.iload 5, 2) := by decide +kernel
theorem dX10_odds_100 : decode cX10_odds 100 = .ok (.iconst 0, 1) := by decide +kernel
theorem dX10_odds_101 : decode cX10_odds 101 = .ok (.iastore, 1) := by decide +kernel
theorem dX10_odds_102 : decode cX10_odds 102 = .ok (.iconst 0, 1) := by decide +kernel
theorem dX10_odds_103 : decode cX10_odds 103 = .ok (.istore 6, 2) := by decide +kernel
theorem dX10_odds_105 : decode cX10_odds 105 = .ok (.iload 6, 2) := by decide +kernel
theorem dX10_odds_107 : decode cX10_odds 107 = .ok (.iload 5, 2) := by decide +kernel
theorem dX10_odds_109 : decode cX10_odds 109 = .ok (.if_icmp .gt 38, 3) := by decide +kernel
theorem dX10_odds_112 : decode cX10_odds 112 = .ok (.aload_n 0, 1) := by decide +kernel
theorem dX10_odds_113 : decode cX10_odds 113 = .ok (.getfield 35, 3) := by decide +kernel
theorem dX10_odds_116 : decode cX10_odds 116 = .ok (.iload 5, 2) := by decide +kernel
theorem dX10_odds_118 : decode cX10_odds 118 = .ok (.dup2, 1) := by decide +kernel
theorem dX10_odds_119 : decode cX10_odds 119 = .ok (.iaload, 1) := by decide +kernel
theorem dX10_odds_120 : decode cX10_odds 120 = .ok (.aload_n 0, 1) := by decide +kernel
theorem dX10_odds_121 : decode cX10_odds 121 = .ok (.getfield 32, 3) := by decide +kernel
theorem dX10_odds_124 : decode cX10_odds 124 = .ok (.iload 5, 2) := by decide +kernel
theorem dX10_odds_126 : decode cX10_odds 126 = .ok (.iload 6, 2) := by decide +kernel
theorem dX10_odds_128 : decode cX10_odds 128 = .ok (.isub, 1) := by decide +kernel
theorem dX10_odds_129 : decode cX10_odds 129 = .ok (.iaload, 1) := by decide +kernel
theorem dX10_odds_130 : decode cX10_odds 130 = .ok (.aload_n 0, 1) := by decide +kernel
theorem dX10_odds_131 : decode cX10_odds 131 = .ok (.iload 4, 2) := by decide +kernel
theorem dX10_odds_133 : decode cX10_odds 133 = .ok (.iload 6, 2) := by decide +kernel
theorem dX10_odds_135 : decode cX10_odds 135 = .ok (.invokevirtual 209, 3) := by decide +kernel
theorem dX10_odds_138 : decode cX10_odds 138 = .ok (.imul, 1) := by decide +kernel
theorem dX10_odds_139 : decode cX10_odds 139 = .ok (.iadd, 1) := by decide +kernel
theorem dX10_odds_140 : decode cX10_odds 140 = .ok (.iastore, 1) := by decide +kernel
theorem dX10_odds_141 : decode cX10_odds 141 = .ok (.iinc 6 1, 3) := by decide +kernel
theorem dX10_odds_144 : decode cX10_odds 144 = .ok (.goto (-39), 3) := by decide +kernel
theorem dX10_odds_147 : decode cX10_odds 147 = .ok (.iinc 5 1, 3) := by decide +kernel
theorem dX10_odds_150 : decode cX10_odds 150 = .ok (.goto (-63), 3) := by decide +kernel
theorem dX10_odds_153 : decode cX10_odds 153 = .ok (.iconst 0, 1) := by decide +kernel
theorem dX10_odds_154 : decode cX10_odds 154 = .ok (.istore 5, 2) := by decide +kernel
theorem dX10_odds_156 : decode cX10_odds 156 = .ok (.iload 5, 2) := by decide +kernel
theorem dX10_odds_158 : decode cX10_odds 158 = .ok (.bipush 12, 2) := by decide +kernel
theorem dX10_odds_160 : decode cX10_odds 160 = .ok (.if_icmp .gt 23, 3) := by decide +kernel
theorem dX10_odds_163 : decode cX10_odds 163 = .ok (.aload_n 0, 1) := by decide +kernel
theorem dX10_odds_164 : decode cX10_odds 164 = .ok (.getfield 32, 3) := by decide +kernel
theorem dX10_odds_167 : decode cX10_odds 167 = .ok (.iload 5, 2) := by decide +kernel
theorem dX10_odds_169 : decode cX10_odds 169 = .ok (.aload_n 0, 1) := by decide +kernel
theorem dX10_odds_170 : decode cX10_odds 170 = .ok (.getfield 35, 3) := by decide +kernel
theorem dX10_odds_173 : decode cX10_odds 173 = .ok (.iload 5, 2) := by decide +kernel
theorem dX10_odds_175 : decode cX10_odds 175 = .ok (.iaload, 1) := by decide +kernel
theorem dX10_odds_176 : decode cX10_odds 176 = .ok (.iastore, 1) := by decide +kernel
theorem dX10_odds_177 : decode cX10_odds 177 = .ok (.iinc 5 1, 3) := by decide +kernel
theorem dX10_odds_180 : decode cX10_odds 180 = .ok (.goto (-24), 3) := by decide +kernel
theorem dX10_odds_183 : decode cX10_odds 183 = .ok (.iinc 4 1, 3) := by decide +kernel
theorem dX10_odds_186 : decode cX10_odds 186 = .ok (.goto (-109), 3) := by decide +kernel
theorem dX10_odds_189 : decode cX10_odds 189 = .ok (.iload_n 3, 1) := by decide +kernel
theorem dX10_odds_190 : decode cX10_odds 190 = .ok (.iload_n 1, 1) := by decide +kernel
theorem dX10_odds_191 : decode cX10_odds 191 = .ok (.invokestatic 206, 3) := by decide +kernel
theorem dX10_odds_194 : decode cX10_odds 194 = .ok (.istore 4, 2) := by decide +kernel
theorem dX10_odds_196 : decode cX10_odds 196 = .ok (.iload 4, 2) := by decide +kernel
theorem dX10_odds_198 : decode cX10_odds 198 = .ok (.aload_n 0, 1) := by decide +kernel
theorem dX10_odds_199 : decode cX10_odds 199 = .ok (.getfield 32, 3) := by decide +kernel
theorem dX10_odds_202 : decode cX10_odds 202 = .ok (.iload_n 1, 1) := by decide +kernel
theorem dX10_odds_203 : decode cX10_odds 203 = .ok (.iaload, 1) := by decide +kernel
theorem dX10_odds_204 : decode cX10_odds 204 = .ok (.isub, 1) := by decide +kernel
theorem dX10_odds_205 : decode cX10_odds 205 = .ok (.i2l, 1) := by decide +kernel
theorem dX10_odds_206 : decode cX10_odds 206 = .ok (.iload 4, 2) := by decide +kernel
theorem dX10_odds_208 : decode cX10_odds 208 = .ok (.i2l, 1) := by decide +kernel
theorem dX10_odds_209 : decode cX10_odds 209 = .ok (.invokestatic 199, 3) := by decide +kernel
theorem dX10_odds_212 : decode cX10_odds 212 = .ok (.l2i, 1) := by decide +kernel
theorem dX10_odds_213 : decode cX10_odds 213 = .ok (.istore 5, 2) := by decide +kernel
theorem dX10_odds_215 : decode cX10_odds 215 = .ok (.iload_n 2, 1) := by decide +kernel
theorem dX10_odds_216 : decode cX10_odds 216 = .ok (.ifCond .ne 18, 3) := by decide +kernel
theorem dX10_odds_219 : decode cX10_odds 219 = .ok (.iload 4, 2) := by decide +kernel
theorem dX10_odds_221 : decode cX10_odds 221 = .ok (.aload_n 0, 1) := by decide +kernel
theorem dX10_odds_222 : decode cX10_odds 222 = .ok (.getfield 32, 3) := by decide +kernel
theorem dX10_odds_225 : decode cX10_odds 225 = .ok (.iload_n 1, 1) := by decide +kernel
theorem dX10_odds_226 : decode cX10_odds 226 = .ok (.iaload, 1) := by decide +kernel
theorem dX10_odds_227 : decode cX10_odds 227 = .ok (.isub, 1) := by decide +kernel
theorem dX10_odds_228 : decode cX10_odds 228 = .ok (.iload 5, 2) := by decide +kernel
theorem dX10_odds_230 : decode cX10_odds 230 = .ok (.idiv, 1) := by decide +kernel
theorem dX10_odds_231 : decode cX10_odds 231 = .ok (.goto 8, 3) := by decide +kernel
theorem dX10_odds_234 : decode cX10_odds 234 = .ok (.iload 4, 2) := by decide +kernel
theorem dX10_odds_236 : decode cX10_odds 236 = .ok (.iload 5, 2) := by decide +kernel
theorem dX10_odds_238 : decode cX10_odds 238 = .ok (.idiv, 1) := by decide +kernel
theorem dX10_odds_239 : decode cX10_odds 239 = .ok (.ireturn, 1) := by decide +kernel
theorem dX10_owns_0 : decode cX10_owns 0 = .ok (.iload_n 1, 1) := by decide +kernel
theorem dX10_owns_1 : decode cX10_owns 1 = .ok (.i2l, 1) := by decide +kernel
theorem dX10_owns_2 : decode cX10_owns 2 = .ok (.lconst 0, 1) := by decide +kernel
theorem dX10_owns_3 : decode cX10_owns 3 = .ok (.ldc2_w 106, 3) := by decide +kernel
theorem dX10_owns_6 : decode cX10_owns 6 = .ok (.invokestatic 59, 3) := by decide +kernel
theorem dX10_owns_9 : decode cX10_owns 9 = .ok (.ifCond .eq 41, 3) := by decide +kernel
theorem dX10_owns_12 : decode cX10_owns 12 = .ok (.iload_n 2, 1) := by decide +kernel
theorem dX10_owns_13 : decode cX10_owns 13 = .ok (.i2l, 1) := by decide +kernel
theorem dX10_owns_14 : decode cX10_owns 14 = .ok (.lconst 0, 1) := by decide +kernel
theorem dX10_owns_15 : decode cX10_owns 15 = .ok (.ldc2_w 75, 3) := by decide +kernel
theorem dX10_owns_18 : decode cX10_owns 18 = .ok (.invokestatic 59, 3) := by decide +kernel
theorem dX10_owns_21 : decode cX10_owns 21 = .ok (.ifCond .eq 29, 3) := by decide +kernel
theorem dX10_owns_24 : decode cX10_owns 24 = .ok (.iload_n 3, 1) := by decide +kernel
theorem dX10_owns_25 : decode cX10_owns 25 = .ok (.i2l, 1) := by decide +kernel
theorem dX10_owns_26 : decode cX10_owns 26 = .ok (.lconst 0, 1) := by decide +kernel
theorem dX10_owns_27 : decode cX10_owns 27 = .ok (.ldc2_w 191, 3) := by decide +kernel
theorem dX10_owns_30 : decode cX10_owns 30 = .ok (.invokestatic 59, 3) := by decide +kernel
theorem dX10_owns_33 : decode cX10_owns 33 = .ok (.ifCond .eq 17, 3) := by decide +kernel
theorem dX10_owns_36 : decode cX10_owns 36 = .ok (.iload 4, 2) := by decide +kernel
theorem dX10_owns_38 : decode cX10_owns 38 = .ok (.i2l, 1) := by decide +kernel
theorem dX10_owns_39 : decode cX10_owns 39 = .ok (.iload_n 3, 1) := by decide +kernel
theorem dX10_owns_40 : decode cX10_owns 40 = .ok (.i2l, 1) := by decide +kernel
theorem dX10_owns_41 : decode cX10_owns 41 = .ok (.ldc2_w 191, 3) := by decide +kernel
theorem dX10_owns_44 : decode cX10_owns 44 = .ok (.invokestatic 59, 3) := by decide +kernel
theorem dX10_owns_47 : decode cX10_owns 47 = .ok (.ifCond .ne 5, 3) := by decide +kernel
theorem dX10_owns_50 : decode cX10_owns 50 = .ok (.iconst (-1), 1) := by decide +kernel
theorem dX10_owns_51 : decode cX10_owns 51 = .ok (.ireturn, 1) := by decide +kernel
theorem dX10_owns_52 : decode cX10_owns 52 = .ok (.sipush 169, 3) := by decide +kernel
theorem dX10_owns_55 : decode cX10_owns 55 = .ok (.iconst 2, 1) := by decide +kernel
theorem dX10_owns_56 : decode cX10_owns 56 = .ok (.bipush 6, 2) := by decide +kernel
theorem dX10_owns_58 : decode cX10_owns 58 = .ok (.iload_n 1, 1) := by decide +kernel
theorem dX10_owns_59 : decode cX10_owns 59 = .ok (.imul, 1) := by decide +kernel
theorem dX10_owns_60 : decode cX10_owns 60 = .ok (.iload_n 2, 1) := by decide +kernel
theorem dX10_owns_61 : decode cX10_owns 61 = .ok (.iadd, 1) := by decide +kernel
theorem dX10_owns_62 : decode cX10_owns 62 = .ok (.imul, 1) := by decide +kernel
theorem dX10_owns_63 : decode cX10_owns 63 = .ok (.iadd, 1) := by decide +kernel
theorem dX10_owns_64 : decode cX10_owns 64 = .ok (.istore 5, 2) := by decide +kernel
theorem dX10_owns_66 : decode cX10_owns 66 = .ok (.aload_n 0, 1) := by decide +kernel
theorem dX10_owns_67 : decode cX10_owns 67 = .ok (.getfield 7, 3) := by decide +kernel
theorem dX10_owns_70 : decode cX10_owns 70 = .ok (.iload 5, 2) := by decide +kernel
theorem dX10_owns_72 : decode cX10_owns 72 = .ok (.iaload, 1) := by decide +kernel
theorem dX10_owns_73 : decode cX10_owns 73 = .ok (.bipush 16, 2) := by decide +kernel
theorem dX10_owns_75 : decode cX10_owns 75 = .ok (.aload_n 0, 1) := by decide +kernel
theorem dX10_owns_76 : decode cX10_owns 76 = .ok (.getfield 7, 3) := by decide +kernel
theorem dX10_owns_79 : decode cX10_owns 79 = .ok (.iload 5, 2) := by decide +kernel
theorem dX10_owns_81 : decode cX10_owns 81 = .ok (.iconst 1, 1) := by decide +kernel
theorem dX10_owns_82 : decode cX10_owns 82 = .ok (.iadd, 1) := by decide +kernel
theorem dX10_owns_83 : decode cX10_owns 83 = .ok (.iaload, 1) := by decide +kernel
theorem dX10_owns_84 : decode cX10_owns 84 = .ok (.imul, 1) := by decide +kernel
theorem dX10_owns_85 : decode cX10_owns 85 = .ok (.iadd, 1) := by decide +kernel
theorem dX10_owns_86 : decode cX10_owns 86 = .ok (.istore 6, 2) := by decide +kernel
theorem dX10_owns_88 : decode cX10_owns 88 = .ok (.aload_n 0, 1) := by decide +kernel
theorem dX10_owns_89 : decode cX10_owns 89 = .ok (.getfield 7, 3) := by decide +kernel
theorem dX10_owns_92 : decode cX10_owns 92 = .ok (.iload 5, 2) := by decide +kernel
theorem dX10_owns_94 : decode cX10_owns 94 = .ok (.iload_n 3, 1) := by decide +kernel
theorem dX10_owns_95 : decode cX10_owns 95 = .ok (.iastore, 1) := by decide +kernel
theorem dX10_owns_96 : decode cX10_owns 96 = .ok (.aload_n 0, 1) := by decide +kernel
theorem dX10_owns_97 : decode cX10_owns 97 = .ok (.getfield 7, 3) := by decide +kernel
theorem dX10_owns_100 : decode cX10_owns 100 = .ok (.iload 5, 2) := by decide +kernel
theorem dX10_owns_102 : decode cX10_owns 102 = .ok (.iconst 1, 1) := by decide +kernel
theorem dX10_owns_103 : decode cX10_owns 103 = .ok (.iadd, 1) := by decide +kernel
theorem dX10_owns_104 : decode cX10_owns 104 = .ok (.iload 4, 2) := by decide +kernel
theorem dX10_owns_106 : decode cX10_owns 106 = .ok (.iastore, 1) := by decide +kernel
theorem dX10_owns_107 : decode cX10_owns 107 = .ok (.iload 6, 2) := by decide +kernel
theorem dX10_owns_109 : decode cX10_owns 109 = .ok (.ireturn, 1) := by decide +kernel
theorem dX10_may_0 : decode cX10_may 0 = .ok (.aload_n 0, 1) := by decide +kernel
theorem dX10_may_1 : decode cX10_may 1 = .ok (.iload_n 1, 1) := by decide +kernel
theorem dX10_may_2 : decode cX10_may 2 = .ok (.invokevirtual 63, 3) := by decide +kernel
theorem dX10_may_5 : decode cX10_may 5 = .ok (.ifCond .eq 15, 3) := by decide +kernel
theorem dX10_may_8 : decode cX10_may 8 = .ok (.iload_n 2, 1) := by decide +kernel
theorem dX10_may_9 : decode cX10_may 9 = .ok (.i2l, 1) := by decide +kernel
theorem dX10_may_10 : decode cX10_may 10 = .ok (.lconst 1, 1) := by decide +kernel
theorem dX10_may_11 : decode cX10_may 11 = .ok (.ldc2_w 127, 3) := by decide +kernel
theorem dX10_may_14 : decode cX10_may 14 = .ok (.invokestatic 59, 3) := by decide +kernel
theorem dX10_may_17 : decode cX10_may 17 = .ok (.ifCond .ne 5, 3) := by decide +kernel
theorem dX10_may_20 : decode cX10_may 20 = .ok (.iconst (-1), 1) := by decide +kernel
theorem dX10_may_21 : decode cX10_may 21 = .ok (.ireturn, 1) := by decide +kernel
theorem dX10_may_22 : decode cX10_may 22 = .ok (.aload_n 0, 1) := by decide +kernel
theorem dX10_may_23 : decode cX10_may 23 = .ok (.iload_n 1, 1) := by decide +kernel
theorem dX10_may_24 : decode cX10_may 24 = .ok (.bipush 8, 2) := by decide +kernel
theorem dX10_may_26 : decode cX10_may 26 = .ok (.invokevirtual 67, 3) := by decide +kernel
theorem dX10_may_29 : decode cX10_may 29 = .ok (.istore_n 3, 1) := by decide +kernel
theorem dX10_may_30 : decode cX10_may 30 = .ok (.aload_n 0, 1) := by decide +kernel
theorem dX10_may_31 : decode cX10_may 31 = .ok (.iload_n 1, 1) := by decide +kernel
theorem dX10_may_32 : decode cX10_may 32 = .ok (.bipush 8, 2) := by decide +kernel
theorem dX10_may_34 : decode cX10_may 34 = .ok (.iload_n 2, 1) := by decide +kernel
theorem dX10_may_35 : decode cX10_may 35 = .ok (.invokevirtual 71, 3) := by decide +kernel
theorem dX10_may_38 : decode cX10_may 38 = .ok (.iload_n 3, 1) := by decide +kernel
theorem dX10_may_39 : decode cX10_may 39 = .ok (.ireturn, 1) := by decide +kernel
theorem dX10_bind_0 : decode cX10_bind 0 = .ok (.aload_n 0, 1) := by decide +kernel
theorem dX10_bind_1 : decode cX10_bind 1 = .ok (.iload_n 1, 1) := by decide +kernel
theorem dX10_bind_2 : decode cX10_bind 2 = .ok (.iload_n 2, 1) := by decide +kernel
theorem dX10_bind_3 : decode cX10_bind 3 = .ok (.invokevirtual 157, 3) := by decide +kernel
theorem dX10_bind_6 : decode cX10_bind 6 = .ok (.ifCond .ne 5, 3) := by decide +kernel
theorem dX10_bind_9 : decode cX10_bind 9 = .ok (.iconst (-1), 1) := by decide +kernel
theorem dX10_bind_10 : decode cX10_bind 10 = .ok (.ireturn, 1) := by decide +kernel
theorem dX10_bind_11 : decode cX10_bind 11 = .ok (.aload_n 0, 1) := by decide +kernel
theorem dX10_bind_12 : decode cX10_bind 12 = .ok (.iload_n 1, 1) := by decide +kernel
theorem dX10_bind_13 : decode cX10_bind 13 = .ok (.iconst 0, 1) := by decide +kernel
theorem dX10_bind_14 : decode cX10_bind 14 = .ok (.invokevirtual 67, 3) := by decide +kernel
theorem dX10_bind_17 : decode cX10_bind 17 = .ok (.aload_n 0, 1) := by decide +kernel
theorem dX10_bind_18 : decode cX10_bind 18 = .ok (.iload_n 2, 1) := by decide +kernel
theorem dX10_bind_19 : decode cX10_bind 19 = .ok (.iconst 0, 1) := by decide +kernel
theorem dX10_bind_20 : decode cX10_bind 20 = .ok (.invokevirtual 67, 3) := by decide +kernel
theorem dX10_bind_23 : decode cX10_bind 23 = .ok (.if_icmp .eq 6, 3) := by decide +kernel
theorem dX10_bind_26 : decode cX10_bind 26 = .ok (.bipush (-2), 2) := by decide +kernel
theorem dX10_bind_28 : decode cX10_bind 28 = .ok (.ireturn, 1) := by decide +kernel
theorem dX10_bind_29 : decode cX10_bind 29 = .ok (.aload_n 0, 1) := by decide +kernel
theorem dX10_bind_30 : decode cX10_bind 30 = .ok (.iload_n 1, 1) := by decide +kernel
theorem dX10_bind_31 : decode cX10_bind 31 = .ok (.bipush 9, 2) := by decide +kernel
theorem dX10_bind_33 : decode cX10_bind 33 = .ok (.invokevirtual 67, 3) := by decide +kernel
theorem dX10_bind_36 : decode cX10_bind 36 = .ok (.istore_n 3, 1) := by decide +kernel
theorem dX10_bind_37 : decode cX10_bind 37 = .ok (.aload_n 0, 1) := by decide +kernel
theorem dX10_bind_38 : decode cX10_bind 38 = .ok (.iload_n 2, 1) := by decide +kernel
theorem dX10_bind_39 : decode cX10_bind 39 = .ok (.bipush 9, 2) := by decide +kernel
theorem dX10_bind_41 : decode cX10_bind 41 = .ok (.invokevirtual 67, 3) := by decide +kernel
theorem dX10_bind_44 : decode cX10_bind 44 = .ok (.istore 4, 2) := by decide +kernel
theorem dX10_bind_46 : decode cX10_bind 46 = .ok (.iload_n 3, 1) := by decide +kernel
theorem dX10_bind_47 : decode cX10_bind 47 = .ok (.iload 4, 2) := by decide +kernel
theorem dX10_bind_49 : decode cX10_bind 49 = .ok (.if_icmp .ne 6, 3) := by decide +kernel
theorem dX10_bind_52 : decode cX10_bind 52 = .ok (.bipush (-4), 2) := by decide +kernel
theorem dX10_bind_54 : decode cX10_bind 54 = .ok (.ireturn, 1) := by decide +kernel
theorem dX10_bind_55 : decode cX10_bind 55 = .ok (.iconst 0, 1) := by decide +kernel
theorem dX10_bind_56 : decode cX10_bind 56 = .ok (.istore 5, 2) := by decide +kernel
