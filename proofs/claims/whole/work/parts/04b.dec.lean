theorem dR_init_0 : decode yR_init.2.1 0 = .ok (.aload_n 0, 1) := by decide +kernel
theorem dR_init_1 : decode yR_init.2.1 1 = .ok (.invokespecial 3, 3) := by decide +kernel
theorem dR_init_4 : decode yR_init.2.1 4 = .ok (.aload_n 0, 1) := by decide +kernel
theorem dR_init_5 : decode yR_init.2.1 5 = .ok (.bipush 96, 2) := by decide +kernel
theorem dR_init_7 : decode yR_init.2.1 7 = .ok (.newarray .int, 2) := by decide +kernel
theorem dR_init_9 : decode yR_init.2.1 9 = .ok (.putfield 9, 3) := by decide +kernel
theorem dR_init_12 : decode yR_init.2.1 12 = .ok (.aload_n 0, 1) := by decide +kernel
theorem dR_init_13 : decode yR_init.2.1 13 = .ok (.bipush 96, 2) := by decide +kernel
theorem dR_init_15 : decode yR_init.2.1 15 = .ok (.newarray .int, 2) := by decide +kernel
theorem dR_init_17 : decode yR_init.2.1 17 = .ok (.putfield 15, 3) := by decide +kernel
theorem dR_init_20 : decode yR_init.2.1 20 = .ok (.aload_n 0, 1) := by decide +kernel
theorem dR_init_21 : decode yR_init.2.1 21 = .ok (.iconst 0, 1) := by decide +kernel
theorem dR_init_22 : decode yR_init.2.1 22 = .ok (.putfield 18, 3) := by decide +kernel
theorem dR_init_25 : decode yR_init.2.1 25 = .ok (.aload_n 0, 1) := by decide +kernel
theorem dR_init_26 : decode yR_init.2.1 26 = .ok (.iconst 0, 1) := by decide +kernel
theorem dR_init_27 : decode yR_init.2.1 27 = .ok (.putfield 22, 3) := by decide +kernel
theorem dR_init_30 : decode yR_init.2.1 30 = .ok (.return_, 1) := by decide +kernel
theorem dR_addBytes_0 : decode yR_addBytes.2.1 0 = .ok (.bipush 24, 2) := by decide +kernel
theorem dR_addBytes_2 : decode yR_addBytes.2.1 2 = .ok (.istore_n 2, 1) := by decide +kernel
theorem dR_addBytes_3 : decode yR_addBytes.2.1 3 = .ok (.iload_n 2, 1) := by decide +kernel
theorem dR_addBytes_4 : decode yR_addBytes.2.1 4 = .ok (.ifCond .lt 44, 3) := by decide +kernel
theorem dR_addBytes_7 : decode yR_addBytes.2.1 7 = .ok (.aload_n 0, 1) := by decide +kernel
theorem dR_addBytes_8 : decode yR_addBytes.2.1 8 = .ok (.getfield 18, 3) := by decide +kernel
theorem dR_addBytes_11 : decode yR_addBytes.2.1 11 = .ok (.bipush 96, 2) := by decide +kernel
theorem dR_addBytes_13 : decode yR_addBytes.2.1 13 = .ok (.if_icmp .ge 35, 3) := by decide +kernel
theorem dR_addBytes_16 : decode yR_addBytes.2.1 16 = .ok (.aload_n 0, 1) := by decide +kernel
theorem dR_addBytes_17 : decode yR_addBytes.2.1 17 = .ok (.getfield 9, 3) := by decide +kernel
theorem dR_addBytes_20 : decode yR_addBytes.2.1 20 = .ok (.aload_n 0, 1) := by decide +kernel
theorem dR_addBytes_21 : decode yR_addBytes.2.1 21 = .ok (.getfield 18, 3) := by decide +kernel
theorem dR_addBytes_24 : decode yR_addBytes.2.1 24 = .ok (.iload_n 1, 1) := by decide +kernel
theorem dR_addBytes_25 : decode yR_addBytes.2.1 25 = .ok (.iload_n 2, 1) := by decide +kernel
theorem dR_addBytes_26 : decode yR_addBytes.2.1 26 = .ok (.iushr, 1) := by decide +kernel
theorem dR_addBytes_27 : decode yR_addBytes.2.1 27 = .ok (.sipush 255, 3) := by decide +kernel
theorem dR_addBytes_30 : decode yR_addBytes.2.1 30 = .ok (.iand, 1) := by decide +kernel
theorem dR_addBytes_31 : decode yR_addBytes.2.1 31 = .ok (.iastore, 1) := by decide +kernel
theorem dR_addBytes_32 : decode yR_addBytes.2.1 32 = .ok (.aload_n 0, 1) := by decide +kernel
theorem dR_addBytes_33 : decode yR_addBytes.2.1 33 = .ok (.dup, 1) := by decide +kernel
theorem dR_addBytes_34 : decode yR_addBytes.2.1 34 = .ok (.getfield 18, 3) := by decide +kernel
theorem dR_addBytes_37 : decode yR_addBytes.2.1 37 = .ok (.iconst 1, 1) := by decide +kernel
theorem dR_addBytes_38 : decode yR_addBytes.2.1 38 = .ok (.iadd, 1) := by decide +kernel
theorem dR_addBytes_39 : decode yR_addBytes.2.1 39 = .ok (.putfield 18, 3) := by decide +kernel
theorem dR_addBytes_42 : decode yR_addBytes.2.1 42 = .ok (.iinc 2 (-8), 3) := by decide +kernel
theorem dR_addBytes_45 : decode yR_addBytes.2.1 45 = .ok (.goto (-42), 3) := by decide +kernel
theorem dR_addBytes_48 : decode yR_addBytes.2.1 48 = .ok (.return_, 1) := by decide +kernel
theorem dR_understands_0 : decode yR_understands.2.1 0 = .ok (.aload_n 0, 1) := by decide +kernel
theorem dR_understands_1 : decode yR_understands.2.1 1 = .ok (.iconst 0, 1) := by decide +kernel
theorem dR_understands_2 : decode yR_understands.2.1 2 = .ok (.putfield 45, 3) := by decide +kernel
theorem dR_understands_5 : decode yR_understands.2.1 5 = .ok (.aload_n 0, 1) := by decide +kernel
theorem dR_understands_6 : decode yR_understands.2.1 6 = .ok (.iconst 0, 1) := by decide +kernel
theorem dR_understands_7 : decode yR_understands.2.1 7 = .ok (.putfield 48, 3) := by decide +kernel
theorem dR_understands_10 : decode yR_understands.2.1 10 = .ok (.aload_n 0, 1) := by decide +kernel
theorem dR_understands_11 : decode yR_understands.2.1 11 = .ok (.iconst 0, 1) := by decide +kernel
theorem dR_understands_12 : decode yR_understands.2.1 12 = .ok (.putfield 33, 3) := by decide +kernel
theorem dR_understands_15 : decode yR_understands.2.1 15 = .ok (.aload_n 0, 1) := by decide +kernel
theorem dR_understands_16 : decode yR_understands.2.1 16 = .ok (.iconst 0, 1) := by decide +kernel
theorem dR_understands_17 : decode yR_understands.2.1 17 = .ok (.putfield 30, 3) := by decide +kernel
theorem dR_understands_20 : decode yR_understands.2.1 20 = .ok (.aload_n 0, 1) := by decide +kernel
theorem dR_understands_21 : decode yR_understands.2.1 21 = .ok (.invokevirtual 51, 3) := by decide +kernel
theorem dR_understands_24 : decode yR_understands.2.1 24 = .ok (.aload_n 0, 1) := by decide +kernel
theorem dR_understands_25 : decode yR_understands.2.1 25 = .ok (.invokevirtual 54, 3) := by decide +kernel
theorem dR_understands_28 : decode yR_understands.2.1 28 = .ok (.ifCond .eq 23, 3) := by decide +kernel
theorem dR_understands_31 : decode yR_understands.2.1 31 = .ok (.aload_n 0, 1) := by decide +kernel
theorem dR_understands_32 : decode yR_understands.2.1 32 = .ok (.iconst 0, 1) := by decide +kernel
theorem dR_understands_33 : decode yR_understands.2.1 33 = .ok (.iconst 0, 1) := by decide +kernel
theorem dR_understands_34 : decode yR_understands.2.1 34 = .ok (.invokevirtual 58, 3) := by decide +kernel
theorem dR_understands_37 : decode yR_understands.2.1 37 = .ok (.ifCond .eq 14, 3) := by decide +kernel
theorem dR_understands_40 : decode yR_understands.2.1 40 = .ok (.aload_n 0, 1) := by decide +kernel
theorem dR_understands_41 : decode yR_understands.2.1 41 = .ok (.getfield 48, 3) := by decide +kernel
theorem dR_understands_44 : decode yR_understands.2.1 44 = .ok (.ifCond .ne 7, 3) := by decide +kernel
theorem dR_understands_47 : decode yR_understands.2.1 47 = .ok (.iconst 1, 1) := by decide +kernel
theorem dR_understands_48 : decode yR_understands.2.1 48 = .ok (.goto 4, 3) := by decide +kernel
theorem dR_understands_51 : decode yR_understands.2.1 51 = .ok (.iconst 0, 1) := by decide +kernel
theorem dR_understands_52 : decode yR_understands.2.1 52 = .ok (.ireturn, 1) := by decide +kernel
theorem dR_advance_0 : decode yR_advance.2.1 0 = .ok (.aload_n 0, 1) := by decide +kernel
theorem dR_advance_1 : decode yR_advance.2.1 1 = .ok (.getfield 48, 3) := by decide +kernel
theorem dR_advance_4 : decode yR_advance.2.1 4 = .ok (.iconst 1, 1) := by decide +kernel
theorem dR_advance_5 : decode yR_advance.2.1 5 = .ok (.if_icmp .eq 11, 3) := by decide +kernel
theorem dR_advance_8 : decode yR_advance.2.1 8 = .ok (.aload_n 0, 1) := by decide +kernel
theorem dR_advance_9 : decode yR_advance.2.1 9 = .ok (.getfield 48, 3) := by decide +kernel
theorem dR_advance_12 : decode yR_advance.2.1 12 = .ok (.iconst 2, 1) := by decide +kernel
theorem dR_advance_13 : decode yR_advance.2.1 13 = .ok (.if_icmp .ne 7, 3) := by decide +kernel
theorem dR_advance_16 : decode yR_advance.2.1 16 = .ok (.iconst 1, 1) := by decide +kernel
theorem dR_advance_17 : decode yR_advance.2.1 17 = .ok (.goto 4, 3) := by decide +kernel
theorem dR_advance_20 : decode yR_advance.2.1 20 = .ok (.iconst 0, 1) := by decide +kernel
theorem dR_advance_21 : decode yR_advance.2.1 21 = .ok (.istore_n 1, 1) := by decide +kernel
theorem dR_advance_22 : decode yR_advance.2.1 22 = .ok (.aload_n 0, 1) := by decide +kernel
theorem dR_advance_23 : decode yR_advance.2.1 23 = .ok (.getfield 45, 3) := by decide +kernel
theorem dR_advance_26 : decode yR_advance.2.1 26 = .ok (.istore_n 2, 1) := by decide +kernel
theorem dR_advance_27 : decode yR_advance.2.1 27 = .ok (.aload_n 0, 1) := by decide +kernel
theorem dR_advance_28 : decode yR_advance.2.1 28 = .ok (.aload_n 0, 1) := by decide +kernel
theorem dR_advance_29 : decode yR_advance.2.1 29 = .ok (.getfield 45, 3) := by decide +kernel
theorem dR_advance_32 : decode yR_advance.2.1 32 = .ok (.putfield 22, 3) := by decide +kernel
theorem dR_advance_35 : decode yR_advance.2.1 35 = .ok (.aload_n 0, 1) := by decide +kernel
theorem dR_advance_36 : decode yR_advance.2.1 36 = .ok (.getfield 22, 3) := by decide +kernel
theorem dR_advance_39 : decode yR_advance.2.1 39 = .ok (.aload_n 0, 1) := by decide +kernel
theorem dR_advance_40 : decode yR_advance.2.1 40 = .ok (.getfield 18, 3) := by decide +kernel
theorem dR_advance_43 : decode yR_advance.2.1 43 = .ok (.if_icmp .ge 30, 3) := by decide +kernel
theorem dR_advance_46 : decode yR_advance.2.1 46 = .ok (.aload_n 0, 1) := by decide +kernel
theorem dR_advance_47 : decode yR_advance.2.1 47 = .ok (.getfield 9, 3) := by decide +kernel
theorem dR_advance_50 : decode yR_advance.2.1 50 = .ok (.aload_n 0, 1) := by decide +kernel
theorem dR_advance_51 : decode yR_advance.2.1 51 = .ok (.getfield 22, 3) := by decide +kernel
theorem dR_advance_54 : decode yR_advance.2.1 54 = .ok (.iaload, 1) := by decide +kernel
theorem dR_advance_55 : decode yR_advance.2.1 55 = .ok (.bipush 32, 2) := by decide +kernel
theorem dR_advance_57 : decode yR_advance.2.1 57 = .ok (.if_icmp .ne 16, 3) := by decide +kernel
theorem dR_advance_60 : decode yR_advance.2.1 60 = .ok (.aload_n 0, 1) := by decide +kernel
theorem dR_advance_61 : decode yR_advance.2.1 61 = .ok (.dup, 1) := by decide +kernel
theorem dR_advance_62 : decode yR_advance.2.1 62 = .ok (.getfield 22, 3) := by decide +kernel
theorem dR_advance_65 : decode yR_advance.2.1 65 = .ok (.iconst 1, 1) := by decide +kernel
theorem dR_advance_66 : decode yR_advance.2.1 66 = .ok (.iadd, 1) := by decide +kernel
theorem dR_advance_67 : decode yR_advance.2.1 67 = .ok (.putfield 22, 3) := by decide +kernel
theorem dR_advance_70 : decode yR_advance.2.1 70 = .ok (.goto (-35), 3) := by decide +kernel
theorem dR_advance_73 : decode yR_advance.2.1 73 = .ok (.aload_n 0, 1) := by decide +kernel
theorem dR_advance_74 : decode yR_advance.2.1 74 = .ok (.aload_n 0, 1) := by decide +kernel
theorem dR_advance_75 : decode yR_advance.2.1 75 = .ok (.getfield 22, 3) := by decide +kernel
theorem dR_advance_78 : decode yR_advance.2.1 78 = .ok (.putfield 45, 3) := by decide +kernel
theorem dR_advance_81 : decode yR_advance.2.1 81 = .ok (.aload_n 0, 1) := by decide +kernel
theorem dR_advance_82 : decode yR_advance.2.1 82 = .ok (.getfield 22, 3) := by decide +kernel
theorem dR_advance_85 : decode yR_advance.2.1 85 = .ok (.aload_n 0, 1) := by decide +kernel
theorem dR_advance_86 : decode yR_advance.2.1 86 = .ok (.getfield 18, 3) := by decide +kernel
theorem dR_advance_89 : decode yR_advance.2.1 89 = .ok (.if_icmp .lt 9, 3) := by decide +kernel
theorem dR_advance_92 : decode yR_advance.2.1 92 = .ok (.aload_n 0, 1) := by decide +kernel
theorem dR_advance_93 : decode yR_advance.2.1 93 = .ok (.iconst 0, 1) := by decide +kernel
theorem dR_advance_94 : decode yR_advance.2.1 94 = .ok (.putfield 48, 3) := by decide +kernel
theorem dR_advance_97 : decode yR_advance.2.1 97 = .ok (.return_, 1) := by decide +kernel
theorem dR_advance_98 : decode yR_advance.2.1 98 = .ok (.aload_n 0, 1) := by decide +kernel
theorem dR_advance_99 : decode yR_advance.2.1 99 = .ok (.aload_n 0, 1) := by decide +kernel
theorem dR_advance_100 : decode yR_advance.2.1 100 = .ok (.getfield 9, 3) := by decide +kernel
theorem dR_advance_103 : decode yR_advance.2.1 103 = .ok (.aload_n 0, 1) := by decide +kernel
theorem dR_advance_104 : decode yR_advance.2.1 104 = .ok (.getfield 22, 3) := by decide +kernel
theorem dR_advance_107 : decode yR_advance.2.1 107 = .ok (.iaload, 1) := by decide +kernel
theorem dR_advance_108 : decode yR_advance.2.1 108 = .ok (.invokestatic 62, 3) := by decide +kernel
theorem dR_advance_111 : decode yR_advance.2.1 111 = .ok (.ifCond .eq 7, 3) := by decide +kernel
theorem dR_advance_114 : decode yR_advance.2.1 114 = .ok (.iconst 1, 1) := by decide +kernel
theorem dR_advance_115 : decode yR_advance.2.1 115 = .ok (.goto 23, 3) := by decide +kernel
theorem dR_advance_118 : decode yR_advance.2.1 118 = .ok (.aload_n 0, 1) := by decide +kernel
theorem dR_advance_119 : decode yR_advance.2.1 119 = .ok (.getfield 9, 3) := by decide +kernel
theorem dR_advance_122 : decode yR_advance.2.1 122 = .ok (.aload_n 0, 1) := by decide +kernel
theorem dR_advance_123 : decode yR_advance.2.1 123 = .ok (.getfield 22, 3) := by decide +kernel
theorem dR_advance_126 : decode yR_advance.2.1 126 = .ok (.iaload, 1) := by decide +kernel
theorem dR_advance_127 : decode yR_advance.2.1 127 = .ok (.invokestatic 66, 3) := by decide +kernel
theorem dR_advance_130 : decode yR_advance.2.1 130 = .ok (.ifCond .eq 7, 3) := by decide +kernel
theorem dR_advance_133 : decode yR_advance.2.1 133 = .ok (.iconst 2, 1) := by decide +kernel
theorem dR_advance_134 : decode yR_advance.2.1 134 = .ok (.goto 4, 3) := by decide +kernel
theorem dR_advance_137 : decode yR_advance.2.1 137 = .ok (.iconst 3, 1) := by decide +kernel
theorem dR_advance_138 : decode yR_advance.2.1 138 = .ok (.putfield 48, 3) := by decide +kernel
theorem dR_advance_141 : decode yR_advance.2.1 141 = .ok (.aload_n 0, 1) := by decide +kernel
theorem dR_advance_142 : decode yR_advance.2.1 142 = .ok (.dup, 1) := by decide +kernel
theorem dR_advance_143 : decode yR_advance.2.1 143 = .ok (.getfield 45, 3) := by decide +kernel
theorem dR_advance_146 : decode yR_advance.2.1 146 = .ok (.iconst 1, 1) := by decide +kernel
theorem dR_advance_147 : decode yR_advance.2.1 147 = .ok (.iadd, 1) := by decide +kernel
theorem dR_advance_148 : decode yR_advance.2.1 148 = .ok (.putfield 45, 3) := by decide +kernel
theorem dR_advance_151 : decode yR_advance.2.1 151 = .ok (.aload_n 0, 1) := by decide +kernel
theorem dR_advance_152 : decode yR_advance.2.1 152 = .ok (.getfield 45, 3) := by decide +kernel
theorem dR_advance_155 : decode yR_advance.2.1 155 = .ok (.aload_n 0, 1) := by decide +kernel
theorem dR_advance_156 : decode yR_advance.2.1 156 = .ok (.getfield 18, 3) := by decide +kernel
theorem dR_advance_159 : decode yR_advance.2.1 159 = .ok (.if_icmp .ge 62, 3) := by decide +kernel
theorem dR_advance_162 : decode yR_advance.2.1 162 = .ok (.aload_n 0, 1) := by decide +kernel
theorem dR_advance_163 : decode yR_advance.2.1 163 = .ok (.getfield 48, 3) := by decide +kernel
theorem dR_advance_166 : decode yR_advance.2.1 166 = .ok (.iconst 1, 1) := by decide +kernel
theorem dR_advance_167 : decode yR_advance.2.1 167 = .ok (.if_icmp .ne 18, 3) := by decide +kernel
theorem dR_advance_170 : decode yR_advance.2.1 170 = .ok (.aload_n 0, 1) := by decide +kernel
theorem dR_advance_171 : decode yR_advance.2.1 171 = .ok (.getfield 9, 3) := by decide +kernel
theorem dR_advance_174 : decode yR_advance.2.1 174 = .ok (.aload_n 0, 1) := by decide +kernel
theorem dR_advance_175 : decode yR_advance.2.1 175 = .ok (.getfield 45, 3) := by decide +kernel
theorem dR_advance_178 : decode yR_advance.2.1 178 = .ok (.iaload, 1) := by decide +kernel
theorem dR_advance_179 : decode yR_advance.2.1 179 = .ok (.invokestatic 62, 3) := by decide +kernel
theorem dR_advance_182 : decode yR_advance.2.1 182 = .ok (.ifCond .ne 26, 3) := by decide +kernel
theorem dR_advance_185 : decode yR_advance.2.1 185 = .ok (.aload_n 0, 1) := by decide +kernel
theorem dR_advance_186 : decode yR_advance.2.1 186 = .ok (.getfield 48, 3) := by decide +kernel
theorem dR_advance_189 : decode yR_advance.2.1 189 = .ok (.iconst 2, 1) := by decide +kernel
theorem dR_advance_190 : decode yR_advance.2.1 190 = .ok (.if_icmp .ne 31, 3) := by decide +kernel
theorem dR_advance_193 : decode yR_advance.2.1 193 = .ok (.aload_n 0, 1) := by decide +kernel
theorem dR_advance_194 : decode yR_advance.2.1 194 = .ok (.getfield 9, 3) := by decide +kernel
theorem dR_advance_197 : decode yR_advance.2.1 197 = .ok (.aload_n 0, 1) := by decide +kernel
theorem dR_advance_198 : decode yR_advance.2.1 198 = .ok (.getfield 45, 3) := by decide +kernel
theorem dR_advance_201 : decode yR_advance.2.1 201 = .ok (.iaload, 1) := by decide +kernel
theorem dR_advance_202 : decode yR_advance.2.1 202 = .ok (.invokestatic 66, 3) := by decide +kernel
theorem dR_advance_205 : decode yR_advance.2.1 205 = .ok (.ifCond .eq 16, 3) := by decide +kernel
theorem dR_advance_208 : decode yR_advance.2.1 208 = .ok (.aload_n 0, 1) := by decide +kernel
theorem dR_advance_209 : decode yR_advance.2.1 209 = .ok (.dup, 1) := by decide +kernel
theorem dR_advance_210 : decode yR_advance.2.1 210 = .ok (.getfield 45, 3) := by decide +kernel
theorem dR_advance_213 : decode yR_advance.2.1 213 = .ok (.iconst 1, 1) := by decide +kernel
theorem dR_advance_214 : decode yR_advance.2.1 214 = .ok (.iadd, 1) := by decide +kernel
theorem dR_advance_215 : decode yR_advance.2.1 215 = .ok (.putfield 45, 3) := by decide +kernel
theorem dR_advance_218 : decode yR_advance.2.1 218 = .ok (.goto (-67), 3) := by decide +kernel
theorem dR_advance_221 : decode yR_advance.2.1 221 = .ok (.iload_n 1, 1) := by decide +kernel
theorem dR_advance_222 : decode yR_advance.2.1 222 = .ok (.ifCond .eq 24, 3) := by decide +kernel
theorem dR_advance_225 : decode yR_advance.2.1 225 = .ok (.aload_n 0, 1) := by decide +kernel
theorem dR_advance_226 : decode yR_advance.2.1 226 = .ok (.getfield 22, 3) := by decide +kernel
theorem dR_advance_229 : decode yR_advance.2.1 229 = .ok (.iload_n 2, 1) := by decide +kernel
theorem dR_advance_230 : decode yR_advance.2.1 230 = .ok (.if_icmp .ne 16, 3) := by decide +kernel
theorem dR_advance_233 : decode yR_advance.2.1 233 = .ok (.aload_n 0, 1) := by decide +kernel
theorem dR_advance_234 : decode yR_advance.2.1 234 = .ok (.getfield 48, 3) := by decide +kernel
theorem dR_advance_237 : decode yR_advance.2.1 237 = .ok (.iconst 3, 1) := by decide +kernel
theorem dR_advance_238 : decode yR_advance.2.1 238 = .ok (.if_icmp .eq 8, 3) := by decide +kernel
theorem dR_advance_241 : decode yR_advance.2.1 241 = .ok (.aload_n 0, 1) := by decide +kernel
theorem dR_advance_242 : decode yR_advance.2.1 242 = .ok (.iconst 4, 1) := by decide +kernel
theorem dR_advance_243 : decode yR_advance.2.1 243 = .ok (.putfield 48, 3) := by decide +kernel
theorem dR_advance_246 : decode yR_advance.2.1 246 = .ok (.return_, 1) := by decide +kernel
theorem dR_isLetter_0 : decode yR_isLetter.2.1 0 = .ok (.iload_n 0, 1) := by decide +kernel
theorem dR_isLetter_1 : decode yR_isLetter.2.1 1 = .ok (.bipush 97, 2) := by decide +kernel
theorem dR_isLetter_3 : decode yR_isLetter.2.1 3 = .ok (.if_icmp .lt 13, 3) := by decide +kernel
theorem dR_isLetter_6 : decode yR_isLetter.2.1 6 = .ok (.iload_n 0, 1) := by decide +kernel
theorem dR_isLetter_7 : decode yR_isLetter.2.1 7 = .ok (.bipush 122, 2) := by decide +kernel
theorem dR_isLetter_9 : decode yR_isLetter.2.1 9 = .ok (.if_icmp .gt 7, 3) := by decide +kernel
theorem dR_isLetter_12 : decode yR_isLetter.2.1 12 = .ok (.iconst 1, 1) := by decide +kernel
theorem dR_isLetter_13 : decode yR_isLetter.2.1 13 = .ok (.goto 4, 3) := by decide +kernel
theorem dR_isLetter_16 : decode yR_isLetter.2.1 16 = .ok (.iconst 0, 1) := by decide +kernel
theorem dR_isLetter_17 : decode yR_isLetter.2.1 17 = .ok (.ireturn, 1) := by decide +kernel
theorem dR_isDigit_0 : decode yR_isDigit.2.1 0 = .ok (.iload_n 0, 1) := by decide +kernel
theorem dR_isDigit_1 : decode yR_isDigit.2.1 1 = .ok (.bipush 48, 2) := by decide +kernel
theorem dR_isDigit_3 : decode yR_isDigit.2.1 3 = .ok (.if_icmp .lt 13, 3) := by decide +kernel
theorem dR_isDigit_6 : decode yR_isDigit.2.1 6 = .ok (.iload_n 0, 1) := by decide +kernel
theorem dR_isDigit_7 : decode yR_isDigit.2.1 7 = .ok (.bipush 57, 2) := by decide +kernel
theorem dR_isDigit_9 : decode yR_isDigit.2.1 9 = .ok (.if_icmp .gt 7, 3) := by decide +kernel
theorem dR_isDigit_12 : decode yR_isDigit.2.1 12 = .ok (.iconst 1, 1) := by decide +kernel
theorem dR_isDigit_13 : decode yR_isDigit.2.1 13 = .ok (.goto 4, 3) := by decide +kernel
theorem dR_isDigit_16 : decode yR_isDigit.2.1 16 = .ok (.iconst 0, 1) := by decide +kernel
theorem dR_isDigit_17 : decode yR_isDigit.2.1 17 = .ok (.ireturn, 1) := by decide +kernel
theorem dR_readKey_0 : decode yR_readKey.2.1 0 = .ok (.aload_n 0, 1) := by decide +kernel
theorem dR_readKey_1 : decode yR_readKey.2.1 1 = .ok (.ldc 78, 2) := by decide +kernel
theorem dR_readKey_3 : decode yR_readKey.2.1 3 = .ok (.invokevirtual 80, 3) := by decide +kernel
theorem dR_readKey_6 : decode yR_readKey.2.1 6 = .ok (.ifCond .eq 11, 3) := by decide +kernel
theorem dR_readKey_9 : decode yR_readKey.2.1 9 = .ok (.aload_n 0, 1) := by decide +kernel
theorem dR_readKey_10 : decode yR_readKey.2.1 10 = .ok (.iconst 0, 1) := by decide +kernel
theorem dR_readKey_11 : decode yR_readKey.2.1 11 = .ok (.putfield 27, 3) := by decide +kernel
theorem dR_readKey_14 : decode yR_readKey.2.1 14 = .ok (.goto 39, 3) := by decide +kernel
theorem dR_readKey_17 : decode yR_readKey.2.1 17 = .ok (.aload_n 0, 1) := by decide +kernel
theorem dR_readKey_18 : decode yR_readKey.2.1 18 = .ok (.ldc 84, 2) := by decide +kernel
theorem dR_readKey_20 : decode yR_readKey.2.1 20 = .ok (.invokevirtual 80, 3) := by decide +kernel
theorem dR_readKey_23 : decode yR_readKey.2.1 23 = .ok (.ifCond .eq 11, 3) := by decide +kernel
theorem dR_readKey_26 : decode yR_readKey.2.1 26 = .ok (.aload_n 0, 1) := by decide +kernel
theorem dR_readKey_27 : decode yR_readKey.2.1 27 = .ok (.iconst 1, 1) := by decide +kernel
theorem dR_readKey_28 : decode yR_readKey.2.1 28 = .ok (.putfield 27, 3) := by decide +kernel
theorem dR_readKey_31 : decode yR_readKey.2.1 31 = .ok (.goto 22, 3) := by decide +kernel
theorem dR_readKey_34 : decode yR_readKey.2.1 34 = .ok (.aload_n 0, 1) := by decide +kernel
theorem dR_readKey_35 : decode yR_readKey.2.1 35 = .ok (.ldc 86, 2) := by decide +kernel
theorem dR_readKey_37 : decode yR_readKey.2.1 37 = .ok (.invokevirtual 80, 3) := by decide +kernel
theorem dR_readKey_40 : decode yR_readKey.2.1 40 = .ok (.ifCond .eq 11, 3) := by decide +kernel
theorem dR_readKey_43 : decode yR_readKey.2.1 43 = .ok (.aload_n 0, 1) := by decide +kernel
theorem dR_readKey_44 : decode yR_readKey.2.1 44 = .ok (.iconst 2, 1) := by decide +kernel
theorem dR_readKey_45 : decode yR_readKey.2.1 45 = .ok (.putfield 27, 3) := by decide +kernel
theorem dR_readKey_48 : decode yR_readKey.2.1 48 = .ok (.goto 5, 3) := by decide +kernel
theorem dR_readKey_51 : decode yR_readKey.2.1 51 = .ok (.iconst 0, 1) := by decide +kernel
theorem dR_readKey_52 : decode yR_readKey.2.1 52 = .ok (.ireturn, 1) := by decide +kernel
theorem dR_readKey_53 : decode yR_readKey.2.1 53 = .ok (.aload_n 0, 1) := by decide +kernel
theorem dR_readKey_54 : decode yR_readKey.2.1 54 = .ok (.invokevirtual 51, 3) := by decide +kernel
theorem dR_readKey_57 : decode yR_readKey.2.1 57 = .ok (.iconst 1, 1) := by decide +kernel
theorem dR_readKey_58 : decode yR_readKey.2.1 58 = .ok (.ireturn, 1) := by decide +kernel
theorem dR_isWord_0 : decode yR_isWord.2.1 0 = .ok (.aload_n 0, 1) := by decide +kernel
theorem dR_isWord_1 : decode yR_isWord.2.1 1 = .ok (.getfield 48, 3) := by decide +kernel
theorem dR_isWord_4 : decode yR_isWord.2.1 4 = .ok (.iconst 1, 1) := by decide +kernel
theorem dR_isWord_5 : decode yR_isWord.2.1 5 = .ok (.if_icmp .ne 19, 3) := by decide +kernel
theorem dR_isWord_8 : decode yR_isWord.2.1 8 = .ok (.aload_n 0, 1) := by decide +kernel
theorem dR_isWord_9 : decode yR_isWord.2.1 9 = .ok (.getfield 45, 3) := by decide +kernel
theorem dR_isWord_12 : decode yR_isWord.2.1 12 = .ok (.aload_n 0, 1) := by decide +kernel
theorem dR_isWord_13 : decode yR_isWord.2.1 13 = .ok (.getfield 22, 3) := by decide +kernel
theorem dR_isWord_16 : decode yR_isWord.2.1 16 = .ok (.isub, 1) := by decide +kernel
theorem dR_isWord_17 : decode yR_isWord.2.1 17 = .ok (.aload_n 1, 1) := by decide +kernel
theorem dR_isWord_18 : decode yR_isWord.2.1 18 = .ok (.invokevirtual 69, 3) := by decide +kernel
theorem dR_isWord_21 : decode yR_isWord.2.1 21 = .ok (.if_icmp .eq 5, 3) := by decide +kernel
theorem dR_isWord_24 : decode yR_isWord.2.1 24 = .ok (.iconst 0, 1) := by decide +kernel
theorem dR_isWord_25 : decode yR_isWord.2.1 25 = .ok (.ireturn, 1) := by decide +kernel
theorem dR_isWord_26 : decode yR_isWord.2.1 26 = .ok (.iconst 0, 1) := by decide +kernel
theorem dR_isWord_27 : decode yR_isWord.2.1 27 = .ok (.istore_n 2, 1) := by decide +kernel
theorem dR_isWord_28 : decode yR_isWord.2.1 28 = .ok (.iload_n 2, 1) := by decide +kernel
theorem dR_isWord_29 : decode yR_isWord.2.1 29 = .ok (.aload_n 1, 1) := by decide +kernel
theorem dR_isWord_30 : decode yR_isWord.2.1 30 = .ok (.invokevirtual 69, 3) := by decide +kernel
theorem dR_isWord_33 : decode yR_isWord.2.1 33 = .ok (.if_icmp .ge 30, 3) := by decide +kernel
theorem dR_isWord_36 : decode yR_isWord.2.1 36 = .ok (.aload_n 0, 1) := by decide +kernel
theorem dR_isWord_37 : decode yR_isWord.2.1 37 = .ok (.getfield 9, 3) := by decide +kernel
theorem dR_isWord_40 : decode yR_isWord.2.1 40 = .ok (.aload_n 0, 1) := by decide +kernel
theorem dR_isWord_41 : decode yR_isWord.2.1 41 = .ok (.getfield 22, 3) := by decide +kernel
theorem dR_isWord_44 : decode yR_isWord.2.1 44 = .ok (.iload_n 2, 1) := by decide +kernel
theorem dR_isWord_45 : decode yR_isWord.2.1 45 = .ok (.iadd, 1) := by decide +kernel
theorem dR_isWord_46 : decode yR_isWord.2.1 46 = .ok (.iaload, 1) := by decide +kernel
theorem dR_isWord_47 : decode yR_isWord.2.1 47 = .ok (.aload_n 1, 1) := by decide +kernel
theorem dR_isWord_48 : decode yR_isWord.2.1 48 = .ok (.iload_n 2, 1) := by decide +kernel
theorem dR_isWord_49 : decode yR_isWord.2.1 49 = .ok (.invokevirtual 74, 3) := by decide +kernel
theorem dR_isWord_52 : decode yR_isWord.2.1 52 = .ok (.if_icmp .eq 5, 3) := by decide +kernel
theorem dR_isWord_55 : decode yR_isWord.2.1 55 = .ok (.iconst 0, 1) := by decide +kernel
theorem dR_isWord_56 : decode yR_isWord.2.1 56 = .ok (.ireturn, 1) := by decide +kernel
theorem dR_isWord_57 : decode yR_isWord.2.1 57 = .ok (.iinc 2 1, 3) := by decide +kernel
theorem dR_isWord_60 : decode yR_isWord.2.1 60 = .ok (.goto (-32), 3) := by decide +kernel
theorem dR_isWord_63 : decode yR_isWord.2.1 63 = .ok (.iconst 1, 1) := by decide +kernel
theorem dR_isWord_64 : decode yR_isWord.2.1 64 = .ok (.ireturn, 1) := by decide +kernel
theorem dR_readOr_0 : decode yR_readOr.2.1 0 = .ok (.aload_n 0, 1) := by decide +kernel
theorem dR_readOr_1 : decode yR_readOr.2.1 1 = .ok (.iload_n 1, 1) := by decide +kernel
theorem dR_readOr_2 : decode yR_readOr.2.1 2 = .ok (.iload_n 2, 1) := by decide +kernel
theorem dR_readOr_3 : decode yR_readOr.2.1 3 = .ok (.invokevirtual 88, 3) := by decide +kernel
theorem dR_readOr_6 : decode yR_readOr.2.1 6 = .ok (.istore_n 3, 1) := by decide +kernel
theorem dR_readOr_7 : decode yR_readOr.2.1 7 = .ok (.iconst 0, 1) := by decide +kernel
theorem dR_readOr_8 : decode yR_readOr.2.1 8 = .ok (.istore 4, 2) := by decide +kernel
theorem dR_readOr_10 : decode yR_readOr.2.1 10 = .ok (.iload 4, 2) := by decide +kernel
theorem dR_readOr_12 : decode yR_readOr.2.1 12 = .ok (.bipush 96, 2) := by decide +kernel
theorem dR_readOr_14 : decode yR_readOr.2.1 14 = .ok (.if_icmp .ge 39, 3) := by decide +kernel
theorem dR_readOr_17 : decode yR_readOr.2.1 17 = .ok (.iload_n 3, 1) := by decide +kernel
theorem dR_readOr_18 : decode yR_readOr.2.1 18 = .ok (.ifCond .eq 35, 3) := by decide +kernel
theorem dR_readOr_21 : decode yR_readOr.2.1 21 = .ok (.aload_n 0, 1) := by decide +kernel
theorem dR_readOr_22 : decode yR_readOr.2.1 22 = .ok (.bipush 124, 2) := by decide +kernel
theorem dR_readOr_24 : decode yR_readOr.2.1 24 = .ok (.invokevirtual 91, 3) := by decide +kernel
theorem dR_readOr_27 : decode yR_readOr.2.1 27 = .ok (.ifCond .eq 26, 3) := by decide +kernel
theorem dR_readOr_30 : decode yR_readOr.2.1 30 = .ok (.aload_n 0, 1) := by decide +kernel
theorem dR_readOr_31 : decode yR_readOr.2.1 31 = .ok (.invokevirtual 51, 3) := by decide +kernel
theorem dR_readOr_34 : decode yR_readOr.2.1 34 = .ok (.aload_n 0, 1) := by decide +kernel
theorem dR_readOr_35 : decode yR_readOr.2.1 35 = .ok (.iload_n 1, 1) := by decide +kernel
theorem dR_readOr_36 : decode yR_readOr.2.1 36 = .ok (.iload_n 2, 1) := by decide +kernel
theorem dR_readOr_37 : decode yR_readOr.2.1 37 = .ok (.invokevirtual 88, 3) := by decide +kernel
theorem dR_readOr_40 : decode yR_readOr.2.1 40 = .ok (.istore_n 3, 1) := by decide +kernel
theorem dR_readOr_41 : decode yR_readOr.2.1 41 = .ok (.aload_n 0, 1) := by decide +kernel
theorem dR_readOr_42 : decode yR_readOr.2.1 42 = .ok (.bipush (-19), 2) := by decide +kernel
theorem dR_readOr_44 : decode yR_readOr.2.1 44 = .ok (.invokevirtual 94, 3) := by decide +kernel
theorem dR_readOr_47 : decode yR_readOr.2.1 47 = .ok (.iinc 4 1, 3) := by decide +kernel
theorem dR_readOr_50 : decode yR_readOr.2.1 50 = .ok (.goto (-40), 3) := by decide +kernel
theorem dR_readOr_53 : decode yR_readOr.2.1 53 = .ok (.iload_n 3, 1) := by decide +kernel
theorem dR_readOr_54 : decode yR_readOr.2.1 54 = .ok (.ireturn, 1) := by decide +kernel
theorem dR_readAnd_0 : decode yR_readAnd.2.1 0 = .ok (.aload_n 0, 1) := by decide +kernel
theorem dR_readAnd_1 : decode yR_readAnd.2.1 1 = .ok (.iload_n 1, 1) := by decide +kernel
theorem dR_readAnd_2 : decode yR_readAnd.2.1 2 = .ok (.iload_n 2, 1) := by decide +kernel
theorem dR_readAnd_3 : decode yR_readAnd.2.1 3 = .ok (.invokevirtual 98, 3) := by decide +kernel
theorem dR_readAnd_6 : decode yR_readAnd.2.1 6 = .ok (.istore_n 3, 1) := by decide +kernel
theorem dR_readAnd_7 : decode yR_readAnd.2.1 7 = .ok (.iconst 0, 1) := by decide +kernel
theorem dR_readAnd_8 : decode yR_readAnd.2.1 8 = .ok (.istore 4, 2) := by decide +kernel
theorem dR_readAnd_10 : decode yR_readAnd.2.1 10 = .ok (.iload 4, 2) := by decide +kernel
theorem dR_readAnd_12 : decode yR_readAnd.2.1 12 = .ok (.bipush 96, 2) := by decide +kernel
theorem dR_readAnd_14 : decode yR_readAnd.2.1 14 = .ok (.if_icmp .ge 39, 3) := by decide +kernel
theorem dR_readAnd_17 : decode yR_readAnd.2.1 17 = .ok (.iload_n 3, 1) := by decide +kernel
theorem dR_readAnd_18 : decode yR_readAnd.2.1 18 = .ok (.ifCond .eq 35, 3) := by decide +kernel
theorem dR_readAnd_21 : decode yR_readAnd.2.1 21 = .ok (.aload_n 0, 1) := by decide +kernel
theorem dR_readAnd_22 : decode yR_readAnd.2.1 22 = .ok (.bipush 38, 2) := by decide +kernel
theorem dR_readAnd_24 : decode yR_readAnd.2.1 24 = .ok (.invokevirtual 91, 3) := by decide +kernel
theorem dR_readAnd_27 : decode yR_readAnd.2.1 27 = .ok (.ifCond .eq 26, 3) := by decide +kernel
theorem dR_readAnd_30 : decode yR_readAnd.2.1 30 = .ok (.aload_n 0, 1) := by decide +kernel
theorem dR_readAnd_31 : decode yR_readAnd.2.1 31 = .ok (.invokevirtual 51, 3) := by decide +kernel
theorem dR_readAnd_34 : decode yR_readAnd.2.1 34 = .ok (.aload_n 0, 1) := by decide +kernel
theorem dR_readAnd_35 : decode yR_readAnd.2.1 35 = .ok (.iload_n 1, 1) := by decide +kernel
theorem dR_readAnd_36 : decode yR_readAnd.2.1 36 = .ok (.iload_n 2, 1) := by decide +kernel
theorem dR_readAnd_37 : decode yR_readAnd.2.1 37 = .ok (.invokevirtual 98, 3) := by decide +kernel
theorem dR_readAnd_40 : decode yR_readAnd.2.1 40 = .ok (.istore_n 3, 1) := by decide +kernel
theorem dR_readAnd_41 : decode yR_readAnd.2.1 41 = .ok (.aload_n 0, 1) := by decide +kernel
theorem dR_readAnd_42 : decode yR_readAnd.2.1 42 = .ok (.bipush (-18), 2) := by decide +kernel
theorem dR_readAnd_44 : decode yR_readAnd.2.1 44 = .ok (.invokevirtual 94, 3) := by decide +kernel
theorem dR_readAnd_47 : decode yR_readAnd.2.1 47 = .ok (.iinc 4 1, 3) := by decide +kernel
theorem dR_readAnd_50 : decode yR_readAnd.2.1 50 = .ok (.goto (-40), 3) := by decide +kernel
theorem dR_readAnd_53 : decode yR_readAnd.2.1 53 = .ok (.iload_n 3, 1) := by decide +kernel
theorem dR_readAnd_54 : decode yR_readAnd.2.1 54 = .ok (.ireturn, 1) := by decide +kernel
theorem dR_readTest_0 : decode yR_readTest.2.1 0 = .ok (.aload_n 0, 1) := by decide +kernel
theorem dR_readTest_1 : decode yR_readTest.2.1 1 = .ok (.iload_n 1, 1) := by decide +kernel
theorem dR_readTest_2 : decode yR_readTest.2.1 2 = .ok (.iload_n 2, 1) := by decide +kernel
theorem dR_readTest_3 : decode yR_readTest.2.1 3 = .ok (.invokevirtual 101, 3) := by decide +kernel
theorem dR_readTest_6 : decode yR_readTest.2.1 6 = .ok (.ifCond .ne 5, 3) := by decide +kernel
theorem dR_readTest_9 : decode yR_readTest.2.1 9 = .ok (.iconst 0, 1) := by decide +kernel
theorem dR_readTest_10 : decode yR_readTest.2.1 10 = .ok (.ireturn, 1) := by decide +kernel
theorem dR_readTest_11 : decode yR_readTest.2.1 11 = .ok (.aload_n 0, 1) := by decide +kernel
theorem dR_readTest_12 : decode yR_readTest.2.1 12 = .ok (.bipush 60, 2) := by decide +kernel
theorem dR_readTest_14 : decode yR_readTest.2.1 14 = .ok (.invokevirtual 91, 3) := by decide +kernel
theorem dR_readTest_17 : decode yR_readTest.2.1 17 = .ok (.ifCond .eq 8, 3) := by decide +kernel
theorem dR_readTest_20 : decode yR_readTest.2.1 20 = .ok (.bipush (-15), 2) := by decide +kernel
theorem dR_readTest_22 : decode yR_readTest.2.1 22 = .ok (.goto 32, 3) := by decide +kernel
theorem dR_readTest_25 : decode yR_readTest.2.1 25 = .ok (.aload_n 0, 1) := by decide +kernel
theorem dR_readTest_26 : decode yR_readTest.2.1 26 = .ok (.bipush 61, 2) := by decide +kernel
theorem dR_readTest_28 : decode yR_readTest.2.1 28 = .ok (.invokevirtual 91, 3) := by decide +kernel
theorem dR_readTest_31 : decode yR_readTest.2.1 31 = .ok (.ifCond .eq 8, 3) := by decide +kernel
theorem dR_readTest_34 : decode yR_readTest.2.1 34 = .ok (.bipush (-16), 2) := by decide +kernel
theorem dR_readTest_36 : decode yR_readTest.2.1 36 = .ok (.goto 18, 3) := by decide +kernel
theorem dR_readTest_39 : decode yR_readTest.2.1 39 = .ok (.aload_n 0, 1) := by decide +kernel
theorem dR_readTest_40 : decode yR_readTest.2.1 40 = .ok (.bipush 62, 2) := by decide +kernel
theorem dR_readTest_42 : decode yR_readTest.2.1 42 = .ok (.invokevirtual 91, 3) := by decide +kernel
theorem dR_readTest_45 : decode yR_readTest.2.1 45 = .ok (.ifCond .eq 8, 3) := by decide +kernel
theorem dR_readTest_48 : decode yR_readTest.2.1 48 = .ok (.bipush (-17), 2) := by decide +kernel
theorem dR_readTest_50 : decode yR_readTest.2.1 50 = .ok (.goto 4, 3) := by decide +kernel
theorem dR_readTest_53 : decode yR_readTest.2.1 53 = .ok (.iconst 0, 1) := by decide +kernel
theorem dR_readTest_54 : decode yR_readTest.2.1 54 = .ok (.istore_n 3, 1) := by decide +kernel
theorem dR_readTest_55 : decode yR_readTest.2.1 55 = .ok (.iload_n 3, 1) := by decide +kernel
theorem dR_readTest_56 : decode yR_readTest.2.1 56 = .ok (.ifCond .ne 5, 3) := by decide +kernel
theorem dR_readTest_59 : decode yR_readTest.2.1 59 = .ok (.iconst 1, 1) := by decide +kernel
theorem dR_readTest_60 : decode yR_readTest.2.1 60 = .ok (.ireturn, 1) := by decide +kernel
theorem dR_readTest_61 : decode yR_readTest.2.1 61 = .ok (.aload_n 0, 1) := by decide +kernel
theorem dR_readTest_62 : decode yR_readTest.2.1 62 = .ok (.invokevirtual 51, 3) := by decide +kernel
theorem dR_readTest_65 : decode yR_readTest.2.1 65 = .ok (.aload_n 0, 1) := by decide +kernel
theorem dR_readTest_66 : decode yR_readTest.2.1 66 = .ok (.iload_n 1, 1) := by decide +kernel
theorem dR_readTest_67 : decode yR_readTest.2.1 67 = .ok (.iload_n 2, 1) := by decide +kernel
theorem dR_readTest_68 : decode yR_readTest.2.1 68 = .ok (.invokevirtual 101, 3) := by decide +kernel
theorem dR_readTest_71 : decode yR_readTest.2.1 71 = .ok (.istore 4, 2) := by decide +kernel
theorem dR_readTest_73 : decode yR_readTest.2.1 73 = .ok (.aload_n 0, 1) := by decide +kernel
theorem dR_readTest_74 : decode yR_readTest.2.1 74 = .ok (.iload_n 3, 1) := by decide +kernel
theorem dR_readTest_75 : decode yR_readTest.2.1 75 = .ok (.invokevirtual 94, 3) := by decide +kernel
theorem dR_readTest_78 : decode yR_readTest.2.1 78 = .ok (.iload 4, 2) := by decide +kernel
theorem dR_readTest_80 : decode yR_readTest.2.1 80 = .ok (.ireturn, 1) := by decide +kernel
theorem dR_readSum_0 : decode yR_readSum.2.1 0 = .ok (.aload_n 0, 1) := by decide +kernel
theorem dR_readSum_1 : decode yR_readSum.2.1 1 = .ok (.iload_n 1, 1) := by decide +kernel
theorem dR_readSum_2 : decode yR_readSum.2.1 2 = .ok (.iload_n 2, 1) := by decide +kernel
theorem dR_readSum_3 : decode yR_readSum.2.1 3 = .ok (.invokevirtual 104, 3) := by decide +kernel
theorem dR_readSum_6 : decode yR_readSum.2.1 6 = .ok (.istore_n 3, 1) := by decide +kernel
theorem dR_readSum_7 : decode yR_readSum.2.1 7 = .ok (.iconst 0, 1) := by decide +kernel
theorem dR_readSum_8 : decode yR_readSum.2.1 8 = .ok (.istore 4, 2) := by decide +kernel
theorem dR_readSum_10 : decode yR_readSum.2.1 10 = .ok (.iload 4, 2) := by decide +kernel
theorem dR_readSum_12 : decode yR_readSum.2.1 12 = .ok (.bipush 96, 2) := by decide +kernel
theorem dR_readSum_14 : decode yR_readSum.2.1 14 = .ok (.if_icmp .ge 66, 3) := by decide +kernel
theorem dR_readSum_17 : decode yR_readSum.2.1 17 = .ok (.iload_n 3, 1) := by decide +kernel
theorem dR_readSum_18 : decode yR_readSum.2.1 18 = .ok (.ifCond .eq 62, 3) := by decide +kernel
theorem dR_readSum_21 : decode yR_readSum.2.1 21 = .ok (.aload_n 0, 1) := by decide +kernel
theorem dR_readSum_22 : decode yR_readSum.2.1 22 = .ok (.bipush 43, 2) := by decide +kernel
theorem dR_readSum_24 : decode yR_readSum.2.1 24 = .ok (.invokevirtual 91, 3) := by decide +kernel
theorem dR_readSum_27 : decode yR_readSum.2.1 27 = .ok (.ifCond .ne 12, 3) := by decide +kernel
theorem dR_readSum_30 : decode yR_readSum.2.1 30 = .ok (.aload_n 0, 1) := by decide +kernel
theorem dR_readSum_31 : decode yR_readSum.2.1 31 = .ok (.bipush 45, 2) := by decide +kernel
theorem dR_readSum_33 : decode yR_readSum.2.1 33 = .ok (.invokevirtual 91, 3) := by decide +kernel
theorem dR_readSum_36 : decode yR_readSum.2.1 36 = .ok (.ifCond .eq 44, 3) := by decide +kernel
theorem dR_readSum_39 : decode yR_readSum.2.1 39 = .ok (.aload_n 0, 1) := by decide +kernel
theorem dR_readSum_40 : decode yR_readSum.2.1 40 = .ok (.bipush 43, 2) := by decide +kernel
theorem dR_readSum_42 : decode yR_readSum.2.1 42 = .ok (.invokevirtual 91, 3) := by decide +kernel
theorem dR_readSum_45 : decode yR_readSum.2.1 45 = .ok (.ifCond .eq 8, 3) := by decide +kernel
theorem dR_readSum_48 : decode yR_readSum.2.1 48 = .ok (.bipush (-13), 2) := by decide +kernel
theorem dR_readSum_50 : decode yR_readSum.2.1 50 = .ok (.goto 5, 3) := by decide +kernel
theorem dR_readSum_53 : decode yR_readSum.2.1 53 = .ok (.bipush (-14), 2) := by decide +kernel
theorem dR_readSum_55 : decode yR_readSum.2.1 55 = .ok (.istore 5, 2) := by decide +kernel
theorem dR_readSum_57 : decode yR_readSum.2.1 57 = .ok (.aload_n 0, 1) := by decide +kernel
theorem dR_readSum_58 : decode yR_readSum.2.1 58 = .ok (.invokevirtual 51, 3) := by decide +kernel
theorem dR_readSum_61 : decode yR_readSum.2.1 61 = .ok (.aload_n 0, 1) := by decide +kernel
theorem dR_readSum_62 : decode yR_readSum.2.1 62 = .ok (.iload_n 1, 1) := by decide +kernel
theorem dR_readSum_63 : decode yR_readSum.2.1 63 = .ok (.iload_n 2, 1) := by decide +kernel
theorem dR_readSum_64 : decode yR_readSum.2.1 64 = .ok (.invokevirtual 104, 3) := by decide +kernel
theorem dR_readSum_67 : decode yR_readSum.2.1 67 = .ok (.istore_n 3, 1) := by decide +kernel
theorem dR_readSum_68 : decode yR_readSum.2.1 68 = .ok (.aload_n 0, 1) := by decide +kernel
theorem dR_readSum_69 : decode yR_readSum.2.1 69 = .ok (.iload 5, 2) := by decide +kernel
theorem dR_readSum_71 : decode yR_readSum.2.1 71 = .ok (.invokevirtual 94, 3) := by decide +kernel
theorem dR_readSum_74 : decode yR_readSum.2.1 74 = .ok (.iinc 4 1, 3) := by decide +kernel
theorem dR_readSum_77 : decode yR_readSum.2.1 77 = .ok (.goto (-67), 3) := by decide +kernel
theorem dR_readSum_80 : decode yR_readSum.2.1 80 = .ok (.iload_n 3, 1) := by decide +kernel
theorem dR_readSum_81 : decode yR_readSum.2.1 81 = .ok (.ireturn, 1) := by decide +kernel
theorem dR_readTerm_0 : decode yR_readTerm.2.1 0 = .ok (.aload_n 0, 1) := by decide +kernel
theorem dR_readTerm_1 : decode yR_readTerm.2.1 1 = .ok (.iload_n 1, 1) := by decide +kernel
theorem dR_readTerm_2 : decode yR_readTerm.2.1 2 = .ok (.iload_n 2, 1) := by decide +kernel
theorem dR_readTerm_3 : decode yR_readTerm.2.1 3 = .ok (.invokevirtual 107, 3) := by decide +kernel
theorem dR_readTerm_6 : decode yR_readTerm.2.1 6 = .ok (.istore_n 3, 1) := by decide +kernel
theorem dR_readTerm_7 : decode yR_readTerm.2.1 7 = .ok (.iconst 0, 1) := by decide +kernel
theorem dR_readTerm_8 : decode yR_readTerm.2.1 8 = .ok (.istore 4, 2) := by decide +kernel
theorem dR_readTerm_10 : decode yR_readTerm.2.1 10 = .ok (.iload 4, 2) := by decide +kernel
theorem dR_readTerm_12 : decode yR_readTerm.2.1 12 = .ok (.bipush 96, 2) := by decide +kernel
theorem dR_readTerm_14 : decode yR_readTerm.2.1 14 = .ok (.if_icmp .ge 66, 3) := by decide +kernel
theorem dR_readTerm_17 : decode yR_readTerm.2.1 17 = .ok (.iload_n 3, 1) := by decide +kernel
theorem dR_readTerm_18 : decode yR_readTerm.2.1 18 = .ok (.ifCond .eq 62, 3) := by decide +kernel
theorem dR_readTerm_21 : decode yR_readTerm.2.1 21 = .ok (.aload_n 0, 1) := by decide +kernel
theorem dR_readTerm_22 : decode yR_readTerm.2.1 22 = .ok (.bipush 42, 2) := by decide +kernel
theorem dR_readTerm_24 : decode yR_readTerm.2.1 24 = .ok (.invokevirtual 91, 3) := by decide +kernel
theorem dR_readTerm_27 : decode yR_readTerm.2.1 27 = .ok (.ifCond .ne 12, 3) := by decide +kernel
theorem dR_readTerm_30 : decode yR_readTerm.2.1 30 = .ok (.aload_n 0, 1) := by decide +kernel
theorem dR_readTerm_31 : decode yR_readTerm.2.1 31 = .ok (.bipush 47, 2) := by decide +kernel
theorem dR_readTerm_33 : decode yR_readTerm.2.1 33 = .ok (.invokevirtual 91, 3) := by decide +kernel
theorem dR_readTerm_36 : decode yR_readTerm.2.1 36 = .ok (.ifCond .eq 44, 3) := by decide +kernel
theorem dR_readTerm_39 : decode yR_readTerm.2.1 39 = .ok (.aload_n 0, 1) := by decide +kernel
theorem dR_readTerm_40 : decode yR_readTerm.2.1 40 = .ok (.bipush 42, 2) := by decide +kernel
theorem dR_readTerm_42 : decode yR_readTerm.2.1 42 = .ok (.invokevirtual 91, 3) := by decide +kernel
theorem dR_readTerm_45 : decode yR_readTerm.2.1 45 = .ok (.ifCond .eq 8, 3) := by decide +kernel
theorem dR_readTerm_48 : decode yR_readTerm.2.1 48 = .ok (.bipush (-11), 2) := by decide +kernel
theorem dR_readTerm_50 : decode yR_readTerm.2.1 50 = .ok (.goto 5, 3) := by decide +kernel
theorem dR_readTerm_53 : decode yR_readTerm.2.1 53 = .ok (.bipush (-12), 2) := by decide +kernel
theorem dR_readTerm_55 : decode yR_readTerm.2.1 55 = .ok (.istore 5, 2) := by decide +kernel
theorem dR_readTerm_57 : decode yR_readTerm.2.1 57 = .ok (.aload_n 0, 1) := by decide +kernel
theorem dR_readTerm_58 : decode yR_readTerm.2.1 58 = .ok (.invokevirtual 51, 3) := by decide +kernel
theorem dR_readTerm_61 : decode yR_readTerm.2.1 61 = .ok (.aload_n 0, 1) := by decide +kernel
theorem dR_readTerm_62 : decode yR_readTerm.2.1 62 = .ok (.iload_n 1, 1) := by decide +kernel
theorem dR_readTerm_63 : decode yR_readTerm.2.1 63 = .ok (.iload_n 2, 1) := by decide +kernel
theorem dR_readTerm_64 : decode yR_readTerm.2.1 64 = .ok (.invokevirtual 107, 3) := by decide +kernel
theorem dR_readTerm_67 : decode yR_readTerm.2.1 67 = .ok (.istore_n 3, 1) := by decide +kernel
theorem dR_readTerm_68 : decode yR_readTerm.2.1 68 = .ok (.aload_n 0, 1) := by decide +kernel
theorem dR_readTerm_69 : decode yR_readTerm.2.1 69 = .ok (.iload 5, 2) := by decide +kernel
theorem dR_readTerm_71 : decode yR_readTerm.2.1 71 = .ok (.invokevirtual 94, 3) := by decide +kernel
theorem dR_readTerm_74 : decode yR_readTerm.2.1 74 = .ok (.iinc 4 1, 3) := by decide +kernel
theorem dR_readTerm_77 : decode yR_readTerm.2.1 77 = .ok (.goto (-67), 3) := by decide +kernel
theorem dR_readTerm_80 : decode yR_readTerm.2.1 80 = .ok (.iload_n 3, 1) := by decide +kernel
theorem dR_readTerm_81 : decode yR_readTerm.2.1 81 = .ok (.ireturn, 1) := by decide +kernel
theorem dR_readPiece_0 : decode yR_readPiece.2.1 0 = .ok (.aload_n 0, 1) := by decide +kernel
theorem dR_readPiece_1 : decode yR_readPiece.2.1 1 = .ok (.bipush 33, 2) := by decide +kernel
theorem dR_readPiece_3 : decode yR_readPiece.2.1 3 = .ok (.invokevirtual 91, 3) := by decide +kernel
theorem dR_readPiece_6 : decode yR_readPiece.2.1 6 = .ok (.ifCond .eq 30, 3) := by decide +kernel
theorem dR_readPiece_9 : decode yR_readPiece.2.1 9 = .ok (.iload_n 2, 1) := by decide +kernel
theorem dR_readPiece_10 : decode yR_readPiece.2.1 10 = .ok (.bipush 8, 2) := by decide +kernel
theorem dR_readPiece_12 : decode yR_readPiece.2.1 12 = .ok (.if_icmp .ge 24, 3) := by decide +kernel
theorem dR_readPiece_15 : decode yR_readPiece.2.1 15 = .ok (.aload_n 0, 1) := by decide +kernel
theorem dR_readPiece_16 : decode yR_readPiece.2.1 16 = .ok (.invokevirtual 51, 3) := by decide +kernel
theorem dR_readPiece_19 : decode yR_readPiece.2.1 19 = .ok (.aload_n 0, 1) := by decide +kernel
theorem dR_readPiece_20 : decode yR_readPiece.2.1 20 = .ok (.iload_n 1, 1) := by decide +kernel
theorem dR_readPiece_21 : decode yR_readPiece.2.1 21 = .ok (.iload_n 2, 1) := by decide +kernel
theorem dR_readPiece_22 : decode yR_readPiece.2.1 22 = .ok (.iconst 1, 1) := by decide +kernel
theorem dR_readPiece_23 : decode yR_readPiece.2.1 23 = .ok (.iadd, 1) := by decide +kernel
theorem dR_readPiece_24 : decode yR_readPiece.2.1 24 = .ok (.invokevirtual 107, 3) := by decide +kernel
theorem dR_readPiece_27 : decode yR_readPiece.2.1 27 = .ok (.istore_n 3, 1) := by decide +kernel
theorem dR_readPiece_28 : decode yR_readPiece.2.1 28 = .ok (.aload_n 0, 1) := by decide +kernel
theorem dR_readPiece_29 : decode yR_readPiece.2.1 29 = .ok (.bipush (-10), 2) := by decide +kernel
theorem dR_readPiece_31 : decode yR_readPiece.2.1 31 = .ok (.invokevirtual 94, 3) := by decide +kernel
theorem dR_readPiece_34 : decode yR_readPiece.2.1 34 = .ok (.iload_n 3, 1) := by decide +kernel
theorem dR_readPiece_35 : decode yR_readPiece.2.1 35 = .ok (.ireturn, 1) := by decide +kernel
theorem dR_readPiece_36 : decode yR_readPiece.2.1 36 = .ok (.aload_n 0, 1) := by decide +kernel
theorem dR_readPiece_37 : decode yR_readPiece.2.1 37 = .ok (.bipush 40, 2) := by decide +kernel
theorem dR_readPiece_39 : decode yR_readPiece.2.1 39 = .ok (.invokevirtual 91, 3) := by decide +kernel
theorem dR_readPiece_42 : decode yR_readPiece.2.1 42 = .ok (.ifCond .eq 41, 3) := by decide +kernel
theorem dR_readPiece_45 : decode yR_readPiece.2.1 45 = .ok (.iload_n 1, 1) := by decide +kernel
theorem dR_readPiece_46 : decode yR_readPiece.2.1 46 = .ok (.bipush 8, 2) := by decide +kernel
theorem dR_readPiece_48 : decode yR_readPiece.2.1 48 = .ok (.if_icmp .ge 35, 3) := by decide +kernel
theorem dR_readPiece_51 : decode yR_readPiece.2.1 51 = .ok (.aload_n 0, 1) := by decide +kernel
theorem dR_readPiece_52 : decode yR_readPiece.2.1 52 = .ok (.invokevirtual 51, 3) := by decide +kernel
theorem dR_readPiece_55 : decode yR_readPiece.2.1 55 = .ok (.aload_n 0, 1) := by decide +kernel
theorem dR_readPiece_56 : decode yR_readPiece.2.1 56 = .ok (.iload_n 1, 1) := by decide +kernel
theorem dR_readPiece_57 : decode yR_readPiece.2.1 57 = .ok (.iconst 1, 1) := by decide +kernel
theorem dR_readPiece_58 : decode yR_readPiece.2.1 58 = .ok (.iadd, 1) := by decide +kernel
theorem dR_readPiece_59 : decode yR_readPiece.2.1 59 = .ok (.iload_n 2, 1) := by decide +kernel
theorem dR_readPiece_60 : decode yR_readPiece.2.1 60 = .ok (.invokevirtual 58, 3) := by decide +kernel
theorem dR_readPiece_63 : decode yR_readPiece.2.1 63 = .ok (.ifCond .eq 12, 3) := by decide +kernel
theorem dR_readPiece_66 : decode yR_readPiece.2.1 66 = .ok (.aload_n 0, 1) := by decide +kernel
theorem dR_readPiece_67 : decode yR_readPiece.2.1 67 = .ok (.bipush 41, 2) := by decide +kernel
theorem dR_readPiece_69 : decode yR_readPiece.2.1 69 = .ok (.invokevirtual 91, 3) := by decide +kernel
theorem dR_readPiece_72 : decode yR_readPiece.2.1 72 = .ok (.ifCond .ne 5, 3) := by decide +kernel
theorem dR_readPiece_75 : decode yR_readPiece.2.1 75 = .ok (.iconst 0, 1) := by decide +kernel
theorem dR_readPiece_76 : decode yR_readPiece.2.1 76 = .ok (.ireturn, 1) := by decide +kernel
theorem dR_readPiece_77 : decode yR_readPiece.2.1 77 = .ok (.aload_n 0, 1) := by decide +kernel
theorem dR_readPiece_78 : decode yR_readPiece.2.1 78 = .ok (.invokevirtual 51, 3) := by decide +kernel
theorem dR_readPiece_81 : decode yR_readPiece.2.1 81 = .ok (.iconst 1, 1) := by decide +kernel
theorem dR_readPiece_82 : decode yR_readPiece.2.1 82 = .ok (.ireturn, 1) := by decide +kernel
theorem dR_readPiece_83 : decode yR_readPiece.2.1 83 = .ok (.aload_n 0, 1) := by decide +kernel
theorem dR_readPiece_84 : decode yR_readPiece.2.1 84 = .ok (.getfield 48, 3) := by decide +kernel
theorem dR_readPiece_87 : decode yR_readPiece.2.1 87 = .ok (.iconst 2, 1) := by decide +kernel
theorem dR_readPiece_88 : decode yR_readPiece.2.1 88 = .ok (.if_icmp .ne 10, 3) := by decide +kernel
theorem dR_readPiece_91 : decode yR_readPiece.2.1 91 = .ok (.aload_n 0, 1) := by decide +kernel
theorem dR_readPiece_92 : decode yR_readPiece.2.1 92 = .ok (.invokevirtual 110, 3) := by decide +kernel
theorem dR_readPiece_95 : decode yR_readPiece.2.1 95 = .ok (.goto 23, 3) := by decide +kernel
theorem dR_readPiece_98 : decode yR_readPiece.2.1 98 = .ok (.aload_n 0, 1) := by decide +kernel
theorem dR_readPiece_99 : decode yR_readPiece.2.1 99 = .ok (.getfield 48, 3) := by decide +kernel
theorem dR_readPiece_102 : decode yR_readPiece.2.1 102 = .ok (.iconst 1, 1) := by decide +kernel
theorem dR_readPiece_103 : decode yR_readPiece.2.1 103 = .ok (.if_icmp .ne 14, 3) := by decide +kernel
theorem dR_readPiece_106 : decode yR_readPiece.2.1 106 = .ok (.aload_n 0, 1) := by decide +kernel
theorem dR_readPiece_107 : decode yR_readPiece.2.1 107 = .ok (.invokevirtual 113, 3) := by decide +kernel
theorem dR_readPiece_110 : decode yR_readPiece.2.1 110 = .ok (.ifCond .eq 7, 3) := by decide +kernel
theorem dR_readPiece_113 : decode yR_readPiece.2.1 113 = .ok (.iconst 1, 1) := by decide +kernel
theorem dR_readPiece_114 : decode yR_readPiece.2.1 114 = .ok (.goto 4, 3) := by decide +kernel
theorem dR_readPiece_117 : decode yR_readPiece.2.1 117 = .ok (.iconst 0, 1) := by decide +kernel
theorem dR_readPiece_118 : decode yR_readPiece.2.1 118 = .ok (.ireturn, 1) := by decide +kernel
theorem dR_isSign_0 : decode yR_isSign.2.1 0 = .ok (.aload_n 0, 1) := by decide +kernel
theorem dR_isSign_1 : decode yR_isSign.2.1 1 = .ok (.getfield 48, 3) := by decide +kernel
theorem dR_isSign_4 : decode yR_isSign.2.1 4 = .ok (.iconst 3, 1) := by decide +kernel
theorem dR_isSign_5 : decode yR_isSign.2.1 5 = .ok (.if_icmp .ne 20, 3) := by decide +kernel
theorem dR_isSign_8 : decode yR_isSign.2.1 8 = .ok (.aload_n 0, 1) := by decide +kernel
theorem dR_isSign_9 : decode yR_isSign.2.1 9 = .ok (.getfield 9, 3) := by decide +kernel
theorem dR_isSign_12 : decode yR_isSign.2.1 12 = .ok (.aload_n 0, 1) := by decide +kernel
theorem dR_isSign_13 : decode yR_isSign.2.1 13 = .ok (.getfield 22, 3) := by decide +kernel
theorem dR_isSign_16 : decode yR_isSign.2.1 16 = .ok (.iaload, 1) := by decide +kernel
theorem dR_isSign_17 : decode yR_isSign.2.1 17 = .ok (.iload_n 1, 1) := by decide +kernel
theorem dR_isSign_18 : decode yR_isSign.2.1 18 = .ok (.if_icmp .ne 7, 3) := by decide +kernel
theorem dR_isSign_21 : decode yR_isSign.2.1 21 = .ok (.iconst 1, 1) := by decide +kernel
theorem dR_isSign_22 : decode yR_isSign.2.1 22 = .ok (.goto 4, 3) := by decide +kernel
theorem dR_isSign_25 : decode yR_isSign.2.1 25 = .ok (.iconst 0, 1) := by decide +kernel
theorem dR_isSign_26 : decode yR_isSign.2.1 26 = .ok (.ireturn, 1) := by decide +kernel
theorem dR_write_0 : decode yR_write.2.1 0 = .ok (.aload_n 0, 1) := by decide +kernel
theorem dR_write_1 : decode yR_write.2.1 1 = .ok (.getfield 33, 3) := by decide +kernel
theorem dR_write_4 : decode yR_write.2.1 4 = .ok (.bipush 96, 2) := by decide +kernel
theorem dR_write_6 : decode yR_write.2.1 6 = .ok (.if_icmp .ge 23, 3) := by decide +kernel
theorem dR_write_9 : decode yR_write.2.1 9 = .ok (.aload_n 0, 1) := by decide +kernel
theorem dR_write_10 : decode yR_write.2.1 10 = .ok (.getfield 15, 3) := by decide +kernel
theorem dR_write_13 : decode yR_write.2.1 13 = .ok (.aload_n 0, 1) := by decide +kernel
theorem dR_write_14 : decode yR_write.2.1 14 = .ok (.getfield 33, 3) := by decide +kernel
theorem dR_write_17 : decode yR_write.2.1 17 = .ok (.iload_n 1, 1) := by decide +kernel
theorem dR_write_18 : decode yR_write.2.1 18 = .ok (.iastore, 1) := by decide +kernel
theorem dR_write_19 : decode yR_write.2.1 19 = .ok (.aload_n 0, 1) := by decide +kernel
theorem dR_write_20 : decode yR_write.2.1 20 = .ok (.dup, 1) := by decide +kernel
theorem dR_write_21 : decode yR_write.2.1 21 = .ok (.getfield 33, 3) := by decide +kernel
theorem dR_write_24 : decode yR_write.2.1 24 = .ok (.iconst 1, 1) := by decide +kernel
theorem dR_write_25 : decode yR_write.2.1 25 = .ok (.iadd, 1) := by decide +kernel
theorem dR_write_26 : decode yR_write.2.1 26 = .ok (.putfield 33, 3) := by decide +kernel
theorem dR_write_29 : decode yR_write.2.1 29 = .ok (.return_, 1) := by decide +kernel
theorem dR_readNumber_0 : decode yR_readNumber.2.1 0 = .ok (.aload_n 0, 1) := by decide +kernel
theorem dR_readNumber_1 : decode yR_readNumber.2.1 1 = .ok (.getfield 45, 3) := by decide +kernel
theorem dR_readNumber_4 : decode yR_readNumber.2.1 4 = .ok (.aload_n 0, 1) := by decide +kernel
theorem dR_readNumber_5 : decode yR_readNumber.2.1 5 = .ok (.getfield 22, 3) := by decide +kernel
theorem dR_readNumber_8 : decode yR_readNumber.2.1 8 = .ok (.isub, 1) := by decide +kernel
theorem dR_readNumber_9 : decode yR_readNumber.2.1 9 = .ok (.iconst 4, 1) := by decide +kernel
theorem dR_readNumber_10 : decode yR_readNumber.2.1 10 = .ok (.if_icmp .le 5, 3) := by decide +kernel
theorem dR_readNumber_13 : decode yR_readNumber.2.1 13 = .ok (.iconst 0, 1) := by decide +kernel
theorem dR_readNumber_14 : decode yR_readNumber.2.1 14 = .ok (.ireturn, 1) := by decide +kernel
theorem dR_readNumber_15 : decode yR_readNumber.2.1 15 = .ok (.iconst 0, 1) := by decide +kernel
theorem dR_readNumber_16 : decode yR_readNumber.2.1 16 = .ok (.istore_n 1, 1) := by decide +kernel
theorem dR_readNumber_17 : decode yR_readNumber.2.1 17 = .ok (.aload_n 0, 1) := by decide +kernel
theorem dR_readNumber_18 : decode yR_readNumber.2.1 18 = .ok (.getfield 22, 3) := by decide +kernel
theorem dR_readNumber_21 : decode yR_readNumber.2.1 21 = .ok (.istore_n 2, 1) := by decide +kernel
theorem dR_readNumber_22 : decode yR_readNumber.2.1 22 = .ok (.iload_n 2, 1) := by decide +kernel
theorem dR_readNumber_23 : decode yR_readNumber.2.1 23 = .ok (.aload_n 0, 1) := by decide +kernel
theorem dR_readNumber_24 : decode yR_readNumber.2.1 24 = .ok (.getfield 45, 3) := by decide +kernel
theorem dR_readNumber_27 : decode yR_readNumber.2.1 27 = .ok (.if_icmp .ge 24, 3) := by decide +kernel
theorem dR_readNumber_30 : decode yR_readNumber.2.1 30 = .ok (.iload_n 1, 1) := by decide +kernel
theorem dR_readNumber_31 : decode yR_readNumber.2.1 31 = .ok (.bipush 10, 2) := by decide +kernel
theorem dR_readNumber_33 : decode yR_readNumber.2.1 33 = .ok (.imul, 1) := by decide +kernel
theorem dR_readNumber_34 : decode yR_readNumber.2.1 34 = .ok (.aload_n 0, 1) := by decide +kernel
theorem dR_readNumber_35 : decode yR_readNumber.2.1 35 = .ok (.getfield 9, 3) := by decide +kernel
theorem dR_readNumber_38 : decode yR_readNumber.2.1 38 = .ok (.iload_n 2, 1) := by decide +kernel
theorem dR_readNumber_39 : decode yR_readNumber.2.1 39 = .ok (.iaload, 1) := by decide +kernel
theorem dR_readNumber_40 : decode yR_readNumber.2.1 40 = .ok (.iadd, 1) := by decide +kernel
theorem dR_readNumber_41 : decode yR_readNumber.2.1 41 = .ok (.bipush 48, 2) := by decide +kernel
theorem dR_readNumber_43 : decode yR_readNumber.2.1 43 = .ok (.isub, 1) := by decide +kernel
theorem dR_readNumber_44 : decode yR_readNumber.2.1 44 = .ok (.istore_n 1, 1) := by decide +kernel
theorem dR_readNumber_45 : decode yR_readNumber.2.1 45 = .ok (.iinc 2 1, 3) := by decide +kernel
theorem dR_readNumber_48 : decode yR_readNumber.2.1 48 = .ok (.goto (-26), 3) := by decide +kernel
theorem dR_readNumber_51 : decode yR_readNumber.2.1 51 = .ok (.aload_n 0, 1) := by decide +kernel
theorem dR_readNumber_52 : decode yR_readNumber.2.1 52 = .ok (.iload_n 1, 1) := by decide +kernel
theorem dR_readNumber_53 : decode yR_readNumber.2.1 53 = .ok (.invokevirtual 116, 3) := by decide +kernel
theorem dR_readNumber_56 : decode yR_readNumber.2.1 56 = .ok (.ireturn, 1) := by decide +kernel
theorem dR_readOperand_0 : decode yR_readOperand.2.1 0 = .ok (.aload_n 0, 1) := by decide +kernel
theorem dR_readOperand_1 : decode yR_readOperand.2.1 1 = .ok (.iload_n 1, 1) := by decide +kernel
theorem dR_readOperand_2 : decode yR_readOperand.2.1 2 = .ok (.invokevirtual 94, 3) := by decide +kernel
theorem dR_readOperand_5 : decode yR_readOperand.2.1 5 = .ok (.aload_n 0, 1) := by decide +kernel
theorem dR_readOperand_6 : decode yR_readOperand.2.1 6 = .ok (.dup, 1) := by decide +kernel
theorem dR_readOperand_7 : decode yR_readOperand.2.1 7 = .ok (.getfield 30, 3) := by decide +kernel
theorem dR_readOperand_10 : decode yR_readOperand.2.1 10 = .ok (.iconst 1, 1) := by decide +kernel
theorem dR_readOperand_11 : decode yR_readOperand.2.1 11 = .ok (.iadd, 1) := by decide +kernel
theorem dR_readOperand_12 : decode yR_readOperand.2.1 12 = .ok (.putfield 30, 3) := by decide +kernel
theorem dR_readOperand_15 : decode yR_readOperand.2.1 15 = .ok (.aload_n 0, 1) := by decide +kernel
theorem dR_readOperand_16 : decode yR_readOperand.2.1 16 = .ok (.invokevirtual 51, 3) := by decide +kernel
theorem dR_readOperand_19 : decode yR_readOperand.2.1 19 = .ok (.iconst 1, 1) := by decide +kernel
theorem dR_readOperand_20 : decode yR_readOperand.2.1 20 = .ok (.ireturn, 1) := by decide +kernel
theorem dR_readName_0 : decode yR_readName.2.1 0 = .ok (.aload_n 0, 1) := by decide +kernel
theorem dR_readName_1 : decode yR_readName.2.1 1 = .ok (.getfield 27, 3) := by decide +kernel
theorem dR_readName_4 : decode yR_readName.2.1 4 = .ok (.ifCond .ne 8, 3) := by decide +kernel
theorem dR_readName_7 : decode yR_readName.2.1 7 = .ok (.ldc 119, 2) := by decide +kernel
theorem dR_readName_9 : decode yR_readName.2.1 9 = .ok (.goto 18, 3) := by decide +kernel
theorem dR_readName_12 : decode yR_readName.2.1 12 = .ok (.aload_n 0, 1) := by decide +kernel
theorem dR_readName_13 : decode yR_readName.2.1 13 = .ok (.getfield 27, 3) := by decide +kernel
theorem dR_readName_16 : decode yR_readName.2.1 16 = .ok (.iconst 1, 1) := by decide +kernel
theorem dR_readName_17 : decode yR_readName.2.1 17 = .ok (.if_icmp .ne 8, 3) := by decide +kernel
theorem dR_readName_20 : decode yR_readName.2.1 20 = .ok (.ldc 121, 2) := by decide +kernel
theorem dR_readName_22 : decode yR_readName.2.1 22 = .ok (.goto 5, 3) := by decide +kernel
theorem dR_readName_25 : decode yR_readName.2.1 25 = .ok (.ldc 123, 2) := by decide +kernel
theorem dR_readName_27 : decode yR_readName.2.1 27 = .ok (.astore_n 1, 1) := by decide +kernel
theorem dR_readName_28 : decode yR_readName.2.1 28 = .ok (.aload_n 0, 1) := by decide +kernel
theorem dR_readName_29 : decode yR_readName.2.1 29 = .ok (.getfield 45, 3) := by decide +kernel
theorem dR_readName_32 : decode yR_readName.2.1 32 = .ok (.aload_n 0, 1) := by decide +kernel
theorem dR_readName_33 : decode yR_readName.2.1 33 = .ok (.getfield 22, 3) := by decide +kernel
theorem dR_readName_36 : decode yR_readName.2.1 36 = .ok (.isub, 1) := by decide +kernel
theorem dR_readName_37 : decode yR_readName.2.1 37 = .ok (.iconst 1, 1) := by decide +kernel
theorem dR_readName_38 : decode yR_readName.2.1 38 = .ok (.if_icmp .ne 20, 3) := by decide +kernel
theorem dR_readName_41 : decode yR_readName.2.1 41 = .ok (.aload_n 1, 1) := by decide +kernel
theorem dR_readName_42 : decode yR_readName.2.1 42 = .ok (.aload_n 0, 1) := by decide +kernel
theorem dR_readName_43 : decode yR_readName.2.1 43 = .ok (.getfield 9, 3) := by decide +kernel
theorem dR_readName_46 : decode yR_readName.2.1 46 = .ok (.aload_n 0, 1) := by decide +kernel
theorem dR_readName_47 : decode yR_readName.2.1 47 = .ok (.getfield 22, 3) := by decide +kernel
theorem dR_readName_50 : decode yR_readName.2.1 50 = .ok (.iaload, 1) := by decide +kernel
theorem dR_readName_51 : decode yR_readName.2.1 51 = .ok (.i2c, 1) := by decide +kernel
theorem dR_readName_52 : decode yR_readName.2.1 52 = .ok (.invokevirtual 125, 3) := by decide +kernel
theorem dR_readName_55 : decode yR_readName.2.1 55 = .ok (.goto 4, 3) := by decide +kernel
theorem dR_readName_58 : decode yR_readName.2.1 58 = .ok (.iconst (-1), 1) := by decide +kernel
theorem dR_readName_59 : decode yR_readName.2.1 59 = .ok (.istore_n 2, 1) := by decide +kernel
theorem dR_readName_60 : decode yR_readName.2.1 60 = .ok (.iload_n 2, 1) := by decide +kernel
theorem dR_readName_61 : decode yR_readName.2.1 61 = .ok (.ifCond .lt 17, 3) := by decide +kernel
theorem dR_readName_64 : decode yR_readName.2.1 64 = .ok (.aload_n 0, 1) := by decide +kernel
theorem dR_readName_65 : decode yR_readName.2.1 65 = .ok (.iconst (-1), 1) := by decide +kernel
theorem dR_readName_66 : decode yR_readName.2.1 66 = .ok (.iload_n 2, 1) := by decide +kernel
theorem dR_readName_67 : decode yR_readName.2.1 67 = .ok (.isub, 1) := by decide +kernel
theorem dR_readName_68 : decode yR_readName.2.1 68 = .ok (.invokevirtual 116, 3) := by decide +kernel
theorem dR_readName_71 : decode yR_readName.2.1 71 = .ok (.ifCond .eq 7, 3) := by decide +kernel
theorem dR_readName_74 : decode yR_readName.2.1 74 = .ok (.iconst 1, 1) := by decide +kernel
theorem dR_readName_75 : decode yR_readName.2.1 75 = .ok (.goto 4, 3) := by decide +kernel
theorem dR_readName_78 : decode yR_readName.2.1 78 = .ok (.iconst 0, 1) := by decide +kernel
theorem dR_readName_79 : decode yR_readName.2.1 79 = .ok (.ireturn, 1) := by decide +kernel
theorem dR_written_0 : decode yR_written.2.1 0 = .ok (.new 25, 3) := by decide +kernel
theorem dR_written_3 : decode yR_written.2.1 3 = .ok (.dup, 1) := by decide +kernel
theorem dR_written_4 : decode yR_written.2.1 4 = .ok (.aload_n 0, 1) := by decide +kernel
theorem dR_written_5 : decode yR_written.2.1 5 = .ok (.getfield 27, 3) := by decide +kernel
theorem dR_written_8 : decode yR_written.2.1 8 = .ok (.aload_n 0, 1) := by decide +kernel
theorem dR_written_9 : decode yR_written.2.1 9 = .ok (.getfield 30, 3) := by decide +kernel
theorem dR_written_12 : decode yR_written.2.1 12 = .ok (.aload_n 0, 1) := by decide +kernel
theorem dR_written_13 : decode yR_written.2.1 13 = .ok (.getfield 15, 3) := by decide +kernel
theorem dR_written_16 : decode yR_written.2.1 16 = .ok (.aload_n 0, 1) := by decide +kernel
theorem dR_written_17 : decode yR_written.2.1 17 = .ok (.getfield 33, 3) := by decide +kernel
theorem dR_written_20 : decode yR_written.2.1 20 = .ok (.invokestatic 36, 3) := by decide +kernel
theorem dR_written_23 : decode yR_written.2.1 23 = .ok (.invokespecial 42, 3) := by decide +kernel
theorem dR_written_26 : decode yR_written.2.1 26 = .ok (.areturn, 1) := by decide +kernel
theorem dJA_fill_0 : decode yJA_fill.2.1 0 = .ok (.iconst 0, 1) := by decide +kernel
theorem dJA_fill_1 : decode yJA_fill.2.1 1 = .ok (.istore_n 2, 1) := by decide +kernel
theorem dJA_fill_2 : decode yJA_fill.2.1 2 = .ok (.aload_n 0, 1) := by decide +kernel
theorem dJA_fill_3 : decode yJA_fill.2.1 3 = .ok (.arraylength, 1) := by decide +kernel
theorem dJA_fill_4 : decode yJA_fill.2.1 4 = .ok (.istore_n 3, 1) := by decide +kernel
theorem dJA_fill_5 : decode yJA_fill.2.1 5 = .ok (.iload_n 2, 1) := by decide +kernel
theorem dJA_fill_6 : decode yJA_fill.2.1 6 = .ok (.iload_n 3, 1) := by decide +kernel
theorem dJA_fill_7 : decode yJA_fill.2.1 7 = .ok (.if_icmp .ge 13, 3) := by decide +kernel
theorem dJA_fill_10 : decode yJA_fill.2.1 10 = .ok (.aload_n 0, 1) := by decide +kernel
theorem dJA_fill_11 : decode yJA_fill.2.1 11 = .ok (.iload_n 2, 1) := by decide +kernel
theorem dJA_fill_12 : decode yJA_fill.2.1 12 = .ok (.iload_n 1, 1) := by decide +kernel
theorem dJA_fill_13 : decode yJA_fill.2.1 13 = .ok (.iastore, 1) := by decide +kernel
theorem dJA_fill_14 : decode yJA_fill.2.1 14 = .ok (.iinc 2 1, 3) := by decide +kernel
theorem dJA_fill_17 : decode yJA_fill.2.1 17 = .ok (.goto (-12), 3) := by decide +kernel
theorem dJA_fill_20 : decode yJA_fill.2.1 20 = .ok (.return_, 1) := by decide +kernel
theorem dJI_bitCount_0 : decode yJI_bitCount.2.1 0 = .ok (.iload_n 0, 1) := by decide +kernel
theorem dJI_bitCount_1 : decode yJI_bitCount.2.1 1 = .ok (.iload_n 0, 1) := by decide +kernel
theorem dJI_bitCount_2 : decode yJI_bitCount.2.1 2 = .ok (.iconst 1, 1) := by decide +kernel
theorem dJI_bitCount_3 : decode yJI_bitCount.2.1 3 = .ok (.iushr, 1) := by decide +kernel
theorem dJI_bitCount_4 : decode yJI_bitCount.2.1 4 = .ok (.ldc_w 265, 3) := by decide +kernel
theorem dJI_bitCount_7 : decode yJI_bitCount.2.1 7 = .ok (.iand, 1) := by decide +kernel
theorem dJI_bitCount_8 : decode yJI_bitCount.2.1 8 = .ok (.isub, 1) := by decide +kernel
theorem dJI_bitCount_9 : decode yJI_bitCount.2.1 9 = .ok (.istore_n 0, 1) := by decide +kernel
theorem dJI_bitCount_10 : decode yJI_bitCount.2.1 10 = .ok (.iload_n 0, 1) := by decide +kernel
theorem dJI_bitCount_11 : decode yJI_bitCount.2.1 11 = .ok (.ldc_w 266, 3) := by decide +kernel
theorem dJI_bitCount_14 : decode yJI_bitCount.2.1 14 = .ok (.iand, 1) := by decide +kernel
theorem dJI_bitCount_15 : decode yJI_bitCount.2.1 15 = .ok (.iload_n 0, 1) := by decide +kernel
theorem dJI_bitCount_16 : decode yJI_bitCount.2.1 16 = .ok (.iconst 2, 1) := by decide +kernel
theorem dJI_bitCount_17 : decode yJI_bitCount.2.1 17 = .ok (.iushr, 1) := by decide +kernel
theorem dJI_bitCount_18 : decode yJI_bitCount.2.1 18 = .ok (.ldc_w 266, 3) := by decide +kernel
theorem dJI_bitCount_21 : decode yJI_bitCount.2.1 21 = .ok (.iand, 1) := by decide +kernel
theorem dJI_bitCount_22 : decode yJI_bitCount.2.1 22 = .ok (.iadd, 1) := by decide +kernel
theorem dJI_bitCount_23 : decode yJI_bitCount.2.1 23 = .ok (.istore_n 0, 1) := by decide +kernel
theorem dJI_bitCount_24 : decode yJI_bitCount.2.1 24 = .ok (.iload_n 0, 1) := by decide +kernel
theorem dJI_bitCount_25 : decode yJI_bitCount.2.1 25 = .ok (.iload_n 0, 1) := by decide +kernel
theorem dJI_bitCount_26 : decode yJI_bitCount.2.1 26 = .ok (.iconst 4, 1) := by decide +kernel
theorem dJI_bitCount_27 : decode yJI_bitCount.2.1 27 = .ok (.iushr, 1) := by decide +kernel
theorem dJI_bitCount_28 : decode yJI_bitCount.2.1 28 = .ok (.iadd, 1) := by decide +kernel
theorem dJI_bitCount_29 : decode yJI_bitCount.2.1 29 = .ok (.ldc_w 267, 3) := by decide +kernel
theorem dJI_bitCount_32 : decode yJI_bitCount.2.1 32 = .ok (.iand, 1) := by decide +kernel
theorem dJI_bitCount_33 : decode yJI_bitCount.2.1 33 = .ok (.istore_n 0, 1) := by decide +kernel
theorem dJI_bitCount_34 : decode yJI_bitCount.2.1 34 = .ok (.iload_n 0, 1) := by decide +kernel
theorem dJI_bitCount_35 : decode yJI_bitCount.2.1 35 = .ok (.iload_n 0, 1) := by decide +kernel
theorem dJI_bitCount_36 : decode yJI_bitCount.2.1 36 = .ok (.bipush 8, 2) := by decide +kernel
theorem dJI_bitCount_38 : decode yJI_bitCount.2.1 38 = .ok (.iushr, 1) := by decide +kernel
theorem dJI_bitCount_39 : decode yJI_bitCount.2.1 39 = .ok (.iadd, 1) := by decide +kernel
theorem dJI_bitCount_40 : decode yJI_bitCount.2.1 40 = .ok (.istore_n 0, 1) := by decide +kernel
theorem dJI_bitCount_41 : decode yJI_bitCount.2.1 41 = .ok (.iload_n 0, 1) := by decide +kernel
theorem dJI_bitCount_42 : decode yJI_bitCount.2.1 42 = .ok (.iload_n 0, 1) := by decide +kernel
theorem dJI_bitCount_43 : decode yJI_bitCount.2.1 43 = .ok (.bipush 16, 2) := by decide +kernel
theorem dJI_bitCount_45 : decode yJI_bitCount.2.1 45 = .ok (.iushr, 1) := by decide +kernel
theorem dJI_bitCount_46 : decode yJI_bitCount.2.1 46 = .ok (.iadd, 1) := by decide +kernel
theorem dJI_bitCount_47 : decode yJI_bitCount.2.1 47 = .ok (.istore_n 0, 1) := by decide +kernel
theorem dJI_bitCount_48 : decode yJI_bitCount.2.1 48 = .ok (.iload_n 0, 1) := by decide +kernel
theorem dJI_bitCount_49 : decode yJI_bitCount.2.1 49 = .ok (.bipush 63, 2) := by decide +kernel
theorem dJI_bitCount_51 : decode yJI_bitCount.2.1 51 = .ok (.iand, 1) := by decide +kernel
theorem dJI_bitCount_52 : decode yJI_bitCount.2.1 52 = .ok (.ireturn, 1) := by decide +kernel
theorem dJM_max_0 : decode yJM_max.2.1 0 = .ok (.iload_n 0, 1) := by decide +kernel
theorem dJM_max_1 : decode yJM_max.2.1 1 = .ok (.iload_n 1, 1) := by decide +kernel
theorem dJM_max_2 : decode yJM_max.2.1 2 = .ok (.if_icmp .lt 7, 3) := by decide +kernel
theorem dJM_max_5 : decode yJM_max.2.1 5 = .ok (.iload_n 0, 1) := by decide +kernel
theorem dJM_max_6 : decode yJM_max.2.1 6 = .ok (.goto 4, 3) := by decide +kernel
theorem dJM_max_9 : decode yJM_max.2.1 9 = .ok (.iload_n 1, 1) := by decide +kernel
theorem dJM_max_10 : decode yJM_max.2.1 10 = .ok (.ireturn, 1) := by decide +kernel
theorem dJM_min_0 : decode yJM_min.2.1 0 = .ok (.iload_n 0, 1) := by decide +kernel
theorem dJM_min_1 : decode yJM_min.2.1 1 = .ok (.iload_n 1, 1) := by decide +kernel
theorem dJM_min_2 : decode yJM_min.2.1 2 = .ok (.if_icmp .gt 7, 3) := by decide +kernel
theorem dJM_min_5 : decode yJM_min.2.1 5 = .ok (.iload_n 0, 1) := by decide +kernel
theorem dJM_min_6 : decode yJM_min.2.1 6 = .ok (.goto 4, 3) := by decide +kernel
theorem dJM_min_9 : decode yJM_min.2.1 9 = .ok (.iload_n 1, 1) := by decide +kernel
theorem dJM_min_10 : decode yJM_min.2.1 10 = .ok (.ireturn, 1) := by decide +kernel
theorem dJM_abs_0 : decode yJM_abs.2.1 0 = .ok (.iload_n 0, 1) := by decide +kernel
theorem dJM_abs_1 : decode yJM_abs.2.1 1 = .ok (.ifCond .ge 8, 3) := by decide +kernel
theorem dJM_abs_4 : decode yJM_abs.2.1 4 = .ok (.iload_n 0, 1) := by decide +kernel
theorem dJM_abs_5 : decode yJM_abs.2.1 5 = .ok (.ineg, 1) := by decide +kernel
theorem dJM_abs_6 : decode yJM_abs.2.1 6 = .ok (.goto 4, 3) := by decide +kernel
theorem dJM_abs_9 : decode yJM_abs.2.1 9 = .ok (.iload_n 0, 1) := by decide +kernel
theorem dJM_abs_10 : decode yJM_abs.2.1 10 = .ok (.ireturn, 1) := by decide +kernel
theorem dJS_length_0 : decode yJS_length.2.1 0 = .ok (.aload_n 0, 1) := by decide +kernel
theorem dJS_length_1 : decode yJS_length.2.1 1 = .ok (.getfield 9, 3) := by decide +kernel
theorem dJS_length_4 : decode yJS_length.2.1 4 = .ok (.arraylength, 1) := by decide +kernel
theorem dJS_length_5 : decode yJS_length.2.1 5 = .ok (.aload_n 0, 1) := by decide +kernel
theorem dJS_length_6 : decode yJS_length.2.1 6 = .ok (.invokevirtual 335, 3) := by decide +kernel
theorem dJS_length_9 : decode yJS_length.2.1 9 = .ok (.ishr, 1) := by decide +kernel
theorem dJS_length_10 : decode yJS_length.2.1 10 = .ok (.ireturn, 1) := by decide +kernel
theorem dJS_coder_0 : decode yJS_coder.2.1 0 = .ok (.getstatic 38, 3) := by decide +kernel
theorem dJS_coder_3 : decode yJS_coder.2.1 3 = .ok (.ifCond .eq 10, 3) := by decide +kernel
theorem dJS_coder_6 : decode yJS_coder.2.1 6 = .ok (.aload_n 0, 1) := by decide +kernel
theorem dJS_coder_7 : decode yJS_coder.2.1 7 = .ok (.getfield 15, 3) := by decide +kernel
theorem dJS_coder_10 : decode yJS_coder.2.1 10 = .ok (.goto 4, 3) := by decide +kernel
theorem dJS_coder_13 : decode yJS_coder.2.1 13 = .ok (.iconst 1, 1) := by decide +kernel
theorem dJS_coder_14 : decode yJS_coder.2.1 14 = .ok (.ireturn, 1) := by decide +kernel
theorem dJS_charAt_0 : decode yJS_charAt.2.1 0 = .ok (.aload_n 0, 1) := by decide +kernel
theorem dJS_charAt_1 : decode yJS_charAt.2.1 1 = .ok (.invokevirtual 492, 3) := by decide +kernel
theorem dJS_charAt_4 : decode yJS_charAt.2.1 4 = .ok (.ifCond .eq 12, 3) := by decide +kernel
theorem dJS_charAt_7 : decode yJS_charAt.2.1 7 = .ok (.aload_n 0, 1) := by decide +kernel
theorem dJS_charAt_8 : decode yJS_charAt.2.1 8 = .ok (.getfield 9, 3) := by decide +kernel
theorem dJS_charAt_11 : decode yJS_charAt.2.1 11 = .ok (.iload_n 1, 1) := by decide +kernel
theorem dJS_charAt_12 : decode yJS_charAt.2.1 12 = .ok (.invokestatic 495, 3) := by decide +kernel
theorem dJS_charAt_15 : decode yJS_charAt.2.1 15 = .ok (.ireturn, 1) := by decide +kernel
theorem dJS_charAt_16 : decode yJS_charAt.2.1 16 = .ok (.aload_n 0, 1) := by decide +kernel
theorem dJS_charAt_17 : decode yJS_charAt.2.1 17 = .ok (.getfield 9, 3) := by decide +kernel
theorem dJS_charAt_20 : decode yJS_charAt.2.1 20 = .ok (.iload_n 1, 1) := by decide +kernel
theorem dJS_charAt_21 : decode yJS_charAt.2.1 21 = .ok (.invokestatic 498, 3) := by decide +kernel
theorem dJS_charAt_24 : decode yJS_charAt.2.1 24 = .ok (.ireturn, 1) := by decide +kernel
theorem dJS_isLatin1_0 : decode yJS_isLatin1.2.1 0 = .ok (.getstatic 38, 3) := by decide +kernel
theorem dJS_isLatin1_3 : decode yJS_isLatin1.2.1 3 = .ok (.ifCond .eq 14, 3) := by decide +kernel
theorem dJS_isLatin1_6 : decode yJS_isLatin1.2.1 6 = .ok (.aload_n 0, 1) := by decide +kernel
theorem dJS_isLatin1_7 : decode yJS_isLatin1.2.1 7 = .ok (.getfield 15, 3) := by decide +kernel
theorem dJS_isLatin1_10 : decode yJS_isLatin1.2.1 10 = .ok (.ifCond .ne 7, 3) := by decide +kernel
theorem dJS_isLatin1_13 : decode yJS_isLatin1.2.1 13 = .ok (.iconst 1, 1) := by decide +kernel
theorem dJS_isLatin1_14 : decode yJS_isLatin1.2.1 14 = .ok (.goto 4, 3) := by decide +kernel
theorem dJS_isLatin1_17 : decode yJS_isLatin1.2.1 17 = .ok (.iconst 0, 1) := by decide +kernel
theorem dJS_isLatin1_18 : decode yJS_isLatin1.2.1 18 = .ok (.ireturn, 1) := by decide +kernel
theorem dJL_charAt_0 : decode yJL_charAt.2.1 0 = .ok (.iload_n 1, 1) := by decide +kernel
theorem dJL_charAt_1 : decode yJL_charAt.2.1 1 = .ok (.aload_n 0, 1) := by decide +kernel
theorem dJL_charAt_2 : decode yJL_charAt.2.1 2 = .ok (.arraylength, 1) := by decide +kernel
theorem dJL_charAt_3 : decode yJL_charAt.2.1 3 = .ok (.invokestatic 9, 3) := by decide +kernel
theorem dJL_charAt_6 : decode yJL_charAt.2.1 6 = .ok (.aload_n 0, 1) := by decide +kernel
theorem dJL_charAt_7 : decode yJL_charAt.2.1 7 = .ok (.iload_n 1, 1) := by decide +kernel
theorem dJL_charAt_8 : decode yJL_charAt.2.1 8 = .ok (.baload, 1) := by decide +kernel
theorem dJL_charAt_9 : decode yJL_charAt.2.1 9 = .ok (.sipush 255, 3) := by decide +kernel
theorem dJL_charAt_12 : decode yJL_charAt.2.1 12 = .ok (.iand, 1) := by decide +kernel
theorem dJL_charAt_13 : decode yJL_charAt.2.1 13 = .ok (.i2c, 1) := by decide +kernel
theorem dJL_charAt_14 : decode yJL_charAt.2.1 14 = .ok (.ireturn, 1) := by decide +kernel
theorem dJS_checkIndex_0 : decode yJS_checkIndex.2.1 0 = .ok (.iload_n 0, 1) := by decide +kernel
theorem dJS_checkIndex_1 : decode yJS_checkIndex.2.1 1 = .ok (.iload_n 1, 1) := by decide +kernel
theorem dJS_checkIndex_2 : decode yJS_checkIndex.2.1 2 = .ok (.getstatic 1053, 3) := by decide +kernel
theorem dJS_checkIndex_5 : decode yJS_checkIndex.2.1 5 = .ok (.invokestatic 1059, 3) := by decide +kernel
theorem dJS_checkIndex_8 : decode yJS_checkIndex.2.1 8 = .ok (.pop, 1) := by decide +kernel
theorem dJS_checkIndex_9 : decode yJS_checkIndex.2.1 9 = .ok (.return_, 1) := by decide +kernel
theorem dJP_checkIndex_0 : decode yJP_checkIndex.2.1 0 = .ok (.iload_n 0, 1) := by decide +kernel
theorem dJP_checkIndex_1 : decode yJP_checkIndex.2.1 1 = .ok (.ifCond .lt 8, 3) := by decide +kernel
theorem dJP_checkIndex_4 : decode yJP_checkIndex.2.1 4 = .ok (.iload_n 0, 1) := by decide +kernel
theorem dJP_checkIndex_5 : decode yJP_checkIndex.2.1 5 = .ok (.iload_n 1, 1) := by decide +kernel
theorem dJP_checkIndex_6 : decode yJP_checkIndex.2.1 6 = .ok (.if_icmp .lt 10, 3) := by decide +kernel
theorem dJP_checkIndex_9 : decode yJP_checkIndex.2.1 9 = .ok (.aload_n 2, 1) := by decide +kernel
theorem dJP_checkIndex_10 : decode yJP_checkIndex.2.1 10 = .ok (.iload_n 0, 1) := by decide +kernel
theorem dJP_checkIndex_11 : decode yJP_checkIndex.2.1 11 = .ok (.iload_n 1, 1) := by decide +kernel
theorem dJP_checkIndex_12 : decode yJP_checkIndex.2.1 12 = .ok (.invokestatic 95, 3) := by decide +kernel
theorem dJP_checkIndex_15 : decode yJP_checkIndex.2.1 15 = .ok (.athrow, 1) := by decide +kernel
theorem dJP_checkIndex_16 : decode yJP_checkIndex.2.1 16 = .ok (.iload_n 0, 1) := by decide +kernel
theorem dJP_checkIndex_17 : decode yJP_checkIndex.2.1 17 = .ok (.ireturn, 1) := by decide +kernel
theorem dJS_indexOf_0 : decode yJS_indexOf.2.1 0 = .ok (.aload_n 0, 1) := by decide +kernel
theorem dJS_indexOf_1 : decode yJS_indexOf.2.1 1 = .ok (.iload_n 1, 1) := by decide +kernel
theorem dJS_indexOf_2 : decode yJS_indexOf.2.1 2 = .ok (.iconst 0, 1) := by decide +kernel
theorem dJS_indexOf_3 : decode yJS_indexOf.2.1 3 = .ok (.invokevirtual 633, 3) := by decide +kernel
theorem dJS_indexOf_6 : decode yJS_indexOf.2.1 6 = .ok (.ireturn, 1) := by decide +kernel
theorem dJS_indexOf2_0 : decode yJS_indexOf2.2.1 0 = .ok (.aload_n 0, 1) := by decide +kernel
theorem dJS_indexOf2_1 : decode yJS_indexOf2.2.1 1 = .ok (.invokevirtual 492, 3) := by decide +kernel
theorem dJS_indexOf2_4 : decode yJS_indexOf2.2.1 4 = .ok (.ifCond .eq 19, 3) := by decide +kernel
theorem dJS_indexOf2_7 : decode yJS_indexOf2.2.1 7 = .ok (.aload_n 0, 1) := by decide +kernel
theorem dJS_indexOf2_8 : decode yJS_indexOf2.2.1 8 = .ok (.getfield 9, 3) := by decide +kernel
theorem dJS_indexOf2_11 : decode yJS_indexOf2.2.1 11 = .ok (.iload_n 1, 1) := by decide +kernel
theorem dJS_indexOf2_12 : decode yJS_indexOf2.2.1 12 = .ok (.iload_n 2, 1) := by decide +kernel
theorem dJS_indexOf2_13 : decode yJS_indexOf2.2.1 13 = .ok (.aload_n 0, 1) := by decide +kernel
theorem dJS_indexOf2_14 : decode yJS_indexOf2.2.1 14 = .ok (.invokevirtual 505, 3) := by decide +kernel
theorem dJS_indexOf2_17 : decode yJS_indexOf2.2.1 17 = .ok (.invokestatic 637, 3) := by decide +kernel
theorem dJS_indexOf2_20 : decode yJS_indexOf2.2.1 20 = .ok (.goto 16, 3) := by decide +kernel
theorem dJS_indexOf2_23 : decode yJS_indexOf2.2.1 23 = .ok (.aload_n 0, 1) := by decide +kernel
theorem dJS_indexOf2_24 : decode yJS_indexOf2.2.1 24 = .ok (.getfield 9, 3) := by decide +kernel
theorem dJS_indexOf2_27 : decode yJS_indexOf2.2.1 27 = .ok (.iload_n 1, 1) := by decide +kernel
theorem dJS_indexOf2_28 : decode yJS_indexOf2.2.1 28 = .ok (.iload_n 2, 1) := by decide +kernel
theorem dJS_indexOf2_29 : decode yJS_indexOf2.2.1 29 = .ok (.aload_n 0, 1) := by decide +kernel
theorem dJS_indexOf2_30 : decode yJS_indexOf2.2.1 30 = .ok (.invokevirtual 505, 3) := by decide +kernel
theorem dJS_indexOf2_33 : decode yJS_indexOf2.2.1 33 = .ok (.invokestatic 640, 3) := by decide +kernel
theorem dJS_indexOf2_36 : decode yJS_indexOf2.2.1 36 = .ok (.ireturn, 1) := by decide +kernel
theorem dJL_indexOf_0 : decode yJL_indexOf.2.1 0 = .ok (.iload_n 1, 1) := by decide +kernel
theorem dJL_indexOf_1 : decode yJL_indexOf.2.1 1 = .ok (.invokestatic 88, 3) := by decide +kernel
theorem dJL_indexOf_4 : decode yJL_indexOf.2.1 4 = .ok (.ifCond .ne 5, 3) := by decide +kernel
theorem dJL_indexOf_7 : decode yJL_indexOf.2.1 7 = .ok (.iconst (-1), 1) := by decide +kernel
theorem dJL_indexOf_8 : decode yJL_indexOf.2.1 8 = .ok (.ireturn, 1) := by decide +kernel
theorem dJL_indexOf_9 : decode yJL_indexOf.2.1 9 = .ok (.iload_n 2, 1) := by decide +kernel
theorem dJL_indexOf_10 : decode yJL_indexOf.2.1 10 = .ok (.iconst 0, 1) := by decide +kernel
theorem dJL_indexOf_11 : decode yJL_indexOf.2.1 11 = .ok (.invokestatic 92, 3) := by decide +kernel
theorem dJL_indexOf_14 : decode yJL_indexOf.2.1 14 = .ok (.istore_n 2, 1) := by decide +kernel
theorem dJL_indexOf_15 : decode yJL_indexOf.2.1 15 = .ok (.iload_n 3, 1) := by decide +kernel
theorem dJL_indexOf_16 : decode yJL_indexOf.2.1 16 = .ok (.aload_n 0, 1) := by decide +kernel
theorem dJL_indexOf_17 : decode yJL_indexOf.2.1 17 = .ok (.arraylength, 1) := by decide +kernel
theorem dJL_indexOf_18 : decode yJL_indexOf.2.1 18 = .ok (.invokestatic 38, 3) := by decide +kernel
theorem dJL_indexOf_21 : decode yJL_indexOf.2.1 21 = .ok (.istore_n 3, 1) := by decide +kernel
theorem dJL_indexOf_22 : decode yJL_indexOf.2.1 22 = .ok (.iload_n 2, 1) := by decide +kernel
theorem dJL_indexOf_23 : decode yJL_indexOf.2.1 23 = .ok (.iload_n 3, 1) := by decide +kernel
theorem dJL_indexOf_24 : decode yJL_indexOf.2.1 24 = .ok (.if_icmp .lt 5, 3) := by decide +kernel
theorem dJL_indexOf_27 : decode yJL_indexOf.2.1 27 = .ok (.iconst (-1), 1) := by decide +kernel
theorem dJL_indexOf_28 : decode yJL_indexOf.2.1 28 = .ok (.ireturn, 1) := by decide +kernel
theorem dJL_indexOf_29 : decode yJL_indexOf.2.1 29 = .ok (.aload_n 0, 1) := by decide +kernel
theorem dJL_indexOf_30 : decode yJL_indexOf.2.1 30 = .ok (.iload_n 1, 1) := by decide +kernel
theorem dJL_indexOf_31 : decode yJL_indexOf.2.1 31 = .ok (.iload_n 2, 1) := by decide +kernel
theorem dJL_indexOf_32 : decode yJL_indexOf.2.1 32 = .ok (.iload_n 3, 1) := by decide +kernel
theorem dJL_indexOf_33 : decode yJL_indexOf.2.1 33 = .ok (.invokestatic 95, 3) := by decide +kernel
theorem dJL_indexOf_36 : decode yJL_indexOf.2.1 36 = .ok (.ireturn, 1) := by decide +kernel
theorem dJL_canEncode_0 : decode yJL_canEncode.2.1 0 = .ok (.iload_n 0, 1) := by decide +kernel
theorem dJL_canEncode_1 : decode yJL_canEncode.2.1 1 = .ok (.ifCond .lt 14, 3) := by decide +kernel
theorem dJL_canEncode_4 : decode yJL_canEncode.2.1 4 = .ok (.iload_n 0, 1) := by decide +kernel
theorem dJL_canEncode_5 : decode yJL_canEncode.2.1 5 = .ok (.sipush 255, 3) := by decide +kernel
theorem dJL_canEncode_8 : decode yJL_canEncode.2.1 8 = .ok (.if_icmp .gt 7, 3) := by decide +kernel
theorem dJL_canEncode_11 : decode yJL_canEncode.2.1 11 = .ok (.iconst 1, 1) := by decide +kernel
theorem dJL_canEncode_12 : decode yJL_canEncode.2.1 12 = .ok (.goto 4, 3) := by decide +kernel
theorem dJL_canEncode_15 : decode yJL_canEncode.2.1 15 = .ok (.iconst 0, 1) := by decide +kernel
theorem dJL_canEncode_16 : decode yJL_canEncode.2.1 16 = .ok (.ireturn, 1) := by decide +kernel
theorem dJL_indexOfChar_0 : decode yJL_indexOfChar.2.1 0 = .ok (.iload_n 1, 1) := by decide +kernel
theorem dJL_indexOfChar_1 : decode yJL_indexOfChar.2.1 1 = .ok (.i2b, 1) := by decide +kernel
theorem dJL_indexOfChar_2 : decode yJL_indexOfChar.2.1 2 = .ok (.istore 4, 2) := by decide +kernel
theorem dJL_indexOfChar_4 : decode yJL_indexOfChar.2.1 4 = .ok (.iload_n 2, 1) := by decide +kernel
theorem dJL_indexOfChar_5 : decode yJL_indexOfChar.2.1 5 = .ok (.istore 5, 2) := by decide +kernel
theorem dJL_indexOfChar_7 : decode yJL_indexOfChar.2.1 7 = .ok (.iload 5, 2) := by decide +kernel
theorem dJL_indexOfChar_9 : decode yJL_indexOfChar.2.1 9 = .ok (.iload_n 3, 1) := by decide +kernel
theorem dJL_indexOfChar_10 : decode yJL_indexOfChar.2.1 10 = .ok (.if_icmp .ge 21, 3) := by decide +kernel
theorem dJL_indexOfChar_13 : decode yJL_indexOfChar.2.1 13 = .ok (.aload_n 0, 1) := by decide +kernel
theorem dJL_indexOfChar_14 : decode yJL_indexOfChar.2.1 14 = .ok (.iload 5, 2) := by decide +kernel
theorem dJL_indexOfChar_16 : decode yJL_indexOfChar.2.1 16 = .ok (.baload, 1) := by decide +kernel
theorem dJL_indexOfChar_17 : decode yJL_indexOfChar.2.1 17 = .ok (.iload 4, 2) := by decide +kernel
theorem dJL_indexOfChar_19 : decode yJL_indexOfChar.2.1 19 = .ok (.if_icmp .ne 6, 3) := by decide +kernel
theorem dJL_indexOfChar_22 : decode yJL_indexOfChar.2.1 22 = .ok (.iload 5, 2) := by decide +kernel
theorem dJL_indexOfChar_24 : decode yJL_indexOfChar.2.1 24 = .ok (.ireturn, 1) := by decide +kernel
theorem dJL_indexOfChar_25 : decode yJL_indexOfChar.2.1 25 = .ok (.iinc 5 1, 3) := by decide +kernel
theorem dJL_indexOfChar_28 : decode yJL_indexOfChar.2.1 28 = .ok (.goto (-21), 3) := by decide +kernel
theorem dJL_indexOfChar_31 : decode yJL_indexOfChar.2.1 31 = .ok (.iconst (-1), 1) := by decide +kernel
theorem dJL_indexOfChar_32 : decode yJL_indexOfChar.2.1 32 = .ok (.ireturn, 1) := by decide +kernel
theorem dJA_copyOf_0 : decode yJA_copyOf.2.1 0 = .ok (.iload_n 1, 1) := by decide +kernel
theorem dJA_copyOf_1 : decode yJA_copyOf.2.1 1 = .ok (.aload_n 0, 1) := by decide +kernel
theorem dJA_copyOf_2 : decode yJA_copyOf.2.1 2 = .ok (.arraylength, 1) := by decide +kernel
theorem dJA_copyOf_3 : decode yJA_copyOf.2.1 3 = .ok (.if_icmp .ne 11, 3) := by decide +kernel
theorem dJA_copyOf_6 : decode yJA_copyOf.2.1 6 = .ok (.aload_n 0, 1) := by decide +kernel
theorem dJA_copyOf_7 : decode yJA_copyOf.2.1 7 = .ok (.invokevirtual 316, 3) := by decide +kernel
theorem dJA_copyOf_10 : decode yJA_copyOf.2.1 10 = .ok (.checkcast 317, 3) := by decide +kernel
theorem dJA_copyOf_13 : decode yJA_copyOf.2.1 13 = .ok (.areturn, 1) := by decide +kernel
theorem dJA_copyOf_14 : decode yJA_copyOf.2.1 14 = .ok (.iload_n 1, 1) := by decide +kernel
theorem dJA_copyOf_15 : decode yJA_copyOf.2.1 15 = .ok (.newarray .int, 2) := by decide +kernel
theorem dJA_copyOf_17 : decode yJA_copyOf.2.1 17 = .ok (.astore_n 2, 1) := by decide +kernel
theorem dJA_copyOf_18 : decode yJA_copyOf.2.1 18 = .ok (.aload_n 0, 1) := by decide +kernel
theorem dJA_copyOf_19 : decode yJA_copyOf.2.1 19 = .ok (.iconst 0, 1) := by decide +kernel
theorem dJA_copyOf_20 : decode yJA_copyOf.2.1 20 = .ok (.aload_n 2, 1) := by decide +kernel
theorem dJA_copyOf_21 : decode yJA_copyOf.2.1 21 = .ok (.iconst 0, 1) := by decide +kernel
theorem dJA_copyOf_22 : decode yJA_copyOf.2.1 22 = .ok (.aload_n 0, 1) := by decide +kernel
theorem dJA_copyOf_23 : decode yJA_copyOf.2.1 23 = .ok (.arraylength, 1) := by decide +kernel
theorem dJA_copyOf_24 : decode yJA_copyOf.2.1 24 = .ok (.iload_n 1, 1) := by decide +kernel
theorem dJA_copyOf_25 : decode yJA_copyOf.2.1 25 = .ok (.invokestatic 304, 3) := by decide +kernel
theorem dJA_copyOf_28 : decode yJA_copyOf.2.1 28 = .ok (.invokestatic 150, 3) := by decide +kernel
theorem dJA_copyOf_31 : decode yJA_copyOf.2.1 31 = .ok (.aload_n 2, 1) := by decide +kernel
theorem dJA_copyOf_32 : decode yJA_copyOf.2.1 32 = .ok (.areturn, 1) := by decide +kernel
