theorem dM_init_0 : decode yM_init.2.1 0 = .ok (.aload_n 0, 1) := by decide +kernel
theorem dM_init_1 : decode yM_init.2.1 1 = .ok (.invokespecial 1, 3) := by decide +kernel
theorem dM_init_4 : decode yM_init.2.1 4 = .ok (.aload_n 0, 1) := by decide +kernel
theorem dM_init_5 : decode yM_init.2.1 5 = .ok (.sipush 1510, 3) := by decide +kernel
theorem dM_init_8 : decode yM_init.2.1 8 = .ok (.newarray .int, 2) := by decide +kernel
theorem dM_init_10 : decode yM_init.2.1 10 = .ok (.putfield 7, 3) := by decide +kernel
theorem dM_init_13 : decode yM_init.2.1 13 = .ok (.aload_n 0, 1) := by decide +kernel
theorem dM_init_14 : decode yM_init.2.1 14 = .ok (.sipush 1510, 3) := by decide +kernel
theorem dM_init_17 : decode yM_init.2.1 17 = .ok (.newarray .int, 2) := by decide +kernel
theorem dM_init_19 : decode yM_init.2.1 19 = .ok (.putfield 13, 3) := by decide +kernel
theorem dM_init_22 : decode yM_init.2.1 22 = .ok (.aload_n 0, 1) := by decide +kernel
theorem dM_init_23 : decode yM_init.2.1 23 = .ok (.bipush 64, 2) := by decide +kernel
theorem dM_init_25 : decode yM_init.2.1 25 = .ok (.newarray .int, 2) := by decide +kernel
theorem dM_init_27 : decode yM_init.2.1 27 = .ok (.putfield 16, 3) := by decide +kernel
theorem dM_init_30 : decode yM_init.2.1 30 = .ok (.aload_n 0, 1) := by decide +kernel
theorem dM_init_31 : decode yM_init.2.1 31 = .ok (.bipush 60, 2) := by decide +kernel
theorem dM_init_33 : decode yM_init.2.1 33 = .ok (.newarray .int, 2) := by decide +kernel
theorem dM_init_35 : decode yM_init.2.1 35 = .ok (.putfield 19, 3) := by decide +kernel
theorem dM_init_38 : decode yM_init.2.1 38 = .ok (.aload_n 0, 1) := by decide +kernel
theorem dM_init_39 : decode yM_init.2.1 39 = .ok (.bipush 110, 2) := by decide +kernel
theorem dM_init_41 : decode yM_init.2.1 41 = .ok (.newarray .int, 2) := by decide +kernel
theorem dM_init_43 : decode yM_init.2.1 43 = .ok (.putfield 22, 3) := by decide +kernel
theorem dM_init_46 : decode yM_init.2.1 46 = .ok (.aload_n 0, 1) := by decide +kernel
theorem dM_init_47 : decode yM_init.2.1 47 = .ok (.iconst 4, 1) := by decide +kernel
theorem dM_init_48 : decode yM_init.2.1 48 = .ok (.newarray .int, 2) := by decide +kernel
theorem dM_init_50 : decode yM_init.2.1 50 = .ok (.putfield 25, 3) := by decide +kernel
theorem dM_init_53 : decode yM_init.2.1 53 = .ok (.aload_n 0, 1) := by decide +kernel
theorem dM_init_54 : decode yM_init.2.1 54 = .ok (.bipush 10, 2) := by decide +kernel
theorem dM_init_56 : decode yM_init.2.1 56 = .ok (.newarray .int, 2) := by decide +kernel
theorem dM_init_58 : decode yM_init.2.1 58 = .ok (.putfield 28, 3) := by decide +kernel
theorem dM_init_61 : decode yM_init.2.1 61 = .ok (.aload_n 0, 1) := by decide +kernel
theorem dM_init_62 : decode yM_init.2.1 62 = .ok (.bipush 96, 2) := by decide +kernel
theorem dM_init_64 : decode yM_init.2.1 64 = .ok (.newarray .int, 2) := by decide +kernel
theorem dM_init_66 : decode yM_init.2.1 66 = .ok (.putfield 31, 3) := by decide +kernel
theorem dM_init_69 : decode yM_init.2.1 69 = .ok (.aload_n 0, 1) := by decide +kernel
theorem dM_init_70 : decode yM_init.2.1 70 = .ok (.bipush 100, 2) := by decide +kernel
theorem dM_init_72 : decode yM_init.2.1 72 = .ok (.newarray .int, 2) := by decide +kernel
theorem dM_init_74 : decode yM_init.2.1 74 = .ok (.putfield 34, 3) := by decide +kernel
theorem dM_init_77 : decode yM_init.2.1 77 = .ok (.aload_n 0, 1) := by decide +kernel
theorem dM_init_78 : decode yM_init.2.1 78 = .ok (.bipush 9, 2) := by decide +kernel
theorem dM_init_80 : decode yM_init.2.1 80 = .ok (.newarray .int, 2) := by decide +kernel
theorem dM_init_82 : decode yM_init.2.1 82 = .ok (.dup, 1) := by decide +kernel
theorem dM_init_83 : decode yM_init.2.1 83 = .ok (.iconst 0, 1) := by decide +kernel
theorem dM_init_84 : decode yM_init.2.1 84 = .ok (.iconst (-1), 1) := by decide +kernel
theorem dM_init_85 : decode yM_init.2.1 85 = .ok (.iastore, 1) := by decide +kernel
theorem dM_init_86 : decode yM_init.2.1 86 = .ok (.dup, 1) := by decide +kernel
theorem dM_init_87 : decode yM_init.2.1 87 = .ok (.iconst 1, 1) := by decide +kernel
theorem dM_init_88 : decode yM_init.2.1 88 = .ok (.iconst (-1), 1) := by decide +kernel
theorem dM_init_89 : decode yM_init.2.1 89 = .ok (.iastore, 1) := by decide +kernel
theorem dM_init_90 : decode yM_init.2.1 90 = .ok (.dup, 1) := by decide +kernel
theorem dM_init_91 : decode yM_init.2.1 91 = .ok (.iconst 2, 1) := by decide +kernel
theorem dM_init_92 : decode yM_init.2.1 92 = .ok (.iconst (-1), 1) := by decide +kernel
theorem dM_init_93 : decode yM_init.2.1 93 = .ok (.iastore, 1) := by decide +kernel
theorem dM_init_94 : decode yM_init.2.1 94 = .ok (.dup, 1) := by decide +kernel
theorem dM_init_95 : decode yM_init.2.1 95 = .ok (.iconst 3, 1) := by decide +kernel
theorem dM_init_96 : decode yM_init.2.1 96 = .ok (.iconst (-1), 1) := by decide +kernel
theorem dM_init_97 : decode yM_init.2.1 97 = .ok (.iastore, 1) := by decide +kernel
theorem dM_init_98 : decode yM_init.2.1 98 = .ok (.dup, 1) := by decide +kernel
theorem dM_init_99 : decode yM_init.2.1 99 = .ok (.iconst 4, 1) := by decide +kernel
theorem dM_init_100 : decode yM_init.2.1 100 = .ok (.iconst (-1), 1) := by decide +kernel
theorem dM_init_101 : decode yM_init.2.1 101 = .ok (.iastore, 1) := by decide +kernel
theorem dM_init_102 : decode yM_init.2.1 102 = .ok (.dup, 1) := by decide +kernel
theorem dM_init_103 : decode yM_init.2.1 103 = .ok (.iconst 5, 1) := by decide +kernel
theorem dM_init_104 : decode yM_init.2.1 104 = .ok (.iconst (-1), 1) := by decide +kernel
theorem dM_init_105 : decode yM_init.2.1 105 = .ok (.iastore, 1) := by decide +kernel
theorem dM_init_106 : decode yM_init.2.1 106 = .ok (.dup, 1) := by decide +kernel
theorem dM_init_107 : decode yM_init.2.1 107 = .ok (.bipush 6, 2) := by decide +kernel
theorem dM_init_109 : decode yM_init.2.1 109 = .ok (.iconst (-1), 1) := by decide +kernel
theorem dM_init_110 : decode yM_init.2.1 110 = .ok (.iastore, 1) := by decide +kernel
theorem dM_init_111 : decode yM_init.2.1 111 = .ok (.dup, 1) := by decide +kernel
theorem dM_init_112 : decode yM_init.2.1 112 = .ok (.bipush 7, 2) := by decide +kernel
theorem dM_init_114 : decode yM_init.2.1 114 = .ok (.iconst (-1), 1) := by decide +kernel
theorem dM_init_115 : decode yM_init.2.1 115 = .ok (.iastore, 1) := by decide +kernel
theorem dM_init_116 : decode yM_init.2.1 116 = .ok (.dup, 1) := by decide +kernel
theorem dM_init_117 : decode yM_init.2.1 117 = .ok (.bipush 8, 2) := by decide +kernel
theorem dM_init_119 : decode yM_init.2.1 119 = .ok (.iconst (-1), 1) := by decide +kernel
theorem dM_init_120 : decode yM_init.2.1 120 = .ok (.iastore, 1) := by decide +kernel
theorem dM_init_121 : decode yM_init.2.1 121 = .ok (.putfield 37, 3) := by decide +kernel
theorem dM_init_124 : decode yM_init.2.1 124 = .ok (.aload_n 0, 1) := by decide +kernel
theorem dM_init_125 : decode yM_init.2.1 125 = .ok (.bipush 9, 2) := by decide +kernel
theorem dM_init_127 : decode yM_init.2.1 127 = .ok (.newarray .int, 2) := by decide +kernel
theorem dM_init_129 : decode yM_init.2.1 129 = .ok (.putfield 40, 3) := by decide +kernel
theorem dM_init_132 : decode yM_init.2.1 132 = .ok (.aload_n 0, 1) := by decide +kernel
theorem dM_init_133 : decode yM_init.2.1 133 = .ok (.sipush 216, 3) := by decide +kernel
theorem dM_init_136 : decode yM_init.2.1 136 = .ok (.newarray .int, 2) := by decide +kernel
theorem dM_init_138 : decode yM_init.2.1 138 = .ok (.putfield 43, 3) := by decide +kernel
theorem dM_init_141 : decode yM_init.2.1 141 = .ok (.aload_n 0, 1) := by decide +kernel
theorem dM_init_142 : decode yM_init.2.1 142 = .ok (.bipush 24, 2) := by decide +kernel
theorem dM_init_144 : decode yM_init.2.1 144 = .ok (.newarray .int, 2) := by decide +kernel
theorem dM_init_146 : decode yM_init.2.1 146 = .ok (.putfield 46, 3) := by decide +kernel
theorem dM_init_149 : decode yM_init.2.1 149 = .ok (.aload_n 0, 1) := by decide +kernel
theorem dM_init_150 : decode yM_init.2.1 150 = .ok (.iconst 5, 1) := by decide +kernel
theorem dM_init_151 : decode yM_init.2.1 151 = .ok (.newarray .int, 2) := by decide +kernel
theorem dM_init_153 : decode yM_init.2.1 153 = .ok (.putfield 49, 3) := by decide +kernel
theorem dM_init_156 : decode yM_init.2.1 156 = .ok (.aload_n 0, 1) := by decide +kernel
theorem dM_init_157 : decode yM_init.2.1 157 = .ok (.iconst 5, 1) := by decide +kernel
theorem dM_init_158 : decode yM_init.2.1 158 = .ok (.newarray .int, 2) := by decide +kernel
theorem dM_init_160 : decode yM_init.2.1 160 = .ok (.putfield 52, 3) := by decide +kernel
theorem dM_init_163 : decode yM_init.2.1 163 = .ok (.aload_n 0, 1) := by decide +kernel
theorem dM_init_164 : decode yM_init.2.1 164 = .ok (.bipush 20, 2) := by decide +kernel
theorem dM_init_166 : decode yM_init.2.1 166 = .ok (.newarray .int, 2) := by decide +kernel
theorem dM_init_168 : decode yM_init.2.1 168 = .ok (.putfield 55, 3) := by decide +kernel
theorem dM_init_171 : decode yM_init.2.1 171 = .ok (.aload_n 0, 1) := by decide +kernel
theorem dM_init_172 : decode yM_init.2.1 172 = .ok (.sipush 1510, 3) := by decide +kernel
theorem dM_init_175 : decode yM_init.2.1 175 = .ok (.newarray .int, 2) := by decide +kernel
theorem dM_init_177 : decode yM_init.2.1 177 = .ok (.putfield 58, 3) := by decide +kernel
theorem dM_init_180 : decode yM_init.2.1 180 = .ok (.aload_n 0, 1) := by decide +kernel
theorem dM_init_181 : decode yM_init.2.1 181 = .ok (.getfield 7, 3) := by decide +kernel
theorem dM_init_184 : decode yM_init.2.1 184 = .ok (.iconst 1, 1) := by decide +kernel
theorem dM_init_185 : decode yM_init.2.1 185 = .ok (.bipush 20, 2) := by decide +kernel
theorem dM_init_187 : decode yM_init.2.1 187 = .ok (.iastore, 1) := by decide +kernel
theorem dM_init_188 : decode yM_init.2.1 188 = .ok (.aload_n 0, 1) := by decide +kernel
theorem dM_init_189 : decode yM_init.2.1 189 = .ok (.getfield 7, 3) := by decide +kernel
theorem dM_init_192 : decode yM_init.2.1 192 = .ok (.bipush 7, 2) := by decide +kernel
theorem dM_init_194 : decode yM_init.2.1 194 = .ok (.iconst 1, 1) := by decide +kernel
theorem dM_init_195 : decode yM_init.2.1 195 = .ok (.iastore, 1) := by decide +kernel
theorem dM_init_196 : decode yM_init.2.1 196 = .ok (.iconst 0, 1) := by decide +kernel
theorem dM_init_197 : decode yM_init.2.1 197 = .ok (.istore_n 1, 1) := by decide +kernel
theorem dM_init_198 : decode yM_init.2.1 198 = .ok (.iload_n 1, 1) := by decide +kernel
theorem dM_init_199 : decode yM_init.2.1 199 = .ok (.bipush 6, 2) := by decide +kernel
theorem dM_init_201 : decode yM_init.2.1 201 = .ok (.if_icmp .ge 19, 3) := by decide +kernel
theorem dM_init_204 : decode yM_init.2.1 204 = .ok (.aload_n 0, 1) := by decide +kernel
theorem dM_init_205 : decode yM_init.2.1 205 = .ok (.getfield 7, 3) := by decide +kernel
theorem dM_init_208 : decode yM_init.2.1 208 = .ok (.bipush 8, 2) := by decide +kernel
theorem dM_init_210 : decode yM_init.2.1 210 = .ok (.iload_n 1, 1) := by decide +kernel
theorem dM_init_211 : decode yM_init.2.1 211 = .ok (.iadd, 1) := by decide +kernel
theorem dM_init_212 : decode yM_init.2.1 212 = .ok (.iconst 2, 1) := by decide +kernel
theorem dM_init_213 : decode yM_init.2.1 213 = .ok (.iastore, 1) := by decide +kernel
theorem dM_init_214 : decode yM_init.2.1 214 = .ok (.iinc 1 1, 3) := by decide +kernel
theorem dM_init_217 : decode yM_init.2.1 217 = .ok (.goto (-19), 3) := by decide +kernel
theorem dM_init_220 : decode yM_init.2.1 220 = .ok (.iconst 0, 1) := by decide +kernel
theorem dM_init_221 : decode yM_init.2.1 221 = .ok (.istore_n 1, 1) := by decide +kernel
theorem dM_init_222 : decode yM_init.2.1 222 = .ok (.iload_n 1, 1) := by decide +kernel
theorem dM_init_223 : decode yM_init.2.1 223 = .ok (.iconst 3, 1) := by decide +kernel
theorem dM_init_224 : decode yM_init.2.1 224 = .ok (.if_icmp .ge 19, 3) := by decide +kernel
theorem dM_init_227 : decode yM_init.2.1 227 = .ok (.aload_n 0, 1) := by decide +kernel
theorem dM_init_228 : decode yM_init.2.1 228 = .ok (.getfield 7, 3) := by decide +kernel
theorem dM_init_231 : decode yM_init.2.1 231 = .ok (.bipush 65, 2) := by decide +kernel
theorem dM_init_233 : decode yM_init.2.1 233 = .ok (.iload_n 1, 1) := by decide +kernel
theorem dM_init_234 : decode yM_init.2.1 234 = .ok (.iadd, 1) := by decide +kernel
theorem dM_init_235 : decode yM_init.2.1 235 = .ok (.iconst (-1), 1) := by decide +kernel
theorem dM_init_236 : decode yM_init.2.1 236 = .ok (.iastore, 1) := by decide +kernel
theorem dM_init_237 : decode yM_init.2.1 237 = .ok (.iinc 1 1, 3) := by decide +kernel
theorem dM_init_240 : decode yM_init.2.1 240 = .ok (.goto (-18), 3) := by decide +kernel
theorem dM_init_243 : decode yM_init.2.1 243 = .ok (.return_, 1) := by decide +kernel
theorem dM_fee_0 : decode yM_fee.2.1 0 = .ok (.aload_n 0, 1) := by decide +kernel
theorem dM_fee_1 : decode yM_fee.2.1 1 = .ok (.getfield 25, 3) := by decide +kernel
theorem dM_fee_4 : decode yM_fee.2.1 4 = .ok (.iconst 0, 1) := by decide +kernel
theorem dM_fee_5 : decode yM_fee.2.1 5 = .ok (.aload_n 0, 1) := by decide +kernel
theorem dM_fee_6 : decode yM_fee.2.1 6 = .ok (.getfield 7, 3) := by decide +kernel
theorem dM_fee_9 : decode yM_fee.2.1 9 = .ok (.iconst 3, 1) := by decide +kernel
theorem dM_fee_10 : decode yM_fee.2.1 10 = .ok (.iaload, 1) := by decide +kernel
theorem dM_fee_11 : decode yM_fee.2.1 11 = .ok (.iastore, 1) := by decide +kernel
theorem dM_fee_12 : decode yM_fee.2.1 12 = .ok (.aload_n 0, 1) := by decide +kernel
theorem dM_fee_13 : decode yM_fee.2.1 13 = .ok (.getfield 25, 3) := by decide +kernel
theorem dM_fee_16 : decode yM_fee.2.1 16 = .ok (.iconst 1, 1) := by decide +kernel
theorem dM_fee_17 : decode yM_fee.2.1 17 = .ok (.aload_n 0, 1) := by decide +kernel
theorem dM_fee_18 : decode yM_fee.2.1 18 = .ok (.getfield 7, 3) := by decide +kernel
theorem dM_fee_21 : decode yM_fee.2.1 21 = .ok (.iconst 4, 1) := by decide +kernel
theorem dM_fee_22 : decode yM_fee.2.1 22 = .ok (.iaload, 1) := by decide +kernel
theorem dM_fee_23 : decode yM_fee.2.1 23 = .ok (.iastore, 1) := by decide +kernel
theorem dM_fee_24 : decode yM_fee.2.1 24 = .ok (.aload_n 0, 1) := by decide +kernel
theorem dM_fee_25 : decode yM_fee.2.1 25 = .ok (.getfield 7, 3) := by decide +kernel
theorem dM_fee_28 : decode yM_fee.2.1 28 = .ok (.bipush 66, 2) := by decide +kernel
theorem dM_fee_30 : decode yM_fee.2.1 30 = .ok (.iaload, 1) := by decide +kernel
theorem dM_fee_31 : decode yM_fee.2.1 31 = .ok (.ifCond .ge 12, 3) := by decide +kernel
theorem dM_fee_34 : decode yM_fee.2.1 34 = .ok (.aload_n 0, 1) := by decide +kernel
theorem dM_fee_35 : decode yM_fee.2.1 35 = .ok (.getfield 7, 3) := by decide +kernel
theorem dM_fee_38 : decode yM_fee.2.1 38 = .ok (.iconst 3, 1) := by decide +kernel
theorem dM_fee_39 : decode yM_fee.2.1 39 = .ok (.iaload, 1) := by decide +kernel
theorem dM_fee_40 : decode yM_fee.2.1 40 = .ok (.goto 14, 3) := by decide +kernel
theorem dM_fee_43 : decode yM_fee.2.1 43 = .ok (.aload_n 0, 1) := by decide +kernel
theorem dM_fee_44 : decode yM_fee.2.1 44 = .ok (.aload_n 0, 1) := by decide +kernel
theorem dM_fee_45 : decode yM_fee.2.1 45 = .ok (.getfield 7, 3) := by decide +kernel
theorem dM_fee_48 : decode yM_fee.2.1 48 = .ok (.bipush 66, 2) := by decide +kernel
theorem dM_fee_50 : decode yM_fee.2.1 50 = .ok (.iaload, 1) := by decide +kernel
theorem dM_fee_51 : decode yM_fee.2.1 51 = .ok (.invokevirtual 86, 3) := by decide +kernel
theorem dM_fee_54 : decode yM_fee.2.1 54 = .ok (.ireturn, 1) := by decide +kernel
theorem dM_worked_0 : decode yM_worked.2.1 0 = .ok (.iconst 0, 1) := by decide +kernel
theorem dM_worked_1 : decode yM_worked.2.1 1 = .ok (.istore_n 2, 1) := by decide +kernel
theorem dM_worked_2 : decode yM_worked.2.1 2 = .ok (.iconst 0, 1) := by decide +kernel
theorem dM_worked_3 : decode yM_worked.2.1 3 = .ok (.istore_n 3, 1) := by decide +kernel
theorem dM_worked_4 : decode yM_worked.2.1 4 = .ok (.iload_n 3, 1) := by decide +kernel
theorem dM_worked_5 : decode yM_worked.2.1 5 = .ok (.aload_n 0, 1) := by decide +kernel
theorem dM_worked_6 : decode yM_worked.2.1 6 = .ok (.getfield 7, 3) := by decide +kernel
theorem dM_worked_9 : decode yM_worked.2.1 9 = .ok (.bipush 82, 2) := by decide +kernel
theorem dM_worked_11 : decode yM_worked.2.1 11 = .ok (.iload_n 1, 1) := by decide +kernel
theorem dM_worked_12 : decode yM_worked.2.1 12 = .ok (.iadd, 1) := by decide +kernel
theorem dM_worked_13 : decode yM_worked.2.1 13 = .ok (.iaload, 1) := by decide +kernel
theorem dM_worked_14 : decode yM_worked.2.1 14 = .ok (.if_icmp .ge 142, 3) := by decide +kernel
theorem dM_worked_17 : decode yM_worked.2.1 17 = .ok (.aload_n 0, 1) := by decide +kernel
theorem dM_worked_18 : decode yM_worked.2.1 18 = .ok (.getfield 7, 3) := by decide +kernel
theorem dM_worked_21 : decode yM_worked.2.1 21 = .ok (.bipush 110, 2) := by decide +kernel
theorem dM_worked_23 : decode yM_worked.2.1 23 = .ok (.bipush 100, 2) := by decide +kernel
theorem dM_worked_25 : decode yM_worked.2.1 25 = .ok (.iload_n 1, 1) := by decide +kernel
theorem dM_worked_26 : decode yM_worked.2.1 26 = .ok (.imul, 1) := by decide +kernel
theorem dM_worked_27 : decode yM_worked.2.1 27 = .ok (.iadd, 1) := by decide +kernel
theorem dM_worked_28 : decode yM_worked.2.1 28 = .ok (.iload_n 3, 1) := by decide +kernel
theorem dM_worked_29 : decode yM_worked.2.1 29 = .ok (.iadd, 1) := by decide +kernel
theorem dM_worked_30 : decode yM_worked.2.1 30 = .ok (.iaload, 1) := by decide +kernel
theorem dM_worked_31 : decode yM_worked.2.1 31 = .ok (.istore 4, 2) := by decide +kernel
theorem dM_worked_33 : decode yM_worked.2.1 33 = .ok (.iload 4, 2) := by decide +kernel
theorem dM_worked_35 : decode yM_worked.2.1 35 = .ok (.ifCond .lt 17, 3) := by decide +kernel
theorem dM_worked_38 : decode yM_worked.2.1 38 = .ok (.aload_n 0, 1) := by decide +kernel
theorem dM_worked_39 : decode yM_worked.2.1 39 = .ok (.getfield 22, 3) := by decide +kernel
theorem dM_worked_42 : decode yM_worked.2.1 42 = .ok (.iload_n 2, 1) := by decide +kernel
theorem dM_worked_43 : decode yM_worked.2.1 43 = .ok (.iload 4, 2) := by decide +kernel
theorem dM_worked_45 : decode yM_worked.2.1 45 = .ok (.iastore, 1) := by decide +kernel
theorem dM_worked_46 : decode yM_worked.2.1 46 = .ok (.iinc 2 1, 3) := by decide +kernel
theorem dM_worked_49 : decode yM_worked.2.1 49 = .ok (.goto 101, 3) := by decide +kernel
theorem dM_worked_52 : decode yM_worked.2.1 52 = .ok (.iload 4, 2) := by decide +kernel
theorem dM_worked_54 : decode yM_worked.2.1 54 = .ok (.bipush (-10), 2) := by decide +kernel
theorem dM_worked_56 : decode yM_worked.2.1 56 = .ok (.if_icmp .le 24, 3) := by decide +kernel
theorem dM_worked_59 : decode yM_worked.2.1 59 = .ok (.aload_n 0, 1) := by decide +kernel
theorem dM_worked_60 : decode yM_worked.2.1 60 = .ok (.getfield 22, 3) := by decide +kernel
theorem dM_worked_63 : decode yM_worked.2.1 63 = .ok (.iload_n 2, 1) := by decide +kernel
theorem dM_worked_64 : decode yM_worked.2.1 64 = .ok (.aload_n 0, 1) := by decide +kernel
theorem dM_worked_65 : decode yM_worked.2.1 65 = .ok (.getfield 25, 3) := by decide +kernel
theorem dM_worked_68 : decode yM_worked.2.1 68 = .ok (.iconst (-1), 1) := by decide +kernel
theorem dM_worked_69 : decode yM_worked.2.1 69 = .ok (.iload 4, 2) := by decide +kernel
theorem dM_worked_71 : decode yM_worked.2.1 71 = .ok (.isub, 1) := by decide +kernel
theorem dM_worked_72 : decode yM_worked.2.1 72 = .ok (.iaload, 1) := by decide +kernel
theorem dM_worked_73 : decode yM_worked.2.1 73 = .ok (.iastore, 1) := by decide +kernel
theorem dM_worked_74 : decode yM_worked.2.1 74 = .ok (.iinc 2 1, 3) := by decide +kernel
theorem dM_worked_77 : decode yM_worked.2.1 77 = .ok (.goto 73, 3) := by decide +kernel
theorem dM_worked_80 : decode yM_worked.2.1 80 = .ok (.iload 4, 2) := by decide +kernel
theorem dM_worked_82 : decode yM_worked.2.1 82 = .ok (.bipush (-43), 2) := by decide +kernel
theorem dM_worked_84 : decode yM_worked.2.1 84 = .ok (.if_icmp .ne 33, 3) := by decide +kernel
theorem dM_worked_87 : decode yM_worked.2.1 87 = .ok (.aload_n 0, 1) := by decide +kernel
theorem dM_worked_88 : decode yM_worked.2.1 88 = .ok (.getfield 22, 3) := by decide +kernel
theorem dM_worked_91 : decode yM_worked.2.1 91 = .ok (.iload_n 2, 1) := by decide +kernel
theorem dM_worked_92 : decode yM_worked.2.1 92 = .ok (.iconst 1, 1) := by decide +kernel
theorem dM_worked_93 : decode yM_worked.2.1 93 = .ok (.isub, 1) := by decide +kernel
theorem dM_worked_94 : decode yM_worked.2.1 94 = .ok (.aload_n 0, 1) := by decide +kernel
theorem dM_worked_95 : decode yM_worked.2.1 95 = .ok (.getfield 22, 3) := by decide +kernel
theorem dM_worked_98 : decode yM_worked.2.1 98 = .ok (.iload_n 2, 1) := by decide +kernel
theorem dM_worked_99 : decode yM_worked.2.1 99 = .ok (.iconst 1, 1) := by decide +kernel
theorem dM_worked_100 : decode yM_worked.2.1 100 = .ok (.isub, 1) := by decide +kernel
theorem dM_worked_101 : decode yM_worked.2.1 101 = .ok (.iaload, 1) := by decide +kernel
theorem dM_worked_102 : decode yM_worked.2.1 102 = .ok (.ifCond .ne 7, 3) := by decide +kernel
theorem dM_worked_105 : decode yM_worked.2.1 105 = .ok (.iconst 1, 1) := by decide +kernel
theorem dM_worked_106 : decode yM_worked.2.1 106 = .ok (.goto 4, 3) := by decide +kernel
theorem dM_worked_109 : decode yM_worked.2.1 109 = .ok (.iconst 0, 1) := by decide +kernel
theorem dM_worked_110 : decode yM_worked.2.1 110 = .ok (.invokestatic 71, 3) := by decide +kernel
theorem dM_worked_113 : decode yM_worked.2.1 113 = .ok (.iastore, 1) := by decide +kernel
theorem dM_worked_114 : decode yM_worked.2.1 114 = .ok (.goto 36, 3) := by decide +kernel
theorem dM_worked_117 : decode yM_worked.2.1 117 = .ok (.iinc 2 (-1), 3) := by decide +kernel
theorem dM_worked_120 : decode yM_worked.2.1 120 = .ok (.aload_n 0, 1) := by decide +kernel
theorem dM_worked_121 : decode yM_worked.2.1 121 = .ok (.getfield 22, 3) := by decide +kernel
theorem dM_worked_124 : decode yM_worked.2.1 124 = .ok (.iload_n 2, 1) := by decide +kernel
theorem dM_worked_125 : decode yM_worked.2.1 125 = .ok (.iconst 1, 1) := by decide +kernel
theorem dM_worked_126 : decode yM_worked.2.1 126 = .ok (.isub, 1) := by decide +kernel
theorem dM_worked_127 : decode yM_worked.2.1 127 = .ok (.bipush (-10), 2) := by decide +kernel
theorem dM_worked_129 : decode yM_worked.2.1 129 = .ok (.iload 4, 2) := by decide +kernel
theorem dM_worked_131 : decode yM_worked.2.1 131 = .ok (.isub, 1) := by decide +kernel
theorem dM_worked_132 : decode yM_worked.2.1 132 = .ok (.aload_n 0, 1) := by decide +kernel
theorem dM_worked_133 : decode yM_worked.2.1 133 = .ok (.getfield 22, 3) := by decide +kernel
theorem dM_worked_136 : decode yM_worked.2.1 136 = .ok (.iload_n 2, 1) := by decide +kernel
theorem dM_worked_137 : decode yM_worked.2.1 137 = .ok (.iconst 1, 1) := by decide +kernel
theorem dM_worked_138 : decode yM_worked.2.1 138 = .ok (.isub, 1) := by decide +kernel
theorem dM_worked_139 : decode yM_worked.2.1 139 = .ok (.iaload, 1) := by decide +kernel
theorem dM_worked_140 : decode yM_worked.2.1 140 = .ok (.aload_n 0, 1) := by decide +kernel
theorem dM_worked_141 : decode yM_worked.2.1 141 = .ok (.getfield 22, 3) := by decide +kernel
theorem dM_worked_144 : decode yM_worked.2.1 144 = .ok (.iload_n 2, 1) := by decide +kernel
theorem dM_worked_145 : decode yM_worked.2.1 145 = .ok (.iaload, 1) := by decide +kernel
theorem dM_worked_146 : decode yM_worked.2.1 146 = .ok (.invokestatic 75, 3) := by decide +kernel
theorem dM_worked_149 : decode yM_worked.2.1 149 = .ok (.iastore, 1) := by decide +kernel
theorem dM_worked_150 : decode yM_worked.2.1 150 = .ok (.iinc 3 1, 3) := by decide +kernel
theorem dM_worked_153 : decode yM_worked.2.1 153 = .ok (.goto (-149), 3) := by decide +kernel
theorem dM_worked_156 : decode yM_worked.2.1 156 = .ok (.aload_n 0, 1) := by decide +kernel
theorem dM_worked_157 : decode yM_worked.2.1 157 = .ok (.getfield 22, 3) := by decide +kernel
theorem dM_worked_160 : decode yM_worked.2.1 160 = .ok (.iconst 0, 1) := by decide +kernel
theorem dM_worked_161 : decode yM_worked.2.1 161 = .ok (.iaload, 1) := by decide +kernel
theorem dM_worked_162 : decode yM_worked.2.1 162 = .ok (.ireturn, 1) := by decide +kernel
theorem dM_truth_0 : decode yM_truth.2.1 0 = .ok (.iload_n 0, 1) := by decide +kernel
theorem dM_truth_1 : decode yM_truth.2.1 1 = .ok (.ifCond .eq 7, 3) := by decide +kernel
theorem dM_truth_4 : decode yM_truth.2.1 4 = .ok (.iconst 1, 1) := by decide +kernel
theorem dM_truth_5 : decode yM_truth.2.1 5 = .ok (.goto 4, 3) := by decide +kernel
theorem dM_truth_8 : decode yM_truth.2.1 8 = .ok (.iconst 0, 1) := by decide +kernel
theorem dM_truth_9 : decode yM_truth.2.1 9 = .ok (.ireturn, 1) := by decide +kernel
theorem dM_two_0 : decode yM_two.2.1 0 = .ok (.iload_n 0, 1) := by decide +kernel
theorem dM_two_1 : decode yM_two.2.1 1 = .ok (.lookupswitch 163 #[(38, 92), (42, 159), (43, 151), (45, 155), (60, 109), (61, 123), (62, 137), (124, 75)], 75) := by decide +kernel
theorem dM_two_76 : decode yM_two.2.1 76 = .ok (.iload_n 1, 1) := by decide +kernel
theorem dM_two_77 : decode yM_two.2.1 77 = .ok (.ifCond .ne 7, 3) := by decide +kernel
theorem dM_two_80 : decode yM_two.2.1 80 = .ok (.iload_n 2, 1) := by decide +kernel
theorem dM_two_81 : decode yM_two.2.1 81 = .ok (.ifCond .eq 7, 3) := by decide +kernel
theorem dM_two_84 : decode yM_two.2.1 84 = .ok (.iconst 1, 1) := by decide +kernel
theorem dM_two_85 : decode yM_two.2.1 85 = .ok (.goto 4, 3) := by decide +kernel
theorem dM_two_88 : decode yM_two.2.1 88 = .ok (.iconst 0, 1) := by decide +kernel
theorem dM_two_89 : decode yM_two.2.1 89 = .ok (.invokestatic 71, 3) := by decide +kernel
theorem dM_two_92 : decode yM_two.2.1 92 = .ok (.ireturn, 1) := by decide +kernel
theorem dM_two_93 : decode yM_two.2.1 93 = .ok (.iload_n 1, 1) := by decide +kernel
theorem dM_two_94 : decode yM_two.2.1 94 = .ok (.ifCond .eq 11, 3) := by decide +kernel
theorem dM_two_97 : decode yM_two.2.1 97 = .ok (.iload_n 2, 1) := by decide +kernel
theorem dM_two_98 : decode yM_two.2.1 98 = .ok (.ifCond .eq 7, 3) := by decide +kernel
theorem dM_two_101 : decode yM_two.2.1 101 = .ok (.iconst 1, 1) := by decide +kernel
theorem dM_two_102 : decode yM_two.2.1 102 = .ok (.goto 4, 3) := by decide +kernel
theorem dM_two_105 : decode yM_two.2.1 105 = .ok (.iconst 0, 1) := by decide +kernel
theorem dM_two_106 : decode yM_two.2.1 106 = .ok (.invokestatic 71, 3) := by decide +kernel
theorem dM_two_109 : decode yM_two.2.1 109 = .ok (.ireturn, 1) := by decide +kernel
theorem dM_two_110 : decode yM_two.2.1 110 = .ok (.iload_n 1, 1) := by decide +kernel
theorem dM_two_111 : decode yM_two.2.1 111 = .ok (.iload_n 2, 1) := by decide +kernel
theorem dM_two_112 : decode yM_two.2.1 112 = .ok (.if_icmp .ge 7, 3) := by decide +kernel
theorem dM_two_115 : decode yM_two.2.1 115 = .ok (.iconst 1, 1) := by decide +kernel
theorem dM_two_116 : decode yM_two.2.1 116 = .ok (.goto 4, 3) := by decide +kernel
theorem dM_two_119 : decode yM_two.2.1 119 = .ok (.iconst 0, 1) := by decide +kernel
theorem dM_two_120 : decode yM_two.2.1 120 = .ok (.invokestatic 71, 3) := by decide +kernel
theorem dM_two_123 : decode yM_two.2.1 123 = .ok (.ireturn, 1) := by decide +kernel
theorem dM_two_124 : decode yM_two.2.1 124 = .ok (.iload_n 1, 1) := by decide +kernel
theorem dM_two_125 : decode yM_two.2.1 125 = .ok (.iload_n 2, 1) := by decide +kernel
theorem dM_two_126 : decode yM_two.2.1 126 = .ok (.if_icmp .ne 7, 3) := by decide +kernel
theorem dM_two_129 : decode yM_two.2.1 129 = .ok (.iconst 1, 1) := by decide +kernel
theorem dM_two_130 : decode yM_two.2.1 130 = .ok (.goto 4, 3) := by decide +kernel
theorem dM_two_133 : decode yM_two.2.1 133 = .ok (.iconst 0, 1) := by decide +kernel
theorem dM_two_134 : decode yM_two.2.1 134 = .ok (.invokestatic 71, 3) := by decide +kernel
theorem dM_two_137 : decode yM_two.2.1 137 = .ok (.ireturn, 1) := by decide +kernel
theorem dM_two_138 : decode yM_two.2.1 138 = .ok (.iload_n 1, 1) := by decide +kernel
theorem dM_two_139 : decode yM_two.2.1 139 = .ok (.iload_n 2, 1) := by decide +kernel
theorem dM_two_140 : decode yM_two.2.1 140 = .ok (.if_icmp .le 7, 3) := by decide +kernel
theorem dM_two_143 : decode yM_two.2.1 143 = .ok (.iconst 1, 1) := by decide +kernel
theorem dM_two_144 : decode yM_two.2.1 144 = .ok (.goto 4, 3) := by decide +kernel
theorem dM_two_147 : decode yM_two.2.1 147 = .ok (.iconst 0, 1) := by decide +kernel
theorem dM_two_148 : decode yM_two.2.1 148 = .ok (.invokestatic 71, 3) := by decide +kernel
theorem dM_two_151 : decode yM_two.2.1 151 = .ok (.ireturn, 1) := by decide +kernel
theorem dM_two_152 : decode yM_two.2.1 152 = .ok (.iload_n 1, 1) := by decide +kernel
theorem dM_two_153 : decode yM_two.2.1 153 = .ok (.iload_n 2, 1) := by decide +kernel
theorem dM_two_154 : decode yM_two.2.1 154 = .ok (.iadd, 1) := by decide +kernel
theorem dM_two_155 : decode yM_two.2.1 155 = .ok (.ireturn, 1) := by decide +kernel
theorem dM_two_156 : decode yM_two.2.1 156 = .ok (.iload_n 1, 1) := by decide +kernel
theorem dM_two_157 : decode yM_two.2.1 157 = .ok (.iload_n 2, 1) := by decide +kernel
theorem dM_two_158 : decode yM_two.2.1 158 = .ok (.isub, 1) := by decide +kernel
theorem dM_two_159 : decode yM_two.2.1 159 = .ok (.ireturn, 1) := by decide +kernel
theorem dM_two_160 : decode yM_two.2.1 160 = .ok (.iload_n 1, 1) := by decide +kernel
theorem dM_two_161 : decode yM_two.2.1 161 = .ok (.iload_n 2, 1) := by decide +kernel
theorem dM_two_162 : decode yM_two.2.1 162 = .ok (.imul, 1) := by decide +kernel
theorem dM_two_163 : decode yM_two.2.1 163 = .ok (.ireturn, 1) := by decide +kernel
theorem dM_two_164 : decode yM_two.2.1 164 = .ok (.iload_n 2, 1) := by decide +kernel
theorem dM_two_165 : decode yM_two.2.1 165 = .ok (.ifCond .ne 7, 3) := by decide +kernel
theorem dM_two_168 : decode yM_two.2.1 168 = .ok (.iconst 0, 1) := by decide +kernel
theorem dM_two_169 : decode yM_two.2.1 169 = .ok (.goto 6, 3) := by decide +kernel
theorem dM_two_172 : decode yM_two.2.1 172 = .ok (.iload_n 1, 1) := by decide +kernel
theorem dM_two_173 : decode yM_two.2.1 173 = .ok (.iload_n 2, 1) := by decide +kernel
theorem dM_two_174 : decode yM_two.2.1 174 = .ok (.idiv, 1) := by decide +kernel
theorem dM_two_175 : decode yM_two.2.1 175 = .ok (.ireturn, 1) := by decide +kernel
theorem dM_fine_0 : decode yM_fine.2.1 0 = .ok (.aload_n 0, 1) := by decide +kernel
theorem dM_fine_1 : decode yM_fine.2.1 1 = .ok (.iload_n 1, 1) := by decide +kernel
theorem dM_fine_2 : decode yM_fine.2.1 2 = .ok (.invokevirtual 92, 3) := by decide +kernel
theorem dM_fine_5 : decode yM_fine.2.1 5 = .ok (.ifCond .ne 6, 3) := by decide +kernel
theorem dM_fine_8 : decode yM_fine.2.1 8 = .ok (.ldc 96, 2) := by decide +kernel
theorem dM_fine_10 : decode yM_fine.2.1 10 = .ok (.ireturn, 1) := by decide +kernel
theorem dM_fine_11 : decode yM_fine.2.1 11 = .ok (.aload_n 0, 1) := by decide +kernel
theorem dM_fine_12 : decode yM_fine.2.1 12 = .ok (.getfield 25, 3) := by decide +kernel
theorem dM_fine_15 : decode yM_fine.2.1 15 = .ok (.iconst 0, 1) := by decide +kernel
theorem dM_fine_16 : decode yM_fine.2.1 16 = .ok (.aload_n 0, 1) := by decide +kernel
theorem dM_fine_17 : decode yM_fine.2.1 17 = .ok (.iload_n 1, 1) := by decide +kernel
theorem dM_fine_18 : decode yM_fine.2.1 18 = .ok (.iconst 1, 1) := by decide +kernel
theorem dM_fine_19 : decode yM_fine.2.1 19 = .ok (.invokevirtual 79, 3) := by decide +kernel
theorem dM_fine_22 : decode yM_fine.2.1 22 = .ok (.iastore, 1) := by decide +kernel
theorem dM_fine_23 : decode yM_fine.2.1 23 = .ok (.aload_n 0, 1) := by decide +kernel
theorem dM_fine_24 : decode yM_fine.2.1 24 = .ok (.getfield 25, 3) := by decide +kernel
theorem dM_fine_27 : decode yM_fine.2.1 27 = .ok (.iconst 1, 1) := by decide +kernel
theorem dM_fine_28 : decode yM_fine.2.1 28 = .ok (.aload_n 0, 1) := by decide +kernel
theorem dM_fine_29 : decode yM_fine.2.1 29 = .ok (.iload_n 1, 1) := by decide +kernel
theorem dM_fine_30 : decode yM_fine.2.1 30 = .ok (.iconst 4, 1) := by decide +kernel
theorem dM_fine_31 : decode yM_fine.2.1 31 = .ok (.invokevirtual 79, 3) := by decide +kernel
theorem dM_fine_34 : decode yM_fine.2.1 34 = .ok (.iastore, 1) := by decide +kernel
theorem dM_fine_35 : decode yM_fine.2.1 35 = .ok (.aload_n 0, 1) := by decide +kernel
theorem dM_fine_36 : decode yM_fine.2.1 36 = .ok (.getfield 7, 3) := by decide +kernel
theorem dM_fine_39 : decode yM_fine.2.1 39 = .ok (.bipush 67, 2) := by decide +kernel
theorem dM_fine_41 : decode yM_fine.2.1 41 = .ok (.iaload, 1) := by decide +kernel
theorem dM_fine_42 : decode yM_fine.2.1 42 = .ok (.ifCond .ge 12, 3) := by decide +kernel
theorem dM_fine_45 : decode yM_fine.2.1 45 = .ok (.aload_n 0, 1) := by decide +kernel
theorem dM_fine_46 : decode yM_fine.2.1 46 = .ok (.iload_n 1, 1) := by decide +kernel
theorem dM_fine_47 : decode yM_fine.2.1 47 = .ok (.iconst 1, 1) := by decide +kernel
theorem dM_fine_48 : decode yM_fine.2.1 48 = .ok (.invokevirtual 79, 3) := by decide +kernel
theorem dM_fine_51 : decode yM_fine.2.1 51 = .ok (.goto 14, 3) := by decide +kernel
theorem dM_fine_54 : decode yM_fine.2.1 54 = .ok (.aload_n 0, 1) := by decide +kernel
theorem dM_fine_55 : decode yM_fine.2.1 55 = .ok (.aload_n 0, 1) := by decide +kernel
theorem dM_fine_56 : decode yM_fine.2.1 56 = .ok (.getfield 7, 3) := by decide +kernel
theorem dM_fine_59 : decode yM_fine.2.1 59 = .ok (.bipush 67, 2) := by decide +kernel
theorem dM_fine_61 : decode yM_fine.2.1 61 = .ok (.iaload, 1) := by decide +kernel
theorem dM_fine_62 : decode yM_fine.2.1 62 = .ok (.invokevirtual 86, 3) := by decide +kernel
theorem dM_fine_65 : decode yM_fine.2.1 65 = .ok (.ireturn, 1) := by decide +kernel
theorem dM_isGoose_0 : decode yM_isGoose.2.1 0 = .ok (.iload_n 1, 1) := by decide +kernel
theorem dM_isGoose_1 : decode yM_isGoose.2.1 1 = .ok (.i2l, 1) := by decide +kernel
theorem dM_isGoose_2 : decode yM_isGoose.2.1 2 = .ok (.lconst 0, 1) := by decide +kernel
theorem dM_isGoose_3 : decode yM_isGoose.2.1 3 = .ok (.aload_n 0, 1) := by decide +kernel
theorem dM_isGoose_4 : decode yM_isGoose.2.1 4 = .ok (.getfield 7, 3) := by decide +kernel
theorem dM_isGoose_7 : decode yM_isGoose.2.1 7 = .ok (.iconst 0, 1) := by decide +kernel
theorem dM_isGoose_8 : decode yM_isGoose.2.1 8 = .ok (.iaload, 1) := by decide +kernel
theorem dM_isGoose_9 : decode yM_isGoose.2.1 9 = .ok (.iconst 1, 1) := by decide +kernel
theorem dM_isGoose_10 : decode yM_isGoose.2.1 10 = .ok (.isub, 1) := by decide +kernel
theorem dM_isGoose_11 : decode yM_isGoose.2.1 11 = .ok (.i2l, 1) := by decide +kernel
theorem dM_isGoose_12 : decode yM_isGoose.2.1 12 = .ok (.invokestatic 65, 3) := by decide +kernel
theorem dM_isGoose_15 : decode yM_isGoose.2.1 15 = .ok (.ireturn, 1) := by decide +kernel
theorem dM_in_0 : decode yM_in.2.1 0 = .ok (.lload_n 0, 1) := by decide +kernel
theorem dM_in_1 : decode yM_in.2.1 1 = .ok (.lload_n 2, 1) := by decide +kernel
theorem dM_in_2 : decode yM_in.2.1 2 = .ok (.lcmp, 1) := by decide +kernel
theorem dM_in_3 : decode yM_in.2.1 3 = .ok (.ifCond .lt 14, 3) := by decide +kernel
theorem dM_in_6 : decode yM_in.2.1 6 = .ok (.lload_n 0, 1) := by decide +kernel
theorem dM_in_7 : decode yM_in.2.1 7 = .ok (.lload 4, 2) := by decide +kernel
theorem dM_in_9 : decode yM_in.2.1 9 = .ok (.lcmp, 1) := by decide +kernel
theorem dM_in_10 : decode yM_in.2.1 10 = .ok (.ifCond .gt 7, 3) := by decide +kernel
theorem dM_in_13 : decode yM_in.2.1 13 = .ok (.iconst 1, 1) := by decide +kernel
theorem dM_in_14 : decode yM_in.2.1 14 = .ok (.goto 4, 3) := by decide +kernel
theorem dM_in_17 : decode yM_in.2.1 17 = .ok (.iconst 0, 1) := by decide +kernel
theorem dM_in_18 : decode yM_in.2.1 18 = .ok (.ireturn, 1) := by decide +kernel
theorem dM_its_0 : decode yM_its.2.1 0 = .ok (.aload_n 0, 1) := by decide +kernel
theorem dM_its_1 : decode yM_its.2.1 1 = .ok (.getfield 7, 3) := by decide +kernel
theorem dM_its_4 : decode yM_its.2.1 4 = .ok (.iload_n 1, 1) := by decide +kernel
theorem dM_its_5 : decode yM_its.2.1 5 = .ok (.iload_n 2, 1) := by decide +kernel
theorem dM_its_6 : decode yM_its.2.1 6 = .ok (.invokestatic 61, 3) := by decide +kernel
theorem dM_its_9 : decode yM_its.2.1 9 = .ok (.iaload, 1) := by decide +kernel
theorem dM_its_10 : decode yM_its.2.1 10 = .ok (.ireturn, 1) := by decide +kernel
theorem dM_spot_0 : decode yM_spot.2.1 0 = .ok (.bipush 14, 2) := by decide +kernel
theorem dM_spot_2 : decode yM_spot.2.1 2 = .ok (.iconst 5, 1) := by decide +kernel
theorem dM_spot_3 : decode yM_spot.2.1 3 = .ok (.iload_n 0, 1) := by decide +kernel
theorem dM_spot_4 : decode yM_spot.2.1 4 = .ok (.imul, 1) := by decide +kernel
theorem dM_spot_5 : decode yM_spot.2.1 5 = .ok (.iadd, 1) := by decide +kernel
theorem dM_spot_6 : decode yM_spot.2.1 6 = .ok (.iload_n 1, 1) := by decide +kernel
theorem dM_spot_7 : decode yM_spot.2.1 7 = .ok (.iadd, 1) := by decide +kernel
theorem dM_spot_8 : decode yM_spot.2.1 8 = .ok (.ireturn, 1) := by decide +kernel
theorem dM_goose_0 : decode yM_goose.2.1 0 = .ok (.iload_n 1, 1) := by decide +kernel
theorem dM_goose_1 : decode yM_goose.2.1 1 = .ok (.invokestatic 100, 3) := by decide +kernel
theorem dM_goose_4 : decode yM_goose.2.1 4 = .ok (.ifCond .eq 35, 3) := by decide +kernel
theorem dM_goose_7 : decode yM_goose.2.1 7 = .ok (.iload_n 2, 1) := by decide +kernel
theorem dM_goose_8 : decode yM_goose.2.1 8 = .ok (.i2l, 1) := by decide +kernel
theorem dM_goose_9 : decode yM_goose.2.1 9 = .ok (.lconst 0, 1) := by decide +kernel
theorem dM_goose_10 : decode yM_goose.2.1 10 = .ok (.ldc2_w 103, 3) := by decide +kernel
theorem dM_goose_13 : decode yM_goose.2.1 13 = .ok (.invokestatic 65, 3) := by decide +kernel
theorem dM_goose_16 : decode yM_goose.2.1 16 = .ok (.ifCond .eq 23, 3) := by decide +kernel
theorem dM_goose_19 : decode yM_goose.2.1 19 = .ok (.iload_n 3, 1) := by decide +kernel
theorem dM_goose_20 : decode yM_goose.2.1 20 = .ok (.i2l, 1) := by decide +kernel
theorem dM_goose_21 : decode yM_goose.2.1 21 = .ok (.lconst 0, 1) := by decide +kernel
theorem dM_goose_22 : decode yM_goose.2.1 22 = .ok (.ldc2_w 103, 3) := by decide +kernel
theorem dM_goose_25 : decode yM_goose.2.1 25 = .ok (.invokestatic 65, 3) := by decide +kernel
theorem dM_goose_28 : decode yM_goose.2.1 28 = .ok (.ifCond .eq 11, 3) := by decide +kernel
theorem dM_goose_31 : decode yM_goose.2.1 31 = .ok (.iload 4, 2) := by decide +kernel
theorem dM_goose_33 : decode yM_goose.2.1 33 = .ok (.invokestatic 105, 3) := by decide +kernel
theorem dM_goose_36 : decode yM_goose.2.1 36 = .ok (.ifCond .ne 6, 3) := by decide +kernel
theorem dM_goose_39 : decode yM_goose.2.1 39 = .ok (.ldc 96, 2) := by decide +kernel
theorem dM_goose_41 : decode yM_goose.2.1 41 = .ok (.ireturn, 1) := by decide +kernel
theorem dM_goose_42 : decode yM_goose.2.1 42 = .ok (.aload_n 0, 1) := by decide +kernel
theorem dM_goose_43 : decode yM_goose.2.1 43 = .ok (.getfield 7, 3) := by decide +kernel
theorem dM_goose_46 : decode yM_goose.2.1 46 = .ok (.iconst 0, 1) := by decide +kernel
theorem dM_goose_47 : decode yM_goose.2.1 47 = .ok (.iaload, 1) := by decide +kernel
theorem dM_goose_48 : decode yM_goose.2.1 48 = .ok (.bipush 10, 2) := by decide +kernel
theorem dM_goose_50 : decode yM_goose.2.1 50 = .ok (.if_icmp .ne 8, 3) := by decide +kernel
theorem dM_goose_53 : decode yM_goose.2.1 53 = .ok (.ldc 108, 2) := by decide +kernel
theorem dM_goose_55 : decode yM_goose.2.1 55 = .ok (.goto 12, 3) := by decide +kernel
theorem dM_goose_58 : decode yM_goose.2.1 58 = .ok (.aload_n 0, 1) := by decide +kernel
theorem dM_goose_59 : decode yM_goose.2.1 59 = .ok (.iload_n 1, 1) := by decide +kernel
theorem dM_goose_60 : decode yM_goose.2.1 60 = .ok (.iload_n 2, 1) := by decide +kernel
theorem dM_goose_61 : decode yM_goose.2.1 61 = .ok (.iload_n 3, 1) := by decide +kernel
theorem dM_goose_62 : decode yM_goose.2.1 62 = .ok (.iload 4, 2) := by decide +kernel
theorem dM_goose_64 : decode yM_goose.2.1 64 = .ok (.invokevirtual 109, 3) := by decide +kernel
theorem dM_goose_67 : decode yM_goose.2.1 67 = .ok (.ireturn, 1) := by decide +kernel
theorem dM_isKind_0 : decode yM_isKind.2.1 0 = .ok (.iload_n 0, 1) := by decide +kernel
theorem dM_isKind_1 : decode yM_isKind.2.1 1 = .ok (.i2l, 1) := by decide +kernel
theorem dM_isKind_2 : decode yM_isKind.2.1 2 = .ok (.lconst 0, 1) := by decide +kernel
theorem dM_isKind_3 : decode yM_isKind.2.1 3 = .ok (.ldc2_w 69, 3) := by decide +kernel
theorem dM_isKind_6 : decode yM_isKind.2.1 6 = .ok (.invokestatic 65, 3) := by decide +kernel
theorem dM_isKind_9 : decode yM_isKind.2.1 9 = .ok (.ireturn, 1) := by decide +kernel
theorem dM_isYard_0 : decode yM_isYard.2.1 0 = .ok (.iload_n 0, 1) := by decide +kernel
theorem dM_isYard_1 : decode yM_isYard.2.1 1 = .ok (.i2l, 1) := by decide +kernel
theorem dM_isYard_2 : decode yM_isYard.2.1 2 = .ok (.lconst 0, 1) := by decide +kernel
theorem dM_isYard_3 : decode yM_isYard.2.1 3 = .ok (.ldc2_w 69, 3) := by decide +kernel
theorem dM_isYard_6 : decode yM_isYard.2.1 6 = .ok (.invokestatic 65, 3) := by decide +kernel
theorem dM_isYard_9 : decode yM_isYard.2.1 9 = .ok (.ireturn, 1) := by decide +kernel
theorem dM_adds_0 : decode yM_adds.2.1 0 = .ok (.aload_n 0, 1) := by decide +kernel
theorem dM_adds_1 : decode yM_adds.2.1 1 = .ok (.getfield 7, 3) := by decide +kernel
theorem dM_adds_4 : decode yM_adds.2.1 4 = .ok (.iconst 0, 1) := by decide +kernel
theorem dM_adds_5 : decode yM_adds.2.1 5 = .ok (.iaload, 1) := by decide +kernel
theorem dM_adds_6 : decode yM_adds.2.1 6 = .ok (.istore 5, 2) := by decide +kernel
theorem dM_adds_8 : decode yM_adds.2.1 8 = .ok (.aload_n 0, 1) := by decide +kernel
theorem dM_adds_9 : decode yM_adds.2.1 9 = .ok (.getfield 7, 3) := by decide +kernel
theorem dM_adds_12 : decode yM_adds.2.1 12 = .ok (.iconst 0, 1) := by decide +kernel
theorem dM_adds_13 : decode yM_adds.2.1 13 = .ok (.dup2, 1) := by decide +kernel
theorem dM_adds_14 : decode yM_adds.2.1 14 = .ok (.iaload, 1) := by decide +kernel
theorem dM_adds_15 : decode yM_adds.2.1 15 = .ok (.iconst 1, 1) := by decide +kernel
theorem dM_adds_16 : decode yM_adds.2.1 16 = .ok (.iadd, 1) := by decide +kernel
theorem dM_adds_17 : decode yM_adds.2.1 17 = .ok (.iastore, 1) := by decide +kernel
theorem dM_adds_18 : decode yM_adds.2.1 18 = .ok (.aload_n 0, 1) := by decide +kernel
theorem dM_adds_19 : decode yM_adds.2.1 19 = .ok (.getfield 7, 3) := by decide +kernel
theorem dM_adds_22 : decode yM_adds.2.1 22 = .ok (.iload 5, 2) := by decide +kernel
theorem dM_adds_24 : decode yM_adds.2.1 24 = .ok (.iconst 0, 1) := by decide +kernel
theorem dM_adds_25 : decode yM_adds.2.1 25 = .ok (.invokestatic 61, 3) := by decide +kernel
theorem dM_adds_28 : decode yM_adds.2.1 28 = .ok (.iload_n 1, 1) := by decide +kernel
theorem dM_adds_29 : decode yM_adds.2.1 29 = .ok (.iastore, 1) := by decide +kernel
theorem dM_adds_30 : decode yM_adds.2.1 30 = .ok (.aload_n 0, 1) := by decide +kernel
theorem dM_adds_31 : decode yM_adds.2.1 31 = .ok (.getfield 7, 3) := by decide +kernel
theorem dM_adds_34 : decode yM_adds.2.1 34 = .ok (.iload 5, 2) := by decide +kernel
theorem dM_adds_36 : decode yM_adds.2.1 36 = .ok (.iconst 1, 1) := by decide +kernel
theorem dM_adds_37 : decode yM_adds.2.1 37 = .ok (.invokestatic 61, 3) := by decide +kernel
theorem dM_adds_40 : decode yM_adds.2.1 40 = .ok (.iload_n 2, 1) := by decide +kernel
theorem dM_adds_41 : decode yM_adds.2.1 41 = .ok (.iastore, 1) := by decide +kernel
theorem dM_adds_42 : decode yM_adds.2.1 42 = .ok (.aload_n 0, 1) := by decide +kernel
theorem dM_adds_43 : decode yM_adds.2.1 43 = .ok (.getfield 7, 3) := by decide +kernel
theorem dM_adds_46 : decode yM_adds.2.1 46 = .ok (.iload 5, 2) := by decide +kernel
theorem dM_adds_48 : decode yM_adds.2.1 48 = .ok (.iconst 2, 1) := by decide +kernel
theorem dM_adds_49 : decode yM_adds.2.1 49 = .ok (.invokestatic 61, 3) := by decide +kernel
theorem dM_adds_52 : decode yM_adds.2.1 52 = .ok (.iload_n 3, 1) := by decide +kernel
theorem dM_adds_53 : decode yM_adds.2.1 53 = .ok (.iastore, 1) := by decide +kernel
theorem dM_adds_54 : decode yM_adds.2.1 54 = .ok (.aload_n 0, 1) := by decide +kernel
theorem dM_adds_55 : decode yM_adds.2.1 55 = .ok (.getfield 7, 3) := by decide +kernel
theorem dM_adds_58 : decode yM_adds.2.1 58 = .ok (.iload 5, 2) := by decide +kernel
theorem dM_adds_60 : decode yM_adds.2.1 60 = .ok (.iconst 3, 1) := by decide +kernel
theorem dM_adds_61 : decode yM_adds.2.1 61 = .ok (.invokestatic 61, 3) := by decide +kernel
theorem dM_adds_64 : decode yM_adds.2.1 64 = .ok (.iload 4, 2) := by decide +kernel
theorem dM_adds_66 : decode yM_adds.2.1 66 = .ok (.iastore, 1) := by decide +kernel
theorem dM_adds_67 : decode yM_adds.2.1 67 = .ok (.aload_n 0, 1) := by decide +kernel
theorem dM_adds_68 : decode yM_adds.2.1 68 = .ok (.getfield 7, 3) := by decide +kernel
theorem dM_adds_71 : decode yM_adds.2.1 71 = .ok (.iload 5, 2) := by decide +kernel
theorem dM_adds_73 : decode yM_adds.2.1 73 = .ok (.iconst 4, 1) := by decide +kernel
theorem dM_adds_74 : decode yM_adds.2.1 74 = .ok (.invokestatic 61, 3) := by decide +kernel
theorem dM_adds_77 : decode yM_adds.2.1 77 = .ok (.iconst 0, 1) := by decide +kernel
theorem dM_adds_78 : decode yM_adds.2.1 78 = .ok (.iastore, 1) := by decide +kernel
theorem dM_adds_79 : decode yM_adds.2.1 79 = .ok (.iload 5, 2) := by decide +kernel
theorem dM_adds_81 : decode yM_adds.2.1 81 = .ok (.ireturn, 1) := by decide +kernel
theorem dM_told_0 : decode yM_told.2.1 0 = .ok (.aload_n 0, 1) := by decide +kernel
theorem dM_told_1 : decode yM_told.2.1 1 = .ok (.iload_n 1, 1) := by decide +kernel
theorem dM_told_2 : decode yM_told.2.1 2 = .ok (.invokevirtual 92, 3) := by decide +kernel
theorem dM_told_5 : decode yM_told.2.1 5 = .ok (.ifCond .ne 6, 3) := by decide +kernel
theorem dM_told_8 : decode yM_told.2.1 8 = .ok (.ldc 96, 2) := by decide +kernel
theorem dM_told_10 : decode yM_told.2.1 10 = .ok (.ireturn, 1) := by decide +kernel
theorem dM_told_11 : decode yM_told.2.1 11 = .ok (.iload_n 2, 1) := by decide +kernel
theorem dM_told_12 : decode yM_told.2.1 12 = .ok (.tableswitch 105 0 8 #[52, 52, 52, 52, 52, 59, 65, 71, 77], 52) := by decide +kernel
theorem dM_told_64 : decode yM_told.2.1 64 = .ok (.aload_n 0, 1) := by decide +kernel
theorem dM_told_65 : decode yM_told.2.1 65 = .ok (.iload_n 1, 1) := by decide +kernel
theorem dM_told_66 : decode yM_told.2.1 66 = .ok (.iload_n 2, 1) := by decide +kernel
theorem dM_told_67 : decode yM_told.2.1 67 = .ok (.invokevirtual 79, 3) := by decide +kernel
theorem dM_told_70 : decode yM_told.2.1 70 = .ok (.ireturn, 1) := by decide +kernel
theorem dM_told_71 : decode yM_told.2.1 71 = .ok (.aload_n 0, 1) := by decide +kernel
theorem dM_told_72 : decode yM_told.2.1 72 = .ok (.iload_n 1, 1) := by decide +kernel
theorem dM_told_73 : decode yM_told.2.1 73 = .ok (.invokevirtual 113, 3) := by decide +kernel
theorem dM_told_76 : decode yM_told.2.1 76 = .ok (.ireturn, 1) := by decide +kernel
theorem dM_told_77 : decode yM_told.2.1 77 = .ok (.aload_n 0, 1) := by decide +kernel
theorem dM_told_78 : decode yM_told.2.1 78 = .ok (.iload_n 1, 1) := by decide +kernel
theorem dM_told_79 : decode yM_told.2.1 79 = .ok (.invokevirtual 116, 3) := by decide +kernel
theorem dM_told_82 : decode yM_told.2.1 82 = .ok (.ireturn, 1) := by decide +kernel
theorem dM_told_83 : decode yM_told.2.1 83 = .ok (.aload_n 0, 1) := by decide +kernel
theorem dM_told_84 : decode yM_told.2.1 84 = .ok (.iload_n 1, 1) := by decide +kernel
theorem dM_told_85 : decode yM_told.2.1 85 = .ok (.invokevirtual 119, 3) := by decide +kernel
theorem dM_told_88 : decode yM_told.2.1 88 = .ok (.ireturn, 1) := by decide +kernel
theorem dM_told_89 : decode yM_told.2.1 89 = .ok (.aload_n 0, 1) := by decide +kernel
theorem dM_told_90 : decode yM_told.2.1 90 = .ok (.iload_n 1, 1) := by decide +kernel
theorem dM_told_91 : decode yM_told.2.1 91 = .ok (.iconst 0, 1) := by decide +kernel
theorem dM_told_92 : decode yM_told.2.1 92 = .ok (.invokevirtual 79, 3) := by decide +kernel
theorem dM_told_95 : decode yM_told.2.1 95 = .ok (.aload_n 0, 1) := by decide +kernel
theorem dM_told_96 : decode yM_told.2.1 96 = .ok (.iload_n 1, 1) := by decide +kernel
theorem dM_told_97 : decode yM_told.2.1 97 = .ok (.iconst 1, 1) := by decide +kernel
theorem dM_told_98 : decode yM_told.2.1 98 = .ok (.invokevirtual 79, 3) := by decide +kernel
theorem dM_told_101 : decode yM_told.2.1 101 = .ok (.aload_n 0, 1) := by decide +kernel
theorem dM_told_102 : decode yM_told.2.1 102 = .ok (.iload_n 1, 1) := by decide +kernel
theorem dM_told_103 : decode yM_told.2.1 103 = .ok (.iconst 2, 1) := by decide +kernel
theorem dM_told_104 : decode yM_told.2.1 104 = .ok (.invokevirtual 79, 3) := by decide +kernel
theorem dM_told_107 : decode yM_told.2.1 107 = .ok (.aload_n 0, 1) := by decide +kernel
theorem dM_told_108 : decode yM_told.2.1 108 = .ok (.iload_n 1, 1) := by decide +kernel
theorem dM_told_109 : decode yM_told.2.1 109 = .ok (.iconst 4, 1) := by decide +kernel
theorem dM_told_110 : decode yM_told.2.1 110 = .ok (.invokevirtual 79, 3) := by decide +kernel
theorem dM_told_113 : decode yM_told.2.1 113 = .ok (.invokestatic 122, 3) := by decide +kernel
theorem dM_told_116 : decode yM_told.2.1 116 = .ok (.ireturn, 1) := by decide +kernel
theorem dM_told_117 : decode yM_told.2.1 117 = .ok (.ldc 96, 2) := by decide +kernel
theorem dM_told_119 : decode yM_told.2.1 119 = .ok (.ireturn, 1) := by decide +kernel
theorem dM_sees_0 : decode yM_sees.2.1 0 = .ok (.aload_n 0, 1) := by decide +kernel
theorem dM_sees_1 : decode yM_sees.2.1 1 = .ok (.getfield 7, 3) := by decide +kernel
theorem dM_sees_4 : decode yM_sees.2.1 4 = .ok (.bipush 6, 2) := by decide +kernel
theorem dM_sees_6 : decode yM_sees.2.1 6 = .ok (.iaload, 1) := by decide +kernel
theorem dM_sees_7 : decode yM_sees.2.1 7 = .ok (.iconst 2, 1) := by decide +kernel
theorem dM_sees_8 : decode yM_sees.2.1 8 = .ok (.irem, 1) := by decide +kernel
theorem dM_sees_9 : decode yM_sees.2.1 9 = .ok (.ifCond .ne 11, 3) := by decide +kernel
theorem dM_sees_12 : decode yM_sees.2.1 12 = .ok (.aload_n 0, 1) := by decide +kernel
theorem dM_sees_13 : decode yM_sees.2.1 13 = .ok (.iload_n 1, 1) := by decide +kernel
theorem dM_sees_14 : decode yM_sees.2.1 14 = .ok (.invokevirtual 97, 3) := by decide +kernel
theorem dM_sees_17 : decode yM_sees.2.1 17 = .ok (.goto 5, 3) := by decide +kernel
theorem dM_sees_20 : decode yM_sees.2.1 20 = .ok (.bipush 99, 2) := by decide +kernel
theorem dM_sees_22 : decode yM_sees.2.1 22 = .ok (.istore_n 2, 1) := by decide +kernel
theorem dM_sees_23 : decode yM_sees.2.1 23 = .ok (.aload_n 0, 1) := by decide +kernel
theorem dM_sees_24 : decode yM_sees.2.1 24 = .ok (.iload_n 1, 1) := by decide +kernel
theorem dM_sees_25 : decode yM_sees.2.1 25 = .ok (.iconst 0, 1) := by decide +kernel
theorem dM_sees_26 : decode yM_sees.2.1 26 = .ok (.invokevirtual 79, 3) := by decide +kernel
theorem dM_sees_29 : decode yM_sees.2.1 29 = .ok (.tableswitch 67 2 5 #[39, 31, 41, 65], 31) := by decide +kernel
theorem dM_sees_60 : decode yM_sees.2.1 60 = .ok (.aload_n 0, 1) := by decide +kernel
theorem dM_sees_61 : decode yM_sees.2.1 61 = .ok (.iload_n 1, 1) := by decide +kernel
theorem dM_sees_62 : decode yM_sees.2.1 62 = .ok (.invokevirtual 97, 3) := by decide +kernel
theorem dM_sees_65 : decode yM_sees.2.1 65 = .ok (.iconst 3, 1) := by decide +kernel
theorem dM_sees_66 : decode yM_sees.2.1 66 = .ok (.idiv, 1) := by decide +kernel
theorem dM_sees_67 : decode yM_sees.2.1 67 = .ok (.ireturn, 1) := by decide +kernel
theorem dM_sees_68 : decode yM_sees.2.1 68 = .ok (.iload_n 2, 1) := by decide +kernel
theorem dM_sees_69 : decode yM_sees.2.1 69 = .ok (.ireturn, 1) := by decide +kernel
theorem dM_sees_70 : decode yM_sees.2.1 70 = .ok (.iload_n 2, 1) := by decide +kernel
theorem dM_sees_71 : decode yM_sees.2.1 71 = .ok (.bipush 9, 2) := by decide +kernel
theorem dM_sees_73 : decode yM_sees.2.1 73 = .ok (.aload_n 0, 1) := by decide +kernel
theorem dM_sees_74 : decode yM_sees.2.1 74 = .ok (.aload_n 0, 1) := by decide +kernel
theorem dM_sees_75 : decode yM_sees.2.1 75 = .ok (.iload_n 1, 1) := by decide +kernel
theorem dM_sees_76 : decode yM_sees.2.1 76 = .ok (.iconst 3, 1) := by decide +kernel
theorem dM_sees_77 : decode yM_sees.2.1 77 = .ok (.invokevirtual 79, 3) := by decide +kernel
theorem dM_sees_80 : decode yM_sees.2.1 80 = .ok (.invokevirtual 82, 3) := by decide +kernel
theorem dM_sees_83 : decode yM_sees.2.1 83 = .ok (.iconst 1, 1) := by decide +kernel
theorem dM_sees_84 : decode yM_sees.2.1 84 = .ok (.isub, 1) := by decide +kernel
theorem dM_sees_85 : decode yM_sees.2.1 85 = .ok (.imul, 1) := by decide +kernel
theorem dM_sees_86 : decode yM_sees.2.1 86 = .ok (.isub, 1) := by decide +kernel
theorem dM_sees_87 : decode yM_sees.2.1 87 = .ok (.iconst 0, 1) := by decide +kernel
theorem dM_sees_88 : decode yM_sees.2.1 88 = .ok (.bipush 99, 2) := by decide +kernel
theorem dM_sees_90 : decode yM_sees.2.1 90 = .ok (.invokestatic 89, 3) := by decide +kernel
theorem dM_sees_93 : decode yM_sees.2.1 93 = .ok (.ireturn, 1) := by decide +kernel
theorem dM_sees_94 : decode yM_sees.2.1 94 = .ok (.iconst 1, 1) := by decide +kernel
theorem dM_sees_95 : decode yM_sees.2.1 95 = .ok (.ireturn, 1) := by decide +kernel
theorem dM_sees_96 : decode yM_sees.2.1 96 = .ok (.aload_n 0, 1) := by decide +kernel
theorem dM_sees_97 : decode yM_sees.2.1 97 = .ok (.iload_n 1, 1) := by decide +kernel
theorem dM_sees_98 : decode yM_sees.2.1 98 = .ok (.invokevirtual 97, 3) := by decide +kernel
theorem dM_sees_101 : decode yM_sees.2.1 101 = .ok (.ireturn, 1) := by decide +kernel
theorem dM_plain_0 : decode yM_plain.2.1 0 = .ok (.aload_n 0, 1) := by decide +kernel
theorem dM_plain_1 : decode yM_plain.2.1 1 = .ok (.iload_n 1, 1) := by decide +kernel
theorem dM_plain_2 : decode yM_plain.2.1 2 = .ok (.iconst 1, 1) := by decide +kernel
theorem dM_plain_3 : decode yM_plain.2.1 3 = .ok (.invokevirtual 79, 3) := by decide +kernel
theorem dM_plain_6 : decode yM_plain.2.1 6 = .ok (.aload_n 0, 1) := by decide +kernel
theorem dM_plain_7 : decode yM_plain.2.1 7 = .ok (.iload_n 1, 1) := by decide +kernel
theorem dM_plain_8 : decode yM_plain.2.1 8 = .ok (.iconst 2, 1) := by decide +kernel
theorem dM_plain_9 : decode yM_plain.2.1 9 = .ok (.invokevirtual 79, 3) := by decide +kernel
theorem dM_plain_12 : decode yM_plain.2.1 12 = .ok (.iconst 2, 1) := by decide +kernel
theorem dM_plain_13 : decode yM_plain.2.1 13 = .ok (.idiv, 1) := by decide +kernel
theorem dM_plain_14 : decode yM_plain.2.1 14 = .ok (.isub, 1) := by decide +kernel
theorem dM_plain_15 : decode yM_plain.2.1 15 = .ok (.istore_n 2, 1) := by decide +kernel
theorem dM_plain_16 : decode yM_plain.2.1 16 = .ok (.aload_n 0, 1) := by decide +kernel
theorem dM_plain_17 : decode yM_plain.2.1 17 = .ok (.getfield 7, 3) := by decide +kernel
theorem dM_plain_20 : decode yM_plain.2.1 20 = .ok (.bipush 65, 2) := by decide +kernel
theorem dM_plain_22 : decode yM_plain.2.1 22 = .ok (.iaload, 1) := by decide +kernel
theorem dM_plain_23 : decode yM_plain.2.1 23 = .ok (.ifCond .lt 75, 3) := by decide +kernel
theorem dM_plain_26 : decode yM_plain.2.1 26 = .ok (.aload_n 0, 1) := by decide +kernel
theorem dM_plain_27 : decode yM_plain.2.1 27 = .ok (.getfield 25, 3) := by decide +kernel
theorem dM_plain_30 : decode yM_plain.2.1 30 = .ok (.iconst 0, 1) := by decide +kernel
theorem dM_plain_31 : decode yM_plain.2.1 31 = .ok (.aload_n 0, 1) := by decide +kernel
theorem dM_plain_32 : decode yM_plain.2.1 32 = .ok (.iload_n 1, 1) := by decide +kernel
theorem dM_plain_33 : decode yM_plain.2.1 33 = .ok (.iconst 1, 1) := by decide +kernel
theorem dM_plain_34 : decode yM_plain.2.1 34 = .ok (.invokevirtual 79, 3) := by decide +kernel
theorem dM_plain_37 : decode yM_plain.2.1 37 = .ok (.iastore, 1) := by decide +kernel
theorem dM_plain_38 : decode yM_plain.2.1 38 = .ok (.aload_n 0, 1) := by decide +kernel
theorem dM_plain_39 : decode yM_plain.2.1 39 = .ok (.getfield 25, 3) := by decide +kernel
theorem dM_plain_42 : decode yM_plain.2.1 42 = .ok (.iconst 1, 1) := by decide +kernel
theorem dM_plain_43 : decode yM_plain.2.1 43 = .ok (.aload_n 0, 1) := by decide +kernel
theorem dM_plain_44 : decode yM_plain.2.1 44 = .ok (.iload_n 1, 1) := by decide +kernel
theorem dM_plain_45 : decode yM_plain.2.1 45 = .ok (.iconst 2, 1) := by decide +kernel
theorem dM_plain_46 : decode yM_plain.2.1 46 = .ok (.invokevirtual 79, 3) := by decide +kernel
theorem dM_plain_49 : decode yM_plain.2.1 49 = .ok (.iastore, 1) := by decide +kernel
theorem dM_plain_50 : decode yM_plain.2.1 50 = .ok (.aload_n 0, 1) := by decide +kernel
theorem dM_plain_51 : decode yM_plain.2.1 51 = .ok (.getfield 25, 3) := by decide +kernel
theorem dM_plain_54 : decode yM_plain.2.1 54 = .ok (.iconst 2, 1) := by decide +kernel
theorem dM_plain_55 : decode yM_plain.2.1 55 = .ok (.aload_n 0, 1) := by decide +kernel
theorem dM_plain_56 : decode yM_plain.2.1 56 = .ok (.getfield 7, 3) := by decide +kernel
theorem dM_plain_59 : decode yM_plain.2.1 59 = .ok (.bipush 8, 2) := by decide +kernel
theorem dM_plain_61 : decode yM_plain.2.1 61 = .ok (.aload_n 0, 1) := by decide +kernel
theorem dM_plain_62 : decode yM_plain.2.1 62 = .ok (.iload_n 1, 1) := by decide +kernel
theorem dM_plain_63 : decode yM_plain.2.1 63 = .ok (.iconst 3, 1) := by decide +kernel
theorem dM_plain_64 : decode yM_plain.2.1 64 = .ok (.invokevirtual 79, 3) := by decide +kernel
theorem dM_plain_67 : decode yM_plain.2.1 67 = .ok (.iadd, 1) := by decide +kernel
theorem dM_plain_68 : decode yM_plain.2.1 68 = .ok (.iaload, 1) := by decide +kernel
theorem dM_plain_69 : decode yM_plain.2.1 69 = .ok (.iastore, 1) := by decide +kernel
theorem dM_plain_70 : decode yM_plain.2.1 70 = .ok (.aload_n 0, 1) := by decide +kernel
theorem dM_plain_71 : decode yM_plain.2.1 71 = .ok (.getfield 25, 3) := by decide +kernel
theorem dM_plain_74 : decode yM_plain.2.1 74 = .ok (.iconst 3, 1) := by decide +kernel
theorem dM_plain_75 : decode yM_plain.2.1 75 = .ok (.aload_n 0, 1) := by decide +kernel
theorem dM_plain_76 : decode yM_plain.2.1 76 = .ok (.aload_n 0, 1) := by decide +kernel
theorem dM_plain_77 : decode yM_plain.2.1 77 = .ok (.iload_n 1, 1) := by decide +kernel
theorem dM_plain_78 : decode yM_plain.2.1 78 = .ok (.iconst 3, 1) := by decide +kernel
theorem dM_plain_79 : decode yM_plain.2.1 79 = .ok (.invokevirtual 79, 3) := by decide +kernel
theorem dM_plain_82 : decode yM_plain.2.1 82 = .ok (.invokevirtual 82, 3) := by decide +kernel
theorem dM_plain_85 : decode yM_plain.2.1 85 = .ok (.iastore, 1) := by decide +kernel
theorem dM_plain_86 : decode yM_plain.2.1 86 = .ok (.aload_n 0, 1) := by decide +kernel
theorem dM_plain_87 : decode yM_plain.2.1 87 = .ok (.aload_n 0, 1) := by decide +kernel
theorem dM_plain_88 : decode yM_plain.2.1 88 = .ok (.getfield 7, 3) := by decide +kernel
theorem dM_plain_91 : decode yM_plain.2.1 91 = .ok (.bipush 65, 2) := by decide +kernel
theorem dM_plain_93 : decode yM_plain.2.1 93 = .ok (.iaload, 1) := by decide +kernel
theorem dM_plain_94 : decode yM_plain.2.1 94 = .ok (.invokevirtual 86, 3) := by decide +kernel
theorem dM_plain_97 : decode yM_plain.2.1 97 = .ok (.istore_n 2, 1) := by decide +kernel
theorem dM_plain_98 : decode yM_plain.2.1 98 = .ok (.iload_n 2, 1) := by decide +kernel
theorem dM_plain_99 : decode yM_plain.2.1 99 = .ok (.iconst 0, 1) := by decide +kernel
theorem dM_plain_100 : decode yM_plain.2.1 100 = .ok (.bipush 99, 2) := by decide +kernel
theorem dM_plain_102 : decode yM_plain.2.1 102 = .ok (.invokestatic 89, 3) := by decide +kernel
theorem dM_plain_105 : decode yM_plain.2.1 105 = .ok (.ireturn, 1) := by decide +kernel
theorem dM_inYard_0 : decode yM_inYard.2.1 0 = .ok (.iconst 0, 1) := by decide +kernel
theorem dM_inYard_1 : decode yM_inYard.2.1 1 = .ok (.istore_n 2, 1) := by decide +kernel
theorem dM_inYard_2 : decode yM_inYard.2.1 2 = .ok (.iconst 0, 1) := by decide +kernel
theorem dM_inYard_3 : decode yM_inYard.2.1 3 = .ok (.istore_n 3, 1) := by decide +kernel
theorem dM_inYard_4 : decode yM_inYard.2.1 4 = .ok (.iload_n 3, 1) := by decide +kernel
theorem dM_inYard_5 : decode yM_inYard.2.1 5 = .ok (.aload_n 0, 1) := by decide +kernel
theorem dM_inYard_6 : decode yM_inYard.2.1 6 = .ok (.getfield 7, 3) := by decide +kernel
theorem dM_inYard_9 : decode yM_inYard.2.1 9 = .ok (.iconst 0, 1) := by decide +kernel
theorem dM_inYard_10 : decode yM_inYard.2.1 10 = .ok (.iaload, 1) := by decide +kernel
theorem dM_inYard_11 : decode yM_inYard.2.1 11 = .ok (.if_icmp .ge 27, 3) := by decide +kernel
theorem dM_inYard_14 : decode yM_inYard.2.1 14 = .ok (.iload_n 2, 1) := by decide +kernel
theorem dM_inYard_15 : decode yM_inYard.2.1 15 = .ok (.aload_n 0, 1) := by decide +kernel
theorem dM_inYard_16 : decode yM_inYard.2.1 16 = .ok (.iload_n 3, 1) := by decide +kernel
theorem dM_inYard_17 : decode yM_inYard.2.1 17 = .ok (.iconst 3, 1) := by decide +kernel
theorem dM_inYard_18 : decode yM_inYard.2.1 18 = .ok (.invokevirtual 79, 3) := by decide +kernel
theorem dM_inYard_21 : decode yM_inYard.2.1 21 = .ok (.iload_n 1, 1) := by decide +kernel
theorem dM_inYard_22 : decode yM_inYard.2.1 22 = .ok (.if_icmp .ne 7, 3) := by decide +kernel
theorem dM_inYard_25 : decode yM_inYard.2.1 25 = .ok (.iconst 1, 1) := by decide +kernel
theorem dM_inYard_26 : decode yM_inYard.2.1 26 = .ok (.goto 4, 3) := by decide +kernel
theorem dM_inYard_29 : decode yM_inYard.2.1 29 = .ok (.iconst 0, 1) := by decide +kernel
theorem dM_inYard_30 : decode yM_inYard.2.1 30 = .ok (.iadd, 1) := by decide +kernel
theorem dM_inYard_31 : decode yM_inYard.2.1 31 = .ok (.istore_n 2, 1) := by decide +kernel
theorem dM_inYard_32 : decode yM_inYard.2.1 32 = .ok (.iinc 3 1, 3) := by decide +kernel
theorem dM_inYard_35 : decode yM_inYard.2.1 35 = .ok (.goto (-31), 3) := by decide +kernel
theorem dM_inYard_38 : decode yM_inYard.2.1 38 = .ok (.iload_n 2, 1) := by decide +kernel
theorem dM_inYard_39 : decode yM_inYard.2.1 39 = .ok (.ireturn, 1) := by decide +kernel
theorem dM_held_0 : decode yM_held.2.1 0 = .ok (.iload_n 0, 1) := by decide +kernel
theorem dM_held_1 : decode yM_held.2.1 1 = .ok (.iload_n 1, 1) := by decide +kernel
theorem dM_held_2 : decode yM_held.2.1 2 = .ok (.if_icmp .ge 7, 3) := by decide +kernel
theorem dM_held_5 : decode yM_held.2.1 5 = .ok (.iload_n 1, 1) := by decide +kernel
theorem dM_held_6 : decode yM_held.2.1 6 = .ok (.goto 13, 3) := by decide +kernel
theorem dM_held_9 : decode yM_held.2.1 9 = .ok (.iload_n 0, 1) := by decide +kernel
theorem dM_held_10 : decode yM_held.2.1 10 = .ok (.iload_n 2, 1) := by decide +kernel
theorem dM_held_11 : decode yM_held.2.1 11 = .ok (.if_icmp .le 7, 3) := by decide +kernel
theorem dM_held_14 : decode yM_held.2.1 14 = .ok (.iload_n 2, 1) := by decide +kernel
theorem dM_held_15 : decode yM_held.2.1 15 = .ok (.goto 4, 3) := by decide +kernel
theorem dM_held_18 : decode yM_held.2.1 18 = .ok (.iload_n 0, 1) := by decide +kernel
theorem dM_held_19 : decode yM_held.2.1 19 = .ok (.ireturn, 1) := by decide +kernel
theorem dM_wanders_0 : decode yM_wanders.2.1 0 = .ok (.aload_n 0, 1) := by decide +kernel
theorem dM_wanders_1 : decode yM_wanders.2.1 1 = .ok (.iload_n 1, 1) := by decide +kernel
theorem dM_wanders_2 : decode yM_wanders.2.1 2 = .ok (.iconst 0, 1) := by decide +kernel
theorem dM_wanders_3 : decode yM_wanders.2.1 3 = .ok (.invokevirtual 79, 3) := by decide +kernel
theorem dM_wanders_6 : decode yM_wanders.2.1 6 = .ok (.istore_n 2, 1) := by decide +kernel
theorem dM_wanders_7 : decode yM_wanders.2.1 7 = .ok (.iload_n 2, 1) := by decide +kernel
theorem dM_wanders_8 : decode yM_wanders.2.1 8 = .ok (.iconst 1, 1) := by decide +kernel
theorem dM_wanders_9 : decode yM_wanders.2.1 9 = .ok (.if_icmp .ne 7, 3) := by decide +kernel
theorem dM_wanders_12 : decode yM_wanders.2.1 12 = .ok (.iconst 1, 1) := by decide +kernel
theorem dM_wanders_13 : decode yM_wanders.2.1 13 = .ok (.goto 22, 3) := by decide +kernel
theorem dM_wanders_16 : decode yM_wanders.2.1 16 = .ok (.iload_n 2, 1) := by decide +kernel
theorem dM_wanders_17 : decode yM_wanders.2.1 17 = .ok (.iconst 3, 1) := by decide +kernel
theorem dM_wanders_18 : decode yM_wanders.2.1 18 = .ok (.if_icmp .ne 7, 3) := by decide +kernel
theorem dM_wanders_21 : decode yM_wanders.2.1 21 = .ok (.iconst 2, 1) := by decide +kernel
theorem dM_wanders_22 : decode yM_wanders.2.1 22 = .ok (.goto 13, 3) := by decide +kernel
theorem dM_wanders_25 : decode yM_wanders.2.1 25 = .ok (.iload_n 2, 1) := by decide +kernel
theorem dM_wanders_26 : decode yM_wanders.2.1 26 = .ok (.iconst 4, 1) := by decide +kernel
theorem dM_wanders_27 : decode yM_wanders.2.1 27 = .ok (.if_icmp .ne 7, 3) := by decide +kernel
theorem dM_wanders_30 : decode yM_wanders.2.1 30 = .ok (.iconst 3, 1) := by decide +kernel
theorem dM_wanders_31 : decode yM_wanders.2.1 31 = .ok (.goto 4, 3) := by decide +kernel
theorem dM_wanders_34 : decode yM_wanders.2.1 34 = .ok (.iconst 0, 1) := by decide +kernel
theorem dM_wanders_35 : decode yM_wanders.2.1 35 = .ok (.ireturn, 1) := by decide +kernel
theorem dM_tallies_0 : decode yM_tallies.2.1 0 = .ok (.aload_n 0, 1) := by decide +kernel
theorem dM_tallies_1 : decode yM_tallies.2.1 1 = .ok (.iload_n 1, 1) := by decide +kernel
theorem dM_tallies_2 : decode yM_tallies.2.1 2 = .ok (.iconst 0, 1) := by decide +kernel
theorem dM_tallies_3 : decode yM_tallies.2.1 3 = .ok (.invokevirtual 79, 3) := by decide +kernel
theorem dM_tallies_6 : decode yM_tallies.2.1 6 = .ok (.tableswitch 43 1 5 #[34, 39, 36, 39, 41], 34) := by decide +kernel
theorem dM_tallies_40 : decode yM_tallies.2.1 40 = .ok (.iconst 1, 1) := by decide +kernel
theorem dM_tallies_41 : decode yM_tallies.2.1 41 = .ok (.ireturn, 1) := by decide +kernel
theorem dM_tallies_42 : decode yM_tallies.2.1 42 = .ok (.bipush (-2), 2) := by decide +kernel
theorem dM_tallies_44 : decode yM_tallies.2.1 44 = .ok (.ireturn, 1) := by decide +kernel
theorem dM_tallies_45 : decode yM_tallies.2.1 45 = .ok (.iconst 3, 1) := by decide +kernel
theorem dM_tallies_46 : decode yM_tallies.2.1 46 = .ok (.ireturn, 1) := by decide +kernel
theorem dM_tallies_47 : decode yM_tallies.2.1 47 = .ok (.iconst 4, 1) := by decide +kernel
theorem dM_tallies_48 : decode yM_tallies.2.1 48 = .ok (.ireturn, 1) := by decide +kernel
theorem dM_tallies_49 : decode yM_tallies.2.1 49 = .ok (.iconst 2, 1) := by decide +kernel
theorem dM_tallies_50 : decode yM_tallies.2.1 50 = .ok (.ireturn, 1) := by decide +kernel
theorem dM_worth_0 : decode yM_worth.2.1 0 = .ok (.iload_n 0, 1) := by decide +kernel
theorem dM_worth_1 : decode yM_worth.2.1 1 = .ok (.tableswitch 59 1 5 #[35, 45, 39, 50, 57], 35) := by decide +kernel
theorem dM_worth_36 : decode yM_worth.2.1 36 = .ok (.iload_n 1, 1) := by decide +kernel
theorem dM_worth_37 : decode yM_worth.2.1 37 = .ok (.iload_n 3, 1) := by decide +kernel
theorem dM_worth_38 : decode yM_worth.2.1 38 = .ok (.iadd, 1) := by decide +kernel
theorem dM_worth_39 : decode yM_worth.2.1 39 = .ok (.ireturn, 1) := by decide +kernel
theorem dM_worth_40 : decode yM_worth.2.1 40 = .ok (.iload_n 1, 1) := by decide +kernel
theorem dM_worth_41 : decode yM_worth.2.1 41 = .ok (.iload_n 3, 1) := by decide +kernel
theorem dM_worth_42 : decode yM_worth.2.1 42 = .ok (.iadd, 1) := by decide +kernel
theorem dM_worth_43 : decode yM_worth.2.1 43 = .ok (.iconst 2, 1) := by decide +kernel
theorem dM_worth_44 : decode yM_worth.2.1 44 = .ok (.idiv, 1) := by decide +kernel
theorem dM_worth_45 : decode yM_worth.2.1 45 = .ok (.ireturn, 1) := by decide +kernel
theorem dM_worth_46 : decode yM_worth.2.1 46 = .ok (.bipush 99, 2) := by decide +kernel
theorem dM_worth_48 : decode yM_worth.2.1 48 = .ok (.iload_n 2, 1) := by decide +kernel
theorem dM_worth_49 : decode yM_worth.2.1 49 = .ok (.isub, 1) := by decide +kernel
theorem dM_worth_50 : decode yM_worth.2.1 50 = .ok (.ireturn, 1) := by decide +kernel
theorem dM_worth_51 : decode yM_worth.2.1 51 = .ok (.bipush 99, 2) := by decide +kernel
theorem dM_worth_53 : decode yM_worth.2.1 53 = .ok (.iload_n 2, 1) := by decide +kernel
theorem dM_worth_54 : decode yM_worth.2.1 54 = .ok (.isub, 1) := by decide +kernel
theorem dM_worth_55 : decode yM_worth.2.1 55 = .ok (.iconst 5, 1) := by decide +kernel
theorem dM_worth_56 : decode yM_worth.2.1 56 = .ok (.iadd, 1) := by decide +kernel
theorem dM_worth_57 : decode yM_worth.2.1 57 = .ok (.ireturn, 1) := by decide +kernel
theorem dM_worth_58 : decode yM_worth.2.1 58 = .ok (.iload_n 3, 1) := by decide +kernel
theorem dM_worth_59 : decode yM_worth.2.1 59 = .ok (.ireturn, 1) := by decide +kernel
theorem dM_worth_60 : decode yM_worth.2.1 60 = .ok (.iload_n 1, 1) := by decide +kernel
theorem dM_worth_61 : decode yM_worth.2.1 61 = .ok (.ireturn, 1) := by decide +kernel
theorem dM_as_0 : decode yM_as.2.1 0 = .ok (.aload_n 0, 1) := by decide +kernel
theorem dM_as_1 : decode yM_as.2.1 1 = .ok (.iload_n 1, 1) := by decide +kernel
theorem dM_as_2 : decode yM_as.2.1 2 = .ok (.invokevirtual 92, 3) := by decide +kernel
theorem dM_as_5 : decode yM_as.2.1 5 = .ok (.ifCond .eq 10, 3) := by decide +kernel
theorem dM_as_8 : decode yM_as.2.1 8 = .ok (.iload_n 2, 1) := by decide +kernel
theorem dM_as_9 : decode yM_as.2.1 9 = .ok (.invokestatic 100, 3) := by decide +kernel
theorem dM_as_12 : decode yM_as.2.1 12 = .ok (.ifCond .ne 6, 3) := by decide +kernel
theorem dM_as_15 : decode yM_as.2.1 15 = .ok (.ldc 96, 2) := by decide +kernel
theorem dM_as_17 : decode yM_as.2.1 17 = .ok (.ireturn, 1) := by decide +kernel
theorem dM_as_18 : decode yM_as.2.1 18 = .ok (.aload_n 0, 1) := by decide +kernel
theorem dM_as_19 : decode yM_as.2.1 19 = .ok (.iload_n 1, 1) := by decide +kernel
theorem dM_as_20 : decode yM_as.2.1 20 = .ok (.iconst 0, 1) := by decide +kernel
theorem dM_as_21 : decode yM_as.2.1 21 = .ok (.invokevirtual 79, 3) := by decide +kernel
theorem dM_as_24 : decode yM_as.2.1 24 = .ok (.iload_n 2, 1) := by decide +kernel
theorem dM_as_25 : decode yM_as.2.1 25 = .ok (.invokestatic 125, 3) := by decide +kernel
theorem dM_as_28 : decode yM_as.2.1 28 = .ok (.ifCond .eq 12, 3) := by decide +kernel
theorem dM_as_31 : decode yM_as.2.1 31 = .ok (.aload_n 0, 1) := by decide +kernel
theorem dM_as_32 : decode yM_as.2.1 32 = .ok (.iload_n 1, 1) := by decide +kernel
theorem dM_as_33 : decode yM_as.2.1 33 = .ok (.iconst 1, 1) := by decide +kernel
theorem dM_as_34 : decode yM_as.2.1 34 = .ok (.invokevirtual 79, 3) := by decide +kernel
theorem dM_as_37 : decode yM_as.2.1 37 = .ok (.goto 5, 3) := by decide +kernel
theorem dM_as_40 : decode yM_as.2.1 40 = .ok (.ldc 129, 2) := by decide +kernel
theorem dM_as_42 : decode yM_as.2.1 42 = .ok (.ireturn, 1) := by decide +kernel
theorem dM_isUnder_0 : decode yM_isUnder.2.1 0 = .ok (.iload_n 1, 1) := by decide +kernel
theorem dM_isUnder_1 : decode yM_isUnder.2.1 1 = .ok (.ifCond .eq 28, 3) := by decide +kernel
theorem dM_isUnder_4 : decode yM_isUnder.2.1 4 = .ok (.iload_n 0, 1) := by decide +kernel
theorem dM_isUnder_5 : decode yM_isUnder.2.1 5 = .ok (.iload_n 1, 1) := by decide +kernel
theorem dM_isUnder_6 : decode yM_isUnder.2.1 6 = .ok (.if_icmp .eq 23, 3) := by decide +kernel
theorem dM_isUnder_9 : decode yM_isUnder.2.1 9 = .ok (.iload_n 0, 1) := by decide +kernel
theorem dM_isUnder_10 : decode yM_isUnder.2.1 10 = .ok (.iconst 3, 1) := by decide +kernel
theorem dM_isUnder_11 : decode yM_isUnder.2.1 11 = .ok (.if_icmp .ne 8, 3) := by decide +kernel
theorem dM_isUnder_14 : decode yM_isUnder.2.1 14 = .ok (.iload_n 1, 1) := by decide +kernel
theorem dM_isUnder_15 : decode yM_isUnder.2.1 15 = .ok (.iconst 1, 1) := by decide +kernel
theorem dM_isUnder_16 : decode yM_isUnder.2.1 16 = .ok (.if_icmp .eq 13, 3) := by decide +kernel
theorem dM_isUnder_19 : decode yM_isUnder.2.1 19 = .ok (.iload_n 0, 1) := by decide +kernel
theorem dM_isUnder_20 : decode yM_isUnder.2.1 20 = .ok (.iconst 4, 1) := by decide +kernel
theorem dM_isUnder_21 : decode yM_isUnder.2.1 21 = .ok (.if_icmp .ne 12, 3) := by decide +kernel
theorem dM_isUnder_24 : decode yM_isUnder.2.1 24 = .ok (.iload_n 1, 1) := by decide +kernel
theorem dM_isUnder_25 : decode yM_isUnder.2.1 25 = .ok (.iconst 2, 1) := by decide +kernel
theorem dM_isUnder_26 : decode yM_isUnder.2.1 26 = .ok (.if_icmp .ne 7, 3) := by decide +kernel
theorem dM_isUnder_29 : decode yM_isUnder.2.1 29 = .ok (.iconst 1, 1) := by decide +kernel
theorem dM_isUnder_30 : decode yM_isUnder.2.1 30 = .ok (.goto 4, 3) := by decide +kernel
theorem dM_isUnder_33 : decode yM_isUnder.2.1 33 = .ok (.iconst 0, 1) := by decide +kernel
theorem dM_isUnder_34 : decode yM_isUnder.2.1 34 = .ok (.ireturn, 1) := by decide +kernel
theorem dM_turns_0 : decode yM_turns.2.1 0 = .ok (.aload_n 0, 1) := by decide +kernel
theorem dM_turns_1 : decode yM_turns.2.1 1 = .ok (.iload_n 1, 1) := by decide +kernel
theorem dM_turns_2 : decode yM_turns.2.1 2 = .ok (.invokevirtual 92, 3) := by decide +kernel
theorem dM_turns_5 : decode yM_turns.2.1 5 = .ok (.ifCond .eq 23, 3) := by decide +kernel
theorem dM_turns_8 : decode yM_turns.2.1 8 = .ok (.iload_n 2, 1) := by decide +kernel
theorem dM_turns_9 : decode yM_turns.2.1 9 = .ok (.invokestatic 100, 3) := by decide +kernel
theorem dM_turns_12 : decode yM_turns.2.1 12 = .ok (.ifCond .eq 16, 3) := by decide +kernel
theorem dM_turns_15 : decode yM_turns.2.1 15 = .ok (.aload_n 0, 1) := by decide +kernel
theorem dM_turns_16 : decode yM_turns.2.1 16 = .ok (.iload_n 1, 1) := by decide +kernel
theorem dM_turns_17 : decode yM_turns.2.1 17 = .ok (.iconst 0, 1) := by decide +kernel
theorem dM_turns_18 : decode yM_turns.2.1 18 = .ok (.invokestatic 61, 3) := by decide +kernel
theorem dM_turns_21 : decode yM_turns.2.1 21 = .ok (.iload_n 2, 1) := by decide +kernel
theorem dM_turns_22 : decode yM_turns.2.1 22 = .ok (.invokevirtual 130, 3) := by decide +kernel
theorem dM_turns_25 : decode yM_turns.2.1 25 = .ok (.goto 5, 3) := by decide +kernel
theorem dM_turns_28 : decode yM_turns.2.1 28 = .ok (.ldc 96, 2) := by decide +kernel
theorem dM_turns_30 : decode yM_turns.2.1 30 = .ok (.ireturn, 1) := by decide +kernel
theorem dM_changed_0 : decode yM_changed.2.1 0 = .ok (.aload_n 0, 1) := by decide +kernel
theorem dM_changed_1 : decode yM_changed.2.1 1 = .ok (.getfield 7, 3) := by decide +kernel
theorem dM_changed_4 : decode yM_changed.2.1 4 = .ok (.iload_n 1, 1) := by decide +kernel
theorem dM_changed_5 : decode yM_changed.2.1 5 = .ok (.iaload, 1) := by decide +kernel
theorem dM_changed_6 : decode yM_changed.2.1 6 = .ok (.istore_n 3, 1) := by decide +kernel
theorem dM_changed_7 : decode yM_changed.2.1 7 = .ok (.aload_n 0, 1) := by decide +kernel
theorem dM_changed_8 : decode yM_changed.2.1 8 = .ok (.getfield 7, 3) := by decide +kernel
theorem dM_changed_11 : decode yM_changed.2.1 11 = .ok (.iload_n 1, 1) := by decide +kernel
theorem dM_changed_12 : decode yM_changed.2.1 12 = .ok (.iload_n 2, 1) := by decide +kernel
theorem dM_changed_13 : decode yM_changed.2.1 13 = .ok (.iastore, 1) := by decide +kernel
theorem dM_changed_14 : decode yM_changed.2.1 14 = .ok (.iload_n 3, 1) := by decide +kernel
theorem dM_changed_15 : decode yM_changed.2.1 15 = .ok (.ireturn, 1) := by decide +kernel
theorem dM_set_0 : decode yM_set.2.1 0 = .ok (.iload_n 2, 1) := by decide +kernel
theorem dM_set_1 : decode yM_set.2.1 1 = .ok (.i2l, 1) := by decide +kernel
theorem dM_set_2 : decode yM_set.2.1 2 = .ok (.lconst 1, 1) := by decide +kernel
theorem dM_set_3 : decode yM_set.2.1 3 = .ok (.ldc2_w 133, 3) := by decide +kernel
theorem dM_set_6 : decode yM_set.2.1 6 = .ok (.invokestatic 65, 3) := by decide +kernel
theorem dM_set_9 : decode yM_set.2.1 9 = .ok (.ifCond .eq 41, 3) := by decide +kernel
theorem dM_set_12 : decode yM_set.2.1 12 = .ok (.iload_n 3, 1) := by decide +kernel
theorem dM_set_13 : decode yM_set.2.1 13 = .ok (.i2l, 1) := by decide +kernel
theorem dM_set_14 : decode yM_set.2.1 14 = .ok (.lconst 0, 1) := by decide +kernel
theorem dM_set_15 : decode yM_set.2.1 15 = .ok (.iload_n 2, 1) := by decide +kernel
theorem dM_set_16 : decode yM_set.2.1 16 = .ok (.iconst 3, 1) := by decide +kernel
theorem dM_set_17 : decode yM_set.2.1 17 = .ok (.if_icmp .ne 9, 3) := by decide +kernel
theorem dM_set_20 : decode yM_set.2.1 20 = .ok (.ldc2_w 69, 3) := by decide +kernel
theorem dM_set_23 : decode yM_set.2.1 23 = .ok (.goto 17, 3) := by decide +kernel
theorem dM_set_26 : decode yM_set.2.1 26 = .ok (.iload_n 2, 1) := by decide +kernel
theorem dM_set_27 : decode yM_set.2.1 27 = .ok (.iconst 4, 1) := by decide +kernel
theorem dM_set_28 : decode yM_set.2.1 28 = .ok (.if_icmp .ne 9, 3) := by decide +kernel
theorem dM_set_31 : decode yM_set.2.1 31 = .ok (.ldc2_w 135, 3) := by decide +kernel
theorem dM_set_34 : decode yM_set.2.1 34 = .ok (.goto 6, 3) := by decide +kernel
theorem dM_set_37 : decode yM_set.2.1 37 = .ok (.ldc2_w 103, 3) := by decide +kernel
theorem dM_set_40 : decode yM_set.2.1 40 = .ok (.invokestatic 65, 3) := by decide +kernel
theorem dM_set_43 : decode yM_set.2.1 43 = .ok (.ifCond .eq 7, 3) := by decide +kernel
theorem dM_set_46 : decode yM_set.2.1 46 = .ok (.iconst 1, 1) := by decide +kernel
theorem dM_set_47 : decode yM_set.2.1 47 = .ok (.goto 4, 3) := by decide +kernel
theorem dM_set_50 : decode yM_set.2.1 50 = .ok (.iconst 0, 1) := by decide +kernel
theorem dM_set_51 : decode yM_set.2.1 51 = .ok (.istore 4, 2) := by decide +kernel
theorem dM_set_53 : decode yM_set.2.1 53 = .ok (.aload_n 0, 1) := by decide +kernel
theorem dM_set_54 : decode yM_set.2.1 54 = .ok (.iload_n 1, 1) := by decide +kernel
theorem dM_set_55 : decode yM_set.2.1 55 = .ok (.invokevirtual 92, 3) := by decide +kernel
theorem dM_set_58 : decode yM_set.2.1 58 = .ok (.ifCond .eq 21, 3) := by decide +kernel
theorem dM_set_61 : decode yM_set.2.1 61 = .ok (.iload 4, 2) := by decide +kernel
theorem dM_set_63 : decode yM_set.2.1 63 = .ok (.ifCond .eq 16, 3) := by decide +kernel
theorem dM_set_66 : decode yM_set.2.1 66 = .ok (.aload_n 0, 1) := by decide +kernel
theorem dM_set_67 : decode yM_set.2.1 67 = .ok (.iload_n 1, 1) := by decide +kernel
theorem dM_set_68 : decode yM_set.2.1 68 = .ok (.iload_n 2, 1) := by decide +kernel
theorem dM_set_69 : decode yM_set.2.1 69 = .ok (.invokestatic 61, 3) := by decide +kernel
theorem dM_set_72 : decode yM_set.2.1 72 = .ok (.iload_n 3, 1) := by decide +kernel
theorem dM_set_73 : decode yM_set.2.1 73 = .ok (.invokevirtual 130, 3) := by decide +kernel
theorem dM_set_76 : decode yM_set.2.1 76 = .ok (.goto 5, 3) := by decide +kernel
theorem dM_set_79 : decode yM_set.2.1 79 = .ok (.ldc 96, 2) := by decide +kernel
theorem dM_set_81 : decode yM_set.2.1 81 = .ok (.ireturn, 1) := by decide +kernel
theorem dM_needs_0 : decode yM_needs.2.1 0 = .ok (.iload_n 1, 1) := by decide +kernel
theorem dM_needs_1 : decode yM_needs.2.1 1 = .ok (.invokestatic 105, 3) := by decide +kernel
theorem dM_needs_4 : decode yM_needs.2.1 4 = .ok (.ifCond .eq 27, 3) := by decide +kernel
theorem dM_needs_7 : decode yM_needs.2.1 7 = .ok (.iload_n 2, 1) := by decide +kernel
theorem dM_needs_8 : decode yM_needs.2.1 8 = .ok (.i2l, 1) := by decide +kernel
theorem dM_needs_9 : decode yM_needs.2.1 9 = .ok (.lconst 0, 1) := by decide +kernel
theorem dM_needs_10 : decode yM_needs.2.1 10 = .ok (.ldc2_w 103, 3) := by decide +kernel
theorem dM_needs_13 : decode yM_needs.2.1 13 = .ok (.invokestatic 65, 3) := by decide +kernel
theorem dM_needs_16 : decode yM_needs.2.1 16 = .ok (.ifCond .eq 15, 3) := by decide +kernel
theorem dM_needs_19 : decode yM_needs.2.1 19 = .ok (.aload_n 0, 1) := by decide +kernel
theorem dM_needs_20 : decode yM_needs.2.1 20 = .ok (.bipush 8, 2) := by decide +kernel
theorem dM_needs_22 : decode yM_needs.2.1 22 = .ok (.iload_n 1, 1) := by decide +kernel
theorem dM_needs_23 : decode yM_needs.2.1 23 = .ok (.iadd, 1) := by decide +kernel
theorem dM_needs_24 : decode yM_needs.2.1 24 = .ok (.iload_n 2, 1) := by decide +kernel
theorem dM_needs_25 : decode yM_needs.2.1 25 = .ok (.invokevirtual 130, 3) := by decide +kernel
theorem dM_needs_28 : decode yM_needs.2.1 28 = .ok (.goto 5, 3) := by decide +kernel
theorem dM_needs_31 : decode yM_needs.2.1 31 = .ok (.ldc 96, 2) := by decide +kernel
theorem dM_needs_33 : decode yM_needs.2.1 33 = .ok (.ireturn, 1) := by decide +kernel
theorem dM_yardOf_0 : decode yM_yardOf.2.1 0 = .ok (.iload_n 1, 1) := by decide +kernel
theorem dM_yardOf_1 : decode yM_yardOf.2.1 1 = .ok (.invokestatic 105, 3) := by decide +kernel
theorem dM_yardOf_4 : decode yM_yardOf.2.1 4 = .ok (.ifCond .ne 6, 3) := by decide +kernel
theorem dM_yardOf_7 : decode yM_yardOf.2.1 7 = .ok (.ldc 96, 2) := by decide +kernel
theorem dM_yardOf_9 : decode yM_yardOf.2.1 9 = .ok (.ireturn, 1) := by decide +kernel
theorem dM_yardOf_10 : decode yM_yardOf.2.1 10 = .ok (.iload_n 2, 1) := by decide +kernel
theorem dM_yardOf_11 : decode yM_yardOf.2.1 11 = .ok (.tableswitch 72 0 4 #[33, 43, 49, 56, 63], 33) := by decide +kernel
theorem dM_yardOf_44 : decode yM_yardOf.2.1 44 = .ok (.aload_n 0, 1) := by decide +kernel
theorem dM_yardOf_45 : decode yM_yardOf.2.1 45 = .ok (.getfield 7, 3) := by decide +kernel
theorem dM_yardOf_48 : decode yM_yardOf.2.1 48 = .ok (.bipush 8, 2) := by decide +kernel
theorem dM_yardOf_50 : decode yM_yardOf.2.1 50 = .ok (.iload_n 1, 1) := by decide +kernel
theorem dM_yardOf_51 : decode yM_yardOf.2.1 51 = .ok (.iadd, 1) := by decide +kernel
theorem dM_yardOf_52 : decode yM_yardOf.2.1 52 = .ok (.iaload, 1) := by decide +kernel
theorem dM_yardOf_53 : decode yM_yardOf.2.1 53 = .ok (.ireturn, 1) := by decide +kernel
theorem dM_yardOf_54 : decode yM_yardOf.2.1 54 = .ok (.aload_n 0, 1) := by decide +kernel
theorem dM_yardOf_55 : decode yM_yardOf.2.1 55 = .ok (.iload_n 1, 1) := by decide +kernel
theorem dM_yardOf_56 : decode yM_yardOf.2.1 56 = .ok (.invokevirtual 140, 3) := by decide +kernel
theorem dM_yardOf_59 : decode yM_yardOf.2.1 59 = .ok (.ireturn, 1) := by decide +kernel
theorem dM_yardOf_60 : decode yM_yardOf.2.1 60 = .ok (.aload_n 0, 1) := by decide +kernel
theorem dM_yardOf_61 : decode yM_yardOf.2.1 61 = .ok (.iload_n 1, 1) := by decide +kernel
theorem dM_yardOf_62 : decode yM_yardOf.2.1 62 = .ok (.iconst 0, 1) := by decide +kernel
theorem dM_yardOf_63 : decode yM_yardOf.2.1 63 = .ok (.invokevirtual 143, 3) := by decide +kernel
theorem dM_yardOf_66 : decode yM_yardOf.2.1 66 = .ok (.ireturn, 1) := by decide +kernel
theorem dM_yardOf_67 : decode yM_yardOf.2.1 67 = .ok (.aload_n 0, 1) := by decide +kernel
theorem dM_yardOf_68 : decode yM_yardOf.2.1 68 = .ok (.iload_n 1, 1) := by decide +kernel
theorem dM_yardOf_69 : decode yM_yardOf.2.1 69 = .ok (.iconst 1, 1) := by decide +kernel
theorem dM_yardOf_70 : decode yM_yardOf.2.1 70 = .ok (.invokevirtual 143, 3) := by decide +kernel
theorem dM_yardOf_73 : decode yM_yardOf.2.1 73 = .ok (.ireturn, 1) := by decide +kernel
theorem dM_yardOf_74 : decode yM_yardOf.2.1 74 = .ok (.aload_n 0, 1) := by decide +kernel
theorem dM_yardOf_75 : decode yM_yardOf.2.1 75 = .ok (.iload_n 1, 1) := by decide +kernel
theorem dM_yardOf_76 : decode yM_yardOf.2.1 76 = .ok (.invokevirtual 147, 3) := by decide +kernel
theorem dM_yardOf_79 : decode yM_yardOf.2.1 79 = .ok (.invokestatic 71, 3) := by decide +kernel
theorem dM_yardOf_82 : decode yM_yardOf.2.1 82 = .ok (.ireturn, 1) := by decide +kernel
theorem dM_yardOf_83 : decode yM_yardOf.2.1 83 = .ok (.ldc 96, 2) := by decide +kernel
theorem dM_yardOf_85 : decode yM_yardOf.2.1 85 = .ok (.ireturn, 1) := by decide +kernel
theorem dM_counted_0 : decode yM_counted.2.1 0 = .ok (.iconst 0, 1) := by decide +kernel
theorem dM_counted_1 : decode yM_counted.2.1 1 = .ok (.istore_n 2, 1) := by decide +kernel
theorem dM_counted_2 : decode yM_counted.2.1 2 = .ok (.iconst 0, 1) := by decide +kernel
theorem dM_counted_3 : decode yM_counted.2.1 3 = .ok (.istore_n 3, 1) := by decide +kernel
theorem dM_counted_4 : decode yM_counted.2.1 4 = .ok (.iload_n 3, 1) := by decide +kernel
theorem dM_counted_5 : decode yM_counted.2.1 5 = .ok (.aload_n 0, 1) := by decide +kernel
theorem dM_counted_6 : decode yM_counted.2.1 6 = .ok (.getfield 7, 3) := by decide +kernel
theorem dM_counted_9 : decode yM_counted.2.1 9 = .ok (.iconst 0, 1) := by decide +kernel
theorem dM_counted_10 : decode yM_counted.2.1 10 = .ok (.iaload, 1) := by decide +kernel
theorem dM_counted_11 : decode yM_counted.2.1 11 = .ok (.if_icmp .ge 30, 3) := by decide +kernel
theorem dM_counted_14 : decode yM_counted.2.1 14 = .ok (.iload_n 2, 1) := by decide +kernel
theorem dM_counted_15 : decode yM_counted.2.1 15 = .ok (.aload_n 0, 1) := by decide +kernel
theorem dM_counted_16 : decode yM_counted.2.1 16 = .ok (.iload_n 3, 1) := by decide +kernel
theorem dM_counted_17 : decode yM_counted.2.1 17 = .ok (.iload_n 1, 1) := by decide +kernel
theorem dM_counted_18 : decode yM_counted.2.1 18 = .ok (.invokevirtual 137, 3) := by decide +kernel
theorem dM_counted_21 : decode yM_counted.2.1 21 = .ok (.ifCond .eq 11, 3) := by decide +kernel
theorem dM_counted_24 : decode yM_counted.2.1 24 = .ok (.aload_n 0, 1) := by decide +kernel
theorem dM_counted_25 : decode yM_counted.2.1 25 = .ok (.iload_n 3, 1) := by decide +kernel
theorem dM_counted_26 : decode yM_counted.2.1 26 = .ok (.invokevirtual 119, 3) := by decide +kernel
theorem dM_counted_29 : decode yM_counted.2.1 29 = .ok (.goto 4, 3) := by decide +kernel
theorem dM_counted_32 : decode yM_counted.2.1 32 = .ok (.iconst 0, 1) := by decide +kernel
theorem dM_counted_33 : decode yM_counted.2.1 33 = .ok (.iadd, 1) := by decide +kernel
theorem dM_counted_34 : decode yM_counted.2.1 34 = .ok (.istore_n 2, 1) := by decide +kernel
theorem dM_counted_35 : decode yM_counted.2.1 35 = .ok (.iinc 3 1, 3) := by decide +kernel
theorem dM_counted_38 : decode yM_counted.2.1 38 = .ok (.goto (-34), 3) := by decide +kernel
theorem dM_counted_41 : decode yM_counted.2.1 41 = .ok (.iload_n 2, 1) := by decide +kernel
theorem dM_counted_42 : decode yM_counted.2.1 42 = .ok (.ireturn, 1) := by decide +kernel
theorem dM_isWitness_0 : decode yM_isWitness.2.1 0 = .ok (.aload_n 0, 1) := by decide +kernel
theorem dM_isWitness_1 : decode yM_isWitness.2.1 1 = .ok (.iload_n 1, 1) := by decide +kernel
theorem dM_isWitness_2 : decode yM_isWitness.2.1 2 = .ok (.iconst 3, 1) := by decide +kernel
theorem dM_isWitness_3 : decode yM_isWitness.2.1 3 = .ok (.invokevirtual 79, 3) := by decide +kernel
theorem dM_isWitness_6 : decode yM_isWitness.2.1 6 = .ok (.iload_n 2, 1) := by decide +kernel
theorem dM_isWitness_7 : decode yM_isWitness.2.1 7 = .ok (.if_icmp .ne 21, 3) := by decide +kernel
theorem dM_isWitness_10 : decode yM_isWitness.2.1 10 = .ok (.aload_n 0, 1) := by decide +kernel
theorem dM_isWitness_11 : decode yM_isWitness.2.1 11 = .ok (.iload_n 1, 1) := by decide +kernel
theorem dM_isWitness_12 : decode yM_isWitness.2.1 12 = .ok (.invokevirtual 113, 3) := by decide +kernel
theorem dM_isWitness_15 : decode yM_isWitness.2.1 15 = .ok (.aload_n 0, 1) := by decide +kernel
theorem dM_isWitness_16 : decode yM_isWitness.2.1 16 = .ok (.getfield 7, 3) := by decide +kernel
theorem dM_isWitness_19 : decode yM_isWitness.2.1 19 = .ok (.iconst 1, 1) := by decide +kernel
theorem dM_isWitness_20 : decode yM_isWitness.2.1 20 = .ok (.iaload, 1) := by decide +kernel
theorem dM_isWitness_21 : decode yM_isWitness.2.1 21 = .ok (.if_icmp .lt 7, 3) := by decide +kernel
theorem dM_isWitness_24 : decode yM_isWitness.2.1 24 = .ok (.iconst 1, 1) := by decide +kernel
theorem dM_isWitness_25 : decode yM_isWitness.2.1 25 = .ok (.goto 4, 3) := by decide +kernel
theorem dM_isWitness_28 : decode yM_isWitness.2.1 28 = .ok (.iconst 0, 1) := by decide +kernel
theorem dM_isWitness_29 : decode yM_isWitness.2.1 29 = .ok (.ireturn, 1) := by decide +kernel
theorem dM_geeseIn_0 : decode yM_geeseIn.2.1 0 = .ok (.iconst 0, 1) := by decide +kernel
theorem dM_geeseIn_1 : decode yM_geeseIn.2.1 1 = .ok (.istore_n 3, 1) := by decide +kernel
theorem dM_geeseIn_2 : decode yM_geeseIn.2.1 2 = .ok (.iconst 0, 1) := by decide +kernel
theorem dM_geeseIn_3 : decode yM_geeseIn.2.1 3 = .ok (.istore 4, 2) := by decide +kernel
theorem dM_geeseIn_5 : decode yM_geeseIn.2.1 5 = .ok (.iload 4, 2) := by decide +kernel
theorem dM_geeseIn_7 : decode yM_geeseIn.2.1 7 = .ok (.aload_n 0, 1) := by decide +kernel
theorem dM_geeseIn_8 : decode yM_geeseIn.2.1 8 = .ok (.getfield 7, 3) := by decide +kernel
theorem dM_geeseIn_11 : decode yM_geeseIn.2.1 11 = .ok (.iconst 0, 1) := by decide +kernel
theorem dM_geeseIn_12 : decode yM_geeseIn.2.1 12 = .ok (.iaload, 1) := by decide +kernel
theorem dM_geeseIn_13 : decode yM_geeseIn.2.1 13 = .ok (.if_icmp .ge 57, 3) := by decide +kernel
theorem dM_geeseIn_16 : decode yM_geeseIn.2.1 16 = .ok (.iload_n 2, 1) := by decide +kernel
theorem dM_geeseIn_17 : decode yM_geeseIn.2.1 17 = .ok (.ifCond .eq 13, 3) := by decide +kernel
theorem dM_geeseIn_20 : decode yM_geeseIn.2.1 20 = .ok (.aload_n 0, 1) := by decide +kernel
theorem dM_geeseIn_21 : decode yM_geeseIn.2.1 21 = .ok (.iload 4, 2) := by decide +kernel
theorem dM_geeseIn_23 : decode yM_geeseIn.2.1 23 = .ok (.iload_n 1, 1) := by decide +kernel
theorem dM_geeseIn_24 : decode yM_geeseIn.2.1 24 = .ok (.invokevirtual 137, 3) := by decide +kernel
theorem dM_geeseIn_27 : decode yM_geeseIn.2.1 27 = .ok (.goto 19, 3) := by decide +kernel
theorem dM_geeseIn_30 : decode yM_geeseIn.2.1 30 = .ok (.aload_n 0, 1) := by decide +kernel
theorem dM_geeseIn_31 : decode yM_geeseIn.2.1 31 = .ok (.iload 4, 2) := by decide +kernel
theorem dM_geeseIn_33 : decode yM_geeseIn.2.1 33 = .ok (.iconst 3, 1) := by decide +kernel
theorem dM_geeseIn_34 : decode yM_geeseIn.2.1 34 = .ok (.invokevirtual 79, 3) := by decide +kernel
theorem dM_geeseIn_37 : decode yM_geeseIn.2.1 37 = .ok (.iload_n 1, 1) := by decide +kernel
theorem dM_geeseIn_38 : decode yM_geeseIn.2.1 38 = .ok (.if_icmp .ne 7, 3) := by decide +kernel
theorem dM_geeseIn_41 : decode yM_geeseIn.2.1 41 = .ok (.iconst 1, 1) := by decide +kernel
theorem dM_geeseIn_42 : decode yM_geeseIn.2.1 42 = .ok (.goto 4, 3) := by decide +kernel
theorem dM_geeseIn_45 : decode yM_geeseIn.2.1 45 = .ok (.iconst 0, 1) := by decide +kernel
theorem dM_geeseIn_46 : decode yM_geeseIn.2.1 46 = .ok (.istore 5, 2) := by decide +kernel
theorem dM_geeseIn_48 : decode yM_geeseIn.2.1 48 = .ok (.iload_n 3, 1) := by decide +kernel
theorem dM_geeseIn_49 : decode yM_geeseIn.2.1 49 = .ok (.iload 5, 2) := by decide +kernel
theorem dM_geeseIn_51 : decode yM_geeseIn.2.1 51 = .ok (.ifCond .eq 10, 3) := by decide +kernel
theorem dM_geeseIn_54 : decode yM_geeseIn.2.1 54 = .ok (.iconst 1, 1) := by decide +kernel
theorem dM_geeseIn_55 : decode yM_geeseIn.2.1 55 = .ok (.iload 4, 2) := by decide +kernel
theorem dM_geeseIn_57 : decode yM_geeseIn.2.1 57 = .ok (.ishl, 1) := by decide +kernel
theorem dM_geeseIn_58 : decode yM_geeseIn.2.1 58 = .ok (.goto 4, 3) := by decide +kernel
theorem dM_geeseIn_61 : decode yM_geeseIn.2.1 61 = .ok (.iconst 0, 1) := by decide +kernel
theorem dM_geeseIn_62 : decode yM_geeseIn.2.1 62 = .ok (.ior, 1) := by decide +kernel
theorem dM_geeseIn_63 : decode yM_geeseIn.2.1 63 = .ok (.istore_n 3, 1) := by decide +kernel
theorem dM_geeseIn_64 : decode yM_geeseIn.2.1 64 = .ok (.iinc 4 1, 3) := by decide +kernel
theorem dM_geeseIn_67 : decode yM_geeseIn.2.1 67 = .ok (.goto (-62), 3) := by decide +kernel
theorem dM_geeseIn_70 : decode yM_geeseIn.2.1 70 = .ok (.iload_n 3, 1) := by decide +kernel
theorem dM_geeseIn_71 : decode yM_geeseIn.2.1 71 = .ok (.ireturn, 1) := by decide +kernel
theorem dM_isHolding_0 : decode yM_isHolding.2.1 0 = .ok (.aload_n 0, 1) := by decide +kernel
theorem dM_isHolding_1 : decode yM_isHolding.2.1 1 = .ok (.iload_n 1, 1) := by decide +kernel
theorem dM_isHolding_2 : decode yM_isHolding.2.1 2 = .ok (.invokevirtual 140, 3) := by decide +kernel
theorem dM_isHolding_5 : decode yM_isHolding.2.1 5 = .ok (.aload_n 0, 1) := by decide +kernel
theorem dM_isHolding_6 : decode yM_isHolding.2.1 6 = .ok (.getfield 7, 3) := by decide +kernel
theorem dM_isHolding_9 : decode yM_isHolding.2.1 9 = .ok (.bipush 8, 2) := by decide +kernel
theorem dM_isHolding_11 : decode yM_isHolding.2.1 11 = .ok (.iload_n 1, 1) := by decide +kernel
theorem dM_isHolding_12 : decode yM_isHolding.2.1 12 = .ok (.iadd, 1) := by decide +kernel
theorem dM_isHolding_13 : decode yM_isHolding.2.1 13 = .ok (.iaload, 1) := by decide +kernel
theorem dM_isHolding_14 : decode yM_isHolding.2.1 14 = .ok (.if_icmp .lt 7, 3) := by decide +kernel
theorem dM_isHolding_17 : decode yM_isHolding.2.1 17 = .ok (.iconst 1, 1) := by decide +kernel
theorem dM_isHolding_18 : decode yM_isHolding.2.1 18 = .ok (.goto 4, 3) := by decide +kernel
theorem dM_isHolding_21 : decode yM_isHolding.2.1 21 = .ok (.iconst 0, 1) := by decide +kernel
theorem dM_isHolding_22 : decode yM_isHolding.2.1 22 = .ok (.ireturn, 1) := by decide +kernel
theorem dM_rule_0 : decode yM_rule.2.1 0 = .ok (.iload_n 1, 1) := by decide +kernel
theorem dM_rule_1 : decode yM_rule.2.1 1 = .ok (.i2l, 1) := by decide +kernel
theorem dM_rule_2 : decode yM_rule.2.1 2 = .ok (.lconst 0, 1) := by decide +kernel
theorem dM_rule_3 : decode yM_rule.2.1 3 = .ok (.lconst 1, 1) := by decide +kernel
theorem dM_rule_4 : decode yM_rule.2.1 4 = .ok (.invokestatic 65, 3) := by decide +kernel
theorem dM_rule_7 : decode yM_rule.2.1 7 = .ok (.ifCond .eq 28, 3) := by decide +kernel
theorem dM_rule_10 : decode yM_rule.2.1 10 = .ok (.iload_n 2, 1) := by decide +kernel
theorem dM_rule_11 : decode yM_rule.2.1 11 = .ok (.i2l, 1) := by decide +kernel
theorem dM_rule_12 : decode yM_rule.2.1 12 = .ok (.lconst 0, 1) := by decide +kernel
theorem dM_rule_13 : decode yM_rule.2.1 13 = .ok (.bipush 99, 2) := by decide +kernel
theorem dM_rule_15 : decode yM_rule.2.1 15 = .ok (.iload_n 1, 1) := by decide +kernel
theorem dM_rule_16 : decode yM_rule.2.1 16 = .ok (.iadd, 1) := by decide +kernel
theorem dM_rule_17 : decode yM_rule.2.1 17 = .ok (.i2l, 1) := by decide +kernel
theorem dM_rule_18 : decode yM_rule.2.1 18 = .ok (.invokestatic 65, 3) := by decide +kernel
theorem dM_rule_21 : decode yM_rule.2.1 21 = .ok (.ifCond .eq 14, 3) := by decide +kernel
theorem dM_rule_24 : decode yM_rule.2.1 24 = .ok (.aload_n 0, 1) := by decide +kernel
theorem dM_rule_25 : decode yM_rule.2.1 25 = .ok (.iconst 1, 1) := by decide +kernel
theorem dM_rule_26 : decode yM_rule.2.1 26 = .ok (.iload_n 1, 1) := by decide +kernel
theorem dM_rule_27 : decode yM_rule.2.1 27 = .ok (.iadd, 1) := by decide +kernel
theorem dM_rule_28 : decode yM_rule.2.1 28 = .ok (.iload_n 2, 1) := by decide +kernel
theorem dM_rule_29 : decode yM_rule.2.1 29 = .ok (.invokevirtual 130, 3) := by decide +kernel
theorem dM_rule_32 : decode yM_rule.2.1 32 = .ok (.goto 5, 3) := by decide +kernel
theorem dM_rule_35 : decode yM_rule.2.1 35 = .ok (.ldc 96, 2) := by decide +kernel
theorem dM_rule_37 : decode yM_rule.2.1 37 = .ok (.ireturn, 1) := by decide +kernel
theorem dM_deal_0 : decode yM_deal.2.1 0 = .ok (.iload_n 1, 1) := by decide +kernel
theorem dM_deal_1 : decode yM_deal.2.1 1 = .ok (.i2l, 1) := by decide +kernel
theorem dM_deal_2 : decode yM_deal.2.1 2 = .ok (.lconst 1, 1) := by decide +kernel
theorem dM_deal_3 : decode yM_deal.2.1 3 = .ok (.ldc2_w 151, 3) := by decide +kernel
theorem dM_deal_6 : decode yM_deal.2.1 6 = .ok (.invokestatic 65, 3) := by decide +kernel
theorem dM_deal_9 : decode yM_deal.2.1 9 = .ok (.ifCond .ne 6, 3) := by decide +kernel
theorem dM_deal_12 : decode yM_deal.2.1 12 = .ok (.ldc 96, 2) := by decide +kernel
theorem dM_deal_14 : decode yM_deal.2.1 14 = .ok (.ireturn, 1) := by decide +kernel
theorem dM_deal_15 : decode yM_deal.2.1 15 = .ok (.iconst 0, 1) := by decide +kernel
theorem dM_deal_16 : decode yM_deal.2.1 16 = .ok (.istore_n 2, 1) := by decide +kernel
theorem dM_deal_17 : decode yM_deal.2.1 17 = .ok (.iload_n 2, 1) := by decide +kernel
theorem dM_deal_18 : decode yM_deal.2.1 18 = .ok (.iload_n 1, 1) := by decide +kernel
theorem dM_deal_19 : decode yM_deal.2.1 19 = .ok (.if_icmp .ge 63, 3) := by decide +kernel
theorem dM_deal_22 : decode yM_deal.2.1 22 = .ok (.aload_n 0, 1) := by decide +kernel
theorem dM_deal_23 : decode yM_deal.2.1 23 = .ok (.getfield 7, 3) := by decide +kernel
theorem dM_deal_26 : decode yM_deal.2.1 26 = .ok (.iconst 0, 1) := by decide +kernel
theorem dM_deal_27 : decode yM_deal.2.1 27 = .ok (.iaload, 1) := by decide +kernel
theorem dM_deal_28 : decode yM_deal.2.1 28 = .ok (.bipush 10, 2) := by decide +kernel
theorem dM_deal_30 : decode yM_deal.2.1 30 = .ok (.if_icmp .ge 52, 3) := by decide +kernel
theorem dM_deal_33 : decode yM_deal.2.1 33 = .ok (.aload_n 0, 1) := by decide +kernel
theorem dM_deal_34 : decode yM_deal.2.1 34 = .ok (.invokevirtual 153, 3) := by decide +kernel
theorem dM_deal_37 : decode yM_deal.2.1 37 = .ok (.bipush 6, 2) := by decide +kernel
theorem dM_deal_39 : decode yM_deal.2.1 39 = .ok (.irem, 1) := by decide +kernel
theorem dM_deal_40 : decode yM_deal.2.1 40 = .ok (.istore_n 3, 1) := by decide +kernel
theorem dM_deal_41 : decode yM_deal.2.1 41 = .ok (.aload_n 0, 1) := by decide +kernel
theorem dM_deal_42 : decode yM_deal.2.1 42 = .ok (.invokevirtual 153, 3) := by decide +kernel
theorem dM_deal_45 : decode yM_deal.2.1 45 = .ok (.bipush 100, 2) := by decide +kernel
theorem dM_deal_47 : decode yM_deal.2.1 47 = .ok (.irem, 1) := by decide +kernel
theorem dM_deal_48 : decode yM_deal.2.1 48 = .ok (.istore 4, 2) := by decide +kernel
theorem dM_deal_50 : decode yM_deal.2.1 50 = .ok (.aload_n 0, 1) := by decide +kernel
theorem dM_deal_51 : decode yM_deal.2.1 51 = .ok (.invokevirtual 153, 3) := by decide +kernel
theorem dM_deal_54 : decode yM_deal.2.1 54 = .ok (.bipush 40, 2) := by decide +kernel
theorem dM_deal_56 : decode yM_deal.2.1 56 = .ok (.irem, 1) := by decide +kernel
theorem dM_deal_57 : decode yM_deal.2.1 57 = .ok (.istore 5, 2) := by decide +kernel
theorem dM_deal_59 : decode yM_deal.2.1 59 = .ok (.aload_n 0, 1) := by decide +kernel
theorem dM_deal_60 : decode yM_deal.2.1 60 = .ok (.iload_n 3, 1) := by decide +kernel
theorem dM_deal_61 : decode yM_deal.2.1 61 = .ok (.iload 4, 2) := by decide +kernel
theorem dM_deal_63 : decode yM_deal.2.1 63 = .ok (.iload 5, 2) := by decide +kernel
theorem dM_deal_65 : decode yM_deal.2.1 65 = .ok (.aload_n 0, 1) := by decide +kernel
theorem dM_deal_66 : decode yM_deal.2.1 66 = .ok (.invokevirtual 153, 3) := by decide +kernel
theorem dM_deal_69 : decode yM_deal.2.1 69 = .ok (.bipush 6, 2) := by decide +kernel
theorem dM_deal_71 : decode yM_deal.2.1 71 = .ok (.irem, 1) := by decide +kernel
theorem dM_deal_72 : decode yM_deal.2.1 72 = .ok (.invokevirtual 109, 3) := by decide +kernel
theorem dM_deal_75 : decode yM_deal.2.1 75 = .ok (.pop, 1) := by decide +kernel
theorem dM_deal_76 : decode yM_deal.2.1 76 = .ok (.iinc 2 1, 3) := by decide +kernel
theorem dM_deal_79 : decode yM_deal.2.1 79 = .ok (.goto (-62), 3) := by decide +kernel
theorem dM_deal_82 : decode yM_deal.2.1 82 = .ok (.iload_n 2, 1) := by decide +kernel
theorem dM_deal_83 : decode yM_deal.2.1 83 = .ok (.ireturn, 1) := by decide +kernel
theorem dM_draw_0 : decode yM_draw.2.1 0 = .ok (.aload_n 0, 1) := by decide +kernel
theorem dM_draw_1 : decode yM_draw.2.1 1 = .ok (.getfield 7, 3) := by decide +kernel
theorem dM_draw_4 : decode yM_draw.2.1 4 = .ok (.bipush 7, 2) := by decide +kernel
theorem dM_draw_6 : decode yM_draw.2.1 6 = .ok (.aload_n 0, 1) := by decide +kernel
theorem dM_draw_7 : decode yM_draw.2.1 7 = .ok (.getfield 7, 3) := by decide +kernel
theorem dM_draw_10 : decode yM_draw.2.1 10 = .ok (.bipush 7, 2) := by decide +kernel
theorem dM_draw_12 : decode yM_draw.2.1 12 = .ok (.iaload, 1) := by decide +kernel
theorem dM_draw_13 : decode yM_draw.2.1 13 = .ok (.ldc 150, 2) := by decide +kernel
theorem dM_draw_15 : decode yM_draw.2.1 15 = .ok (.imul, 1) := by decide +kernel
theorem dM_draw_16 : decode yM_draw.2.1 16 = .ok (.sipush 12345, 3) := by decide +kernel
theorem dM_draw_19 : decode yM_draw.2.1 19 = .ok (.iadd, 1) := by decide +kernel
theorem dM_draw_20 : decode yM_draw.2.1 20 = .ok (.iastore, 1) := by decide +kernel
theorem dM_draw_21 : decode yM_draw.2.1 21 = .ok (.aload_n 0, 1) := by decide +kernel
theorem dM_draw_22 : decode yM_draw.2.1 22 = .ok (.getfield 7, 3) := by decide +kernel
theorem dM_draw_25 : decode yM_draw.2.1 25 = .ok (.bipush 7, 2) := by decide +kernel
theorem dM_draw_27 : decode yM_draw.2.1 27 = .ok (.iaload, 1) := by decide +kernel
theorem dM_draw_28 : decode yM_draw.2.1 28 = .ok (.bipush 8, 2) := by decide +kernel
theorem dM_draw_30 : decode yM_draw.2.1 30 = .ok (.iushr, 1) := by decide +kernel
theorem dM_draw_31 : decode yM_draw.2.1 31 = .ok (.ireturn, 1) := by decide +kernel
theorem dM_seed_0 : decode yM_seed.2.1 0 = .ok (.aload_n 0, 1) := by decide +kernel
theorem dM_seed_1 : decode yM_seed.2.1 1 = .ok (.bipush 7, 2) := by decide +kernel
theorem dM_seed_3 : decode yM_seed.2.1 3 = .ok (.iload_n 1, 1) := by decide +kernel
theorem dM_seed_4 : decode yM_seed.2.1 4 = .ok (.invokevirtual 130, 3) := by decide +kernel
theorem dM_seed_7 : decode yM_seed.2.1 7 = .ok (.ireturn, 1) := by decide +kernel
theorem dM_drive_0 : decode yM_drive.2.1 0 = .ok (.iload_n 1, 1) := by decide +kernel
theorem dM_drive_1 : decode yM_drive.2.1 1 = .ok (.invokestatic 105, 3) := by decide +kernel
theorem dM_drive_4 : decode yM_drive.2.1 4 = .ok (.ifCond .eq 13, 3) := by decide +kernel
theorem dM_drive_7 : decode yM_drive.2.1 7 = .ok (.iload_n 2, 1) := by decide +kernel
theorem dM_drive_8 : decode yM_drive.2.1 8 = .ok (.i2l, 1) := by decide +kernel
theorem dM_drive_9 : decode yM_drive.2.1 9 = .ok (.lconst 0, 1) := by decide +kernel
theorem dM_drive_10 : decode yM_drive.2.1 10 = .ok (.lconst 1, 1) := by decide +kernel
theorem dM_drive_11 : decode yM_drive.2.1 11 = .ok (.invokestatic 65, 3) := by decide +kernel
theorem dM_drive_14 : decode yM_drive.2.1 14 = .ok (.ifCond .ne 6, 3) := by decide +kernel
theorem dM_drive_17 : decode yM_drive.2.1 17 = .ok (.ldc 96, 2) := by decide +kernel
theorem dM_drive_19 : decode yM_drive.2.1 19 = .ok (.ireturn, 1) := by decide +kernel
theorem dM_drive_20 : decode yM_drive.2.1 20 = .ok (.aload_n 0, 1) := by decide +kernel
theorem dM_drive_21 : decode yM_drive.2.1 21 = .ok (.iload_n 1, 1) := by decide +kernel
theorem dM_drive_22 : decode yM_drive.2.1 22 = .ok (.iconst 0, 1) := by decide +kernel
theorem dM_drive_23 : decode yM_drive.2.1 23 = .ok (.invokevirtual 143, 3) := by decide +kernel
theorem dM_drive_26 : decode yM_drive.2.1 26 = .ok (.istore_n 3, 1) := by decide +kernel
theorem dM_drive_27 : decode yM_drive.2.1 27 = .ok (.iconst (-1), 1) := by decide +kernel
theorem dM_drive_28 : decode yM_drive.2.1 28 = .ok (.istore 4, 2) := by decide +kernel
theorem dM_drive_30 : decode yM_drive.2.1 30 = .ok (.iconst 0, 1) := by decide +kernel
theorem dM_drive_31 : decode yM_drive.2.1 31 = .ok (.istore 5, 2) := by decide +kernel
theorem dM_drive_33 : decode yM_drive.2.1 33 = .ok (.iload 5, 2) := by decide +kernel
theorem dM_drive_35 : decode yM_drive.2.1 35 = .ok (.iconst 1, 1) := by decide +kernel
theorem dM_drive_36 : decode yM_drive.2.1 36 = .ok (.aload_n 0, 1) := by decide +kernel
theorem dM_drive_37 : decode yM_drive.2.1 37 = .ok (.getfield 7, 3) := by decide +kernel
theorem dM_drive_40 : decode yM_drive.2.1 40 = .ok (.iconst 0, 1) := by decide +kernel
theorem dM_drive_41 : decode yM_drive.2.1 41 = .ok (.iaload, 1) := by decide +kernel
theorem dM_drive_42 : decode yM_drive.2.1 42 = .ok (.ishl, 1) := by decide +kernel
theorem dM_drive_43 : decode yM_drive.2.1 43 = .ok (.if_icmp .ge 65, 3) := by decide +kernel
theorem dM_drive_46 : decode yM_drive.2.1 46 = .ok (.iload 4, 2) := by decide +kernel
theorem dM_drive_48 : decode yM_drive.2.1 48 = .ok (.ifCond .lt 16, 3) := by decide +kernel
theorem dM_drive_51 : decode yM_drive.2.1 51 = .ok (.iload 5, 2) := by decide +kernel
theorem dM_drive_53 : decode yM_drive.2.1 53 = .ok (.invokestatic 163, 3) := by decide +kernel
theorem dM_drive_56 : decode yM_drive.2.1 56 = .ok (.iload 4, 2) := by decide +kernel
theorem dM_drive_58 : decode yM_drive.2.1 58 = .ok (.invokestatic 163, 3) := by decide +kernel
theorem dM_drive_61 : decode yM_drive.2.1 61 = .ok (.if_icmp .ge 7, 3) := by decide +kernel
theorem dM_drive_64 : decode yM_drive.2.1 64 = .ok (.iconst 1, 1) := by decide +kernel
theorem dM_drive_65 : decode yM_drive.2.1 65 = .ok (.goto 4, 3) := by decide +kernel
theorem dM_drive_68 : decode yM_drive.2.1 68 = .ok (.iconst 0, 1) := by decide +kernel
theorem dM_drive_69 : decode yM_drive.2.1 69 = .ok (.istore 6, 2) := by decide +kernel
theorem dM_drive_71 : decode yM_drive.2.1 71 = .ok (.iload 5, 2) := by decide +kernel
theorem dM_drive_73 : decode yM_drive.2.1 73 = .ok (.iload_n 3, 1) := by decide +kernel
theorem dM_drive_74 : decode yM_drive.2.1 74 = .ok (.iand, 1) := by decide +kernel
theorem dM_drive_75 : decode yM_drive.2.1 75 = .ok (.ifCond .ne 23, 3) := by decide +kernel
theorem dM_drive_78 : decode yM_drive.2.1 78 = .ok (.iload 6, 2) := by decide +kernel
theorem dM_drive_80 : decode yM_drive.2.1 80 = .ok (.ifCond .eq 18, 3) := by decide +kernel
theorem dM_drive_83 : decode yM_drive.2.1 83 = .ok (.aload_n 0, 1) := by decide +kernel
theorem dM_drive_84 : decode yM_drive.2.1 84 = .ok (.iload_n 1, 1) := by decide +kernel
theorem dM_drive_85 : decode yM_drive.2.1 85 = .ok (.iload 5, 2) := by decide +kernel
theorem dM_drive_87 : decode yM_drive.2.1 87 = .ok (.invokevirtual 166, 3) := by decide +kernel
theorem dM_drive_90 : decode yM_drive.2.1 90 = .ok (.ifCond .eq 8, 3) := by decide +kernel
theorem dM_drive_93 : decode yM_drive.2.1 93 = .ok (.iload 5, 2) := by decide +kernel
theorem dM_drive_95 : decode yM_drive.2.1 95 = .ok (.goto 5, 3) := by decide +kernel
theorem dM_drive_98 : decode yM_drive.2.1 98 = .ok (.iload 4, 2) := by decide +kernel
theorem dM_drive_100 : decode yM_drive.2.1 100 = .ok (.istore 4, 2) := by decide +kernel
theorem dM_drive_102 : decode yM_drive.2.1 102 = .ok (.iinc 5 1, 3) := by decide +kernel
theorem dM_drive_105 : decode yM_drive.2.1 105 = .ok (.goto (-72), 3) := by decide +kernel
theorem dM_drive_108 : decode yM_drive.2.1 108 = .ok (.iload 4, 2) := by decide +kernel
theorem dM_drive_110 : decode yM_drive.2.1 110 = .ok (.ifCond .ge 8, 3) := by decide +kernel
theorem dM_drive_113 : decode yM_drive.2.1 113 = .ok (.ldc 169, 2) := by decide +kernel
theorem dM_drive_115 : decode yM_drive.2.1 115 = .ok (.goto 17, 3) := by decide +kernel
theorem dM_drive_118 : decode yM_drive.2.1 118 = .ok (.iload_n 2, 1) := by decide +kernel
theorem dM_drive_119 : decode yM_drive.2.1 119 = .ok (.ifCond .ne 8, 3) := by decide +kernel
theorem dM_drive_122 : decode yM_drive.2.1 122 = .ok (.iload 4, 2) := by decide +kernel
theorem dM_drive_124 : decode yM_drive.2.1 124 = .ok (.goto 8, 3) := by decide +kernel
theorem dM_drive_127 : decode yM_drive.2.1 127 = .ok (.iload 4, 2) := by decide +kernel
theorem dM_drive_129 : decode yM_drive.2.1 129 = .ok (.invokestatic 163, 3) := by decide +kernel
theorem dM_drive_132 : decode yM_drive.2.1 132 = .ok (.ireturn, 1) := by decide +kernel
theorem dM_ones_0 : decode yM_ones.2.1 0 = .ok (.iconst 0, 1) := by decide +kernel
theorem dM_ones_1 : decode yM_ones.2.1 1 = .ok (.istore_n 1, 1) := by decide +kernel
theorem dM_ones_2 : decode yM_ones.2.1 2 = .ok (.iconst 0, 1) := by decide +kernel
theorem dM_ones_3 : decode yM_ones.2.1 3 = .ok (.istore_n 2, 1) := by decide +kernel
theorem dM_ones_4 : decode yM_ones.2.1 4 = .ok (.iload_n 2, 1) := by decide +kernel
theorem dM_ones_5 : decode yM_ones.2.1 5 = .ok (.bipush 10, 2) := by decide +kernel
theorem dM_ones_7 : decode yM_ones.2.1 7 = .ok (.if_icmp .ge 17, 3) := by decide +kernel
theorem dM_ones_10 : decode yM_ones.2.1 10 = .ok (.iload_n 1, 1) := by decide +kernel
theorem dM_ones_11 : decode yM_ones.2.1 11 = .ok (.iload_n 0, 1) := by decide +kernel
theorem dM_ones_12 : decode yM_ones.2.1 12 = .ok (.iload_n 2, 1) := by decide +kernel
theorem dM_ones_13 : decode yM_ones.2.1 13 = .ok (.ishr, 1) := by decide +kernel
theorem dM_ones_14 : decode yM_ones.2.1 14 = .ok (.iconst 1, 1) := by decide +kernel
theorem dM_ones_15 : decode yM_ones.2.1 15 = .ok (.iand, 1) := by decide +kernel
theorem dM_ones_16 : decode yM_ones.2.1 16 = .ok (.iadd, 1) := by decide +kernel
theorem dM_ones_17 : decode yM_ones.2.1 17 = .ok (.istore_n 1, 1) := by decide +kernel
theorem dM_ones_18 : decode yM_ones.2.1 18 = .ok (.iinc 2 1, 3) := by decide +kernel
theorem dM_ones_21 : decode yM_ones.2.1 21 = .ok (.goto (-17), 3) := by decide +kernel
theorem dM_ones_24 : decode yM_ones.2.1 24 = .ok (.iload_n 1, 1) := by decide +kernel
theorem dM_ones_25 : decode yM_ones.2.1 25 = .ok (.ireturn, 1) := by decide +kernel
theorem dM_isHoldingWith_0 : decode yM_isHoldingWith.2.1 0 = .ok (.aload_n 0, 1) := by decide +kernel
theorem dM_isHoldingWith_1 : decode yM_isHoldingWith.2.1 1 = .ok (.invokevirtual 157, 3) := by decide +kernel
theorem dM_isHoldingWith_4 : decode yM_isHoldingWith.2.1 4 = .ok (.iconst 0, 1) := by decide +kernel
theorem dM_isHoldingWith_5 : decode yM_isHoldingWith.2.1 5 = .ok (.istore_n 3, 1) := by decide +kernel
theorem dM_isHoldingWith_6 : decode yM_isHoldingWith.2.1 6 = .ok (.iload_n 3, 1) := by decide +kernel
theorem dM_isHoldingWith_7 : decode yM_isHoldingWith.2.1 7 = .ok (.aload_n 0, 1) := by decide +kernel
theorem dM_isHoldingWith_8 : decode yM_isHoldingWith.2.1 8 = .ok (.getfield 7, 3) := by decide +kernel
theorem dM_isHoldingWith_11 : decode yM_isHoldingWith.2.1 11 = .ok (.iconst 0, 1) := by decide +kernel
theorem dM_isHoldingWith_12 : decode yM_isHoldingWith.2.1 12 = .ok (.iaload, 1) := by decide +kernel
theorem dM_isHoldingWith_13 : decode yM_isHoldingWith.2.1 13 = .ok (.if_icmp .ge 38, 3) := by decide +kernel
theorem dM_isHoldingWith_16 : decode yM_isHoldingWith.2.1 16 = .ok (.aload_n 0, 1) := by decide +kernel
theorem dM_isHoldingWith_17 : decode yM_isHoldingWith.2.1 17 = .ok (.getfield 7, 3) := by decide +kernel
theorem dM_isHoldingWith_20 : decode yM_isHoldingWith.2.1 20 = .ok (.iload_n 3, 1) := by decide +kernel
theorem dM_isHoldingWith_21 : decode yM_isHoldingWith.2.1 21 = .ok (.iconst 3, 1) := by decide +kernel
theorem dM_isHoldingWith_22 : decode yM_isHoldingWith.2.1 22 = .ok (.invokestatic 61, 3) := by decide +kernel
theorem dM_isHoldingWith_25 : decode yM_isHoldingWith.2.1 25 = .ok (.iload_n 2, 1) := by decide +kernel
theorem dM_isHoldingWith_26 : decode yM_isHoldingWith.2.1 26 = .ok (.iload_n 3, 1) := by decide +kernel
theorem dM_isHoldingWith_27 : decode yM_isHoldingWith.2.1 27 = .ok (.ishr, 1) := by decide +kernel
theorem dM_isHoldingWith_28 : decode yM_isHoldingWith.2.1 28 = .ok (.iconst 1, 1) := by decide +kernel
theorem dM_isHoldingWith_29 : decode yM_isHoldingWith.2.1 29 = .ok (.iand, 1) := by decide +kernel
theorem dM_isHoldingWith_30 : decode yM_isHoldingWith.2.1 30 = .ok (.iconst 1, 1) := by decide +kernel
theorem dM_isHoldingWith_31 : decode yM_isHoldingWith.2.1 31 = .ok (.if_icmp .ne 7, 3) := by decide +kernel
theorem dM_isHoldingWith_34 : decode yM_isHoldingWith.2.1 34 = .ok (.iload_n 1, 1) := by decide +kernel
theorem dM_isHoldingWith_35 : decode yM_isHoldingWith.2.1 35 = .ok (.goto 9, 3) := by decide +kernel
theorem dM_isHoldingWith_38 : decode yM_isHoldingWith.2.1 38 = .ok (.aload_n 0, 1) := by decide +kernel
theorem dM_isHoldingWith_39 : decode yM_isHoldingWith.2.1 39 = .ok (.iload_n 3, 1) := by decide +kernel
theorem dM_isHoldingWith_40 : decode yM_isHoldingWith.2.1 40 = .ok (.iconst 3, 1) := by decide +kernel
theorem dM_isHoldingWith_41 : decode yM_isHoldingWith.2.1 41 = .ok (.invokevirtual 79, 3) := by decide +kernel
theorem dM_isHoldingWith_44 : decode yM_isHoldingWith.2.1 44 = .ok (.iastore, 1) := by decide +kernel
theorem dM_isHoldingWith_45 : decode yM_isHoldingWith.2.1 45 = .ok (.iinc 3 1, 3) := by decide +kernel
theorem dM_isHoldingWith_48 : decode yM_isHoldingWith.2.1 48 = .ok (.goto (-42), 3) := by decide +kernel
theorem dM_isHoldingWith_51 : decode yM_isHoldingWith.2.1 51 = .ok (.aload_n 0, 1) := by decide +kernel
theorem dM_isHoldingWith_52 : decode yM_isHoldingWith.2.1 52 = .ok (.aload_n 0, 1) := by decide +kernel
theorem dM_isHoldingWith_53 : decode yM_isHoldingWith.2.1 53 = .ok (.iload_n 1, 1) := by decide +kernel
theorem dM_isHoldingWith_54 : decode yM_isHoldingWith.2.1 54 = .ok (.invokevirtual 147, 3) := by decide +kernel
theorem dM_isHoldingWith_57 : decode yM_isHoldingWith.2.1 57 = .ok (.invokestatic 71, 3) := by decide +kernel
theorem dM_isHoldingWith_60 : decode yM_isHoldingWith.2.1 60 = .ok (.invokevirtual 160, 3) := by decide +kernel
theorem dM_isHoldingWith_63 : decode yM_isHoldingWith.2.1 63 = .ok (.iconst 1, 1) := by decide +kernel
theorem dM_isHoldingWith_64 : decode yM_isHoldingWith.2.1 64 = .ok (.if_icmp .ne 7, 3) := by decide +kernel
theorem dM_isHoldingWith_67 : decode yM_isHoldingWith.2.1 67 = .ok (.iconst 1, 1) := by decide +kernel
theorem dM_isHoldingWith_68 : decode yM_isHoldingWith.2.1 68 = .ok (.goto 4, 3) := by decide +kernel
theorem dM_isHoldingWith_71 : decode yM_isHoldingWith.2.1 71 = .ok (.iconst 0, 1) := by decide +kernel
theorem dM_isHoldingWith_72 : decode yM_isHoldingWith.2.1 72 = .ok (.ireturn, 1) := by decide +kernel
theorem dM_laysAside_0 : decode yM_laysAside.2.1 0 = .ok (.iconst 0, 1) := by decide +kernel
theorem dM_laysAside_1 : decode yM_laysAside.2.1 1 = .ok (.istore_n 1, 1) := by decide +kernel
theorem dM_laysAside_2 : decode yM_laysAside.2.1 2 = .ok (.iload_n 1, 1) := by decide +kernel
theorem dM_laysAside_3 : decode yM_laysAside.2.1 3 = .ok (.bipush 64, 2) := by decide +kernel
theorem dM_laysAside_5 : decode yM_laysAside.2.1 5 = .ok (.if_icmp .ge 21, 3) := by decide +kernel
theorem dM_laysAside_8 : decode yM_laysAside.2.1 8 = .ok (.aload_n 0, 1) := by decide +kernel
theorem dM_laysAside_9 : decode yM_laysAside.2.1 9 = .ok (.getfield 16, 3) := by decide +kernel
theorem dM_laysAside_12 : decode yM_laysAside.2.1 12 = .ok (.iload_n 1, 1) := by decide +kernel
theorem dM_laysAside_13 : decode yM_laysAside.2.1 13 = .ok (.aload_n 0, 1) := by decide +kernel
theorem dM_laysAside_14 : decode yM_laysAside.2.1 14 = .ok (.getfield 7, 3) := by decide +kernel
theorem dM_laysAside_17 : decode yM_laysAside.2.1 17 = .ok (.iload_n 1, 1) := by decide +kernel
theorem dM_laysAside_18 : decode yM_laysAside.2.1 18 = .ok (.iaload, 1) := by decide +kernel
theorem dM_laysAside_19 : decode yM_laysAside.2.1 19 = .ok (.iastore, 1) := by decide +kernel
theorem dM_laysAside_20 : decode yM_laysAside.2.1 20 = .ok (.iinc 1 1, 3) := by decide +kernel
theorem dM_laysAside_23 : decode yM_laysAside.2.1 23 = .ok (.goto (-21), 3) := by decide +kernel
theorem dM_laysAside_26 : decode yM_laysAside.2.1 26 = .ok (.return_, 1) := by decide +kernel
theorem dM_takesBack_0 : decode yM_takesBack.2.1 0 = .ok (.iconst 0, 1) := by decide +kernel
theorem dM_takesBack_1 : decode yM_takesBack.2.1 1 = .ok (.istore_n 2, 1) := by decide +kernel
theorem dM_takesBack_2 : decode yM_takesBack.2.1 2 = .ok (.iload_n 2, 1) := by decide +kernel
theorem dM_takesBack_3 : decode yM_takesBack.2.1 3 = .ok (.bipush 64, 2) := by decide +kernel
theorem dM_takesBack_5 : decode yM_takesBack.2.1 5 = .ok (.if_icmp .ge 21, 3) := by decide +kernel
theorem dM_takesBack_8 : decode yM_takesBack.2.1 8 = .ok (.aload_n 0, 1) := by decide +kernel
theorem dM_takesBack_9 : decode yM_takesBack.2.1 9 = .ok (.getfield 7, 3) := by decide +kernel
theorem dM_takesBack_12 : decode yM_takesBack.2.1 12 = .ok (.iload_n 2, 1) := by decide +kernel
theorem dM_takesBack_13 : decode yM_takesBack.2.1 13 = .ok (.aload_n 0, 1) := by decide +kernel
theorem dM_takesBack_14 : decode yM_takesBack.2.1 14 = .ok (.getfield 16, 3) := by decide +kernel
theorem dM_takesBack_17 : decode yM_takesBack.2.1 17 = .ok (.iload_n 2, 1) := by decide +kernel
theorem dM_takesBack_18 : decode yM_takesBack.2.1 18 = .ok (.iaload, 1) := by decide +kernel
theorem dM_takesBack_19 : decode yM_takesBack.2.1 19 = .ok (.iastore, 1) := by decide +kernel
theorem dM_takesBack_20 : decode yM_takesBack.2.1 20 = .ok (.iinc 2 1, 3) := by decide +kernel
theorem dM_takesBack_23 : decode yM_takesBack.2.1 23 = .ok (.goto (-21), 3) := by decide +kernel
theorem dM_takesBack_26 : decode yM_takesBack.2.1 26 = .ok (.iload_n 1, 1) := by decide +kernel
theorem dM_takesBack_27 : decode yM_takesBack.2.1 27 = .ok (.ireturn, 1) := by decide +kernel
theorem dM_strike_0 : decode yM_strike.2.1 0 = .ok (.iload_n 1, 1) := by decide +kernel
theorem dM_strike_1 : decode yM_strike.2.1 1 = .ok (.invokestatic 105, 3) := by decide +kernel
theorem dM_strike_4 : decode yM_strike.2.1 4 = .ok (.ifCond .eq 11, 3) := by decide +kernel
theorem dM_strike_7 : decode yM_strike.2.1 7 = .ok (.aload_n 0, 1) := by decide +kernel
theorem dM_strike_8 : decode yM_strike.2.1 8 = .ok (.iload_n 1, 1) := by decide +kernel
theorem dM_strike_9 : decode yM_strike.2.1 9 = .ok (.invokevirtual 171, 3) := by decide +kernel
theorem dM_strike_12 : decode yM_strike.2.1 12 = .ok (.goto 5, 3) := by decide +kernel
theorem dM_strike_15 : decode yM_strike.2.1 15 = .ok (.ldc 96, 2) := by decide +kernel
theorem dM_strike_17 : decode yM_strike.2.1 17 = .ok (.ireturn, 1) := by decide +kernel
theorem dM_bargain_0 : decode yM_bargain.2.1 0 = .ok (.aload_n 0, 1) := by decide +kernel
theorem dM_bargain_1 : decode yM_bargain.2.1 1 = .ok (.iload_n 1, 1) := by decide +kernel
theorem dM_bargain_2 : decode yM_bargain.2.1 2 = .ok (.invokevirtual 147, 3) := by decide +kernel
theorem dM_bargain_5 : decode yM_bargain.2.1 5 = .ok (.istore_n 2, 1) := by decide +kernel
theorem dM_bargain_6 : decode yM_bargain.2.1 6 = .ok (.aload_n 0, 1) := by decide +kernel
theorem dM_bargain_7 : decode yM_bargain.2.1 7 = .ok (.iload_n 1, 1) := by decide +kernel
theorem dM_bargain_8 : decode yM_bargain.2.1 8 = .ok (.iconst 1, 1) := by decide +kernel
theorem dM_bargain_9 : decode yM_bargain.2.1 9 = .ok (.invokevirtual 143, 3) := by decide +kernel
theorem dM_bargain_12 : decode yM_bargain.2.1 12 = .ok (.istore_n 3, 1) := by decide +kernel
theorem dM_bargain_13 : decode yM_bargain.2.1 13 = .ok (.iconst 0, 1) := by decide +kernel
theorem dM_bargain_14 : decode yM_bargain.2.1 14 = .ok (.istore 4, 2) := by decide +kernel
theorem dM_bargain_16 : decode yM_bargain.2.1 16 = .ok (.iload 4, 2) := by decide +kernel
theorem dM_bargain_18 : decode yM_bargain.2.1 18 = .ok (.aload_n 0, 1) := by decide +kernel
theorem dM_bargain_19 : decode yM_bargain.2.1 19 = .ok (.getfield 7, 3) := by decide +kernel
theorem dM_bargain_22 : decode yM_bargain.2.1 22 = .ok (.iconst 0, 1) := by decide +kernel
theorem dM_bargain_23 : decode yM_bargain.2.1 23 = .ok (.iaload, 1) := by decide +kernel
theorem dM_bargain_24 : decode yM_bargain.2.1 24 = .ok (.if_icmp .ge 61, 3) := by decide +kernel
theorem dM_bargain_27 : decode yM_bargain.2.1 27 = .ok (.iload_n 2, 1) := by decide +kernel
theorem dM_bargain_28 : decode yM_bargain.2.1 28 = .ok (.ifCond .eq 17, 3) := by decide +kernel
theorem dM_bargain_31 : decode yM_bargain.2.1 31 = .ok (.iload_n 3, 1) := by decide +kernel
theorem dM_bargain_32 : decode yM_bargain.2.1 32 = .ok (.iload 4, 2) := by decide +kernel
theorem dM_bargain_34 : decode yM_bargain.2.1 34 = .ok (.ishr, 1) := by decide +kernel
theorem dM_bargain_35 : decode yM_bargain.2.1 35 = .ok (.iconst 1, 1) := by decide +kernel
theorem dM_bargain_36 : decode yM_bargain.2.1 36 = .ok (.iand, 1) := by decide +kernel
theorem dM_bargain_37 : decode yM_bargain.2.1 37 = .ok (.iconst 1, 1) := by decide +kernel
theorem dM_bargain_38 : decode yM_bargain.2.1 38 = .ok (.if_icmp .ne 7, 3) := by decide +kernel
theorem dM_bargain_41 : decode yM_bargain.2.1 41 = .ok (.iconst 1, 1) := by decide +kernel
theorem dM_bargain_42 : decode yM_bargain.2.1 42 = .ok (.goto 4, 3) := by decide +kernel
theorem dM_bargain_45 : decode yM_bargain.2.1 45 = .ok (.iconst 0, 1) := by decide +kernel
theorem dM_bargain_46 : decode yM_bargain.2.1 46 = .ok (.istore 5, 2) := by decide +kernel
theorem dM_bargain_48 : decode yM_bargain.2.1 48 = .ok (.aload_n 0, 1) := by decide +kernel
theorem dM_bargain_49 : decode yM_bargain.2.1 49 = .ok (.getfield 7, 3) := by decide +kernel
theorem dM_bargain_52 : decode yM_bargain.2.1 52 = .ok (.iload 4, 2) := by decide +kernel
theorem dM_bargain_54 : decode yM_bargain.2.1 54 = .ok (.iconst 4, 1) := by decide +kernel
theorem dM_bargain_55 : decode yM_bargain.2.1 55 = .ok (.invokestatic 61, 3) := by decide +kernel
theorem dM_bargain_58 : decode yM_bargain.2.1 58 = .ok (.aload_n 0, 1) := by decide +kernel
theorem dM_bargain_59 : decode yM_bargain.2.1 59 = .ok (.iload 4, 2) := by decide +kernel
theorem dM_bargain_61 : decode yM_bargain.2.1 61 = .ok (.iconst 4, 1) := by decide +kernel
theorem dM_bargain_62 : decode yM_bargain.2.1 62 = .ok (.invokevirtual 79, 3) := by decide +kernel
theorem dM_bargain_65 : decode yM_bargain.2.1 65 = .ok (.iload 5, 2) := by decide +kernel
theorem dM_bargain_67 : decode yM_bargain.2.1 67 = .ok (.invokestatic 71, 3) := by decide +kernel
theorem dM_bargain_70 : decode yM_bargain.2.1 70 = .ok (.iadd, 1) := by decide +kernel
theorem dM_bargain_71 : decode yM_bargain.2.1 71 = .ok (.iconst 0, 1) := by decide +kernel
theorem dM_bargain_72 : decode yM_bargain.2.1 72 = .ok (.sipush 9999, 3) := by decide +kernel
theorem dM_bargain_75 : decode yM_bargain.2.1 75 = .ok (.invokestatic 89, 3) := by decide +kernel
theorem dM_bargain_78 : decode yM_bargain.2.1 78 = .ok (.iastore, 1) := by decide +kernel
theorem dM_bargain_79 : decode yM_bargain.2.1 79 = .ok (.iinc 4 1, 3) := by decide +kernel
theorem dM_bargain_82 : decode yM_bargain.2.1 82 = .ok (.goto (-66), 3) := by decide +kernel
theorem dM_bargain_85 : decode yM_bargain.2.1 85 = .ok (.iload_n 2, 1) := by decide +kernel
theorem dM_bargain_86 : decode yM_bargain.2.1 86 = .ok (.ifCond .eq 7, 3) := by decide +kernel
theorem dM_bargain_89 : decode yM_bargain.2.1 89 = .ok (.iconst 3, 1) := by decide +kernel
theorem dM_bargain_90 : decode yM_bargain.2.1 90 = .ok (.goto 4, 3) := by decide +kernel
theorem dM_bargain_93 : decode yM_bargain.2.1 93 = .ok (.iconst 4, 1) := by decide +kernel
theorem dM_bargain_94 : decode yM_bargain.2.1 94 = .ok (.istore 4, 2) := by decide +kernel
theorem dM_bargain_96 : decode yM_bargain.2.1 96 = .ok (.aload_n 0, 1) := by decide +kernel
theorem dM_bargain_97 : decode yM_bargain.2.1 97 = .ok (.getfield 7, 3) := by decide +kernel
theorem dM_bargain_100 : decode yM_bargain.2.1 100 = .ok (.iload 4, 2) := by decide +kernel
theorem dM_bargain_102 : decode yM_bargain.2.1 102 = .ok (.aload_n 0, 1) := by decide +kernel
theorem dM_bargain_103 : decode yM_bargain.2.1 103 = .ok (.getfield 7, 3) := by decide +kernel
theorem dM_bargain_106 : decode yM_bargain.2.1 106 = .ok (.iload 4, 2) := by decide +kernel
theorem dM_bargain_108 : decode yM_bargain.2.1 108 = .ok (.iaload, 1) := by decide +kernel
theorem dM_bargain_109 : decode yM_bargain.2.1 109 = .ok (.iconst 1, 1) := by decide +kernel
theorem dM_bargain_110 : decode yM_bargain.2.1 110 = .ok (.iadd, 1) := by decide +kernel
theorem dM_bargain_111 : decode yM_bargain.2.1 111 = .ok (.iconst 0, 1) := by decide +kernel
theorem dM_bargain_112 : decode yM_bargain.2.1 112 = .ok (.ldc 170, 2) := by decide +kernel
theorem dM_bargain_114 : decode yM_bargain.2.1 114 = .ok (.invokestatic 89, 3) := by decide +kernel
theorem dM_bargain_117 : decode yM_bargain.2.1 117 = .ok (.iastore, 1) := by decide +kernel
theorem dM_bargain_118 : decode yM_bargain.2.1 118 = .ok (.iload_n 2, 1) := by decide +kernel
theorem dM_bargain_119 : decode yM_bargain.2.1 119 = .ok (.invokestatic 71, 3) := by decide +kernel
theorem dM_bargain_122 : decode yM_bargain.2.1 122 = .ok (.ireturn, 1) := by decide +kernel
theorem dM_days_0 : decode yM_days.2.1 0 = .ok (.iload_n 1, 1) := by decide +kernel
theorem dM_days_1 : decode yM_days.2.1 1 = .ok (.i2l, 1) := by decide +kernel
theorem dM_days_2 : decode yM_days.2.1 2 = .ok (.lconst 1, 1) := by decide +kernel
theorem dM_days_3 : decode yM_days.2.1 3 = .ok (.ldc2_w 180, 3) := by decide +kernel
theorem dM_days_6 : decode yM_days.2.1 6 = .ok (.invokestatic 65, 3) := by decide +kernel
theorem dM_days_9 : decode yM_days.2.1 9 = .ok (.ifCond .ne 6, 3) := by decide +kernel
theorem dM_days_12 : decode yM_days.2.1 12 = .ok (.ldc 96, 2) := by decide +kernel
theorem dM_days_14 : decode yM_days.2.1 14 = .ok (.ireturn, 1) := by decide +kernel
theorem dM_days_15 : decode yM_days.2.1 15 = .ok (.aload_n 0, 1) := by decide +kernel
theorem dM_days_16 : decode yM_days.2.1 16 = .ok (.getfield 7, 3) := by decide +kernel
theorem dM_days_19 : decode yM_days.2.1 19 = .ok (.iconst 3, 1) := by decide +kernel
theorem dM_days_20 : decode yM_days.2.1 20 = .ok (.iaload, 1) := by decide +kernel
theorem dM_days_21 : decode yM_days.2.1 21 = .ok (.istore_n 2, 1) := by decide +kernel
theorem dM_days_22 : decode yM_days.2.1 22 = .ok (.aload_n 0, 1) := by decide +kernel
theorem dM_days_23 : decode yM_days.2.1 23 = .ok (.aload_n 0, 1) := by decide +kernel
theorem dM_days_24 : decode yM_days.2.1 24 = .ok (.iload_n 1, 1) := by decide +kernel
theorem dM_days_25 : decode yM_days.2.1 25 = .ok (.invokevirtual 182, 3) := by decide +kernel
theorem dM_days_28 : decode yM_days.2.1 28 = .ok (.invokevirtual 185, 3) := by decide +kernel
theorem dM_days_31 : decode yM_days.2.1 31 = .ok (.aload_n 0, 1) := by decide +kernel
theorem dM_days_32 : decode yM_days.2.1 32 = .ok (.getfield 7, 3) := by decide +kernel
theorem dM_days_35 : decode yM_days.2.1 35 = .ok (.iconst 3, 1) := by decide +kernel
theorem dM_days_36 : decode yM_days.2.1 36 = .ok (.iaload, 1) := by decide +kernel
theorem dM_days_37 : decode yM_days.2.1 37 = .ok (.iload_n 2, 1) := by decide +kernel
theorem dM_days_38 : decode yM_days.2.1 38 = .ok (.isub, 1) := by decide +kernel
theorem dM_days_39 : decode yM_days.2.1 39 = .ok (.ireturn, 1) := by decide +kernel
theorem dM_upToLast_0 : decode yM_upToLast.2.1 0 = .ok (.sipush 9999, 3) := by decide +kernel
theorem dM_upToLast_3 : decode yM_upToLast.2.1 3 = .ok (.aload_n 0, 1) := by decide +kernel
theorem dM_upToLast_4 : decode yM_upToLast.2.1 4 = .ok (.getfield 7, 3) := by decide +kernel
theorem dM_upToLast_7 : decode yM_upToLast.2.1 7 = .ok (.bipush 6, 2) := by decide +kernel
theorem dM_upToLast_9 : decode yM_upToLast.2.1 9 = .ok (.iaload, 1) := by decide +kernel
theorem dM_upToLast_10 : decode yM_upToLast.2.1 10 = .ok (.isub, 1) := by decide +kernel
theorem dM_upToLast_11 : decode yM_upToLast.2.1 11 = .ok (.istore_n 2, 1) := by decide +kernel
theorem dM_upToLast_12 : decode yM_upToLast.2.1 12 = .ok (.iload_n 1, 1) := by decide +kernel
theorem dM_upToLast_13 : decode yM_upToLast.2.1 13 = .ok (.iload_n 2, 1) := by decide +kernel
theorem dM_upToLast_14 : decode yM_upToLast.2.1 14 = .ok (.if_icmp .ge 7, 3) := by decide +kernel
theorem dM_upToLast_17 : decode yM_upToLast.2.1 17 = .ok (.iload_n 1, 1) := by decide +kernel
theorem dM_upToLast_18 : decode yM_upToLast.2.1 18 = .ok (.goto 4, 3) := by decide +kernel
theorem dM_upToLast_21 : decode yM_upToLast.2.1 21 = .ok (.iload_n 2, 1) := by decide +kernel
theorem dM_upToLast_22 : decode yM_upToLast.2.1 22 = .ok (.ireturn, 1) := by decide +kernel
theorem dM_daysGo_0 : decode yM_daysGo.2.1 0 = .ok (.iconst 0, 1) := by decide +kernel
theorem dM_daysGo_1 : decode yM_daysGo.2.1 1 = .ok (.istore_n 2, 1) := by decide +kernel
theorem dM_daysGo_2 : decode yM_daysGo.2.1 2 = .ok (.iload_n 2, 1) := by decide +kernel
theorem dM_daysGo_3 : decode yM_daysGo.2.1 3 = .ok (.iload_n 1, 1) := by decide +kernel
theorem dM_daysGo_4 : decode yM_daysGo.2.1 4 = .ok (.if_icmp .ge 13, 3) := by decide +kernel
theorem dM_daysGo_7 : decode yM_daysGo.2.1 7 = .ok (.aload_n 0, 1) := by decide +kernel
theorem dM_daysGo_8 : decode yM_daysGo.2.1 8 = .ok (.invokevirtual 177, 3) := by decide +kernel
theorem dM_daysGo_11 : decode yM_daysGo.2.1 11 = .ok (.iinc 2 1, 3) := by decide +kernel
theorem dM_daysGo_14 : decode yM_daysGo.2.1 14 = .ok (.goto (-12), 3) := by decide +kernel
theorem dM_daysGo_17 : decode yM_daysGo.2.1 17 = .ok (.return_, 1) := by decide +kernel
theorem dM_day_0 : decode yM_day.2.1 0 = .ok (.aload_n 0, 1) := by decide +kernel
theorem dM_day_1 : decode yM_day.2.1 1 = .ok (.aload_n 0, 1) := by decide +kernel
theorem dM_day_2 : decode yM_day.2.1 2 = .ok (.getfield 7, 3) := by decide +kernel
theorem dM_day_5 : decode yM_day.2.1 5 = .ok (.bipush 6, 2) := by decide +kernel
theorem dM_day_7 : decode yM_day.2.1 7 = .ok (.iaload, 1) := by decide +kernel
theorem dM_day_8 : decode yM_day.2.1 8 = .ok (.bipush 6, 2) := by decide +kernel
theorem dM_day_10 : decode yM_day.2.1 10 = .ok (.irem, 1) := by decide +kernel
theorem dM_day_11 : decode yM_day.2.1 11 = .ok (.invokevirtual 171, 3) := by decide +kernel
theorem dM_day_14 : decode yM_day.2.1 14 = .ok (.istore_n 1, 1) := by decide +kernel
theorem dM_day_15 : decode yM_day.2.1 15 = .ok (.aload_n 0, 1) := by decide +kernel
theorem dM_day_16 : decode yM_day.2.1 16 = .ok (.getfield 7, 3) := by decide +kernel
theorem dM_day_19 : decode yM_day.2.1 19 = .ok (.bipush 6, 2) := by decide +kernel
theorem dM_day_21 : decode yM_day.2.1 21 = .ok (.iaload, 1) := by decide +kernel
theorem dM_day_22 : decode yM_day.2.1 22 = .ok (.iconst 5, 1) := by decide +kernel
theorem dM_day_23 : decode yM_day.2.1 23 = .ok (.irem, 1) := by decide +kernel
theorem dM_day_24 : decode yM_day.2.1 24 = .ok (.iconst 4, 1) := by decide +kernel
theorem dM_day_25 : decode yM_day.2.1 25 = .ok (.if_icmp .ne 7, 3) := by decide +kernel
theorem dM_day_28 : decode yM_day.2.1 28 = .ok (.iconst 1, 1) := by decide +kernel
theorem dM_day_29 : decode yM_day.2.1 29 = .ok (.goto 4, 3) := by decide +kernel
theorem dM_day_32 : decode yM_day.2.1 32 = .ok (.iconst 0, 1) := by decide +kernel
theorem dM_day_33 : decode yM_day.2.1 33 = .ok (.invokestatic 71, 3) := by decide +kernel
theorem dM_day_36 : decode yM_day.2.1 36 = .ok (.istore_n 2, 1) := by decide +kernel
theorem dM_day_37 : decode yM_day.2.1 37 = .ok (.iconst 0, 1) := by decide +kernel
theorem dM_day_38 : decode yM_day.2.1 38 = .ok (.istore_n 3, 1) := by decide +kernel
theorem dM_day_39 : decode yM_day.2.1 39 = .ok (.iload_n 3, 1) := by decide +kernel
theorem dM_day_40 : decode yM_day.2.1 40 = .ok (.aload_n 0, 1) := by decide +kernel
theorem dM_day_41 : decode yM_day.2.1 41 = .ok (.getfield 7, 3) := by decide +kernel
theorem dM_day_44 : decode yM_day.2.1 44 = .ok (.iconst 0, 1) := by decide +kernel
theorem dM_day_45 : decode yM_day.2.1 45 = .ok (.iaload, 1) := by decide +kernel
theorem dM_day_46 : decode yM_day.2.1 46 = .ok (.if_icmp .ge 58, 3) := by decide +kernel
theorem dM_day_49 : decode yM_day.2.1 49 = .ok (.aload_n 0, 1) := by decide +kernel
theorem dM_day_50 : decode yM_day.2.1 50 = .ok (.getfield 7, 3) := by decide +kernel
theorem dM_day_53 : decode yM_day.2.1 53 = .ok (.iload_n 3, 1) := by decide +kernel
theorem dM_day_54 : decode yM_day.2.1 54 = .ok (.iconst 3, 1) := by decide +kernel
theorem dM_day_55 : decode yM_day.2.1 55 = .ok (.invokestatic 61, 3) := by decide +kernel
theorem dM_day_58 : decode yM_day.2.1 58 = .ok (.aload_n 0, 1) := by decide +kernel
theorem dM_day_59 : decode yM_day.2.1 59 = .ok (.iload_n 3, 1) := by decide +kernel
theorem dM_day_60 : decode yM_day.2.1 60 = .ok (.iconst 3, 1) := by decide +kernel
theorem dM_day_61 : decode yM_day.2.1 61 = .ok (.invokevirtual 79, 3) := by decide +kernel
theorem dM_day_64 : decode yM_day.2.1 64 = .ok (.aload_n 0, 1) := by decide +kernel
theorem dM_day_65 : decode yM_day.2.1 65 = .ok (.iload_n 3, 1) := by decide +kernel
theorem dM_day_66 : decode yM_day.2.1 66 = .ok (.invokevirtual 116, 3) := by decide +kernel
theorem dM_day_69 : decode yM_day.2.1 69 = .ok (.iadd, 1) := by decide +kernel
theorem dM_day_70 : decode yM_day.2.1 70 = .ok (.bipush 6, 2) := by decide +kernel
theorem dM_day_72 : decode yM_day.2.1 72 = .ok (.irem, 1) := by decide +kernel
theorem dM_day_73 : decode yM_day.2.1 73 = .ok (.iastore, 1) := by decide +kernel
theorem dM_day_74 : decode yM_day.2.1 74 = .ok (.aload_n 0, 1) := by decide +kernel
theorem dM_day_75 : decode yM_day.2.1 75 = .ok (.getfield 7, 3) := by decide +kernel
theorem dM_day_78 : decode yM_day.2.1 78 = .ok (.iload_n 3, 1) := by decide +kernel
theorem dM_day_79 : decode yM_day.2.1 79 = .ok (.iconst 2, 1) := by decide +kernel
theorem dM_day_80 : decode yM_day.2.1 80 = .ok (.invokestatic 61, 3) := by decide +kernel
theorem dM_day_83 : decode yM_day.2.1 83 = .ok (.aload_n 0, 1) := by decide +kernel
theorem dM_day_84 : decode yM_day.2.1 84 = .ok (.iload_n 3, 1) := by decide +kernel
theorem dM_day_85 : decode yM_day.2.1 85 = .ok (.iconst 2, 1) := by decide +kernel
theorem dM_day_86 : decode yM_day.2.1 86 = .ok (.invokevirtual 79, 3) := by decide +kernel
theorem dM_day_89 : decode yM_day.2.1 89 = .ok (.iload_n 2, 1) := by decide +kernel
theorem dM_day_90 : decode yM_day.2.1 90 = .ok (.iadd, 1) := by decide +kernel
theorem dM_day_91 : decode yM_day.2.1 91 = .ok (.iconst 0, 1) := by decide +kernel
theorem dM_day_92 : decode yM_day.2.1 92 = .ok (.bipush 99, 2) := by decide +kernel
theorem dM_day_94 : decode yM_day.2.1 94 = .ok (.invokestatic 89, 3) := by decide +kernel
theorem dM_day_97 : decode yM_day.2.1 97 = .ok (.iastore, 1) := by decide +kernel
theorem dM_day_98 : decode yM_day.2.1 98 = .ok (.iinc 3 1, 3) := by decide +kernel
theorem dM_day_101 : decode yM_day.2.1 101 = .ok (.goto (-62), 3) := by decide +kernel
theorem dM_day_104 : decode yM_day.2.1 104 = .ok (.aload_n 0, 1) := by decide +kernel
theorem dM_day_105 : decode yM_day.2.1 105 = .ok (.invokevirtual 174, 3) := by decide +kernel
theorem dM_day_108 : decode yM_day.2.1 108 = .ok (.aload_n 0, 1) := by decide +kernel
theorem dM_day_109 : decode yM_day.2.1 109 = .ok (.getfield 7, 3) := by decide +kernel
theorem dM_day_112 : decode yM_day.2.1 112 = .ok (.bipush 6, 2) := by decide +kernel
theorem dM_day_114 : decode yM_day.2.1 114 = .ok (.dup2, 1) := by decide +kernel
theorem dM_day_115 : decode yM_day.2.1 115 = .ok (.iaload, 1) := by decide +kernel
theorem dM_day_116 : decode yM_day.2.1 116 = .ok (.iconst 1, 1) := by decide +kernel
theorem dM_day_117 : decode yM_day.2.1 117 = .ok (.iadd, 1) := by decide +kernel
theorem dM_day_118 : decode yM_day.2.1 118 = .ok (.iastore, 1) := by decide +kernel
theorem dM_day_119 : decode yM_day.2.1 119 = .ok (.return_, 1) := by decide +kernel
theorem dM_fox_0 : decode yM_fox.2.1 0 = .ok (.aload_n 0, 1) := by decide +kernel
theorem dM_fox_1 : decode yM_fox.2.1 1 = .ok (.invokevirtual 153, 3) := by decide +kernel
theorem dM_fox_4 : decode yM_fox.2.1 4 = .ok (.bipush 100, 2) := by decide +kernel
theorem dM_fox_6 : decode yM_fox.2.1 6 = .ok (.irem, 1) := by decide +kernel
theorem dM_fox_7 : decode yM_fox.2.1 7 = .ok (.aload_n 0, 1) := by decide +kernel
theorem dM_fox_8 : decode yM_fox.2.1 8 = .ok (.getfield 7, 3) := by decide +kernel
theorem dM_fox_11 : decode yM_fox.2.1 11 = .ok (.iconst 2, 1) := by decide +kernel
theorem dM_fox_12 : decode yM_fox.2.1 12 = .ok (.iaload, 1) := by decide +kernel
theorem dM_fox_13 : decode yM_fox.2.1 13 = .ok (.if_icmp .ge 66, 3) := by decide +kernel
theorem dM_fox_16 : decode yM_fox.2.1 16 = .ok (.aload_n 0, 1) := by decide +kernel
theorem dM_fox_17 : decode yM_fox.2.1 17 = .ok (.getfield 7, 3) := by decide +kernel
theorem dM_fox_20 : decode yM_fox.2.1 20 = .ok (.iconst 0, 1) := by decide +kernel
theorem dM_fox_21 : decode yM_fox.2.1 21 = .ok (.iaload, 1) := by decide +kernel
theorem dM_fox_22 : decode yM_fox.2.1 22 = .ok (.ifCond .le 57, 3) := by decide +kernel
theorem dM_fox_25 : decode yM_fox.2.1 25 = .ok (.aload_n 0, 1) := by decide +kernel
theorem dM_fox_26 : decode yM_fox.2.1 26 = .ok (.invokevirtual 153, 3) := by decide +kernel
theorem dM_fox_29 : decode yM_fox.2.1 29 = .ok (.aload_n 0, 1) := by decide +kernel
theorem dM_fox_30 : decode yM_fox.2.1 30 = .ok (.getfield 7, 3) := by decide +kernel
theorem dM_fox_33 : decode yM_fox.2.1 33 = .ok (.iconst 0, 1) := by decide +kernel
theorem dM_fox_34 : decode yM_fox.2.1 34 = .ok (.iaload, 1) := by decide +kernel
theorem dM_fox_35 : decode yM_fox.2.1 35 = .ok (.irem, 1) := by decide +kernel
theorem dM_fox_36 : decode yM_fox.2.1 36 = .ok (.istore_n 1, 1) := by decide +kernel
theorem dM_fox_37 : decode yM_fox.2.1 37 = .ok (.aload_n 0, 1) := by decide +kernel
theorem dM_fox_38 : decode yM_fox.2.1 38 = .ok (.getfield 7, 3) := by decide +kernel
theorem dM_fox_41 : decode yM_fox.2.1 41 = .ok (.iload_n 1, 1) := by decide +kernel
theorem dM_fox_42 : decode yM_fox.2.1 42 = .ok (.iconst 2, 1) := by decide +kernel
theorem dM_fox_43 : decode yM_fox.2.1 43 = .ok (.invokestatic 61, 3) := by decide +kernel
theorem dM_fox_46 : decode yM_fox.2.1 46 = .ok (.iconst 0, 1) := by decide +kernel
theorem dM_fox_47 : decode yM_fox.2.1 47 = .ok (.iastore, 1) := by decide +kernel
theorem dM_fox_48 : decode yM_fox.2.1 48 = .ok (.aload_n 0, 1) := by decide +kernel
theorem dM_fox_49 : decode yM_fox.2.1 49 = .ok (.getfield 7, 3) := by decide +kernel
theorem dM_fox_52 : decode yM_fox.2.1 52 = .ok (.iload_n 1, 1) := by decide +kernel
theorem dM_fox_53 : decode yM_fox.2.1 53 = .ok (.iconst 4, 1) := by decide +kernel
theorem dM_fox_54 : decode yM_fox.2.1 54 = .ok (.invokestatic 61, 3) := by decide +kernel
theorem dM_fox_57 : decode yM_fox.2.1 57 = .ok (.iconst 0, 1) := by decide +kernel
theorem dM_fox_58 : decode yM_fox.2.1 58 = .ok (.iastore, 1) := by decide +kernel
theorem dM_fox_59 : decode yM_fox.2.1 59 = .ok (.aload_n 0, 1) := by decide +kernel
theorem dM_fox_60 : decode yM_fox.2.1 60 = .ok (.getfield 7, 3) := by decide +kernel
theorem dM_fox_63 : decode yM_fox.2.1 63 = .ok (.iconst 5, 1) := by decide +kernel
theorem dM_fox_64 : decode yM_fox.2.1 64 = .ok (.aload_n 0, 1) := by decide +kernel
theorem dM_fox_65 : decode yM_fox.2.1 65 = .ok (.getfield 7, 3) := by decide +kernel
theorem dM_fox_68 : decode yM_fox.2.1 68 = .ok (.iconst 5, 1) := by decide +kernel
theorem dM_fox_69 : decode yM_fox.2.1 69 = .ok (.iaload, 1) := by decide +kernel
theorem dM_fox_70 : decode yM_fox.2.1 70 = .ok (.iconst 1, 1) := by decide +kernel
theorem dM_fox_71 : decode yM_fox.2.1 71 = .ok (.iadd, 1) := by decide +kernel
theorem dM_fox_72 : decode yM_fox.2.1 72 = .ok (.iconst 0, 1) := by decide +kernel
theorem dM_fox_73 : decode yM_fox.2.1 73 = .ok (.ldc 170, 2) := by decide +kernel
theorem dM_fox_75 : decode yM_fox.2.1 75 = .ok (.invokestatic 89, 3) := by decide +kernel
theorem dM_fox_78 : decode yM_fox.2.1 78 = .ok (.iastore, 1) := by decide +kernel
theorem dM_fox_79 : decode yM_fox.2.1 79 = .ok (.return_, 1) := by decide +kernel
theorem dM_county_0 : decode yM_county.2.1 0 = .ok (.iload_n 1, 1) := by decide +kernel
theorem dM_county_1 : decode yM_county.2.1 1 = .ok (.tableswitch 74 0 6 #[43, 43, 43, 52, 57, 63, 69], 43) := by decide +kernel
theorem dM_county_44 : decode yM_county.2.1 44 = .ok (.aload_n 0, 1) := by decide +kernel
theorem dM_county_45 : decode yM_county.2.1 45 = .ok (.getfield 7, 3) := by decide +kernel
theorem dM_county_48 : decode yM_county.2.1 48 = .ok (.iconst 3, 1) := by decide +kernel
theorem dM_county_49 : decode yM_county.2.1 49 = .ok (.iload_n 1, 1) := by decide +kernel
theorem dM_county_50 : decode yM_county.2.1 50 = .ok (.iadd, 1) := by decide +kernel
theorem dM_county_51 : decode yM_county.2.1 51 = .ok (.iaload, 1) := by decide +kernel
theorem dM_county_52 : decode yM_county.2.1 52 = .ok (.ireturn, 1) := by decide +kernel
theorem dM_county_53 : decode yM_county.2.1 53 = .ok (.aload_n 0, 1) := by decide +kernel
theorem dM_county_54 : decode yM_county.2.1 54 = .ok (.invokevirtual 189, 3) := by decide +kernel
theorem dM_county_57 : decode yM_county.2.1 57 = .ok (.ireturn, 1) := by decide +kernel
theorem dM_county_58 : decode yM_county.2.1 58 = .ok (.aload_n 0, 1) := by decide +kernel
theorem dM_county_59 : decode yM_county.2.1 59 = .ok (.iconst 2, 1) := by decide +kernel
theorem dM_county_60 : decode yM_county.2.1 60 = .ok (.invokevirtual 192, 3) := by decide +kernel
theorem dM_county_63 : decode yM_county.2.1 63 = .ok (.ireturn, 1) := by decide +kernel
theorem dM_county_64 : decode yM_county.2.1 64 = .ok (.aload_n 0, 1) := by decide +kernel
theorem dM_county_65 : decode yM_county.2.1 65 = .ok (.iconst 4, 1) := by decide +kernel
theorem dM_county_66 : decode yM_county.2.1 66 = .ok (.invokevirtual 192, 3) := by decide +kernel
theorem dM_county_69 : decode yM_county.2.1 69 = .ok (.ireturn, 1) := by decide +kernel
theorem dM_county_70 : decode yM_county.2.1 70 = .ok (.aload_n 0, 1) := by decide +kernel
theorem dM_county_71 : decode yM_county.2.1 71 = .ok (.invokevirtual 195, 3) := by decide +kernel
theorem dM_county_74 : decode yM_county.2.1 74 = .ok (.ireturn, 1) := by decide +kernel
theorem dM_county_75 : decode yM_county.2.1 75 = .ok (.ldc 96, 2) := by decide +kernel
theorem dM_county_77 : decode yM_county.2.1 77 = .ok (.ireturn, 1) := by decide +kernel
theorem dM_holdingYards_0 : decode yM_holdingYards.2.1 0 = .ok (.iconst 0, 1) := by decide +kernel
theorem dM_holdingYards_1 : decode yM_holdingYards.2.1 1 = .ok (.istore_n 1, 1) := by decide +kernel
theorem dM_holdingYards_2 : decode yM_holdingYards.2.1 2 = .ok (.iconst 0, 1) := by decide +kernel
theorem dM_holdingYards_3 : decode yM_holdingYards.2.1 3 = .ok (.istore_n 2, 1) := by decide +kernel
theorem dM_holdingYards_4 : decode yM_holdingYards.2.1 4 = .ok (.iload_n 2, 1) := by decide +kernel
theorem dM_holdingYards_5 : decode yM_holdingYards.2.1 5 = .ok (.bipush 6, 2) := by decide +kernel
theorem dM_holdingYards_7 : decode yM_holdingYards.2.1 7 = .ok (.if_icmp .ge 22, 3) := by decide +kernel
theorem dM_holdingYards_10 : decode yM_holdingYards.2.1 10 = .ok (.iload_n 1, 1) := by decide +kernel
theorem dM_holdingYards_11 : decode yM_holdingYards.2.1 11 = .ok (.aload_n 0, 1) := by decide +kernel
theorem dM_holdingYards_12 : decode yM_holdingYards.2.1 12 = .ok (.iload_n 2, 1) := by decide +kernel
theorem dM_holdingYards_13 : decode yM_holdingYards.2.1 13 = .ok (.invokevirtual 147, 3) := by decide +kernel
theorem dM_holdingYards_16 : decode yM_holdingYards.2.1 16 = .ok (.invokestatic 71, 3) := by decide +kernel
theorem dM_holdingYards_19 : decode yM_holdingYards.2.1 19 = .ok (.iload_n 2, 1) := by decide +kernel
theorem dM_holdingYards_20 : decode yM_holdingYards.2.1 20 = .ok (.ishl, 1) := by decide +kernel
theorem dM_holdingYards_21 : decode yM_holdingYards.2.1 21 = .ok (.ior, 1) := by decide +kernel
theorem dM_holdingYards_22 : decode yM_holdingYards.2.1 22 = .ok (.istore_n 1, 1) := by decide +kernel
theorem dM_holdingYards_23 : decode yM_holdingYards.2.1 23 = .ok (.iinc 2 1, 3) := by decide +kernel
theorem dM_holdingYards_26 : decode yM_holdingYards.2.1 26 = .ok (.goto (-22), 3) := by decide +kernel
theorem dM_holdingYards_29 : decode yM_holdingYards.2.1 29 = .ok (.iload_n 1, 1) := by decide +kernel
theorem dM_holdingYards_30 : decode yM_holdingYards.2.1 30 = .ok (.ireturn, 1) := by decide +kernel
theorem dM_together_0 : decode yM_together.2.1 0 = .ok (.iconst 0, 1) := by decide +kernel
theorem dM_together_1 : decode yM_together.2.1 1 = .ok (.istore_n 2, 1) := by decide +kernel
theorem dM_together_2 : decode yM_together.2.1 2 = .ok (.iconst 0, 1) := by decide +kernel
theorem dM_together_3 : decode yM_together.2.1 3 = .ok (.istore_n 3, 1) := by decide +kernel
theorem dM_together_4 : decode yM_together.2.1 4 = .ok (.iload_n 3, 1) := by decide +kernel
theorem dM_together_5 : decode yM_together.2.1 5 = .ok (.aload_n 0, 1) := by decide +kernel
theorem dM_together_6 : decode yM_together.2.1 6 = .ok (.getfield 7, 3) := by decide +kernel
theorem dM_together_9 : decode yM_together.2.1 9 = .ok (.iconst 0, 1) := by decide +kernel
theorem dM_together_10 : decode yM_together.2.1 10 = .ok (.iaload, 1) := by decide +kernel
theorem dM_together_11 : decode yM_together.2.1 11 = .ok (.if_icmp .ge 18, 3) := by decide +kernel
theorem dM_together_14 : decode yM_together.2.1 14 = .ok (.iload_n 2, 1) := by decide +kernel
theorem dM_together_15 : decode yM_together.2.1 15 = .ok (.aload_n 0, 1) := by decide +kernel
theorem dM_together_16 : decode yM_together.2.1 16 = .ok (.iload_n 3, 1) := by decide +kernel
theorem dM_together_17 : decode yM_together.2.1 17 = .ok (.iload_n 1, 1) := by decide +kernel
theorem dM_together_18 : decode yM_together.2.1 18 = .ok (.invokevirtual 79, 3) := by decide +kernel
theorem dM_together_21 : decode yM_together.2.1 21 = .ok (.iadd, 1) := by decide +kernel
theorem dM_together_22 : decode yM_together.2.1 22 = .ok (.istore_n 2, 1) := by decide +kernel
theorem dM_together_23 : decode yM_together.2.1 23 = .ok (.iinc 3 1, 3) := by decide +kernel
theorem dM_together_26 : decode yM_together.2.1 26 = .ok (.goto (-22), 3) := by decide +kernel
theorem dM_together_29 : decode yM_together.2.1 29 = .ok (.iload_n 2, 1) := by decide +kernel
theorem dM_together_30 : decode yM_together.2.1 30 = .ok (.ireturn, 1) := by decide +kernel
theorem dM_eldest_0 : decode yM_eldest.2.1 0 = .ok (.iconst 0, 1) := by decide +kernel
theorem dM_eldest_1 : decode yM_eldest.2.1 1 = .ok (.istore_n 1, 1) := by decide +kernel
theorem dM_eldest_2 : decode yM_eldest.2.1 2 = .ok (.iconst 1, 1) := by decide +kernel
theorem dM_eldest_3 : decode yM_eldest.2.1 3 = .ok (.istore_n 2, 1) := by decide +kernel
theorem dM_eldest_4 : decode yM_eldest.2.1 4 = .ok (.iload_n 2, 1) := by decide +kernel
theorem dM_eldest_5 : decode yM_eldest.2.1 5 = .ok (.aload_n 0, 1) := by decide +kernel
theorem dM_eldest_6 : decode yM_eldest.2.1 6 = .ok (.getfield 7, 3) := by decide +kernel
theorem dM_eldest_9 : decode yM_eldest.2.1 9 = .ok (.iconst 0, 1) := by decide +kernel
theorem dM_eldest_10 : decode yM_eldest.2.1 10 = .ok (.iaload, 1) := by decide +kernel
theorem dM_eldest_11 : decode yM_eldest.2.1 11 = .ok (.if_icmp .ge 30, 3) := by decide +kernel
theorem dM_eldest_14 : decode yM_eldest.2.1 14 = .ok (.aload_n 0, 1) := by decide +kernel
theorem dM_eldest_15 : decode yM_eldest.2.1 15 = .ok (.iload_n 2, 1) := by decide +kernel
theorem dM_eldest_16 : decode yM_eldest.2.1 16 = .ok (.iconst 2, 1) := by decide +kernel
theorem dM_eldest_17 : decode yM_eldest.2.1 17 = .ok (.invokevirtual 79, 3) := by decide +kernel
theorem dM_eldest_20 : decode yM_eldest.2.1 20 = .ok (.aload_n 0, 1) := by decide +kernel
theorem dM_eldest_21 : decode yM_eldest.2.1 21 = .ok (.iload_n 1, 1) := by decide +kernel
theorem dM_eldest_22 : decode yM_eldest.2.1 22 = .ok (.iconst 2, 1) := by decide +kernel
theorem dM_eldest_23 : decode yM_eldest.2.1 23 = .ok (.invokevirtual 79, 3) := by decide +kernel
theorem dM_eldest_26 : decode yM_eldest.2.1 26 = .ok (.if_icmp .le 7, 3) := by decide +kernel
theorem dM_eldest_29 : decode yM_eldest.2.1 29 = .ok (.iload_n 2, 1) := by decide +kernel
theorem dM_eldest_30 : decode yM_eldest.2.1 30 = .ok (.goto 4, 3) := by decide +kernel
theorem dM_eldest_33 : decode yM_eldest.2.1 33 = .ok (.iload_n 1, 1) := by decide +kernel
theorem dM_eldest_34 : decode yM_eldest.2.1 34 = .ok (.istore_n 1, 1) := by decide +kernel
theorem dM_eldest_35 : decode yM_eldest.2.1 35 = .ok (.iinc 2 1, 3) := by decide +kernel
theorem dM_eldest_38 : decode yM_eldest.2.1 38 = .ok (.goto (-34), 3) := by decide +kernel
theorem dM_eldest_41 : decode yM_eldest.2.1 41 = .ok (.aload_n 0, 1) := by decide +kernel
theorem dM_eldest_42 : decode yM_eldest.2.1 42 = .ok (.getfield 7, 3) := by decide +kernel
theorem dM_eldest_45 : decode yM_eldest.2.1 45 = .ok (.iconst 0, 1) := by decide +kernel
theorem dM_eldest_46 : decode yM_eldest.2.1 46 = .ok (.iaload, 1) := by decide +kernel
theorem dM_eldest_47 : decode yM_eldest.2.1 47 = .ok (.ifCond .ne 8, 3) := by decide +kernel
theorem dM_eldest_50 : decode yM_eldest.2.1 50 = .ok (.ldc 169, 2) := by decide +kernel
theorem dM_eldest_52 : decode yM_eldest.2.1 52 = .ok (.goto 4, 3) := by decide +kernel
theorem dM_eldest_55 : decode yM_eldest.2.1 55 = .ok (.iload_n 1, 1) := by decide +kernel
theorem dM_eldest_56 : decode yM_eldest.2.1 56 = .ok (.ireturn, 1) := by decide +kernel
theorem dM_behind_0 : decode yM_behind.2.1 0 = .ok (.iload_n 1, 1) := by decide +kernel
theorem dM_behind_1 : decode yM_behind.2.1 1 = .ok (.i2l, 1) := by decide +kernel
theorem dM_behind_2 : decode yM_behind.2.1 2 = .ok (.lconst 0, 1) := by decide +kernel
theorem dM_behind_3 : decode yM_behind.2.1 3 = .ok (.ldc2_w 180, 3) := by decide +kernel
theorem dM_behind_6 : decode yM_behind.2.1 6 = .ok (.invokestatic 65, 3) := by decide +kernel
theorem dM_behind_9 : decode yM_behind.2.1 9 = .ok (.ifCond .eq 21, 3) := by decide +kernel
theorem dM_behind_12 : decode yM_behind.2.1 12 = .ok (.iload_n 2, 1) := by decide +kernel
theorem dM_behind_13 : decode yM_behind.2.1 13 = .ok (.i2l, 1) := by decide +kernel
theorem dM_behind_14 : decode yM_behind.2.1 14 = .ok (.lconst 0, 1) := by decide +kernel
theorem dM_behind_15 : decode yM_behind.2.1 15 = .ok (.iconst 4, 1) := by decide +kernel
theorem dM_behind_16 : decode yM_behind.2.1 16 = .ok (.aload_n 0, 1) := by decide +kernel
theorem dM_behind_17 : decode yM_behind.2.1 17 = .ok (.getfield 7, 3) := by decide +kernel
theorem dM_behind_20 : decode yM_behind.2.1 20 = .ok (.iconst 0, 1) := by decide +kernel
theorem dM_behind_21 : decode yM_behind.2.1 21 = .ok (.iaload, 1) := by decide +kernel
theorem dM_behind_22 : decode yM_behind.2.1 22 = .ok (.iadd, 1) := by decide +kernel
theorem dM_behind_23 : decode yM_behind.2.1 23 = .ok (.i2l, 1) := by decide +kernel
theorem dM_behind_24 : decode yM_behind.2.1 24 = .ok (.invokestatic 65, 3) := by decide +kernel
theorem dM_behind_27 : decode yM_behind.2.1 27 = .ok (.ifCond .ne 6, 3) := by decide +kernel
theorem dM_behind_30 : decode yM_behind.2.1 30 = .ok (.ldc 96, 2) := by decide +kernel
theorem dM_behind_32 : decode yM_behind.2.1 32 = .ok (.ireturn, 1) := by decide +kernel
theorem dM_behind_33 : decode yM_behind.2.1 33 = .ok (.aload_n 0, 1) := by decide +kernel
theorem dM_behind_34 : decode yM_behind.2.1 34 = .ok (.invokevirtual 157, 3) := by decide +kernel
theorem dM_behind_37 : decode yM_behind.2.1 37 = .ok (.aload_n 0, 1) := by decide +kernel
theorem dM_behind_38 : decode yM_behind.2.1 38 = .ok (.iload_n 1, 1) := by decide +kernel
theorem dM_behind_39 : decode yM_behind.2.1 39 = .ok (.invokevirtual 185, 3) := by decide +kernel
theorem dM_behind_42 : decode yM_behind.2.1 42 = .ok (.iload_n 2, 1) := by decide +kernel
theorem dM_behind_43 : decode yM_behind.2.1 43 = .ok (.iconst 3, 1) := by decide +kernel
theorem dM_behind_44 : decode yM_behind.2.1 44 = .ok (.if_icmp .ge 14, 3) := by decide +kernel
theorem dM_behind_47 : decode yM_behind.2.1 47 = .ok (.aload_n 0, 1) := by decide +kernel
theorem dM_behind_48 : decode yM_behind.2.1 48 = .ok (.getfield 7, 3) := by decide +kernel
theorem dM_behind_51 : decode yM_behind.2.1 51 = .ok (.iconst 3, 1) := by decide +kernel
theorem dM_behind_52 : decode yM_behind.2.1 52 = .ok (.iload_n 2, 1) := by decide +kernel
theorem dM_behind_53 : decode yM_behind.2.1 53 = .ok (.iadd, 1) := by decide +kernel
theorem dM_behind_54 : decode yM_behind.2.1 54 = .ok (.iaload, 1) := by decide +kernel
theorem dM_behind_55 : decode yM_behind.2.1 55 = .ok (.goto 36, 3) := by decide +kernel
theorem dM_behind_58 : decode yM_behind.2.1 58 = .ok (.iload_n 2, 1) := by decide +kernel
theorem dM_behind_59 : decode yM_behind.2.1 59 = .ok (.iconst 3, 1) := by decide +kernel
theorem dM_behind_60 : decode yM_behind.2.1 60 = .ok (.if_icmp .ne 10, 3) := by decide +kernel
theorem dM_behind_63 : decode yM_behind.2.1 63 = .ok (.aload_n 0, 1) := by decide +kernel
theorem dM_behind_64 : decode yM_behind.2.1 64 = .ok (.invokevirtual 189, 3) := by decide +kernel
theorem dM_behind_67 : decode yM_behind.2.1 67 = .ok (.goto 24, 3) := by decide +kernel
theorem dM_behind_70 : decode yM_behind.2.1 70 = .ok (.iload_n 2, 1) := by decide +kernel
theorem dM_behind_71 : decode yM_behind.2.1 71 = .ok (.iconst 4, 1) := by decide +kernel
theorem dM_behind_72 : decode yM_behind.2.1 72 = .ok (.if_icmp .ne 11, 3) := by decide +kernel
theorem dM_behind_75 : decode yM_behind.2.1 75 = .ok (.aload_n 0, 1) := by decide +kernel
theorem dM_behind_76 : decode yM_behind.2.1 76 = .ok (.iconst 2, 1) := by decide +kernel
theorem dM_behind_77 : decode yM_behind.2.1 77 = .ok (.invokevirtual 192, 3) := by decide +kernel
theorem dM_behind_80 : decode yM_behind.2.1 80 = .ok (.goto 11, 3) := by decide +kernel
theorem dM_behind_83 : decode yM_behind.2.1 83 = .ok (.aload_n 0, 1) := by decide +kernel
theorem dM_behind_84 : decode yM_behind.2.1 84 = .ok (.iload_n 2, 1) := by decide +kernel
theorem dM_behind_85 : decode yM_behind.2.1 85 = .ok (.iconst 5, 1) := by decide +kernel
theorem dM_behind_86 : decode yM_behind.2.1 86 = .ok (.isub, 1) := by decide +kernel
theorem dM_behind_87 : decode yM_behind.2.1 87 = .ok (.iconst 4, 1) := by decide +kernel
theorem dM_behind_88 : decode yM_behind.2.1 88 = .ok (.invokevirtual 79, 3) := by decide +kernel
theorem dM_behind_91 : decode yM_behind.2.1 91 = .ok (.istore_n 3, 1) := by decide +kernel
theorem dM_behind_92 : decode yM_behind.2.1 92 = .ok (.aload_n 0, 1) := by decide +kernel
theorem dM_behind_93 : decode yM_behind.2.1 93 = .ok (.iload_n 3, 1) := by decide +kernel
theorem dM_behind_94 : decode yM_behind.2.1 94 = .ok (.invokevirtual 160, 3) := by decide +kernel
theorem dM_behind_97 : decode yM_behind.2.1 97 = .ok (.ireturn, 1) := by decide +kernel
theorem dM_holds_0 : decode yM_holds.2.1 0 = .ok (.iload_n 1, 1) := by decide +kernel
theorem dM_holds_1 : decode yM_holds.2.1 1 = .ok (.invokestatic 105, 3) := by decide +kernel
theorem dM_holds_4 : decode yM_holds.2.1 4 = .ok (.ifCond .ne 6, 3) := by decide +kernel
theorem dM_holds_7 : decode yM_holds.2.1 7 = .ok (.ldc 96, 2) := by decide +kernel
theorem dM_holds_9 : decode yM_holds.2.1 9 = .ok (.ireturn, 1) := by decide +kernel
theorem dM_holds_10 : decode yM_holds.2.1 10 = .ok (.aload_n 0, 1) := by decide +kernel
theorem dM_holds_11 : decode yM_holds.2.1 11 = .ok (.invokevirtual 157, 3) := by decide +kernel
theorem dM_holds_14 : decode yM_holds.2.1 14 = .ok (.iconst 0, 1) := by decide +kernel
theorem dM_holds_15 : decode yM_holds.2.1 15 = .ok (.istore_n 2, 1) := by decide +kernel
theorem dM_holds_16 : decode yM_holds.2.1 16 = .ok (.iload_n 2, 1) := by decide +kernel
theorem dM_holds_17 : decode yM_holds.2.1 17 = .ok (.sipush 200, 3) := by decide +kernel
theorem dM_holds_20 : decode yM_holds.2.1 20 = .ok (.if_icmp .gt 21, 3) := by decide +kernel
theorem dM_holds_23 : decode yM_holds.2.1 23 = .ok (.aload_n 0, 1) := by decide +kernel
theorem dM_holds_24 : decode yM_holds.2.1 24 = .ok (.iload_n 1, 1) := by decide +kernel
theorem dM_holds_25 : decode yM_holds.2.1 25 = .ok (.invokevirtual 147, 3) := by decide +kernel
theorem dM_holds_28 : decode yM_holds.2.1 28 = .ok (.ifCond .ne 13, 3) := by decide +kernel
theorem dM_holds_31 : decode yM_holds.2.1 31 = .ok (.aload_n 0, 1) := by decide +kernel
theorem dM_holds_32 : decode yM_holds.2.1 32 = .ok (.invokevirtual 177, 3) := by decide +kernel
theorem dM_holds_35 : decode yM_holds.2.1 35 = .ok (.iinc 2 1, 3) := by decide +kernel
theorem dM_holds_38 : decode yM_holds.2.1 38 = .ok (.goto (-22), 3) := by decide +kernel
theorem dM_holds_41 : decode yM_holds.2.1 41 = .ok (.aload_n 0, 1) := by decide +kernel
theorem dM_holds_42 : decode yM_holds.2.1 42 = .ok (.iload_n 2, 1) := by decide +kernel
theorem dM_holds_43 : decode yM_holds.2.1 43 = .ok (.invokevirtual 198, 3) := by decide +kernel
theorem dM_holds_46 : decode yM_holds.2.1 46 = .ok (.ireturn, 1) := by decide +kernel
theorem dM_toldAt_0 : decode yM_toldAt.2.1 0 = .ok (.aload_n 0, 1) := by decide +kernel
theorem dM_toldAt_1 : decode yM_toldAt.2.1 1 = .ok (.iload_n 1, 1) := by decide +kernel
theorem dM_toldAt_2 : decode yM_toldAt.2.1 2 = .ok (.invokevirtual 160, 3) := by decide +kernel
theorem dM_toldAt_5 : decode yM_toldAt.2.1 5 = .ok (.istore_n 2, 1) := by decide +kernel
theorem dM_toldAt_6 : decode yM_toldAt.2.1 6 = .ok (.iload_n 2, 1) := by decide +kernel
theorem dM_toldAt_7 : decode yM_toldAt.2.1 7 = .ok (.sipush 200, 3) := by decide +kernel
theorem dM_toldAt_10 : decode yM_toldAt.2.1 10 = .ok (.if_icmp .le 8, 3) := by decide +kernel
theorem dM_toldAt_13 : decode yM_toldAt.2.1 13 = .ok (.ldc 169, 2) := by decide +kernel
theorem dM_toldAt_15 : decode yM_toldAt.2.1 15 = .ok (.goto 4, 3) := by decide +kernel
theorem dM_toldAt_18 : decode yM_toldAt.2.1 18 = .ok (.iload_n 2, 1) := by decide +kernel
theorem dM_toldAt_19 : decode yM_toldAt.2.1 19 = .ok (.ireturn, 1) := by decide +kernel
theorem dM_meets_0 : decode yM_meets.2.1 0 = .ok (.aload_n 0, 1) := by decide +kernel
theorem dM_meets_1 : decode yM_meets.2.1 1 = .ok (.iload_n 1, 1) := by decide +kernel
theorem dM_meets_2 : decode yM_meets.2.1 2 = .ok (.invokevirtual 92, 3) := by decide +kernel
theorem dM_meets_5 : decode yM_meets.2.1 5 = .ok (.ifCond .eq 16, 3) := by decide +kernel
theorem dM_meets_8 : decode yM_meets.2.1 8 = .ok (.aload_n 0, 1) := by decide +kernel
theorem dM_meets_9 : decode yM_meets.2.1 9 = .ok (.iload_n 2, 1) := by decide +kernel
theorem dM_meets_10 : decode yM_meets.2.1 10 = .ok (.invokevirtual 92, 3) := by decide +kernel
theorem dM_meets_13 : decode yM_meets.2.1 13 = .ok (.ifCond .eq 8, 3) := by decide +kernel
theorem dM_meets_16 : decode yM_meets.2.1 16 = .ok (.iload_n 1, 1) := by decide +kernel
theorem dM_meets_17 : decode yM_meets.2.1 17 = .ok (.iload_n 2, 1) := by decide +kernel
theorem dM_meets_18 : decode yM_meets.2.1 18 = .ok (.if_icmp .ne 6, 3) := by decide +kernel
theorem dM_meets_21 : decode yM_meets.2.1 21 = .ok (.ldc 96, 2) := by decide +kernel
theorem dM_meets_23 : decode yM_meets.2.1 23 = .ok (.ireturn, 1) := by decide +kernel
theorem dM_meets_24 : decode yM_meets.2.1 24 = .ok (.aload_n 0, 1) := by decide +kernel
theorem dM_meets_25 : decode yM_meets.2.1 25 = .ok (.invokevirtual 157, 3) := by decide +kernel
theorem dM_meets_28 : decode yM_meets.2.1 28 = .ok (.iconst 0, 1) := by decide +kernel
theorem dM_meets_29 : decode yM_meets.2.1 29 = .ok (.istore_n 3, 1) := by decide +kernel
theorem dM_meets_30 : decode yM_meets.2.1 30 = .ok (.iload_n 3, 1) := by decide +kernel
theorem dM_meets_31 : decode yM_meets.2.1 31 = .ok (.sipush 200, 3) := by decide +kernel
theorem dM_meets_34 : decode yM_meets.2.1 34 = .ok (.if_icmp .gt 28, 3) := by decide +kernel
theorem dM_meets_37 : decode yM_meets.2.1 37 = .ok (.aload_n 0, 1) := by decide +kernel
theorem dM_meets_38 : decode yM_meets.2.1 38 = .ok (.iload_n 1, 1) := by decide +kernel
theorem dM_meets_39 : decode yM_meets.2.1 39 = .ok (.iconst 3, 1) := by decide +kernel
theorem dM_meets_40 : decode yM_meets.2.1 40 = .ok (.invokevirtual 79, 3) := by decide +kernel
theorem dM_meets_43 : decode yM_meets.2.1 43 = .ok (.aload_n 0, 1) := by decide +kernel
theorem dM_meets_44 : decode yM_meets.2.1 44 = .ok (.iload_n 2, 1) := by decide +kernel
theorem dM_meets_45 : decode yM_meets.2.1 45 = .ok (.iconst 3, 1) := by decide +kernel
theorem dM_meets_46 : decode yM_meets.2.1 46 = .ok (.invokevirtual 79, 3) := by decide +kernel
theorem dM_meets_49 : decode yM_meets.2.1 49 = .ok (.if_icmp .eq 13, 3) := by decide +kernel
theorem dM_meets_52 : decode yM_meets.2.1 52 = .ok (.aload_n 0, 1) := by decide +kernel
theorem dM_meets_53 : decode yM_meets.2.1 53 = .ok (.invokevirtual 177, 3) := by decide +kernel
theorem dM_meets_56 : decode yM_meets.2.1 56 = .ok (.iinc 3 1, 3) := by decide +kernel
theorem dM_meets_59 : decode yM_meets.2.1 59 = .ok (.goto (-29), 3) := by decide +kernel
theorem dM_meets_62 : decode yM_meets.2.1 62 = .ok (.aload_n 0, 1) := by decide +kernel
theorem dM_meets_63 : decode yM_meets.2.1 63 = .ok (.iload_n 3, 1) := by decide +kernel
theorem dM_meets_64 : decode yM_meets.2.1 64 = .ok (.invokevirtual 198, 3) := by decide +kernel
theorem dM_meets_67 : decode yM_meets.2.1 67 = .ok (.ireturn, 1) := by decide +kernel
