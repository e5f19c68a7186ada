theorem dX7_init_0 : decode cX7_init 0 = .ok (.aload_n 0, 1) := by decide +kernel
theorem dX7_init_1 : decode cX7_init 1 = .ok (.invokespecial 1, 3) := by decide +kernel
theorem dX7_init_4 : decode cX7_init 4 = .ok (.aload_n 0, 1) := by decide +kernel
theorem dX7_init_5 : decode cX7_init 5 = .ok (.bipush 19, 2) := by decide +kernel
theorem dX7_init_7 : decode cX7_init 7 = .ok (.newarray .int, 2) := by decide +kernel
theorem dX7_init_9 : decode cX7_init 9 = .ok (.putfield 7, 3) := by decide +kernel
theorem dX7_init_12 : decode cX7_init 12 = .ok (.aload_n 0, 1) := by decide +kernel
theorem dX7_init_13 : decode cX7_init 13 = .ok (.bipush 19, 2) := by decide +kernel
theorem dX7_init_15 : decode cX7_init 15 = .ok (.newarray .int, 2) := by decide +kernel
theorem dX7_init_17 : decode cX7_init 17 = .ok (.putfield 13, 3) := by decide +kernel
theorem dX7_init_20 : decode cX7_init 20 = .ok (.aload_n 0, 1) := by decide +kernel
theorem dX7_init_21 : decode cX7_init 21 = .ok (.bipush 32, 2) := by decide +kernel
theorem dX7_init_23 : decode cX7_init 23 = .ok (.newarray .int, 2) := by decide +kernel
theorem dX7_init_25 : decode cX7_init 25 = .ok (.putfield 16, 3) := by decide +kernel
theorem dX7_init_28 : decode cX7_init 28 = .ok (.aload_n 0, 1) := by decide +kernel
theorem dX7_init_29 : decode cX7_init 29 = .ok (.bipush 66, 2) := by decide +kernel
theorem dX7_init_31 : decode cX7_init 31 = .ok (.newarray .int, 2) := by decide +kernel
theorem dX7_init_33 : decode cX7_init 33 = .ok (.putfield 19, 3) := by decide +kernel
theorem dX7_init_36 : decode cX7_init 36 = .ok (.aload_n 0, 1) := by decide +kernel
theorem dX7_init_37 : decode cX7_init 37 = .ok (.sipush 528, 3) := by decide +kernel
theorem dX7_init_40 : decode cX7_init 40 = .ok (.newarray .int, 2) := by decide +kernel
theorem dX7_init_42 : decode cX7_init 42 = .ok (.putfield 22, 3) := by decide +kernel
theorem dX7_init_45 : decode cX7_init 45 = .ok (.aload_n 0, 1) := by decide +kernel
theorem dX7_init_46 : decode cX7_init 46 = .ok (.sipush 132, 3) := by decide +kernel
theorem dX7_init_49 : decode cX7_init 49 = .ok (.newarray .int, 2) := by decide +kernel
theorem dX7_init_51 : decode cX7_init 51 = .ok (.putfield 25, 3) := by decide +kernel
theorem dX7_init_54 : decode cX7_init 54 = .ok (.aload_n 0, 1) := by decide +kernel
theorem dX7_init_55 : decode cX7_init 55 = .ok (.sipush 200, 3) := by decide +kernel
theorem dX7_init_58 : decode cX7_init 58 = .ok (.newarray .int, 2) := by decide +kernel
theorem dX7_init_60 : decode cX7_init 60 = .ok (.putfield 28, 3) := by decide +kernel
theorem dX7_init_63 : decode cX7_init 63 = .ok (.aload_n 0, 1) := by decide +kernel
theorem dX7_init_64 : decode cX7_init 64 = .ok (.bipush 32, 2) := by decide +kernel
theorem dX7_init_66 : decode cX7_init 66 = .ok (.newarray .int, 2) := by decide +kernel
theorem dX7_init_68 : decode cX7_init 68 = .ok (.putfield 31, 3) := by decide +kernel
theorem dX7_init_71 : decode cX7_init 71 = .ok (.aload_n 0, 1) := by decide +kernel
theorem dX7_init_72 : decode cX7_init 72 = .ok (.bipush 8, 2) := by decide +kernel
theorem dX7_init_74 : decode cX7_init 74 = .ok (.newarray .int, 2) := by decide +kernel
theorem dX7_init_76 : decode cX7_init 76 = .ok (.putfield 34, 3) := by decide +kernel
theorem dX7_init_79 : decode cX7_init 79 = .ok (.aload_n 0, 1) := by decide +kernel
theorem dX7_init_80 : decode cX7_init 80 = .ok (.iconst 2, 1) := by decide +kernel
theorem dX7_init_81 : decode cX7_init 81 = .ok (.newarray .int, 2) := by decide +kernel
theorem dX7_init_83 : decode cX7_init 83 = .ok (.putfield 37, 3) := by decide +kernel
theorem dX7_init_86 : decode cX7_init 86 = .ok (.aload_n 0, 1) := by decide +kernel
theorem dX7_init_87 : decode cX7_init 87 = .ok (.iconst 3, 1) := by decide +kernel
theorem dX7_init_88 : decode cX7_init 88 = .ok (.newarray .int, 2) := by decide +kernel
theorem dX7_init_90 : decode cX7_init 90 = .ok (.putfield 40, 3) := by decide +kernel
theorem dX7_init_93 : decode cX7_init 93 = .ok (.aload_n 0, 1) := by decide +kernel
theorem dX7_init_94 : decode cX7_init 94 = .ok (.bipush 32, 2) := by decide +kernel
theorem dX7_init_96 : decode cX7_init 96 = .ok (.newarray .int, 2) := by decide +kernel
theorem dX7_init_98 : decode cX7_init 98 = .ok (.putfield 43, 3) := by decide +kernel
theorem dX7_init_101 : decode cX7_init 101 = .ok (.aload_n 0, 1) := by decide +kernel
theorem dX7_init_102 : decode cX7_init 102 = .ok (.bipush 66, 2) := by decide +kernel
theorem dX7_init_104 : decode cX7_init 104 = .ok (.newarray .int, 2) := by decide +kernel
theorem dX7_init_106 : decode cX7_init 106 = .ok (.putfield 46, 3) := by decide +kernel
theorem dX7_init_109 : decode cX7_init 109 = .ok (.aload_n 0, 1) := by decide +kernel
theorem dX7_init_110 : decode cX7_init 110 = .ok (.sipush 4356, 3) := by decide +kernel
theorem dX7_init_113 : decode cX7_init 113 = .ok (.newarray .int, 2) := by decide +kernel
theorem dX7_init_115 : decode cX7_init 115 = .ok (.putfield 49, 3) := by decide +kernel
theorem dX7_init_118 : decode cX7_init 118 = .ok (.aload_n 0, 1) := by decide +kernel
theorem dX7_init_119 : decode cX7_init 119 = .ok (.sipush 256, 3) := by decide +kernel
theorem dX7_init_122 : decode cX7_init 122 = .ok (.newarray .int, 2) := by decide +kernel
theorem dX7_init_124 : decode cX7_init 124 = .ok (.putfield 52, 3) := by decide +kernel
theorem dX7_init_127 : decode cX7_init 127 = .ok (.aload_n 0, 1) := by decide +kernel
theorem dX7_init_128 : decode cX7_init 128 = .ok (.sipush 256, 3) := by decide +kernel
theorem dX7_init_131 : decode cX7_init 131 = .ok (.newarray .boolean, 2) := by decide +kernel
theorem dX7_init_133 : decode cX7_init 133 = .ok (.putfield 55, 3) := by decide +kernel
theorem dX7_init_136 : decode cX7_init 136 = .ok (.aload_n 0, 1) := by decide +kernel
theorem dX7_init_137 : decode cX7_init 137 = .ok (.invokevirtual 59, 3) := by decide +kernel
theorem dX7_init_140 : decode cX7_init 140 = .ok (.aload_n 0, 1) := by decide +kernel
theorem dX7_init_141 : decode cX7_init 141 = .ok (.iconst 0, 1) := by decide +kernel
theorem dX7_init_142 : decode cX7_init 142 = .ok (.iconst 1, 1) := by decide +kernel
theorem dX7_init_143 : decode cX7_init 143 = .ok (.invokevirtual 62, 3) := by decide +kernel
theorem dX7_init_146 : decode cX7_init 146 = .ok (.aload_n 0, 1) := by decide +kernel
theorem dX7_init_147 : decode cX7_init 147 = .ok (.iconst 4, 1) := by decide +kernel
theorem dX7_init_148 : decode cX7_init 148 = .ok (.iconst 1, 1) := by decide +kernel
theorem dX7_init_149 : decode cX7_init 149 = .ok (.invokevirtual 62, 3) := by decide +kernel
theorem dX7_init_152 : decode cX7_init 152 = .ok (.aload_n 0, 1) := by decide +kernel
theorem dX7_init_153 : decode cX7_init 153 = .ok (.bipush 7, 2) := by decide +kernel
theorem dX7_init_155 : decode cX7_init 155 = .ok (.iconst 2, 1) := by decide +kernel
theorem dX7_init_156 : decode cX7_init 156 = .ok (.invokevirtual 62, 3) := by decide +kernel
theorem dX7_init_159 : decode cX7_init 159 = .ok (.aload_n 0, 1) := by decide +kernel
theorem dX7_init_160 : decode cX7_init 160 = .ok (.getfield 13, 3) := by decide +kernel
theorem dX7_init_163 : decode cX7_init 163 = .ok (.iconst 1, 1) := by decide +kernel
theorem dX7_init_164 : decode cX7_init 164 = .ok (.bipush 14, 2) := by decide +kernel
theorem dX7_init_166 : decode cX7_init 166 = .ok (.iastore, 1) := by decide +kernel
theorem dX7_init_167 : decode cX7_init 167 = .ok (.aload_n 0, 1) := by decide +kernel
theorem dX7_init_168 : decode cX7_init 168 = .ok (.iconst 1, 1) := by decide +kernel
theorem dX7_init_169 : decode cX7_init 169 = .ok (.invokevirtual 66, 3) := by decide +kernel
theorem dX7_init_172 : decode cX7_init 172 = .ok (.pop, 1) := by decide +kernel
theorem dX7_init_173 : decode cX7_init 173 = .ok (.aload_n 0, 1) := by decide +kernel
theorem dX7_init_174 : decode cX7_init 174 = .ok (.iconst 2, 1) := by decide +kernel
theorem dX7_init_175 : decode cX7_init 175 = .ok (.invokevirtual 66, 3) := by decide +kernel
theorem dX7_init_178 : decode cX7_init 178 = .ok (.pop, 1) := by decide +kernel
theorem dX7_init_179 : decode cX7_init 179 = .ok (.aload_n 0, 1) := by decide +kernel
theorem dX7_init_180 : decode cX7_init 180 = .ok (.iconst 1, 1) := by decide +kernel
theorem dX7_init_181 : decode cX7_init 181 = .ok (.invokevirtual 66, 3) := by decide +kernel
theorem dX7_init_184 : decode cX7_init 184 = .ok (.pop, 1) := by decide +kernel
theorem dX7_init_185 : decode cX7_init 185 = .ok (.aload_n 0, 1) := by decide +kernel
theorem dX7_init_186 : decode cX7_init 186 = .ok (.iconst 2, 1) := by decide +kernel
theorem dX7_init_187 : decode cX7_init 187 = .ok (.invokevirtual 66, 3) := by decide +kernel
theorem dX7_init_190 : decode cX7_init 190 = .ok (.pop, 1) := by decide +kernel
theorem dX7_init_191 : decode cX7_init 191 = .ok (.aload_n 0, 1) := by decide +kernel
theorem dX7_init_192 : decode cX7_init 192 = .ok (.iconst 5, 1) := by decide +kernel
theorem dX7_init_193 : decode cX7_init 193 = .ok (.invokevirtual 66, 3) := by decide +kernel
theorem dX7_init_196 : decode cX7_init 196 = .ok (.pop, 1) := by decide +kernel
theorem dX7_init_197 : decode cX7_init 197 = .ok (.aload_n 0, 1) := by decide +kernel
theorem dX7_init_198 : decode cX7_init 198 = .ok (.iconst 0, 1) := by decide +kernel
theorem dX7_init_199 : decode cX7_init 199 = .ok (.invokevirtual 66, 3) := by decide +kernel
theorem dX7_init_202 : decode cX7_init 202 = .ok (.pop, 1) := by decide +kernel
theorem dX7_init_203 : decode cX7_init 203 = .ok (.aload_n 0, 1) := by decide +kernel
theorem dX7_init_204 : decode cX7_init 204 = .ok (.iconst 0, 1) := by decide +kernel
theorem dX7_init_205 : decode cX7_init 205 = .ok (.invokevirtual 66, 3) := by decide +kernel
theorem dX7_init_208 : decode cX7_init 208 = .ok (.pop, 1) := by decide +kernel
theorem dX7_init_209 : decode cX7_init 209 = .ok (.aload_n 0, 1) := by decide +kernel
theorem dX7_init_210 : decode cX7_init 210 = .ok (.iconst 4, 1) := by decide +kernel
theorem dX7_init_211 : decode cX7_init 211 = .ok (.invokevirtual 66, 3) := by decide +kernel
theorem dX7_init_214 : decode cX7_init 214 = .ok (.pop, 1) := by decide +kernel
theorem dX7_init_215 : decode cX7_init 215 = .ok (.aload_n 0, 1) := by decide +kernel
theorem dX7_init_216 : decode cX7_init 216 = .ok (.iconst 2, 1) := by decide +kernel
theorem dX7_init_217 : decode cX7_init 217 = .ok (.invokevirtual 66, 3) := by decide +kernel
theorem dX7_init_220 : decode cX7_init 220 = .ok (.pop, 1) := by decide +kernel
theorem dX7_init_221 : decode cX7_init 221 = .ok (.aload_n 0, 1) := by decide +kernel
theorem dX7_init_222 : decode cX7_init 222 = .ok (.iconst 4, 1) := by decide +kernel
theorem dX7_init_223 : decode cX7_init 223 = .ok (.invokevirtual 66, 3) := by decide +kernel
theorem dX7_init_226 : decode cX7_init 226 = .ok (.pop, 1) := by decide +kernel
theorem dX7_init_227 : decode cX7_init 227 = .ok (.aload_n 0, 1) := by decide +kernel
theorem dX7_init_228 : decode cX7_init 228 = .ok (.iconst 2, 1) := by decide +kernel
theorem dX7_init_229 : decode cX7_init 229 = .ok (.invokevirtual 66, 3) := by decide +kernel
theorem dX7_init_232 : decode cX7_init 232 = .ok (.pop, 1) := by decide +kernel
theorem dX7_init_233 : decode cX7_init 233 = .ok (.aload_n 0, 1) := by decide +kernel
theorem dX7_init_234 : decode cX7_init 234 = .ok (.iconst 4, 1) := by decide +kernel
theorem dX7_init_235 : decode cX7_init 235 = .ok (.invokevirtual 66, 3) := by decide +kernel
theorem dX7_init_238 : decode cX7_init 238 = .ok (.pop, 1) := by decide +kernel
theorem dX7_init_239 : decode cX7_init 239 = .ok (.aload_n 0, 1) := by decide +kernel
theorem dX7_init_240 : decode cX7_init 240 = .ok (.iconst 0, 1) := by decide +kernel
theorem dX7_init_241 : decode cX7_init 241 = .ok (.invokevirtual 66, 3) := by decide +kernel
theorem dX7_init_244 : decode cX7_init 244 = .ok (.pop, 1) := by decide +kernel
theorem dX7_init_245 : decode cX7_init 245 = .ok (.aload_n 0, 1) := by decide +kernel
theorem dX7_init_246 : decode cX7_init 246 = .ok (.invokevirtual 70, 3) := by decide +kernel
theorem dX7_init_249 : decode cX7_init 249 = .ok (.return_, 1) := by decide +kernel
theorem dX7_in_0 : decode cX7_in 0 = .ok (.lload_n 0, 1) := by decide +kernel
theorem dX7_in_1 : decode cX7_in 1 = .ok (.lload_n 2, 1) := by decide +kernel
theorem dX7_in_2 : decode cX7_in 2 = .ok (.lcmp, 1) := by decide +kernel
theorem dX7_in_3 : decode cX7_in 3 = .ok (.ifCond .lt 14, 3) := by decide +kernel
theorem dX7_in_6 : decode cX7_in 6 = .ok (.lload_n 0, 1) := by decide +kernel
theorem dX7_in_7 : decode cX7_in 7 = .ok (.lload 4, 2) := by decide +kernel
theorem dX7_in_9 : decode cX7_in 9 = .ok (.lcmp, 1) := by decide +kernel
theorem dX7_in_10 : decode cX7_in 10 = .ok (.ifCond .gt 7, 3) := by decide +kernel
theorem dX7_in_13 : decode cX7_in 13 = .ok (.iconst 1, 1) := by decide +kernel
theorem dX7_in_14 : decode cX7_in 14 = .ok (.goto 4, 3) := by decide +kernel
theorem dX7_in_17 : decode cX7_in 17 = .ok (.iconst 0, 1) := by decide +kernel
theorem dX7_in_18 : decode cX7_in 18 = .ok (.ireturn, 1) := by decide +kernel
theorem dX7_isTwo_0 : decode cX7_isTwo 0 = .ok (.iload_n 0, 1) := by decide +kernel
theorem dX7_isTwo_1 : decode cX7_isTwo 1 = .ok (.i2l, 1) := by decide +kernel
theorem dX7_isTwo_2 : decode cX7_isTwo 2 = .ok (.lconst 0, 1) := by decide +kernel
theorem dX7_isTwo_3 : decode cX7_isTwo 3 = .ok (.lconst 1, 1) := by decide +kernel
theorem dX7_isTwo_4 : decode cX7_isTwo 4 = .ok (.invokestatic 73, 3) := by decide +kernel
theorem dX7_isTwo_7 : decode cX7_isTwo 7 = .ok (.ireturn, 1) := by decide +kernel
theorem dX7_has_0 : decode cX7_has 0 = .ok (.iload_n 0, 1) := by decide +kernel
theorem dX7_has_1 : decode cX7_has 1 = .ok (.iload_n 1, 1) := by decide +kernel
theorem dX7_has_2 : decode cX7_has 2 = .ok (.ishr, 1) := by decide +kernel
theorem dX7_has_3 : decode cX7_has 3 = .ok (.iconst 1, 1) := by decide +kernel
theorem dX7_has_4 : decode cX7_has 4 = .ok (.iand, 1) := by decide +kernel
theorem dX7_has_5 : decode cX7_has 5 = .ok (.iconst 1, 1) := by decide +kernel
theorem dX7_has_6 : decode cX7_has 6 = .ok (.if_icmp .ne 7, 3) := by decide +kernel
theorem dX7_has_9 : decode cX7_has 9 = .ok (.iconst 1, 1) := by decide +kernel
theorem dX7_has_10 : decode cX7_has 10 = .ok (.goto 4, 3) := by decide +kernel
theorem dX7_has_13 : decode cX7_has 13 = .ok (.iconst 0, 1) := by decide +kernel
theorem dX7_has_14 : decode cX7_has 14 = .ok (.ireturn, 1) := by decide +kernel
theorem dX7_bits_0 : decode cX7_bits 0 = .ok (.iconst 0, 1) := by decide +kernel
theorem dX7_bits_1 : decode cX7_bits 1 = .ok (.istore_n 1, 1) := by decide +kernel
theorem dX7_bits_2 : decode cX7_bits 2 = .ok (.iload_n 0, 1) := by decide +kernel
theorem dX7_bits_3 : decode cX7_bits 3 = .ok (.istore_n 2, 1) := by decide +kernel
theorem dX7_bits_4 : decode cX7_bits 4 = .ok (.iload_n 2, 1) := by decide +kernel
theorem dX7_bits_5 : decode cX7_bits 5 = .ok (.ifCond .eq 15, 3) := by decide +kernel
theorem dX7_bits_8 : decode cX7_bits 8 = .ok (.iinc 1 1, 3) := by decide +kernel
theorem dX7_bits_11 : decode cX7_bits 11 = .ok (.iload_n 2, 1) := by decide +kernel
theorem dX7_bits_12 : decode cX7_bits 12 = .ok (.iload_n 2, 1) := by decide +kernel
theorem dX7_bits_13 : decode cX7_bits 13 = .ok (.iconst 1, 1) := by decide +kernel
theorem dX7_bits_14 : decode cX7_bits 14 = .ok (.isub, 1) := by decide +kernel
theorem dX7_bits_15 : decode cX7_bits 15 = .ok (.iand, 1) := by decide +kernel
theorem dX7_bits_16 : decode cX7_bits 16 = .ok (.istore_n 2, 1) := by decide +kernel
theorem dX7_bits_17 : decode cX7_bits 17 = .ok (.goto (-13), 3) := by decide +kernel
theorem dX7_bits_20 : decode cX7_bits 20 = .ok (.iload_n 1, 1) := by decide +kernel
theorem dX7_bits_21 : decode cX7_bits 21 = .ok (.ireturn, 1) := by decide +kernel
theorem dX7_write_0 : decode cX7_write 0 = .ok (.iload_n 1, 1) := by decide +kernel
theorem dX7_write_1 : decode cX7_write 1 = .ok (.i2l, 1) := by decide +kernel
theorem dX7_write_2 : decode cX7_write 2 = .ok (.ldc2_w 77, 3) := by decide +kernel
theorem dX7_write_5 : decode cX7_write 5 = .ok (.ldc2_w 79, 3) := by decide +kernel
theorem dX7_write_8 : decode cX7_write 8 = .ok (.invokestatic 73, 3) := by decide +kernel
theorem dX7_write_11 : decode cX7_write 11 = .ok (.ifCond .ne 5, 3) := by decide +kernel
theorem dX7_write_14 : decode cX7_write 14 = .ok (.iconst (-1), 1) := by decide +kernel
theorem dX7_write_15 : decode cX7_write 15 = .ok (.ireturn, 1) := by decide +kernel
theorem dX7_write_16 : decode cX7_write 16 = .ok (.aload_n 0, 1) := by decide +kernel
theorem dX7_write_17 : decode cX7_write 17 = .ok (.getfield 81, 3) := by decide +kernel
theorem dX7_write_20 : decode cX7_write 20 = .ok (.sipush 200, 3) := by decide +kernel
theorem dX7_write_23 : decode cX7_write 23 = .ok (.if_icmp .ne 6, 3) := by decide +kernel
theorem dX7_write_26 : decode cX7_write 26 = .ok (.bipush (-3), 2) := by decide +kernel
theorem dX7_write_28 : decode cX7_write 28 = .ok (.ireturn, 1) := by decide +kernel
theorem dX7_write_29 : decode cX7_write 29 = .ok (.aload_n 0, 1) := by decide +kernel
theorem dX7_write_30 : decode cX7_write 30 = .ok (.getfield 28, 3) := by decide +kernel
theorem dX7_write_33 : decode cX7_write 33 = .ok (.aload_n 0, 1) := by decide +kernel
theorem dX7_write_34 : decode cX7_write 34 = .ok (.getfield 81, 3) := by decide +kernel
theorem dX7_write_37 : decode cX7_write 37 = .ok (.iload_n 1, 1) := by decide +kernel
theorem dX7_write_38 : decode cX7_write 38 = .ok (.iastore, 1) := by decide +kernel
theorem dX7_write_39 : decode cX7_write 39 = .ok (.aload_n 0, 1) := by decide +kernel
theorem dX7_write_40 : decode cX7_write 40 = .ok (.dup, 1) := by decide +kernel
theorem dX7_write_41 : decode cX7_write 41 = .ok (.getfield 81, 3) := by decide +kernel
theorem dX7_write_44 : decode cX7_write 44 = .ok (.iconst 1, 1) := by decide +kernel
theorem dX7_write_45 : decode cX7_write 45 = .ok (.iadd, 1) := by decide +kernel
theorem dX7_write_46 : decode cX7_write 46 = .ok (.putfield 81, 3) := by decide +kernel
theorem dX7_write_49 : decode cX7_write 49 = .ok (.aload_n 0, 1) := by decide +kernel
theorem dX7_write_50 : decode cX7_write 50 = .ok (.getfield 81, 3) := by decide +kernel
theorem dX7_write_53 : decode cX7_write 53 = .ok (.ireturn, 1) := by decide +kernel
theorem dX7_wipe_0 : decode cX7_wipe 0 = .ok (.aload_n 0, 1) := by decide +kernel
theorem dX7_wipe_1 : decode cX7_wipe 1 = .ok (.getfield 81, 3) := by decide +kernel
theorem dX7_wipe_4 : decode cX7_wipe 4 = .ok (.istore_n 1, 1) := by decide +kernel
theorem dX7_wipe_5 : decode cX7_wipe 5 = .ok (.aload_n 0, 1) := by decide +kernel
theorem dX7_wipe_6 : decode cX7_wipe 6 = .ok (.iconst 0, 1) := by decide +kernel
theorem dX7_wipe_7 : decode cX7_wipe 7 = .ok (.putfield 81, 3) := by decide +kernel
theorem dX7_wipe_10 : decode cX7_wipe 10 = .ok (.iload_n 1, 1) := by decide +kernel
theorem dX7_wipe_11 : decode cX7_wipe 11 = .ok (.ireturn, 1) := by decide +kernel
theorem dX7_clean_0 : decode cX7_clean 0 = .ok (.iconst 0, 1) := by decide +kernel
theorem dX7_clean_1 : decode cX7_clean 1 = .ok (.istore_n 1, 1) := by decide +kernel
theorem dX7_clean_2 : decode cX7_clean 2 = .ok (.iload_n 1, 1) := by decide +kernel
theorem dX7_clean_3 : decode cX7_clean 3 = .ok (.bipush 19, 2) := by decide +kernel
theorem dX7_clean_5 : decode cX7_clean 5 = .ok (.if_icmp .ge 16, 3) := by decide +kernel
theorem dX7_clean_8 : decode cX7_clean 8 = .ok (.aload_n 0, 1) := by decide +kernel
theorem dX7_clean_9 : decode cX7_clean 9 = .ok (.getfield 13, 3) := by decide +kernel
theorem dX7_clean_12 : decode cX7_clean 12 = .ok (.iload_n 1, 1) := by decide +kernel
theorem dX7_clean_13 : decode cX7_clean 13 = .ok (.iconst 0, 1) := by decide +kernel
theorem dX7_clean_14 : decode cX7_clean 14 = .ok (.iastore, 1) := by decide +kernel
theorem dX7_clean_15 : decode cX7_clean 15 = .ok (.iinc 1 1, 3) := by decide +kernel
theorem dX7_clean_18 : decode cX7_clean 18 = .ok (.goto (-16), 3) := by decide +kernel
theorem dX7_clean_21 : decode cX7_clean 21 = .ok (.aload_n 0, 1) := by decide +kernel
theorem dX7_clean_22 : decode cX7_clean 22 = .ok (.getfield 13, 3) := by decide +kernel
theorem dX7_clean_25 : decode cX7_clean 25 = .ok (.iconst 1, 1) := by decide +kernel
theorem dX7_clean_26 : decode cX7_clean 26 = .ok (.bipush 16, 2) := by decide +kernel
theorem dX7_clean_28 : decode cX7_clean 28 = .ok (.iastore, 1) := by decide +kernel
theorem dX7_clean_29 : decode cX7_clean 29 = .ok (.aload_n 0, 1) := by decide +kernel
theorem dX7_clean_30 : decode cX7_clean 30 = .ok (.getfield 13, 3) := by decide +kernel
theorem dX7_clean_33 : decode cX7_clean 33 = .ok (.iconst 2, 1) := by decide +kernel
theorem dX7_clean_34 : decode cX7_clean 34 = .ok (.iconst 1, 1) := by decide +kernel
theorem dX7_clean_35 : decode cX7_clean 35 = .ok (.iastore, 1) := by decide +kernel
theorem dX7_clean_36 : decode cX7_clean 36 = .ok (.aload_n 0, 1) := by decide +kernel
theorem dX7_clean_37 : decode cX7_clean 37 = .ok (.iconst 0, 1) := by decide +kernel
theorem dX7_clean_38 : decode cX7_clean 38 = .ok (.putfield 85, 3) := by decide +kernel
theorem dX7_clean_41 : decode cX7_clean 41 = .ok (.aload_n 0, 1) := by decide +kernel
theorem dX7_clean_42 : decode cX7_clean 42 = .ok (.iconst 0, 1) := by decide +kernel
theorem dX7_clean_43 : decode cX7_clean 43 = .ok (.putfield 88, 3) := by decide +kernel
theorem dX7_clean_46 : decode cX7_clean 46 = .ok (.return_, 1) := by decide +kernel
theorem dX7_comes_0 : decode cX7_comes 0 = .ok (.aload_n 0, 1) := by decide +kernel
theorem dX7_comes_1 : decode cX7_comes 1 = .ok (.getfield 13, 3) := by decide +kernel
theorem dX7_comes_4 : decode cX7_comes 4 = .ok (.iconst 0, 1) := by decide +kernel
theorem dX7_comes_5 : decode cX7_comes 5 = .ok (.iaload, 1) := by decide +kernel
theorem dX7_comes_6 : decode cX7_comes 6 = .ok (.istore_n 3, 1) := by decide +kernel
theorem dX7_comes_7 : decode cX7_comes 7 = .ok (.aload_n 0, 1) := by decide +kernel
theorem dX7_comes_8 : decode cX7_comes 8 = .ok (.getfield 13, 3) := by decide +kernel
theorem dX7_comes_11 : decode cX7_comes 11 = .ok (.iconst 3, 1) := by decide +kernel
theorem dX7_comes_12 : decode cX7_comes 12 = .ok (.iload_n 3, 1) := by decide +kernel
theorem dX7_comes_13 : decode cX7_comes 13 = .ok (.iadd, 1) := by decide +kernel
theorem dX7_comes_14 : decode cX7_comes 14 = .ok (.iload_n 1, 1) := by decide +kernel
theorem dX7_comes_15 : decode cX7_comes 15 = .ok (.iastore, 1) := by decide +kernel
theorem dX7_comes_16 : decode cX7_comes 16 = .ok (.aload_n 0, 1) := by decide +kernel
theorem dX7_comes_17 : decode cX7_comes 17 = .ok (.getfield 13, 3) := by decide +kernel
theorem dX7_comes_20 : decode cX7_comes 20 = .ok (.bipush 11, 2) := by decide +kernel
theorem dX7_comes_22 : decode cX7_comes 22 = .ok (.iload_n 3, 1) := by decide +kernel
theorem dX7_comes_23 : decode cX7_comes 23 = .ok (.iadd, 1) := by decide +kernel
theorem dX7_comes_24 : decode cX7_comes 24 = .ok (.iload_n 2, 1) := by decide +kernel
theorem dX7_comes_25 : decode cX7_comes 25 = .ok (.iastore, 1) := by decide +kernel
theorem dX7_comes_26 : decode cX7_comes 26 = .ok (.aload_n 0, 1) := by decide +kernel
theorem dX7_comes_27 : decode cX7_comes 27 = .ok (.getfield 13, 3) := by decide +kernel
theorem dX7_comes_30 : decode cX7_comes 30 = .ok (.iconst 0, 1) := by decide +kernel
theorem dX7_comes_31 : decode cX7_comes 31 = .ok (.dup2, 1) := by decide +kernel
theorem dX7_comes_32 : decode cX7_comes 32 = .ok (.iaload, 1) := by decide +kernel
theorem dX7_comes_33 : decode cX7_comes 33 = .ok (.iconst 1, 1) := by decide +kernel
theorem dX7_comes_34 : decode cX7_comes 34 = .ok (.iadd, 1) := by decide +kernel
theorem dX7_comes_35 : decode cX7_comes 35 = .ok (.iastore, 1) := by decide +kernel
theorem dX7_comes_36 : decode cX7_comes 36 = .ok (.return_, 1) := by decide +kernel
theorem dX7_put_0 : decode cX7_put 0 = .ok (.aload_n 0, 1) := by decide +kernel
theorem dX7_put_1 : decode cX7_put 1 = .ok (.getfield 85, 3) := by decide +kernel
theorem dX7_put_4 : decode cX7_put 4 = .ok (.bipush 32, 2) := by decide +kernel
theorem dX7_put_6 : decode cX7_put 6 = .ok (.if_icmp .ne 5, 3) := by decide +kernel
theorem dX7_put_9 : decode cX7_put 9 = .ok (.iconst 0, 1) := by decide +kernel
theorem dX7_put_10 : decode cX7_put 10 = .ok (.ireturn, 1) := by decide +kernel
theorem dX7_put_11 : decode cX7_put 11 = .ok (.aload_n 0, 1) := by decide +kernel
theorem dX7_put_12 : decode cX7_put 12 = .ok (.getfield 16, 3) := by decide +kernel
theorem dX7_put_15 : decode cX7_put 15 = .ok (.aload_n 0, 1) := by decide +kernel
theorem dX7_put_16 : decode cX7_put 16 = .ok (.getfield 85, 3) := by decide +kernel
theorem dX7_put_19 : decode cX7_put 19 = .ok (.iload_n 1, 1) := by decide +kernel
theorem dX7_put_20 : decode cX7_put 20 = .ok (.iastore, 1) := by decide +kernel
theorem dX7_put_21 : decode cX7_put 21 = .ok (.aload_n 0, 1) := by decide +kernel
theorem dX7_put_22 : decode cX7_put 22 = .ok (.dup, 1) := by decide +kernel
theorem dX7_put_23 : decode cX7_put 23 = .ok (.getfield 85, 3) := by decide +kernel
theorem dX7_put_26 : decode cX7_put 26 = .ok (.iconst 1, 1) := by decide +kernel
theorem dX7_put_27 : decode cX7_put 27 = .ok (.iadd, 1) := by decide +kernel
theorem dX7_put_28 : decode cX7_put 28 = .ok (.putfield 85, 3) := by decide +kernel
theorem dX7_put_31 : decode cX7_put 31 = .ok (.iconst 1, 1) := by decide +kernel
theorem dX7_put_32 : decode cX7_put 32 = .ok (.ireturn, 1) := by decide +kernel
theorem dX7_here_0 : decode cX7_here 0 = .ok (.aload_n 0, 1) := by decide +kernel
theorem dX7_here_1 : decode cX7_here 1 = .ok (.getfield 92, 3) := by decide +kernel
theorem dX7_here_4 : decode cX7_here 4 = .ok (.aload_n 0, 1) := by decide +kernel
theorem dX7_here_5 : decode cX7_here 5 = .ok (.getfield 81, 3) := by decide +kernel
theorem dX7_here_8 : decode cX7_here 8 = .ok (.if_icmp .ge 15, 3) := by decide +kernel
theorem dX7_here_11 : decode cX7_here 11 = .ok (.aload_n 0, 1) := by decide +kernel
theorem dX7_here_12 : decode cX7_here 12 = .ok (.getfield 28, 3) := by decide +kernel
theorem dX7_here_15 : decode cX7_here 15 = .ok (.aload_n 0, 1) := by decide +kernel
theorem dX7_here_16 : decode cX7_here 16 = .ok (.getfield 92, 3) := by decide +kernel
theorem dX7_here_19 : decode cX7_here 19 = .ok (.iaload, 1) := by decide +kernel
theorem dX7_here_20 : decode cX7_here 20 = .ok (.goto 4, 3) := by decide +kernel
theorem dX7_here_23 : decode cX7_here 23 = .ok (.iconst (-1), 1) := by decide +kernel
theorem dX7_here_24 : decode cX7_here 24 = .ok (.ireturn, 1) := by decide +kernel
theorem dX7_takes_0 : decode cX7_takes 0 = .ok (.iconst 0, 1) := by decide +kernel
theorem dX7_takes_1 : decode cX7_takes 1 = .ok (.istore_n 2, 1) := by decide +kernel
theorem dX7_takes_2 : decode cX7_takes 2 = .ok (.iload_n 2, 1) := by decide +kernel
theorem dX7_takes_3 : decode cX7_takes 3 = .ok (.iload_n 1, 1) := by decide +kernel
theorem dX7_takes_4 : decode cX7_takes 4 = .ok (.if_icmp .ge 123, 3) := by decide +kernel
theorem dX7_takes_7 : decode cX7_takes 7 = .ok (.iconst 0, 1) := by decide +kernel
theorem dX7_takes_8 : decode cX7_takes 8 = .ok (.istore_n 3, 1) := by decide +kernel
theorem dX7_takes_9 : decode cX7_takes 9 = .ok (.iconst 0, 1) := by decide +kernel
theorem dX7_takes_10 : decode cX7_takes 10 = .ok (.istore 4, 2) := by decide +kernel
theorem dX7_takes_12 : decode cX7_takes 12 = .ok (.aload_n 0, 1) := by decide +kernel
theorem dX7_takes_13 : decode cX7_takes 13 = .ok (.invokevirtual 95, 3) := by decide +kernel
theorem dX7_takes_16 : decode cX7_takes 16 = .ok (.i2l, 1) := by decide +kernel
theorem dX7_takes_17 : decode cX7_takes 17 = .ok (.ldc2_w 99, 3) := by decide +kernel
theorem dX7_takes_20 : decode cX7_takes 20 = .ok (.ldc2_w 101, 3) := by decide +kernel
theorem dX7_takes_23 : decode cX7_takes 23 = .ok (.invokestatic 73, 3) := by decide +kernel
theorem dX7_takes_26 : decode cX7_takes 26 = .ok (.ifCond .eq 42, 3) := by decide +kernel
theorem dX7_takes_29 : decode cX7_takes 29 = .ok (.iload 4, 2) := by decide +kernel
theorem dX7_takes_31 : decode cX7_takes 31 = .ok (.iconst 2, 1) := by decide +kernel
theorem dX7_takes_32 : decode cX7_takes 32 = .ok (.if_icmp .ge 18, 3) := by decide +kernel
theorem dX7_takes_35 : decode cX7_takes 35 = .ok (.bipush 10, 2) := by decide +kernel
theorem dX7_takes_37 : decode cX7_takes 37 = .ok (.iload_n 3, 1) := by decide +kernel
theorem dX7_takes_38 : decode cX7_takes 38 = .ok (.imul, 1) := by decide +kernel
theorem dX7_takes_39 : decode cX7_takes 39 = .ok (.aload_n 0, 1) := by decide +kernel
theorem dX7_takes_40 : decode cX7_takes 40 = .ok (.invokevirtual 95, 3) := by decide +kernel
theorem dX7_takes_43 : decode cX7_takes 43 = .ok (.iadd, 1) := by decide +kernel
theorem dX7_takes_44 : decode cX7_takes 44 = .ok (.bipush 48, 2) := by decide +kernel
theorem dX7_takes_46 : decode cX7_takes 46 = .ok (.isub, 1) := by decide +kernel
theorem dX7_takes_47 : decode cX7_takes 47 = .ok (.goto 4, 3) := by decide +kernel
theorem dX7_takes_50 : decode cX7_takes 50 = .ok (.iload_n 3, 1) := by decide +kernel
theorem dX7_takes_51 : decode cX7_takes 51 = .ok (.istore_n 3, 1) := by decide +kernel
theorem dX7_takes_52 : decode cX7_takes 52 = .ok (.iinc 4 1, 3) := by decide +kernel
theorem dX7_takes_55 : decode cX7_takes 55 = .ok (.aload_n 0, 1) := by decide +kernel
theorem dX7_takes_56 : decode cX7_takes 56 = .ok (.dup, 1) := by decide +kernel
theorem dX7_takes_57 : decode cX7_takes 57 = .ok (.getfield 92, 3) := by decide +kernel
theorem dX7_takes_60 : decode cX7_takes 60 = .ok (.iconst 1, 1) := by decide +kernel
theorem dX7_takes_61 : decode cX7_takes 61 = .ok (.iadd, 1) := by decide +kernel
theorem dX7_takes_62 : decode cX7_takes 62 = .ok (.putfield 92, 3) := by decide +kernel
theorem dX7_takes_65 : decode cX7_takes 65 = .ok (.goto (-53), 3) := by decide +kernel
theorem dX7_takes_68 : decode cX7_takes 68 = .ok (.iload 4, 2) := by decide +kernel
theorem dX7_takes_70 : decode cX7_takes 70 = .ok (.i2l, 1) := by decide +kernel
theorem dX7_takes_71 : decode cX7_takes 71 = .ok (.lconst 1, 1) := by decide +kernel
theorem dX7_takes_72 : decode cX7_takes 72 = .ok (.ldc2_w 103, 3) := by decide +kernel
theorem dX7_takes_75 : decode cX7_takes 75 = .ok (.invokestatic 73, 3) := by decide +kernel
theorem dX7_takes_78 : decode cX7_takes 78 = .ok (.ifCond .eq 24, 3) := by decide +kernel
theorem dX7_takes_81 : decode cX7_takes 81 = .ok (.aload_n 0, 1) := by decide +kernel
theorem dX7_takes_82 : decode cX7_takes 82 = .ok (.invokevirtual 95, 3) := by decide +kernel
theorem dX7_takes_85 : decode cX7_takes 85 = .ok (.iload_n 2, 1) := by decide +kernel
theorem dX7_takes_86 : decode cX7_takes 86 = .ok (.iload_n 1, 1) := by decide +kernel
theorem dX7_takes_87 : decode cX7_takes 87 = .ok (.iconst 1, 1) := by decide +kernel
theorem dX7_takes_88 : decode cX7_takes 88 = .ok (.isub, 1) := by decide +kernel
theorem dX7_takes_89 : decode cX7_takes 89 = .ok (.if_icmp .ge 8, 3) := by decide +kernel
theorem dX7_takes_92 : decode cX7_takes 92 = .ok (.bipush 44, 2) := by decide +kernel
theorem dX7_takes_94 : decode cX7_takes 94 = .ok (.goto 5, 3) := by decide +kernel
theorem dX7_takes_97 : decode cX7_takes 97 = .ok (.bipush 59, 2) := by decide +kernel
theorem dX7_takes_99 : decode cX7_takes 99 = .ok (.if_icmp .eq 5, 3) := by decide +kernel
theorem dX7_takes_102 : decode cX7_takes 102 = .ok (.iconst 0, 1) := by decide +kernel
theorem dX7_takes_103 : decode cX7_takes 103 = .ok (.ireturn, 1) := by decide +kernel
theorem dX7_takes_104 : decode cX7_takes 104 = .ok (.aload_n 0, 1) := by decide +kernel
theorem dX7_takes_105 : decode cX7_takes 105 = .ok (.getfield 37, 3) := by decide +kernel
theorem dX7_takes_108 : decode cX7_takes 108 = .ok (.iload_n 2, 1) := by decide +kernel
theorem dX7_takes_109 : decode cX7_takes 109 = .ok (.iload_n 3, 1) := by decide +kernel
theorem dX7_takes_110 : decode cX7_takes 110 = .ok (.iastore, 1) := by decide +kernel
theorem dX7_takes_111 : decode cX7_takes 111 = .ok (.aload_n 0, 1) := by decide +kernel
theorem dX7_takes_112 : decode cX7_takes 112 = .ok (.dup, 1) := by decide +kernel
theorem dX7_takes_113 : decode cX7_takes 113 = .ok (.getfield 92, 3) := by decide +kernel
theorem dX7_takes_116 : decode cX7_takes 116 = .ok (.iconst 1, 1) := by decide +kernel
theorem dX7_takes_117 : decode cX7_takes 117 = .ok (.iadd, 1) := by decide +kernel
theorem dX7_takes_118 : decode cX7_takes 118 = .ok (.putfield 92, 3) := by decide +kernel
theorem dX7_takes_121 : decode cX7_takes 121 = .ok (.iinc 2 1, 3) := by decide +kernel
theorem dX7_takes_124 : decode cX7_takes 124 = .ok (.goto (-122), 3) := by decide +kernel
theorem dX7_takes_127 : decode cX7_takes 127 = .ok (.iconst 1, 1) := by decide +kernel
theorem dX7_takes_128 : decode cX7_takes 128 = .ok (.ireturn, 1) := by decide +kernel
theorem dX7_takesBell_0 : decode cX7_takesBell 0 = .ok (.aload_n 0, 1) := by decide +kernel
theorem dX7_takesBell_1 : decode cX7_takesBell 1 = .ok (.iconst 2, 1) := by decide +kernel
theorem dX7_takesBell_2 : decode cX7_takesBell 2 = .ok (.invokevirtual 105, 3) := by decide +kernel
theorem dX7_takesBell_5 : decode cX7_takesBell 5 = .ok (.ifCond .eq 42, 3) := by decide +kernel
theorem dX7_takesBell_8 : decode cX7_takesBell 8 = .ok (.aload_n 0, 1) := by decide +kernel
theorem dX7_takesBell_9 : decode cX7_takesBell 9 = .ok (.getfield 37, 3) := by decide +kernel
theorem dX7_takesBell_12 : decode cX7_takesBell 12 = .ok (.iconst 0, 1) := by decide +kernel
theorem dX7_takesBell_13 : decode cX7_takesBell 13 = .ok (.iaload, 1) := by decide +kernel
theorem dX7_takesBell_14 : decode cX7_takesBell 14 = .ok (.bipush 40, 2) := by decide +kernel
theorem dX7_takesBell_16 : decode cX7_takesBell 16 = .ok (.if_icmp .gt 31, 3) := by decide +kernel
theorem dX7_takesBell_19 : decode cX7_takesBell 19 = .ok (.aload_n 0, 1) := by decide +kernel
theorem dX7_takesBell_20 : decode cX7_takesBell 20 = .ok (.getfield 37, 3) := by decide +kernel
theorem dX7_takesBell_23 : decode cX7_takesBell 23 = .ok (.iconst 1, 1) := by decide +kernel
theorem dX7_takesBell_24 : decode cX7_takesBell 24 = .ok (.iaload, 1) := by decide +kernel
theorem dX7_takesBell_25 : decode cX7_takesBell 25 = .ok (.i2l, 1) := by decide +kernel
theorem dX7_takesBell_26 : decode cX7_takesBell 26 = .ok (.lconst 1, 1) := by decide +kernel
theorem dX7_takesBell_27 : decode cX7_takesBell 27 = .ok (.ldc2_w 103, 3) := by decide +kernel
theorem dX7_takesBell_30 : decode cX7_takesBell 30 = .ok (.invokestatic 73, 3) := by decide +kernel
theorem dX7_takesBell_33 : decode cX7_takesBell 33 = .ok (.ifCond .eq 14, 3) := by decide +kernel
theorem dX7_takesBell_36 : decode cX7_takesBell 36 = .ok (.aload_n 0, 1) := by decide +kernel
theorem dX7_takesBell_37 : decode cX7_takesBell 37 = .ok (.getfield 13, 3) := by decide +kernel
theorem dX7_takesBell_40 : decode cX7_takesBell 40 = .ok (.iconst 0, 1) := by decide +kernel
theorem dX7_takesBell_41 : decode cX7_takesBell 41 = .ok (.iaload, 1) := by decide +kernel
theorem dX7_takesBell_42 : decode cX7_takesBell 42 = .ok (.bipush 8, 2) := by decide +kernel
theorem dX7_takesBell_44 : decode cX7_takesBell 44 = .ok (.if_icmp .ne 5, 3) := by decide +kernel
theorem dX7_takesBell_47 : decode cX7_takesBell 47 = .ok (.iconst 0, 1) := by decide +kernel
theorem dX7_takesBell_48 : decode cX7_takesBell 48 = .ok (.ireturn, 1) := by decide +kernel
theorem dX7_takesBell_49 : decode cX7_takesBell 49 = .ok (.aload_n 0, 1) := by decide +kernel
theorem dX7_takesBell_50 : decode cX7_takesBell 50 = .ok (.aload_n 0, 1) := by decide +kernel
theorem dX7_takesBell_51 : decode cX7_takesBell 51 = .ok (.getfield 37, 3) := by decide +kernel
theorem dX7_takesBell_54 : decode cX7_takesBell 54 = .ok (.iconst 0, 1) := by decide +kernel
theorem dX7_takesBell_55 : decode cX7_takesBell 55 = .ok (.iaload, 1) := by decide +kernel
theorem dX7_takesBell_56 : decode cX7_takesBell 56 = .ok (.aload_n 0, 1) := by decide +kernel
theorem dX7_takesBell_57 : decode cX7_takesBell 57 = .ok (.getfield 37, 3) := by decide +kernel
theorem dX7_takesBell_60 : decode cX7_takesBell 60 = .ok (.iconst 1, 1) := by decide +kernel
theorem dX7_takesBell_61 : decode cX7_takesBell 61 = .ok (.iaload, 1) := by decide +kernel
theorem dX7_takesBell_62 : decode cX7_takesBell 62 = .ok (.invokevirtual 62, 3) := by decide +kernel
theorem dX7_takesBell_65 : decode cX7_takesBell 65 = .ok (.iconst 1, 1) := by decide +kernel
theorem dX7_takesBell_66 : decode cX7_takesBell 66 = .ok (.ireturn, 1) := by decide +kernel
theorem dX7_takesOne_0 : decode cX7_takesOne 0 = .ok (.aload_n 0, 1) := by decide +kernel
theorem dX7_takesOne_1 : decode cX7_takesOne 1 = .ok (.iconst 1, 1) := by decide +kernel
theorem dX7_takesOne_2 : decode cX7_takesOne 2 = .ok (.invokevirtual 105, 3) := by decide +kernel
theorem dX7_takesOne_5 : decode cX7_takesOne 5 = .ok (.ifCond .eq 20, 3) := by decide +kernel
theorem dX7_takesOne_8 : decode cX7_takesOne 8 = .ok (.aload_n 0, 1) := by decide +kernel
theorem dX7_takesOne_9 : decode cX7_takesOne 9 = .ok (.getfield 37, 3) := by decide +kernel
theorem dX7_takesOne_12 : decode cX7_takesOne 12 = .ok (.iconst 0, 1) := by decide +kernel
theorem dX7_takesOne_13 : decode cX7_takesOne 13 = .ok (.iaload, 1) := by decide +kernel
theorem dX7_takesOne_14 : decode cX7_takesOne 14 = .ok (.i2l, 1) := by decide +kernel
theorem dX7_takesOne_15 : decode cX7_takesOne 15 = .ok (.iload_n 2, 1) := by decide +kernel
theorem dX7_takesOne_16 : decode cX7_takesOne 16 = .ok (.i2l, 1) := by decide +kernel
theorem dX7_takesOne_17 : decode cX7_takesOne 17 = .ok (.iload_n 3, 1) := by decide +kernel
theorem dX7_takesOne_18 : decode cX7_takesOne 18 = .ok (.i2l, 1) := by decide +kernel
theorem dX7_takesOne_19 : decode cX7_takesOne 19 = .ok (.invokestatic 73, 3) := by decide +kernel
theorem dX7_takesOne_22 : decode cX7_takesOne 22 = .ok (.ifCond .ne 5, 3) := by decide +kernel
theorem dX7_takesOne_25 : decode cX7_takesOne 25 = .ok (.iconst 0, 1) := by decide +kernel
theorem dX7_takesOne_26 : decode cX7_takesOne 26 = .ok (.ireturn, 1) := by decide +kernel
theorem dX7_takesOne_27 : decode cX7_takesOne 27 = .ok (.aload_n 0, 1) := by decide +kernel
theorem dX7_takesOne_28 : decode cX7_takesOne 28 = .ok (.getfield 13, 3) := by decide +kernel
theorem dX7_takesOne_31 : decode cX7_takesOne 31 = .ok (.iload_n 1, 1) := by decide +kernel
theorem dX7_takesOne_32 : decode cX7_takesOne 32 = .ok (.aload_n 0, 1) := by decide +kernel
theorem dX7_takesOne_33 : decode cX7_takesOne 33 = .ok (.getfield 37, 3) := by decide +kernel
theorem dX7_takesOne_36 : decode cX7_takesOne 36 = .ok (.iconst 0, 1) := by decide +kernel
theorem dX7_takesOne_37 : decode cX7_takesOne 37 = .ok (.iaload, 1) := by decide +kernel
theorem dX7_takesOne_38 : decode cX7_takesOne 38 = .ok (.iastore, 1) := by decide +kernel
theorem dX7_takesOne_39 : decode cX7_takesOne 39 = .ok (.iconst 1, 1) := by decide +kernel
theorem dX7_takesOne_40 : decode cX7_takesOne 40 = .ok (.ireturn, 1) := by decide +kernel
theorem dX7_isBellHere_0 : decode cX7_isBellHere 0 = .ok (.aload_n 0, 1) := by decide +kernel
theorem dX7_isBellHere_1 : decode cX7_isBellHere 1 = .ok (.invokevirtual 95, 3) := by decide +kernel
theorem dX7_isBellHere_4 : decode cX7_isBellHere 4 = .ok (.i2l, 1) := by decide +kernel
theorem dX7_isBellHere_5 : decode cX7_isBellHere 5 = .ok (.ldc2_w 108, 3) := by decide +kernel
theorem dX7_isBellHere_8 : decode cX7_isBellHere 8 = .ok (.bipush 96, 2) := by decide +kernel
theorem dX7_isBellHere_10 : decode cX7_isBellHere 10 = .ok (.aload_n 0, 1) := by decide +kernel
theorem dX7_isBellHere_11 : decode cX7_isBellHere 11 = .ok (.getfield 13, 3) := by decide +kernel
theorem dX7_isBellHere_14 : decode cX7_isBellHere 14 = .ok (.iconst 0, 1) := by decide +kernel
theorem dX7_isBellHere_15 : decode cX7_isBellHere 15 = .ok (.iaload, 1) := by decide +kernel
theorem dX7_isBellHere_16 : decode cX7_isBellHere 16 = .ok (.iadd, 1) := by decide +kernel
theorem dX7_isBellHere_17 : decode cX7_isBellHere 17 = .ok (.i2l, 1) := by decide +kernel
theorem dX7_isBellHere_18 : decode cX7_isBellHere 18 = .ok (.invokestatic 73, 3) := by decide +kernel
theorem dX7_isBellHere_21 : decode cX7_isBellHere 21 = .ok (.ireturn, 1) := by decide +kernel
theorem dX7_chord_0 : decode cX7_chord 0 = .ok (.iconst 0, 1) := by decide +kernel
theorem dX7_chord_1 : decode cX7_chord 1 = .ok (.istore_n 1, 1) := by decide +kernel
theorem dX7_chord_2 : decode cX7_chord 2 = .ok (.iconst (-1), 1) := by decide +kernel
theorem dX7_chord_3 : decode cX7_chord 3 = .ok (.istore_n 2, 1) := by decide +kernel
theorem dX7_chord_4 : decode cX7_chord 4 = .ok (.aload_n 0, 1) := by decide +kernel
theorem dX7_chord_5 : decode cX7_chord 5 = .ok (.invokevirtual 110, 3) := by decide +kernel
theorem dX7_chord_8 : decode cX7_chord 8 = .ok (.ifCond .eq 39, 3) := by decide +kernel
theorem dX7_chord_11 : decode cX7_chord 11 = .ok (.aload_n 0, 1) := by decide +kernel
theorem dX7_chord_12 : decode cX7_chord 12 = .ok (.invokevirtual 95, 3) := by decide +kernel
theorem dX7_chord_15 : decode cX7_chord 15 = .ok (.bipush 97, 2) := by decide +kernel
theorem dX7_chord_17 : decode cX7_chord 17 = .ok (.isub, 1) := by decide +kernel
theorem dX7_chord_18 : decode cX7_chord 18 = .ok (.istore_n 3, 1) := by decide +kernel
theorem dX7_chord_19 : decode cX7_chord 19 = .ok (.iload_n 3, 1) := by decide +kernel
theorem dX7_chord_20 : decode cX7_chord 20 = .ok (.iload_n 2, 1) := by decide +kernel
theorem dX7_chord_21 : decode cX7_chord 21 = .ok (.if_icmp .gt 5, 3) := by decide +kernel
theorem dX7_chord_24 : decode cX7_chord 24 = .ok (.iconst (-1), 1) := by decide +kernel
theorem dX7_chord_25 : decode cX7_chord 25 = .ok (.ireturn, 1) := by decide +kernel
theorem dX7_chord_26 : decode cX7_chord 26 = .ok (.iload_n 3, 1) := by decide +kernel
theorem dX7_chord_27 : decode cX7_chord 27 = .ok (.istore_n 2, 1) := by decide +kernel
theorem dX7_chord_28 : decode cX7_chord 28 = .ok (.iload_n 1, 1) := by decide +kernel
theorem dX7_chord_29 : decode cX7_chord 29 = .ok (.iconst 1, 1) := by decide +kernel
theorem dX7_chord_30 : decode cX7_chord 30 = .ok (.iload_n 3, 1) := by decide +kernel
theorem dX7_chord_31 : decode cX7_chord 31 = .ok (.ishl, 1) := by decide +kernel
theorem dX7_chord_32 : decode cX7_chord 32 = .ok (.ior, 1) := by decide +kernel
theorem dX7_chord_33 : decode cX7_chord 33 = .ok (.istore_n 1, 1) := by decide +kernel
theorem dX7_chord_34 : decode cX7_chord 34 = .ok (.aload_n 0, 1) := by decide +kernel
theorem dX7_chord_35 : decode cX7_chord 35 = .ok (.dup, 1) := by decide +kernel
theorem dX7_chord_36 : decode cX7_chord 36 = .ok (.getfield 92, 3) := by decide +kernel
theorem dX7_chord_39 : decode cX7_chord 39 = .ok (.iconst 1, 1) := by decide +kernel
theorem dX7_chord_40 : decode cX7_chord 40 = .ok (.iadd, 1) := by decide +kernel
theorem dX7_chord_41 : decode cX7_chord 41 = .ok (.putfield 92, 3) := by decide +kernel
theorem dX7_chord_44 : decode cX7_chord 44 = .ok (.goto (-40), 3) := by decide +kernel
theorem dX7_chord_47 : decode cX7_chord 47 = .ok (.aload_n 0, 1) := by decide +kernel
theorem dX7_chord_48 : decode cX7_chord 48 = .ok (.invokevirtual 95, 3) := by decide +kernel
theorem dX7_chord_51 : decode cX7_chord 51 = .ok (.bipush 93, 2) := by decide +kernel
theorem dX7_chord_53 : decode cX7_chord 53 = .ok (.if_icmp .ne 11, 3) := by decide +kernel
theorem dX7_chord_56 : decode cX7_chord 56 = .ok (.iload_n 1, 1) := by decide +kernel
theorem dX7_chord_57 : decode cX7_chord 57 = .ok (.invokestatic 114, 3) := by decide +kernel
theorem dX7_chord_60 : decode cX7_chord 60 = .ok (.iconst 2, 1) := by decide +kernel
theorem dX7_chord_61 : decode cX7_chord 61 = .ok (.if_icmp .ge 5, 3) := by decide +kernel
theorem dX7_chord_64 : decode cX7_chord 64 = .ok (.iconst (-1), 1) := by decide +kernel
theorem dX7_chord_65 : decode cX7_chord 65 = .ok (.ireturn, 1) := by decide +kernel
theorem dX7_chord_66 : decode cX7_chord 66 = .ok (.aload_n 0, 1) := by decide +kernel
theorem dX7_chord_67 : decode cX7_chord 67 = .ok (.dup, 1) := by decide +kernel
theorem dX7_chord_68 : decode cX7_chord 68 = .ok (.getfield 92, 3) := by decide +kernel
theorem dX7_chord_71 : decode cX7_chord 71 = .ok (.iconst 1, 1) := by decide +kernel
theorem dX7_chord_72 : decode cX7_chord 72 = .ok (.iadd, 1) := by decide +kernel
theorem dX7_chord_73 : decode cX7_chord 73 = .ok (.putfield 92, 3) := by decide +kernel
theorem dX7_chord_76 : decode cX7_chord 76 = .ok (.iload_n 1, 1) := by decide +kernel
theorem dX7_chord_77 : decode cX7_chord 77 = .ok (.ireturn, 1) := by decide +kernel
theorem dX7_tellsAgain_0 : decode cX7_tellsAgain 0 = .ok (.aload_n 0, 1) := by decide +kernel
theorem dX7_tellsAgain_1 : decode cX7_tellsAgain 1 = .ok (.getfield 85, 3) := by decide +kernel
theorem dX7_tellsAgain_4 : decode cX7_tellsAgain 4 = .ok (.istore_n 3, 1) := by decide +kernel
theorem dX7_tellsAgain_5 : decode cX7_tellsAgain 5 = .ok (.iconst 1, 1) := by decide +kernel
theorem dX7_tellsAgain_6 : decode cX7_tellsAgain 6 = .ok (.istore 4, 2) := by decide +kernel
theorem dX7_tellsAgain_8 : decode cX7_tellsAgain 8 = .ok (.iload 4, 2) := by decide +kernel
theorem dX7_tellsAgain_10 : decode cX7_tellsAgain 10 = .ok (.iload_n 2, 1) := by decide +kernel
theorem dX7_tellsAgain_11 : decode cX7_tellsAgain 11 = .ok (.if_icmp .ge 40, 3) := by decide +kernel
theorem dX7_tellsAgain_14 : decode cX7_tellsAgain 14 = .ok (.iload_n 1, 1) := by decide +kernel
theorem dX7_tellsAgain_15 : decode cX7_tellsAgain 15 = .ok (.istore 5, 2) := by decide +kernel
theorem dX7_tellsAgain_17 : decode cX7_tellsAgain 17 = .ok (.iload 5, 2) := by decide +kernel
theorem dX7_tellsAgain_19 : decode cX7_tellsAgain 19 = .ok (.iload_n 3, 1) := by decide +kernel
theorem dX7_tellsAgain_20 : decode cX7_tellsAgain 20 = .ok (.if_icmp .ge 25, 3) := by decide +kernel
theorem dX7_tellsAgain_23 : decode cX7_tellsAgain 23 = .ok (.aload_n 0, 1) := by decide +kernel
theorem dX7_tellsAgain_24 : decode cX7_tellsAgain 24 = .ok (.aload_n 0, 1) := by decide +kernel
theorem dX7_tellsAgain_25 : decode cX7_tellsAgain 25 = .ok (.getfield 16, 3) := by decide +kernel
theorem dX7_tellsAgain_28 : decode cX7_tellsAgain 28 = .ok (.iload 5, 2) := by decide +kernel
theorem dX7_tellsAgain_30 : decode cX7_tellsAgain 30 = .ok (.iaload, 1) := by decide +kernel
theorem dX7_tellsAgain_31 : decode cX7_tellsAgain 31 = .ok (.invokevirtual 66, 3) := by decide +kernel
theorem dX7_tellsAgain_34 : decode cX7_tellsAgain 34 = .ok (.ifCond .ne 5, 3) := by decide +kernel
theorem dX7_tellsAgain_37 : decode cX7_tellsAgain 37 = .ok (.iconst 0, 1) := by decide +kernel
theorem dX7_tellsAgain_38 : decode cX7_tellsAgain 38 = .ok (.ireturn, 1) := by decide +kernel
theorem dX7_tellsAgain_39 : decode cX7_tellsAgain 39 = .ok (.iinc 5 1, 3) := by decide +kernel
theorem dX7_tellsAgain_42 : decode cX7_tellsAgain 42 = .ok (.goto (-25), 3) := by decide +kernel
theorem dX7_tellsAgain_45 : decode cX7_tellsAgain 45 = .ok (.iinc 4 1, 3) := by decide +kernel
theorem dX7_tellsAgain_48 : decode cX7_tellsAgain 48 = .ok (.goto (-40), 3) := by decide +kernel
theorem dX7_tellsAgain_51 : decode cX7_tellsAgain 51 = .ok (.iconst 1, 1) := by decide +kernel
theorem dX7_tellsAgain_52 : decode cX7_tellsAgain 52 = .ok (.ireturn, 1) := by decide +kernel
theorem dX7_takesTune_0 : decode cX7_takesTune 0 = .ok (.aload_n 0, 1) := by decide +kernel
theorem dX7_takesTune_1 : decode cX7_takesTune 1 = .ok (.getfield 88, 3) := by decide +kernel
theorem dX7_takesTune_4 : decode cX7_takesTune 4 = .ok (.ifCond .eq 5, 3) := by decide +kernel
theorem dX7_takesTune_7 : decode cX7_takesTune 7 = .ok (.iconst 0, 1) := by decide +kernel
theorem dX7_takesTune_8 : decode cX7_takesTune 8 = .ok (.ireturn, 1) := by decide +kernel
theorem dX7_takesTune_9 : decode cX7_takesTune 9 = .ok (.aload_n 0, 1) := by decide +kernel
theorem dX7_takesTune_10 : decode cX7_takesTune 10 = .ok (.iconst 1, 1) := by decide +kernel
theorem dX7_takesTune_11 : decode cX7_takesTune 11 = .ok (.putfield 88, 3) := by decide +kernel
theorem dX7_takesTune_14 : decode cX7_takesTune 14 = .ok (.iconst 0, 1) := by decide +kernel
theorem dX7_takesTune_15 : decode cX7_takesTune 15 = .ok (.istore_n 1, 1) := by decide +kernel
theorem dX7_takesTune_16 : decode cX7_takesTune 16 = .ok (.aload_n 0, 1) := by decide +kernel
theorem dX7_takesTune_17 : decode cX7_takesTune 17 = .ok (.invokevirtual 95, 3) := by decide +kernel
theorem dX7_takesTune_20 : decode cX7_takesTune 20 = .ok (.bipush 59, 2) := by decide +kernel
theorem dX7_takesTune_22 : decode cX7_takesTune 22 = .ok (.if_icmp .eq 250, 3) := by decide +kernel
theorem dX7_takesTune_25 : decode cX7_takesTune 25 = .ok (.aload_n 0, 1) := by decide +kernel
theorem dX7_takesTune_26 : decode cX7_takesTune 26 = .ok (.invokevirtual 95, 3) := by decide +kernel
theorem dX7_takesTune_29 : decode cX7_takesTune 29 = .ok (.istore_n 2, 1) := by decide +kernel
theorem dX7_takesTune_30 : decode cX7_takesTune 30 = .ok (.iconst 0, 1) := by decide +kernel
theorem dX7_takesTune_31 : decode cX7_takesTune 31 = .ok (.istore_n 3, 1) := by decide +kernel
theorem dX7_takesTune_32 : decode cX7_takesTune 32 = .ok (.aload_n 0, 1) := by decide +kernel
theorem dX7_takesTune_33 : decode cX7_takesTune 33 = .ok (.invokevirtual 110, 3) := by decide +kernel
theorem dX7_takesTune_36 : decode cX7_takesTune 36 = .ok (.ifCond .eq 27, 3) := by decide +kernel
theorem dX7_takesTune_39 : decode cX7_takesTune 39 = .ok (.aload_n 0, 1) := by decide +kernel
theorem dX7_takesTune_40 : decode cX7_takesTune 40 = .ok (.dup, 1) := by decide +kernel
theorem dX7_takesTune_41 : decode cX7_takesTune 41 = .ok (.getfield 92, 3) := by decide +kernel
theorem dX7_takesTune_44 : decode cX7_takesTune 44 = .ok (.iconst 1, 1) := by decide +kernel
theorem dX7_takesTune_45 : decode cX7_takesTune 45 = .ok (.iadd, 1) := by decide +kernel
theorem dX7_takesTune_46 : decode cX7_takesTune 46 = .ok (.putfield 92, 3) := by decide +kernel
theorem dX7_takesTune_49 : decode cX7_takesTune 49 = .ok (.aload_n 0, 1) := by decide +kernel
theorem dX7_takesTune_50 : decode cX7_takesTune 50 = .ok (.iconst 1, 1) := by decide +kernel
theorem dX7_takesTune_51 : decode cX7_takesTune 51 = .ok (.iload_n 2, 1) := by decide +kernel
theorem dX7_takesTune_52 : decode cX7_takesTune 52 = .ok (.bipush 97, 2) := by decide +kernel
theorem dX7_takesTune_54 : decode cX7_takesTune 54 = .ok (.isub, 1) := by decide +kernel
theorem dX7_takesTune_55 : decode cX7_takesTune 55 = .ok (.ishl, 1) := by decide +kernel
theorem dX7_takesTune_56 : decode cX7_takesTune 56 = .ok (.invokevirtual 66, 3) := by decide +kernel
theorem dX7_takesTune_59 : decode cX7_takesTune 59 = .ok (.istore_n 3, 1) := by decide +kernel
theorem dX7_takesTune_60 : decode cX7_takesTune 60 = .ok (.goto 203, 3) := by decide +kernel
theorem dX7_takesTune_63 : decode cX7_takesTune 63 = .ok (.iload_n 2, 1) := by decide +kernel
theorem dX7_takesTune_64 : decode cX7_takesTune 64 = .ok (.bipush 46, 2) := by decide +kernel
theorem dX7_takesTune_66 : decode cX7_takesTune 66 = .ok (.if_icmp .ne 22, 3) := by decide +kernel
theorem dX7_takesTune_69 : decode cX7_takesTune 69 = .ok (.aload_n 0, 1) := by decide +kernel
theorem dX7_takesTune_70 : decode cX7_takesTune 70 = .ok (.dup, 1) := by decide +kernel
theorem dX7_takesTune_71 : decode cX7_takesTune 71 = .ok (.getfield 92, 3) := by decide +kernel
theorem dX7_takesTune_74 : decode cX7_takesTune 74 = .ok (.iconst 1, 1) := by decide +kernel
theorem dX7_takesTune_75 : decode cX7_takesTune 75 = .ok (.iadd, 1) := by decide +kernel
theorem dX7_takesTune_76 : decode cX7_takesTune 76 = .ok (.putfield 92, 3) := by decide +kernel
theorem dX7_takesTune_79 : decode cX7_takesTune 79 = .ok (.aload_n 0, 1) := by decide +kernel
theorem dX7_takesTune_80 : decode cX7_takesTune 80 = .ok (.iconst 0, 1) := by decide +kernel
theorem dX7_takesTune_81 : decode cX7_takesTune 81 = .ok (.invokevirtual 66, 3) := by decide +kernel
theorem dX7_takesTune_84 : decode cX7_takesTune 84 = .ok (.istore_n 3, 1) := by decide +kernel
theorem dX7_takesTune_85 : decode cX7_takesTune 85 = .ok (.goto 178, 3) := by decide +kernel
theorem dX7_takesTune_88 : decode cX7_takesTune 88 = .ok (.iload_n 2, 1) := by decide +kernel
theorem dX7_takesTune_89 : decode cX7_takesTune 89 = .ok (.bipush 91, 2) := by decide +kernel
theorem dX7_takesTune_91 : decode cX7_takesTune 91 = .ok (.if_icmp .ne 42, 3) := by decide +kernel
theorem dX7_takesTune_94 : decode cX7_takesTune 94 = .ok (.aload_n 0, 1) := by decide +kernel
theorem dX7_takesTune_95 : decode cX7_takesTune 95 = .ok (.dup, 1) := by decide +kernel
theorem dX7_takesTune_96 : decode cX7_takesTune 96 = .ok (.getfield 92, 3) := by decide +kernel
theorem dX7_takesTune_99 : decode cX7_takesTune 99 = .ok (.iconst 1, 1) := by decide +kernel
theorem dX7_takesTune_100 : decode cX7_takesTune 100 = .ok (.iadd, 1) := by decide +kernel
theorem dX7_takesTune_101 : decode cX7_takesTune 101 = .ok (.putfield 92, 3) := by decide +kernel
theorem dX7_takesTune_104 : decode cX7_takesTune 104 = .ok (.aload_n 0, 1) := by decide +kernel
theorem dX7_takesTune_105 : decode cX7_takesTune 105 = .ok (.invokevirtual 118, 3) := by decide +kernel
theorem dX7_takesTune_108 : decode cX7_takesTune 108 = .ok (.istore 4, 2) := by decide +kernel
theorem dX7_takesTune_110 : decode cX7_takesTune 110 = .ok (.iload 4, 2) := by decide +kernel
theorem dX7_takesTune_112 : decode cX7_takesTune 112 = .ok (.ifCond .le 16, 3) := by decide +kernel
theorem dX7_takesTune_115 : decode cX7_takesTune 115 = .ok (.aload_n 0, 1) := by decide +kernel
theorem dX7_takesTune_116 : decode cX7_takesTune 116 = .ok (.iload 4, 2) := by decide +kernel
theorem dX7_takesTune_118 : decode cX7_takesTune 118 = .ok (.invokevirtual 66, 3) := by decide +kernel
theorem dX7_takesTune_121 : decode cX7_takesTune 121 = .ok (.ifCond .eq 7, 3) := by decide +kernel
theorem dX7_takesTune_124 : decode cX7_takesTune 124 = .ok (.iconst 1, 1) := by decide +kernel
theorem dX7_takesTune_125 : decode cX7_takesTune 125 = .ok (.goto 4, 3) := by decide +kernel
theorem dX7_takesTune_128 : decode cX7_takesTune 128 = .ok (.iconst 0, 1) := by decide +kernel
theorem dX7_takesTune_129 : decode cX7_takesTune 129 = .ok (.istore_n 3, 1) := by decide +kernel
theorem dX7_takesTune_130 : decode cX7_takesTune 130 = .ok (.goto 133, 3) := by decide +kernel
theorem dX7_takesTune_133 : decode cX7_takesTune 133 = .ok (.iload_n 2, 1) := by decide +kernel
theorem dX7_takesTune_134 : decode cX7_takesTune 134 = .ok (.bipush 40, 2) := by decide +kernel
theorem dX7_takesTune_136 : decode cX7_takesTune 136 = .ok (.if_icmp .ne 36, 3) := by decide +kernel
theorem dX7_takesTune_139 : decode cX7_takesTune 139 = .ok (.iload_n 1, 1) := by decide +kernel
theorem dX7_takesTune_140 : decode cX7_takesTune 140 = .ok (.iconst 3, 1) := by decide +kernel
theorem dX7_takesTune_141 : decode cX7_takesTune 141 = .ok (.if_icmp .ge 31, 3) := by decide +kernel
theorem dX7_takesTune_144 : decode cX7_takesTune 144 = .ok (.aload_n 0, 1) := by decide +kernel
theorem dX7_takesTune_145 : decode cX7_takesTune 145 = .ok (.dup, 1) := by decide +kernel
theorem dX7_takesTune_146 : decode cX7_takesTune 146 = .ok (.getfield 92, 3) := by decide +kernel
theorem dX7_takesTune_149 : decode cX7_takesTune 149 = .ok (.iconst 1, 1) := by decide +kernel
theorem dX7_takesTune_150 : decode cX7_takesTune 150 = .ok (.iadd, 1) := by decide +kernel
theorem dX7_takesTune_151 : decode cX7_takesTune 151 = .ok (.putfield 92, 3) := by decide +kernel
theorem dX7_takesTune_154 : decode cX7_takesTune 154 = .ok (.aload_n 0, 1) := by decide +kernel
theorem dX7_takesTune_155 : decode cX7_takesTune 155 = .ok (.getfield 40, 3) := by decide +kernel
theorem dX7_takesTune_158 : decode cX7_takesTune 158 = .ok (.iload_n 1, 1) := by decide +kernel
theorem dX7_takesTune_159 : decode cX7_takesTune 159 = .ok (.aload_n 0, 1) := by decide +kernel
theorem dX7_takesTune_160 : decode cX7_takesTune 160 = .ok (.getfield 85, 3) := by decide +kernel
theorem dX7_takesTune_163 : decode cX7_takesTune 163 = .ok (.iastore, 1) := by decide +kernel
theorem dX7_takesTune_164 : decode cX7_takesTune 164 = .ok (.iinc 1 1, 3) := by decide +kernel
theorem dX7_takesTune_167 : decode cX7_takesTune 167 = .ok (.iconst 1, 1) := by decide +kernel
theorem dX7_takesTune_168 : decode cX7_takesTune 168 = .ok (.istore_n 3, 1) := by decide +kernel
theorem dX7_takesTune_169 : decode cX7_takesTune 169 = .ok (.goto 94, 3) := by decide +kernel
theorem dX7_takesTune_172 : decode cX7_takesTune 172 = .ok (.iload_n 2, 1) := by decide +kernel
theorem dX7_takesTune_173 : decode cX7_takesTune 173 = .ok (.bipush 41, 2) := by decide +kernel
theorem dX7_takesTune_175 : decode cX7_takesTune 175 = .ok (.if_icmp .ne 88, 3) := by decide +kernel
theorem dX7_takesTune_178 : decode cX7_takesTune 178 = .ok (.iload_n 1, 1) := by decide +kernel
theorem dX7_takesTune_179 : decode cX7_takesTune 179 = .ok (.ifCond .le 84, 3) := by decide +kernel
theorem dX7_takesTune_182 : decode cX7_takesTune 182 = .ok (.aload_n 0, 1) := by decide +kernel
theorem dX7_takesTune_183 : decode cX7_takesTune 183 = .ok (.dup, 1) := by decide +kernel
theorem dX7_takesTune_184 : decode cX7_takesTune 184 = .ok (.getfield 92, 3) := by decide +kernel
theorem dX7_takesTune_187 : decode cX7_takesTune 187 = .ok (.iconst 1, 1) := by decide +kernel
theorem dX7_takesTune_188 : decode cX7_takesTune 188 = .ok (.iadd, 1) := by decide +kernel
theorem dX7_takesTune_189 : decode cX7_takesTune 189 = .ok (.putfield 92, 3) := by decide +kernel
theorem dX7_takesTune_192 : decode cX7_takesTune 192 = .ok (.iinc 1 (-1), 3) := by decide +kernel
theorem dX7_takesTune_195 : decode cX7_takesTune 195 = .ok (.aload_n 0, 1) := by decide +kernel
theorem dX7_takesTune_196 : decode cX7_takesTune 196 = .ok (.invokevirtual 95, 3) := by decide +kernel
theorem dX7_takesTune_199 : decode cX7_takesTune 199 = .ok (.bipush 48, 2) := by decide +kernel
theorem dX7_takesTune_201 : decode cX7_takesTune 201 = .ok (.isub, 1) := by decide +kernel
theorem dX7_takesTune_202 : decode cX7_takesTune 202 = .ok (.istore 4, 2) := by decide +kernel
theorem dX7_takesTune_204 : decode cX7_takesTune 204 = .ok (.aload_n 0, 1) := by decide +kernel
theorem dX7_takesTune_205 : decode cX7_takesTune 205 = .ok (.dup, 1) := by decide +kernel
theorem dX7_takesTune_206 : decode cX7_takesTune 206 = .ok (.getfield 92, 3) := by decide +kernel
theorem dX7_takesTune_209 : decode cX7_takesTune 209 = .ok (.iconst 1, 1) := by decide +kernel
theorem dX7_takesTune_210 : decode cX7_takesTune 210 = .ok (.iadd, 1) := by decide +kernel
theorem dX7_takesTune_211 : decode cX7_takesTune 211 = .ok (.putfield 92, 3) := by decide +kernel
theorem dX7_takesTune_214 : decode cX7_takesTune 214 = .ok (.iload 4, 2) := by decide +kernel
theorem dX7_takesTune_216 : decode cX7_takesTune 216 = .ok (.i2l, 1) := by decide +kernel
theorem dX7_takesTune_217 : decode cX7_takesTune 217 = .ok (.ldc2_w 103, 3) := by decide +kernel
theorem dX7_takesTune_220 : decode cX7_takesTune 220 = .ok (.ldc2_w 121, 3) := by decide +kernel
theorem dX7_takesTune_223 : decode cX7_takesTune 223 = .ok (.invokestatic 73, 3) := by decide +kernel
theorem dX7_takesTune_226 : decode cX7_takesTune 226 = .ok (.ifCond .eq 35, 3) := by decide +kernel
theorem dX7_takesTune_229 : decode cX7_takesTune 229 = .ok (.aload_n 0, 1) := by decide +kernel
theorem dX7_takesTune_230 : decode cX7_takesTune 230 = .ok (.getfield 85, 3) := by decide +kernel
theorem dX7_takesTune_233 : decode cX7_takesTune 233 = .ok (.aload_n 0, 1) := by decide +kernel
theorem dX7_takesTune_234 : decode cX7_takesTune 234 = .ok (.getfield 40, 3) := by decide +kernel
theorem dX7_takesTune_237 : decode cX7_takesTune 237 = .ok (.iload_n 1, 1) := by decide +kernel
theorem dX7_takesTune_238 : decode cX7_takesTune 238 = .ok (.iaload, 1) := by decide +kernel
theorem dX7_takesTune_239 : decode cX7_takesTune 239 = .ok (.if_icmp .le 22, 3) := by decide +kernel
theorem dX7_takesTune_242 : decode cX7_takesTune 242 = .ok (.aload_n 0, 1) := by decide +kernel
theorem dX7_takesTune_243 : decode cX7_takesTune 243 = .ok (.aload_n 0, 1) := by decide +kernel
theorem dX7_takesTune_244 : decode cX7_takesTune 244 = .ok (.getfield 40, 3) := by decide +kernel
theorem dX7_takesTune_247 : decode cX7_takesTune 247 = .ok (.iload_n 1, 1) := by decide +kernel
theorem dX7_takesTune_248 : decode cX7_takesTune 248 = .ok (.iaload, 1) := by decide +kernel
theorem dX7_takesTune_249 : decode cX7_takesTune 249 = .ok (.iload 4, 2) := by decide +kernel
theorem dX7_takesTune_251 : decode cX7_takesTune 251 = .ok (.invokevirtual 123, 3) := by decide +kernel
theorem dX7_takesTune_254 : decode cX7_takesTune 254 = .ok (.ifCond .eq 7, 3) := by decide +kernel
theorem dX7_takesTune_257 : decode cX7_takesTune 257 = .ok (.iconst 1, 1) := by decide +kernel
theorem dX7_takesTune_258 : decode cX7_takesTune 258 = .ok (.goto 4, 3) := by decide +kernel
theorem dX7_takesTune_261 : decode cX7_takesTune 261 = .ok (.iconst 0, 1) := by decide +kernel
theorem dX7_takesTune_262 : decode cX7_takesTune 262 = .ok (.istore_n 3, 1) := by decide +kernel
theorem dX7_takesTune_263 : decode cX7_takesTune 263 = .ok (.iload_n 3, 1) := by decide +kernel
theorem dX7_takesTune_264 : decode cX7_takesTune 264 = .ok (.ifCond .ne 5, 3) := by decide +kernel
theorem dX7_takesTune_267 : decode cX7_takesTune 267 = .ok (.iconst 0, 1) := by decide +kernel
theorem dX7_takesTune_268 : decode cX7_takesTune 268 = .ok (.ireturn, 1) := by decide +kernel
theorem dX7_takesTune_269 : decode cX7_takesTune 269 = .ok (.goto (-253), 3) := by decide +kernel
theorem dX7_takesTune_272 : decode cX7_takesTune 272 = .ok (.aload_n 0, 1) := by decide +kernel
theorem dX7_takesTune_273 : decode cX7_takesTune 273 = .ok (.dup, 1) := by decide +kernel
theorem dX7_takesTune_274 : decode cX7_takesTune 274 = .ok (.getfield 92, 3) := by decide +kernel
theorem dX7_takesTune_277 : decode cX7_takesTune 277 = .ok (.iconst 1, 1) := by decide +kernel
theorem dX7_takesTune_278 : decode cX7_takesTune 278 = .ok (.iadd, 1) := by decide +kernel
theorem dX7_takesTune_279 : decode cX7_takesTune 279 = .ok (.putfield 92, 3) := by decide +kernel
theorem dX7_takesTune_282 : decode cX7_takesTune 282 = .ok (.iload_n 1, 1) := by decide +kernel
theorem dX7_takesTune_283 : decode cX7_takesTune 283 = .ok (.ifCond .ne 14, 3) := by decide +kernel
theorem dX7_takesTune_286 : decode cX7_takesTune 286 = .ok (.aload_n 0, 1) := by decide +kernel
theorem dX7_takesTune_287 : decode cX7_takesTune 287 = .ok (.getfield 85, 3) := by decide +kernel
theorem dX7_takesTune_290 : decode cX7_takesTune 290 = .ok (.ifCond .le 7, 3) := by decide +kernel
theorem dX7_takesTune_293 : decode cX7_takesTune 293 = .ok (.iconst 1, 1) := by decide +kernel
theorem dX7_takesTune_294 : decode cX7_takesTune 294 = .ok (.goto 4, 3) := by decide +kernel
theorem dX7_takesTune_297 : decode cX7_takesTune 297 = .ok (.iconst 0, 1) := by decide +kernel
theorem dX7_takesTune_298 : decode cX7_takesTune 298 = .ok (.ireturn, 1) := by decide +kernel
theorem dX7_takesItem_0 : decode cX7_takesItem 0 = .ok (.aload_n 0, 1) := by decide +kernel
theorem dX7_takesItem_1 : decode cX7_takesItem 1 = .ok (.invokevirtual 95, 3) := by decide +kernel
theorem dX7_takesItem_4 : decode cX7_takesItem 4 = .ok (.istore_n 1, 1) := by decide +kernel
theorem dX7_takesItem_5 : decode cX7_takesItem 5 = .ok (.aload_n 0, 1) := by decide +kernel
theorem dX7_takesItem_6 : decode cX7_takesItem 6 = .ok (.dup, 1) := by decide +kernel
theorem dX7_takesItem_7 : decode cX7_takesItem 7 = .ok (.getfield 92, 3) := by decide +kernel
theorem dX7_takesItem_10 : decode cX7_takesItem 10 = .ok (.iconst 1, 1) := by decide +kernel
theorem dX7_takesItem_11 : decode cX7_takesItem 11 = .ok (.iadd, 1) := by decide +kernel
theorem dX7_takesItem_12 : decode cX7_takesItem 12 = .ok (.putfield 92, 3) := by decide +kernel
theorem dX7_takesItem_15 : decode cX7_takesItem 15 = .ok (.iload_n 1, 1) := by decide +kernel
theorem dX7_takesItem_16 : decode cX7_takesItem 16 = .ok (.lookupswitch 72 #[(98, 44), (110, 49), (114, 58), (116, 67)], 44) := by decide +kernel
theorem dX7_takesItem_60 : decode cX7_takesItem 60 = .ok (.aload_n 0, 1) := by decide +kernel
theorem dX7_takesItem_61 : decode cX7_takesItem 61 = .ok (.invokevirtual 127, 3) := by decide +kernel
theorem dX7_takesItem_64 : decode cX7_takesItem 64 = .ok (.ireturn, 1) := by decide +kernel
theorem dX7_takesItem_65 : decode cX7_takesItem 65 = .ok (.aload_n 0, 1) := by decide +kernel
theorem dX7_takesItem_66 : decode cX7_takesItem 66 = .ok (.iconst 1, 1) := by decide +kernel
theorem dX7_takesItem_67 : decode cX7_takesItem 67 = .ok (.iconst 2, 1) := by decide +kernel
theorem dX7_takesItem_68 : decode cX7_takesItem 68 = .ok (.bipush 32, 2) := by decide +kernel
theorem dX7_takesItem_70 : decode cX7_takesItem 70 = .ok (.invokevirtual 130, 3) := by decide +kernel
theorem dX7_takesItem_73 : decode cX7_takesItem 73 = .ok (.ireturn, 1) := by decide +kernel
theorem dX7_takesItem_74 : decode cX7_takesItem 74 = .ok (.aload_n 0, 1) := by decide +kernel
theorem dX7_takesItem_75 : decode cX7_takesItem 75 = .ok (.iconst 2, 1) := by decide +kernel
theorem dX7_takesItem_76 : decode cX7_takesItem 76 = .ok (.iconst 0, 1) := by decide +kernel
theorem dX7_takesItem_77 : decode cX7_takesItem 77 = .ok (.bipush 6, 2) := by decide +kernel
theorem dX7_takesItem_79 : decode cX7_takesItem 79 = .ok (.invokevirtual 130, 3) := by decide +kernel
theorem dX7_takesItem_82 : decode cX7_takesItem 82 = .ok (.ireturn, 1) := by decide +kernel
theorem dX7_takesItem_83 : decode cX7_takesItem 83 = .ok (.aload_n 0, 1) := by decide +kernel
theorem dX7_takesItem_84 : decode cX7_takesItem 84 = .ok (.invokevirtual 134, 3) := by decide +kernel
theorem dX7_takesItem_87 : decode cX7_takesItem 87 = .ok (.ireturn, 1) := by decide +kernel
theorem dX7_takesItem_88 : decode cX7_takesItem 88 = .ok (.iconst 0, 1) := by decide +kernel
theorem dX7_takesItem_89 : decode cX7_takesItem 89 = .ok (.ireturn, 1) := by decide +kernel
theorem dX7_fault_0 : decode cX7_fault 0 = .ok (.aload_n 0, 1) := by decide +kernel
theorem dX7_fault_1 : decode cX7_fault 1 = .ok (.invokevirtual 59, 3) := by decide +kernel
theorem dX7_fault_4 : decode cX7_fault 4 = .ok (.aload_n 0, 1) := by decide +kernel
theorem dX7_fault_5 : decode cX7_fault 5 = .ok (.iconst 0, 1) := by decide +kernel
theorem dX7_fault_6 : decode cX7_fault 6 = .ok (.putfield 92, 3) := by decide +kernel
theorem dX7_fault_9 : decode cX7_fault 9 = .ok (.aload_n 0, 1) := by decide +kernel
theorem dX7_fault_10 : decode cX7_fault 10 = .ok (.getfield 92, 3) := by decide +kernel
theorem dX7_fault_13 : decode cX7_fault 13 = .ok (.aload_n 0, 1) := by decide +kernel
theorem dX7_fault_14 : decode cX7_fault 14 = .ok (.getfield 81, 3) := by decide +kernel
theorem dX7_fault_17 : decode cX7_fault 17 = .ok (.if_icmp .ge 20, 3) := by decide +kernel
theorem dX7_fault_20 : decode cX7_fault 20 = .ok (.aload_n 0, 1) := by decide +kernel
theorem dX7_fault_21 : decode cX7_fault 21 = .ok (.getfield 92, 3) := by decide +kernel
theorem dX7_fault_24 : decode cX7_fault 24 = .ok (.istore_n 1, 1) := by decide +kernel
theorem dX7_fault_25 : decode cX7_fault 25 = .ok (.aload_n 0, 1) := by decide +kernel
theorem dX7_fault_26 : decode cX7_fault 26 = .ok (.invokevirtual 137, 3) := by decide +kernel
theorem dX7_fault_29 : decode cX7_fault 29 = .ok (.ifCond .ne 5, 3) := by decide +kernel
theorem dX7_fault_32 : decode cX7_fault 32 = .ok (.iload_n 1, 1) := by decide +kernel
theorem dX7_fault_33 : decode cX7_fault 33 = .ok (.ireturn, 1) := by decide +kernel
theorem dX7_fault_34 : decode cX7_fault 34 = .ok (.goto (-25), 3) := by decide +kernel
theorem dX7_fault_37 : decode cX7_fault 37 = .ok (.bipush (-4), 2) := by decide +kernel
theorem dX7_fault_39 : decode cX7_fault 39 = .ok (.ireturn, 1) := by decide +kernel
theorem dX7_begins_0 : decode cX7_begins 0 = .ok (.iconst 0, 1) := by decide +kernel
theorem dX7_begins_1 : decode cX7_begins 1 = .ok (.istore_n 1, 1) := by decide +kernel
theorem dX7_begins_2 : decode cX7_begins 2 = .ok (.iload_n 1, 1) := by decide +kernel
theorem dX7_begins_3 : decode cX7_begins 3 = .ok (.bipush 19, 2) := by decide +kernel
theorem dX7_begins_5 : decode cX7_begins 5 = .ok (.if_icmp .ge 21, 3) := by decide +kernel
theorem dX7_begins_8 : decode cX7_begins 8 = .ok (.aload_n 0, 1) := by decide +kernel
theorem dX7_begins_9 : decode cX7_begins 9 = .ok (.getfield 7, 3) := by decide +kernel
theorem dX7_begins_12 : decode cX7_begins 12 = .ok (.iload_n 1, 1) := by decide +kernel
theorem dX7_begins_13 : decode cX7_begins 13 = .ok (.aload_n 0, 1) := by decide +kernel
theorem dX7_begins_14 : decode cX7_begins 14 = .ok (.getfield 13, 3) := by decide +kernel
theorem dX7_begins_17 : decode cX7_begins 17 = .ok (.iload_n 1, 1) := by decide +kernel
theorem dX7_begins_18 : decode cX7_begins 18 = .ok (.iaload, 1) := by decide +kernel
theorem dX7_begins_19 : decode cX7_begins 19 = .ok (.iastore, 1) := by decide +kernel
theorem dX7_begins_20 : decode cX7_begins 20 = .ok (.iinc 1 1, 3) := by decide +kernel
theorem dX7_begins_23 : decode cX7_begins 23 = .ok (.goto (-21), 3) := by decide +kernel
theorem dX7_begins_26 : decode cX7_begins 26 = .ok (.iconst 0, 1) := by decide +kernel
theorem dX7_begins_27 : decode cX7_begins 27 = .ok (.istore_n 1, 1) := by decide +kernel
theorem dX7_begins_28 : decode cX7_begins 28 = .ok (.iload_n 1, 1) := by decide +kernel
theorem dX7_begins_29 : decode cX7_begins 29 = .ok (.bipush 66, 2) := by decide +kernel
theorem dX7_begins_31 : decode cX7_begins 31 = .ok (.if_icmp .ge 34, 3) := by decide +kernel
theorem dX7_begins_34 : decode cX7_begins 34 = .ok (.aload_n 0, 1) := by decide +kernel
theorem dX7_begins_35 : decode cX7_begins 35 = .ok (.getfield 19, 3) := by decide +kernel
theorem dX7_begins_38 : decode cX7_begins 38 = .ok (.iload_n 1, 1) := by decide +kernel
theorem dX7_begins_39 : decode cX7_begins 39 = .ok (.iload_n 1, 1) := by decide +kernel
theorem dX7_begins_40 : decode cX7_begins 40 = .ok (.bipush 34, 2) := by decide +kernel
theorem dX7_begins_42 : decode cX7_begins 42 = .ok (.if_icmp .lt 15, 3) := by decide +kernel
theorem dX7_begins_45 : decode cX7_begins 45 = .ok (.iload_n 1, 1) := by decide +kernel
theorem dX7_begins_46 : decode cX7_begins 46 = .ok (.bipush 50, 2) := by decide +kernel
theorem dX7_begins_48 : decode cX7_begins 48 = .ok (.if_icmp .ge 9, 3) := by decide +kernel
theorem dX7_begins_51 : decode cX7_begins 51 = .ok (.sipush (-1000), 3) := by decide +kernel
theorem dX7_begins_54 : decode cX7_begins 54 = .ok (.goto 4, 3) := by decide +kernel
theorem dX7_begins_57 : decode cX7_begins 57 = .ok (.iconst 0, 1) := by decide +kernel
theorem dX7_begins_58 : decode cX7_begins 58 = .ok (.iastore, 1) := by decide +kernel
theorem dX7_begins_59 : decode cX7_begins 59 = .ok (.iinc 1 1, 3) := by decide +kernel
theorem dX7_begins_62 : decode cX7_begins 62 = .ok (.goto (-34), 3) := by decide +kernel
theorem dX7_begins_65 : decode cX7_begins 65 = .ok (.aload_n 0, 1) := by decide +kernel
theorem dX7_begins_66 : decode cX7_begins 66 = .ok (.getfield 19, 3) := by decide +kernel
theorem dX7_begins_69 : decode cX7_begins 69 = .ok (.iconst 0, 1) := by decide +kernel
theorem dX7_begins_70 : decode cX7_begins 70 = .ok (.aload_n 0, 1) := by decide +kernel
theorem dX7_begins_71 : decode cX7_begins 71 = .ok (.getfield 7, 3) := by decide +kernel
theorem dX7_begins_74 : decode cX7_begins 74 = .ok (.iconst 1, 1) := by decide +kernel
theorem dX7_begins_75 : decode cX7_begins 75 = .ok (.iaload, 1) := by decide +kernel
theorem dX7_begins_76 : decode cX7_begins 76 = .ok (.iastore, 1) := by decide +kernel
theorem dX7_begins_77 : decode cX7_begins 77 = .ok (.iconst 0, 1) := by decide +kernel
theorem dX7_begins_78 : decode cX7_begins 78 = .ok (.istore_n 1, 1) := by decide +kernel
theorem dX7_begins_79 : decode cX7_begins 79 = .ok (.iload_n 1, 1) := by decide +kernel
theorem dX7_begins_80 : decode cX7_begins 80 = .ok (.bipush 32, 2) := by decide +kernel
theorem dX7_begins_82 : decode cX7_begins 82 = .ok (.if_icmp .ge 42, 3) := by decide +kernel
theorem dX7_begins_85 : decode cX7_begins 85 = .ok (.aload_n 0, 1) := by decide +kernel
theorem dX7_begins_86 : decode cX7_begins 86 = .ok (.getfield 19, 3) := by decide +kernel
theorem dX7_begins_89 : decode cX7_begins 89 = .ok (.iconst 2, 1) := by decide +kernel
theorem dX7_begins_90 : decode cX7_begins 90 = .ok (.iload_n 1, 1) := by decide +kernel
theorem dX7_begins_91 : decode cX7_begins 91 = .ok (.iadd, 1) := by decide +kernel
theorem dX7_begins_92 : decode cX7_begins 92 = .ok (.iload_n 1, 1) := by decide +kernel
theorem dX7_begins_93 : decode cX7_begins 93 = .ok (.aload_n 0, 1) := by decide +kernel
theorem dX7_begins_94 : decode cX7_begins 94 = .ok (.getfield 85, 3) := by decide +kernel
theorem dX7_begins_97 : decode cX7_begins 97 = .ok (.if_icmp .ge 12, 3) := by decide +kernel
theorem dX7_begins_100 : decode cX7_begins 100 = .ok (.aload_n 0, 1) := by decide +kernel
theorem dX7_begins_101 : decode cX7_begins 101 = .ok (.getfield 16, 3) := by decide +kernel
theorem dX7_begins_104 : decode cX7_begins 104 = .ok (.iload_n 1, 1) := by decide +kernel
theorem dX7_begins_105 : decode cX7_begins 105 = .ok (.iaload, 1) := by decide +kernel
theorem dX7_begins_106 : decode cX7_begins 106 = .ok (.goto 4, 3) := by decide +kernel
theorem dX7_begins_109 : decode cX7_begins 109 = .ok (.iconst 0, 1) := by decide +kernel
theorem dX7_begins_110 : decode cX7_begins 110 = .ok (.iastore, 1) := by decide +kernel
theorem dX7_begins_111 : decode cX7_begins 111 = .ok (.aload_n 0, 1) := by decide +kernel
theorem dX7_begins_112 : decode cX7_begins 112 = .ok (.getfield 31, 3) := by decide +kernel
theorem dX7_begins_115 : decode cX7_begins 115 = .ok (.iload_n 1, 1) := by decide +kernel
theorem dX7_begins_116 : decode cX7_begins 116 = .ok (.iconst 0, 1) := by decide +kernel
theorem dX7_begins_117 : decode cX7_begins 117 = .ok (.iastore, 1) := by decide +kernel
theorem dX7_begins_118 : decode cX7_begins 118 = .ok (.iinc 1 1, 3) := by decide +kernel
theorem dX7_begins_121 : decode cX7_begins 121 = .ok (.goto (-42), 3) := by decide +kernel
theorem dX7_begins_124 : decode cX7_begins 124 = .ok (.aload_n 0, 1) := by decide +kernel
theorem dX7_begins_125 : decode cX7_begins 125 = .ok (.iconst 0, 1) := by decide +kernel
theorem dX7_begins_126 : decode cX7_begins 126 = .ok (.putfield 140, 3) := by decide +kernel
theorem dX7_begins_129 : decode cX7_begins 129 = .ok (.aload_n 0, 1) := by decide +kernel
theorem dX7_begins_130 : decode cX7_begins 130 = .ok (.iconst 0, 1) := by decide +kernel
theorem dX7_begins_131 : decode cX7_begins 131 = .ok (.putfield 143, 3) := by decide +kernel
theorem dX7_begins_134 : decode cX7_begins 134 = .ok (.aload_n 0, 1) := by decide +kernel
theorem dX7_begins_135 : decode cX7_begins 135 = .ok (.iconst 0, 1) := by decide +kernel
theorem dX7_begins_136 : decode cX7_begins 136 = .ok (.putfield 146, 3) := by decide +kernel
theorem dX7_begins_139 : decode cX7_begins 139 = .ok (.return_, 1) := by decide +kernel
theorem dX7_lay_0 : decode cX7_lay 0 = .ok (.aload_n 0, 1) := by decide +kernel
theorem dX7_lay_1 : decode cX7_lay 1 = .ok (.invokevirtual 149, 3) := by decide +kernel
theorem dX7_lay_4 : decode cX7_lay 4 = .ok (.bipush (-4), 2) := by decide +kernel
theorem dX7_lay_6 : decode cX7_lay 6 = .ok (.if_icmp .ne 25, 3) := by decide +kernel
theorem dX7_lay_9 : decode cX7_lay 9 = .ok (.aload_n 0, 1) := by decide +kernel
theorem dX7_lay_10 : decode cX7_lay 10 = .ok (.getfield 13, 3) := by decide +kernel
theorem dX7_lay_13 : decode cX7_lay 13 = .ok (.iconst 0, 1) := by decide +kernel
theorem dX7_lay_14 : decode cX7_lay 14 = .ok (.iaload, 1) := by decide +kernel
theorem dX7_lay_15 : decode cX7_lay 15 = .ok (.ifCond .eq 16, 3) := by decide +kernel
theorem dX7_lay_18 : decode cX7_lay 18 = .ok (.aload_n 0, 1) := by decide +kernel
theorem dX7_lay_19 : decode cX7_lay 19 = .ok (.getfield 85, 3) := by decide +kernel
theorem dX7_lay_22 : decode cX7_lay 22 = .ok (.aload_n 0, 1) := by decide +kernel
theorem dX7_lay_23 : decode cX7_lay 23 = .ok (.getfield 13, 3) := by decide +kernel
theorem dX7_lay_26 : decode cX7_lay 26 = .ok (.iconst 1, 1) := by decide +kernel
theorem dX7_lay_27 : decode cX7_lay 27 = .ok (.iaload, 1) := by decide +kernel
theorem dX7_lay_28 : decode cX7_lay 28 = .ok (.if_icmp .le 6, 3) := by decide +kernel
theorem dX7_lay_31 : decode cX7_lay 31 = .ok (.bipush (-2), 2) := by decide +kernel
theorem dX7_lay_33 : decode cX7_lay 33 = .ok (.ireturn, 1) := by decide +kernel
theorem dX7_lay_34 : decode cX7_lay 34 = .ok (.aload_n 0, 1) := by decide +kernel
theorem dX7_lay_35 : decode cX7_lay 35 = .ok (.invokevirtual 70, 3) := by decide +kernel
theorem dX7_lay_38 : decode cX7_lay 38 = .ok (.aload_n 0, 1) := by decide +kernel
theorem dX7_lay_39 : decode cX7_lay 39 = .ok (.getfield 85, 3) := by decide +kernel
theorem dX7_lay_42 : decode cX7_lay 42 = .ok (.ireturn, 1) := by decide +kernel
theorem dX7_isBell_0 : decode cX7_isBell 0 = .ok (.iload_n 1, 1) := by decide +kernel
theorem dX7_isBell_1 : decode cX7_isBell 1 = .ok (.i2l, 1) := by decide +kernel
theorem dX7_isBell_2 : decode cX7_isBell 2 = .ok (.lconst 0, 1) := by decide +kernel
theorem dX7_isBell_3 : decode cX7_isBell 3 = .ok (.aload_n 0, 1) := by decide +kernel
theorem dX7_isBell_4 : decode cX7_isBell 4 = .ok (.getfield 7, 3) := by decide +kernel
theorem dX7_isBell_7 : decode cX7_isBell 7 = .ok (.iconst 0, 1) := by decide +kernel
theorem dX7_isBell_8 : decode cX7_isBell 8 = .ok (.iaload, 1) := by decide +kernel
theorem dX7_isBell_9 : decode cX7_isBell 9 = .ok (.iconst 1, 1) := by decide +kernel
theorem dX7_isBell_10 : decode cX7_isBell 10 = .ok (.isub, 1) := by decide +kernel
theorem dX7_isBell_11 : decode cX7_isBell 11 = .ok (.i2l, 1) := by decide +kernel
theorem dX7_isBell_12 : decode cX7_isBell 12 = .ok (.invokestatic 73, 3) := by decide +kernel
theorem dX7_isBell_15 : decode cX7_isBell 15 = .ok (.ireturn, 1) := by decide +kernel
theorem dX7_isRow_0 : decode cX7_isRow 0 = .ok (.iload_n 1, 1) := by decide +kernel
theorem dX7_isRow_1 : decode cX7_isRow 1 = .ok (.i2l, 1) := by decide +kernel
theorem dX7_isRow_2 : decode cX7_isRow 2 = .ok (.lconst 0, 1) := by decide +kernel
theorem dX7_isRow_3 : decode cX7_isRow 3 = .ok (.aload_n 0, 1) := by decide +kernel
theorem dX7_isRow_4 : decode cX7_isRow 4 = .ok (.getfield 7, 3) := by decide +kernel
theorem dX7_isRow_7 : decode cX7_isRow 7 = .ok (.iconst 1, 1) := by decide +kernel
theorem dX7_isRow_8 : decode cX7_isRow 8 = .ok (.iaload, 1) := by decide +kernel
theorem dX7_isRow_9 : decode cX7_isRow 9 = .ok (.iconst 1, 1) := by decide +kernel
theorem dX7_isRow_10 : decode cX7_isRow 10 = .ok (.isub, 1) := by decide +kernel
theorem dX7_isRow_11 : decode cX7_isRow 11 = .ok (.i2l, 1) := by decide +kernel
theorem dX7_isRow_12 : decode cX7_isRow 12 = .ok (.invokestatic 73, 3) := by decide +kernel
theorem dX7_isRow_15 : decode cX7_isRow 15 = .ok (.ireturn, 1) := by decide +kernel
theorem dX7_isSet_0 : decode cX7_isSet 0 = .ok (.iload_n 1, 1) := by decide +kernel
theorem dX7_isSet_1 : decode cX7_isSet 1 = .ok (.i2l, 1) := by decide +kernel
theorem dX7_isSet_2 : decode cX7_isSet 2 = .ok (.lconst 0, 1) := by decide +kernel
theorem dX7_isSet_3 : decode cX7_isSet 3 = .ok (.iconst 1, 1) := by decide +kernel
theorem dX7_isSet_4 : decode cX7_isSet 4 = .ok (.aload_n 0, 1) := by decide +kernel
theorem dX7_isSet_5 : decode cX7_isSet 5 = .ok (.getfield 7, 3) := by decide +kernel
theorem dX7_isSet_8 : decode cX7_isSet 8 = .ok (.iconst 0, 1) := by decide +kernel
theorem dX7_isSet_9 : decode cX7_isSet 9 = .ok (.iaload, 1) := by decide +kernel
theorem dX7_isSet_10 : decode cX7_isSet 10 = .ok (.ishl, 1) := by decide +kernel
theorem dX7_isSet_11 : decode cX7_isSet 11 = .ok (.iconst 1, 1) := by decide +kernel
theorem dX7_isSet_12 : decode cX7_isSet 12 = .ok (.isub, 1) := by decide +kernel
theorem dX7_isSet_13 : decode cX7_isSet 13 = .ok (.i2l, 1) := by decide +kernel
theorem dX7_isSet_14 : decode cX7_isSet 14 = .ok (.invokestatic 73, 3) := by decide +kernel
theorem dX7_isSet_17 : decode cX7_isSet 17 = .ok (.ireturn, 1) := by decide +kernel
theorem dX7_rings_0 : decode cX7_rings 0 = .ok (.iconst 0, 1) := by decide +kernel
theorem dX7_rings_1 : decode cX7_rings 1 = .ok (.istore_n 3, 1) := by decide +kernel
theorem dX7_rings_2 : decode cX7_rings 2 = .ok (.iconst 0, 1) := by decide +kernel
theorem dX7_rings_3 : decode cX7_rings 3 = .ok (.istore 4, 2) := by decide +kernel
theorem dX7_rings_5 : decode cX7_rings 5 = .ok (.iload 4, 2) := by decide +kernel
theorem dX7_rings_7 : decode cX7_rings 7 = .ok (.aload_n 0, 1) := by decide +kernel
theorem dX7_rings_8 : decode cX7_rings 8 = .ok (.getfield 7, 3) := by decide +kernel
theorem dX7_rings_11 : decode cX7_rings 11 = .ok (.iconst 0, 1) := by decide +kernel
theorem dX7_rings_12 : decode cX7_rings 12 = .ok (.iaload, 1) := by decide +kernel
theorem dX7_rings_13 : decode cX7_rings 13 = .ok (.if_icmp .ge 136, 3) := by decide +kernel
theorem dX7_rings_16 : decode cX7_rings 16 = .ok (.aload_n 1, 1) := by decide +kernel
theorem dX7_rings_17 : decode cX7_rings 17 = .ok (.iconst 2, 1) := by decide +kernel
theorem dX7_rings_18 : decode cX7_rings 18 = .ok (.iload_n 2, 1) := by decide +kernel
theorem dX7_rings_19 : decode cX7_rings 19 = .ok (.iadd, 1) := by decide +kernel
theorem dX7_rings_20 : decode cX7_rings 20 = .ok (.iaload, 1) := by decide +kernel
theorem dX7_rings_21 : decode cX7_rings 21 = .ok (.iload 4, 2) := by decide +kernel
theorem dX7_rings_23 : decode cX7_rings 23 = .ok (.invokestatic 152, 3) := by decide +kernel
theorem dX7_rings_26 : decode cX7_rings 26 = .ok (.ifCond .eq 117, 3) := by decide +kernel
theorem dX7_rings_29 : decode cX7_rings 29 = .ok (.iconst (-1), 1) := by decide +kernel
theorem dX7_rings_30 : decode cX7_rings 30 = .ok (.istore 5, 2) := by decide +kernel
theorem dX7_rings_32 : decode cX7_rings 32 = .ok (.aload_n 0, 1) := by decide +kernel
theorem dX7_rings_33 : decode cX7_rings 33 = .ok (.getfield 7, 3) := by decide +kernel
theorem dX7_rings_36 : decode cX7_rings 36 = .ok (.bipush 11, 2) := by decide +kernel
theorem dX7_rings_38 : decode cX7_rings 38 = .ok (.iload 4, 2) := by decide +kernel
theorem dX7_rings_40 : decode cX7_rings 40 = .ok (.iadd, 1) := by decide +kernel
theorem dX7_rings_41 : decode cX7_rings 41 = .ok (.iaload, 1) := by decide +kernel
theorem dX7_rings_42 : decode cX7_rings 42 = .ok (.iconst 1, 1) := by decide +kernel
theorem dX7_rings_43 : decode cX7_rings 43 = .ok (.isub, 1) := by decide +kernel
theorem dX7_rings_44 : decode cX7_rings 44 = .ok (.istore 6, 2) := by decide +kernel
theorem dX7_rings_46 : decode cX7_rings 46 = .ok (.iload 6, 2) := by decide +kernel
theorem dX7_rings_48 : decode cX7_rings 48 = .ok (.ifCond .lt 43, 3) := by decide +kernel
theorem dX7_rings_51 : decode cX7_rings 51 = .ok (.aload_n 1, 1) := by decide +kernel
theorem dX7_rings_52 : decode cX7_rings 52 = .ok (.iconst 1, 1) := by decide +kernel
theorem dX7_rings_53 : decode cX7_rings 53 = .ok (.iaload, 1) := by decide +kernel
theorem dX7_rings_54 : decode cX7_rings 54 = .ok (.aload_n 1, 1) := by decide +kernel
theorem dX7_rings_55 : decode cX7_rings 55 = .ok (.bipush 34, 2) := by decide +kernel
theorem dX7_rings_57 : decode cX7_rings 57 = .ok (.iconst 2, 1) := by decide +kernel
theorem dX7_rings_58 : decode cX7_rings 58 = .ok (.iload 4, 2) := by decide +kernel
theorem dX7_rings_60 : decode cX7_rings 60 = .ok (.imul, 1) := by decide +kernel
theorem dX7_rings_61 : decode cX7_rings 61 = .ok (.iadd, 1) := by decide +kernel
theorem dX7_rings_62 : decode cX7_rings 62 = .ok (.iload 6, 2) := by decide +kernel
theorem dX7_rings_64 : decode cX7_rings 64 = .ok (.iadd, 1) := by decide +kernel
theorem dX7_rings_65 : decode cX7_rings 65 = .ok (.iaload, 1) := by decide +kernel
theorem dX7_rings_66 : decode cX7_rings 66 = .ok (.isub, 1) := by decide +kernel
theorem dX7_rings_67 : decode cX7_rings 67 = .ok (.aload_n 0, 1) := by decide +kernel
theorem dX7_rings_68 : decode cX7_rings 68 = .ok (.getfield 7, 3) := by decide +kernel
theorem dX7_rings_71 : decode cX7_rings 71 = .ok (.iconst 2, 1) := by decide +kernel
theorem dX7_rings_72 : decode cX7_rings 72 = .ok (.iaload, 1) := by decide +kernel
theorem dX7_rings_73 : decode cX7_rings 73 = .ok (.if_icmp .le 8, 3) := by decide +kernel
theorem dX7_rings_76 : decode cX7_rings 76 = .ok (.iload 6, 2) := by decide +kernel
theorem dX7_rings_78 : decode cX7_rings 78 = .ok (.goto 5, 3) := by decide +kernel
theorem dX7_rings_81 : decode cX7_rings 81 = .ok (.iload 5, 2) := by decide +kernel
theorem dX7_rings_83 : decode cX7_rings 83 = .ok (.istore 5, 2) := by decide +kernel
theorem dX7_rings_85 : decode cX7_rings 85 = .ok (.iinc 6 (-1), 3) := by decide +kernel
theorem dX7_rings_88 : decode cX7_rings 88 = .ok (.goto (-42), 3) := by decide +kernel
theorem dX7_rings_91 : decode cX7_rings 91 = .ok (.iload 5, 2) := by decide +kernel
theorem dX7_rings_93 : decode cX7_rings 93 = .ok (.ifCond .ge 17, 3) := by decide +kernel
theorem dX7_rings_96 : decode cX7_rings 96 = .ok (.aload_n 1, 1) := by decide +kernel
theorem dX7_rings_97 : decode cX7_rings 97 = .ok (.bipush 58, 2) := by decide +kernel
theorem dX7_rings_99 : decode cX7_rings 99 = .ok (.iload 4, 2) := by decide +kernel
theorem dX7_rings_101 : decode cX7_rings 101 = .ok (.iadd, 1) := by decide +kernel
theorem dX7_rings_102 : decode cX7_rings 102 = .ok (.dup2, 1) := by decide +kernel
theorem dX7_rings_103 : decode cX7_rings 103 = .ok (.iaload, 1) := by decide +kernel
theorem dX7_rings_104 : decode cX7_rings 104 = .ok (.iconst 1, 1) := by decide +kernel
theorem dX7_rings_105 : decode cX7_rings 105 = .ok (.iadd, 1) := by decide +kernel
theorem dX7_rings_106 : decode cX7_rings 106 = .ok (.iastore, 1) := by decide +kernel
theorem dX7_rings_107 : decode cX7_rings 107 = .ok (.goto 36, 3) := by decide +kernel
theorem dX7_rings_110 : decode cX7_rings 110 = .ok (.aload_n 1, 1) := by decide +kernel
theorem dX7_rings_111 : decode cX7_rings 111 = .ok (.bipush 34, 2) := by decide +kernel
theorem dX7_rings_113 : decode cX7_rings 113 = .ok (.iconst 2, 1) := by decide +kernel
theorem dX7_rings_114 : decode cX7_rings 114 = .ok (.iload 4, 2) := by decide +kernel
theorem dX7_rings_116 : decode cX7_rings 116 = .ok (.imul, 1) := by decide +kernel
theorem dX7_rings_117 : decode cX7_rings 117 = .ok (.iadd, 1) := by decide +kernel
theorem dX7_rings_118 : decode cX7_rings 118 = .ok (.iload 5, 2) := by decide +kernel
theorem dX7_rings_120 : decode cX7_rings 120 = .ok (.iadd, 1) := by decide +kernel
theorem dX7_rings_121 : decode cX7_rings 121 = .ok (.aload_n 1, 1) := by decide +kernel
theorem dX7_rings_122 : decode cX7_rings 122 = .ok (.iconst 1, 1) := by decide +kernel
theorem dX7_rings_123 : decode cX7_rings 123 = .ok (.iaload, 1) := by decide +kernel
theorem dX7_rings_124 : decode cX7_rings 124 = .ok (.iastore, 1) := by decide +kernel
theorem dX7_rings_125 : decode cX7_rings 125 = .ok (.aload_n 1, 1) := by decide +kernel
theorem dX7_rings_126 : decode cX7_rings 126 = .ok (.bipush 50, 2) := by decide +kernel
theorem dX7_rings_128 : decode cX7_rings 128 = .ok (.iload 4, 2) := by decide +kernel
theorem dX7_rings_130 : decode cX7_rings 130 = .ok (.iadd, 1) := by decide +kernel
theorem dX7_rings_131 : decode cX7_rings 131 = .ok (.dup2, 1) := by decide +kernel
theorem dX7_rings_132 : decode cX7_rings 132 = .ok (.iaload, 1) := by decide +kernel
theorem dX7_rings_133 : decode cX7_rings 133 = .ok (.iconst 1, 1) := by decide +kernel
theorem dX7_rings_134 : decode cX7_rings 134 = .ok (.iadd, 1) := by decide +kernel
theorem dX7_rings_135 : decode cX7_rings 135 = .ok (.iastore, 1) := by decide +kernel
theorem dX7_rings_136 : decode cX7_rings 136 = .ok (.iload_n 3, 1) := by decide +kernel
theorem dX7_rings_137 : decode cX7_rings 137 = .ok (.iconst 1, 1) := by decide +kernel
theorem dX7_rings_138 : decode cX7_rings 138 = .ok (.iload 4, 2) := by decide +kernel
theorem dX7_rings_140 : decode cX7_rings 140 = .ok (.ishl, 1) := by decide +kernel
theorem dX7_rings_141 : decode cX7_rings 141 = .ok (.ior, 1) := by decide +kernel
theorem dX7_rings_142 : decode cX7_rings 142 = .ok (.istore_n 3, 1) := by decide +kernel
theorem dX7_rings_143 : decode cX7_rings 143 = .ok (.iinc 4 1, 3) := by decide +kernel
theorem dX7_rings_146 : decode cX7_rings 146 = .ok (.goto (-141), 3) := by decide +kernel
theorem dX7_rings_149 : decode cX7_rings 149 = .ok (.aload_n 1, 1) := by decide +kernel
theorem dX7_rings_150 : decode cX7_rings 150 = .ok (.iconst 1, 1) := by decide +kernel
theorem dX7_rings_151 : decode cX7_rings 151 = .ok (.dup2, 1) := by decide +kernel
theorem dX7_rings_152 : decode cX7_rings 152 = .ok (.iaload, 1) := by decide +kernel
theorem dX7_rings_153 : decode cX7_rings 153 = .ok (.iconst 1, 1) := by decide +kernel
theorem dX7_rings_154 : decode cX7_rings 154 = .ok (.iadd, 1) := by decide +kernel
theorem dX7_rings_155 : decode cX7_rings 155 = .ok (.iastore, 1) := by decide +kernel
theorem dX7_rings_156 : decode cX7_rings 156 = .ok (.aload_n 1, 1) := by decide +kernel
theorem dX7_rings_157 : decode cX7_rings 157 = .ok (.iconst 0, 1) := by decide +kernel
theorem dX7_rings_158 : decode cX7_rings 158 = .ok (.iload_n 2, 1) := by decide +kernel
theorem dX7_rings_159 : decode cX7_rings 159 = .ok (.iastore, 1) := by decide +kernel
theorem dX7_rings_160 : decode cX7_rings 160 = .ok (.iload_n 3, 1) := by decide +kernel
theorem dX7_rings_161 : decode cX7_rings 161 = .ok (.ireturn, 1) := by decide +kernel
theorem dX7_comesNext_0 : decode cX7_comesNext 0 = .ok (.aload_n 0, 1) := by decide +kernel
theorem dX7_comesNext_1 : decode cX7_comesNext 1 = .ok (.aload_n 1, 1) := by decide +kernel
theorem dX7_comesNext_2 : decode cX7_comesNext 2 = .ok (.aload_n 1, 1) := by decide +kernel
theorem dX7_comesNext_3 : decode cX7_comesNext 3 = .ok (.iconst 0, 1) := by decide +kernel
theorem dX7_comesNext_4 : decode cX7_comesNext 4 = .ok (.iaload, 1) := by decide +kernel
theorem dX7_comesNext_5 : decode cX7_comesNext 5 = .ok (.aload_n 0, 1) := by decide +kernel
theorem dX7_comesNext_6 : decode cX7_comesNext 6 = .ok (.getfield 7, 3) := by decide +kernel
theorem dX7_comesNext_9 : decode cX7_comesNext 9 = .ok (.iconst 1, 1) := by decide +kernel
theorem dX7_comesNext_10 : decode cX7_comesNext 10 = .ok (.iaload, 1) := by decide +kernel
theorem dX7_comesNext_11 : decode cX7_comesNext 11 = .ok (.iconst 1, 1) := by decide +kernel
theorem dX7_comesNext_12 : decode cX7_comesNext 12 = .ok (.isub, 1) := by decide +kernel
theorem dX7_comesNext_13 : decode cX7_comesNext 13 = .ok (.if_icmp .lt 7, 3) := by decide +kernel
theorem dX7_comesNext_16 : decode cX7_comesNext 16 = .ok (.iconst 0, 1) := by decide +kernel
theorem dX7_comesNext_17 : decode cX7_comesNext 17 = .ok (.goto 8, 3) := by decide +kernel
theorem dX7_comesNext_20 : decode cX7_comesNext 20 = .ok (.aload_n 1, 1) := by decide +kernel
theorem dX7_comesNext_21 : decode cX7_comesNext 21 = .ok (.iconst 0, 1) := by decide +kernel
theorem dX7_comesNext_22 : decode cX7_comesNext 22 = .ok (.iaload, 1) := by decide +kernel
theorem dX7_comesNext_23 : decode cX7_comesNext 23 = .ok (.iconst 1, 1) := by decide +kernel
theorem dX7_comesNext_24 : decode cX7_comesNext 24 = .ok (.iadd, 1) := by decide +kernel
theorem dX7_comesNext_25 : decode cX7_comesNext 25 = .ok (.invokevirtual 155, 3) := by decide +kernel
theorem dX7_comesNext_28 : decode cX7_comesNext 28 = .ok (.ireturn, 1) := by decide +kernel
theorem dX7_bell_0 : decode cX7_bell 0 = .ok (.aload_n 0, 1) := by decide +kernel
theorem dX7_bell_1 : decode cX7_bell 1 = .ok (.iload_n 1, 1) := by decide +kernel
theorem dX7_bell_2 : decode cX7_bell 2 = .ok (.invokevirtual 159, 3) := by decide +kernel
theorem dX7_bell_5 : decode cX7_bell 5 = .ok (.ifCond .ne 5, 3) := by decide +kernel
theorem dX7_bell_8 : decode cX7_bell 8 = .ok (.iconst (-1), 1) := by decide +kernel
theorem dX7_bell_9 : decode cX7_bell 9 = .ok (.ireturn, 1) := by decide +kernel
theorem dX7_bell_10 : decode cX7_bell 10 = .ok (.iconst 0, 1) := by decide +kernel
theorem dX7_bell_11 : decode cX7_bell 11 = .ok (.istore_n 3, 1) := by decide +kernel
theorem dX7_bell_12 : decode cX7_bell 12 = .ok (.iconst 0, 1) := by decide +kernel
theorem dX7_bell_13 : decode cX7_bell 13 = .ok (.istore 4, 2) := by decide +kernel
theorem dX7_bell_15 : decode cX7_bell 15 = .ok (.iload 4, 2) := by decide +kernel
theorem dX7_bell_17 : decode cX7_bell 17 = .ok (.aload_n 0, 1) := by decide +kernel
theorem dX7_bell_18 : decode cX7_bell 18 = .ok (.getfield 7, 3) := by decide +kernel
theorem dX7_bell_21 : decode cX7_bell 21 = .ok (.iconst 1, 1) := by decide +kernel
theorem dX7_bell_22 : decode cX7_bell 22 = .ok (.iaload, 1) := by decide +kernel
theorem dX7_bell_23 : decode cX7_bell 23 = .ok (.if_icmp .ge 33, 3) := by decide +kernel
theorem dX7_bell_26 : decode cX7_bell 26 = .ok (.iload_n 3, 1) := by decide +kernel
theorem dX7_bell_27 : decode cX7_bell 27 = .ok (.aload_n 0, 1) := by decide +kernel
theorem dX7_bell_28 : decode cX7_bell 28 = .ok (.getfield 19, 3) := by decide +kernel
theorem dX7_bell_31 : decode cX7_bell 31 = .ok (.iconst 2, 1) := by decide +kernel
theorem dX7_bell_32 : decode cX7_bell 32 = .ok (.iload 4, 2) := by decide +kernel
theorem dX7_bell_34 : decode cX7_bell 34 = .ok (.iadd, 1) := by decide +kernel
theorem dX7_bell_35 : decode cX7_bell 35 = .ok (.iaload, 1) := by decide +kernel
theorem dX7_bell_36 : decode cX7_bell 36 = .ok (.iload_n 1, 1) := by decide +kernel
theorem dX7_bell_37 : decode cX7_bell 37 = .ok (.invokestatic 152, 3) := by decide +kernel
theorem dX7_bell_40 : decode cX7_bell 40 = .ok (.ifCond .eq 7, 3) := by decide +kernel
theorem dX7_bell_43 : decode cX7_bell 43 = .ok (.iconst 1, 1) := by decide +kernel
theorem dX7_bell_44 : decode cX7_bell 44 = .ok (.goto 4, 3) := by decide +kernel
theorem dX7_bell_47 : decode cX7_bell 47 = .ok (.iconst 0, 1) := by decide +kernel
theorem dX7_bell_48 : decode cX7_bell 48 = .ok (.iadd, 1) := by decide +kernel
theorem dX7_bell_49 : decode cX7_bell 49 = .ok (.istore_n 3, 1) := by decide +kernel
theorem dX7_bell_50 : decode cX7_bell 50 = .ok (.iinc 4 1, 3) := by decide +kernel
theorem dX7_bell_53 : decode cX7_bell 53 = .ok (.goto (-38), 3) := by decide +kernel
theorem dX7_bell_56 : decode cX7_bell 56 = .ok (.iload_n 2, 1) := by decide +kernel
theorem dX7_bell_57 : decode cX7_bell 57 = .ok (.tableswitch 76 0 4 #[35, 44, 54, 56, 66], 35) := by decide +kernel
theorem dX7_bell_92 : decode cX7_bell 92 = .ok (.aload_n 0, 1) := by decide +kernel
theorem dX7_bell_93 : decode cX7_bell 93 = .ok (.getfield 7, 3) := by decide +kernel
theorem dX7_bell_96 : decode cX7_bell 96 = .ok (.iconst 3, 1) := by decide +kernel
theorem dX7_bell_97 : decode cX7_bell 97 = .ok (.iload_n 1, 1) := by decide +kernel
theorem dX7_bell_98 : decode cX7_bell 98 = .ok (.iadd, 1) := by decide +kernel
theorem dX7_bell_99 : decode cX7_bell 99 = .ok (.iaload, 1) := by decide +kernel
theorem dX7_bell_100 : decode cX7_bell 100 = .ok (.ireturn, 1) := by decide +kernel
theorem dX7_bell_101 : decode cX7_bell 101 = .ok (.aload_n 0, 1) := by decide +kernel
theorem dX7_bell_102 : decode cX7_bell 102 = .ok (.getfield 7, 3) := by decide +kernel
theorem dX7_bell_105 : decode cX7_bell 105 = .ok (.bipush 11, 2) := by decide +kernel
theorem dX7_bell_107 : decode cX7_bell 107 = .ok (.iload_n 1, 1) := by decide +kernel
theorem dX7_bell_108 : decode cX7_bell 108 = .ok (.iadd, 1) := by decide +kernel
theorem dX7_bell_109 : decode cX7_bell 109 = .ok (.iaload, 1) := by decide +kernel
theorem dX7_bell_110 : decode cX7_bell 110 = .ok (.ireturn, 1) := by decide +kernel
theorem dX7_bell_111 : decode cX7_bell 111 = .ok (.iload_n 3, 1) := by decide +kernel
theorem dX7_bell_112 : decode cX7_bell 112 = .ok (.ireturn, 1) := by decide +kernel
theorem dX7_bell_113 : decode cX7_bell 113 = .ok (.aload_n 0, 1) := by decide +kernel
theorem dX7_bell_114 : decode cX7_bell 114 = .ok (.getfield 19, 3) := by decide +kernel
theorem dX7_bell_117 : decode cX7_bell 117 = .ok (.bipush 50, 2) := by decide +kernel
theorem dX7_bell_119 : decode cX7_bell 119 = .ok (.iload_n 1, 1) := by decide +kernel
theorem dX7_bell_120 : decode cX7_bell 120 = .ok (.iadd, 1) := by decide +kernel
theorem dX7_bell_121 : decode cX7_bell 121 = .ok (.iaload, 1) := by decide +kernel
theorem dX7_bell_122 : decode cX7_bell 122 = .ok (.ireturn, 1) := by decide +kernel
theorem dX7_bell_123 : decode cX7_bell 123 = .ok (.aload_n 0, 1) := by decide +kernel
theorem dX7_bell_124 : decode cX7_bell 124 = .ok (.getfield 19, 3) := by decide +kernel
theorem dX7_bell_127 : decode cX7_bell 127 = .ok (.bipush 58, 2) := by decide +kernel
theorem dX7_bell_129 : decode cX7_bell 129 = .ok (.iload_n 1, 1) := by decide +kernel
theorem dX7_bell_130 : decode cX7_bell 130 = .ok (.iadd, 1) := by decide +kernel
theorem dX7_bell_131 : decode cX7_bell 131 = .ok (.iaload, 1) := by decide +kernel
theorem dX7_bell_132 : decode cX7_bell 132 = .ok (.ireturn, 1) := by decide +kernel
theorem dX7_bell_133 : decode cX7_bell 133 = .ok (.iconst (-1), 1) := by decide +kernel
theorem dX7_bell_134 : decode cX7_bell 134 = .ok (.ireturn, 1) := by decide +kernel
theorem dX7_pins_0 : decode cX7_pins 0 = .ok (.aload_n 0, 1) := by decide +kernel
theorem dX7_pins_1 : decode cX7_pins 1 = .ok (.iload_n 1, 1) := by decide +kernel
theorem dX7_pins_2 : decode cX7_pins 2 = .ok (.invokevirtual 162, 3) := by decide +kernel
theorem dX7_pins_5 : decode cX7_pins 5 = .ok (.ifCond .eq 14, 3) := by decide +kernel
theorem dX7_pins_8 : decode cX7_pins 8 = .ok (.aload_n 0, 1) := by decide +kernel
theorem dX7_pins_9 : decode cX7_pins 9 = .ok (.getfield 19, 3) := by decide +kernel
theorem dX7_pins_12 : decode cX7_pins 12 = .ok (.iconst 2, 1) := by decide +kernel
theorem dX7_pins_13 : decode cX7_pins 13 = .ok (.iload_n 1, 1) := by decide +kernel
theorem dX7_pins_14 : decode cX7_pins 14 = .ok (.iadd, 1) := by decide +kernel
theorem dX7_pins_15 : decode cX7_pins 15 = .ok (.iaload, 1) := by decide +kernel
theorem dX7_pins_16 : decode cX7_pins 16 = .ok (.goto 4, 3) := by decide +kernel
theorem dX7_pins_19 : decode cX7_pins 19 = .ok (.iconst (-1), 1) := by decide +kernel
theorem dX7_pins_20 : decode cX7_pins 20 = .ok (.ireturn, 1) := by decide +kernel
theorem dX7_copies_0 : decode cX7_copies 0 = .ok (.iconst 0, 1) := by decide +kernel
theorem dX7_copies_1 : decode cX7_copies 1 = .ok (.istore 4, 2) := by decide +kernel
theorem dX7_copies_3 : decode cX7_copies 3 = .ok (.iload 4, 2) := by decide +kernel
theorem dX7_copies_5 : decode cX7_copies 5 = .ok (.bipush 66, 2) := by decide +kernel
theorem dX7_copies_7 : decode cX7_copies 7 = .ok (.if_icmp .ge 21, 3) := by decide +kernel
theorem dX7_copies_10 : decode cX7_copies 10 = .ok (.aload_n 2, 1) := by decide +kernel
theorem dX7_copies_11 : decode cX7_copies 11 = .ok (.iload_n 3, 1) := by decide +kernel
theorem dX7_copies_12 : decode cX7_copies 12 = .ok (.iload 4, 2) := by decide +kernel
theorem dX7_copies_14 : decode cX7_copies 14 = .ok (.iadd, 1) := by decide +kernel
theorem dX7_copies_15 : decode cX7_copies 15 = .ok (.aload_n 0, 1) := by decide +kernel
theorem dX7_copies_16 : decode cX7_copies 16 = .ok (.iload_n 1, 1) := by decide +kernel
theorem dX7_copies_17 : decode cX7_copies 17 = .ok (.iload 4, 2) := by decide +kernel
theorem dX7_copies_19 : decode cX7_copies 19 = .ok (.iadd, 1) := by decide +kernel
theorem dX7_copies_20 : decode cX7_copies 20 = .ok (.iaload, 1) := by decide +kernel
theorem dX7_copies_21 : decode cX7_copies 21 = .ok (.iastore, 1) := by decide +kernel
theorem dX7_copies_22 : decode cX7_copies 22 = .ok (.iinc 4 1, 3) := by decide +kernel
theorem dX7_copies_25 : decode cX7_copies 25 = .ok (.goto (-22), 3) := by decide +kernel
theorem dX7_copies_28 : decode cX7_copies 28 = .ok (.return_, 1) := by decide +kernel
theorem dX7_remember_0 : decode cX7_remember 0 = .ok (.aload_n 0, 1) := by decide +kernel
theorem dX7_remember_1 : decode cX7_remember 1 = .ok (.getfield 143, 3) := by decide +kernel
theorem dX7_remember_4 : decode cX7_remember 4 = .ok (.bipush 8, 2) := by decide +kernel
theorem dX7_remember_6 : decode cX7_remember 6 = .ok (.if_icmp .ne 43, 3) := by decide +kernel
theorem dX7_remember_9 : decode cX7_remember 9 = .ok (.iconst 0, 1) := by decide +kernel
theorem dX7_remember_10 : decode cX7_remember 10 = .ok (.istore_n 1, 1) := by decide +kernel
theorem dX7_remember_11 : decode cX7_remember 11 = .ok (.iload_n 1, 1) := by decide +kernel
theorem dX7_remember_12 : decode cX7_remember 12 = .ok (.sipush 462, 3) := by decide +kernel
theorem dX7_remember_15 : decode cX7_remember 15 = .ok (.if_icmp .ge 24, 3) := by decide +kernel
theorem dX7_remember_18 : decode cX7_remember 18 = .ok (.aload_n 0, 1) := by decide +kernel
theorem dX7_remember_19 : decode cX7_remember 19 = .ok (.getfield 22, 3) := by decide +kernel
theorem dX7_remember_22 : decode cX7_remember 22 = .ok (.iload_n 1, 1) := by decide +kernel
theorem dX7_remember_23 : decode cX7_remember 23 = .ok (.aload_n 0, 1) := by decide +kernel
theorem dX7_remember_24 : decode cX7_remember 24 = .ok (.getfield 22, 3) := by decide +kernel
theorem dX7_remember_27 : decode cX7_remember 27 = .ok (.iload_n 1, 1) := by decide +kernel
theorem dX7_remember_28 : decode cX7_remember 28 = .ok (.bipush 66, 2) := by decide +kernel
theorem dX7_remember_30 : decode cX7_remember 30 = .ok (.iadd, 1) := by decide +kernel
theorem dX7_remember_31 : decode cX7_remember 31 = .ok (.iaload, 1) := by decide +kernel
theorem dX7_remember_32 : decode cX7_remember 32 = .ok (.iastore, 1) := by decide +kernel
theorem dX7_remember_33 : decode cX7_remember 33 = .ok (.iinc 1 1, 3) := by decide +kernel
theorem dX7_remember_36 : decode cX7_remember 36 = .ok (.goto (-25), 3) := by decide +kernel
theorem dX7_remember_39 : decode cX7_remember 39 = .ok (.aload_n 0, 1) := by decide +kernel
theorem dX7_remember_40 : decode cX7_remember 40 = .ok (.dup, 1) := by decide +kernel
theorem dX7_remember_41 : decode cX7_remember 41 = .ok (.getfield 143, 3) := by decide +kernel
theorem dX7_remember_44 : decode cX7_remember 44 = .ok (.iconst 1, 1) := by decide +kernel
theorem dX7_remember_45 : decode cX7_remember 45 = .ok (.isub, 1) := by decide +kernel
theorem dX7_remember_46 : decode cX7_remember 46 = .ok (.putfield 143, 3) := by decide +kernel
theorem dX7_remember_49 : decode cX7_remember 49 = .ok (.aload_n 0, 1) := by decide +kernel
theorem dX7_remember_50 : decode cX7_remember 50 = .ok (.getfield 19, 3) := by decide +kernel
theorem dX7_remember_53 : decode cX7_remember 53 = .ok (.iconst 0, 1) := by decide +kernel
theorem dX7_remember_54 : decode cX7_remember 54 = .ok (.aload_n 0, 1) := by decide +kernel
theorem dX7_remember_55 : decode cX7_remember 55 = .ok (.getfield 22, 3) := by decide +kernel
theorem dX7_remember_58 : decode cX7_remember 58 = .ok (.bipush 66, 2) := by decide +kernel
theorem dX7_remember_60 : decode cX7_remember 60 = .ok (.aload_n 0, 1) := by decide +kernel
theorem dX7_remember_61 : decode cX7_remember 61 = .ok (.getfield 143, 3) := by decide +kernel
theorem dX7_remember_64 : decode cX7_remember 64 = .ok (.imul, 1) := by decide +kernel
theorem dX7_remember_65 : decode cX7_remember 65 = .ok (.invokestatic 165, 3) := by decide +kernel
theorem dX7_remember_68 : decode cX7_remember 68 = .ok (.aload_n 0, 1) := by decide +kernel
theorem dX7_remember_69 : decode cX7_remember 69 = .ok (.dup, 1) := by decide +kernel
theorem dX7_remember_70 : decode cX7_remember 70 = .ok (.getfield 143, 3) := by decide +kernel
theorem dX7_remember_73 : decode cX7_remember 73 = .ok (.iconst 1, 1) := by decide +kernel
theorem dX7_remember_74 : decode cX7_remember 74 = .ok (.iadd, 1) := by decide +kernel
theorem dX7_remember_75 : decode cX7_remember 75 = .ok (.putfield 143, 3) := by decide +kernel
theorem dX7_remember_78 : decode cX7_remember 78 = .ok (.return_, 1) := by decide +kernel
theorem dX7_turn_0 : decode cX7_turn 0 = .ok (.aload_n 0, 1) := by decide +kernel
theorem dX7_turn_1 : decode cX7_turn 1 = .ok (.invokevirtual 169, 3) := by decide +kernel
theorem dX7_turn_4 : decode cX7_turn 4 = .ok (.aload_n 0, 1) := by decide +kernel
theorem dX7_turn_5 : decode cX7_turn 5 = .ok (.aload_n 0, 1) := by decide +kernel
theorem dX7_turn_6 : decode cX7_turn 6 = .ok (.getfield 19, 3) := by decide +kernel
theorem dX7_turn_9 : decode cX7_turn 9 = .ok (.invokevirtual 172, 3) := by decide +kernel
theorem dX7_turn_12 : decode cX7_turn 12 = .ok (.ireturn, 1) := by decide +kernel
theorem dX7_turnBack_0 : decode cX7_turnBack 0 = .ok (.aload_n 0, 1) := by decide +kernel
theorem dX7_turnBack_1 : decode cX7_turnBack 1 = .ok (.invokevirtual 169, 3) := by decide +kernel
theorem dX7_turnBack_4 : decode cX7_turnBack 4 = .ok (.aload_n 0, 1) := by decide +kernel
theorem dX7_turnBack_5 : decode cX7_turnBack 5 = .ok (.aload_n 0, 1) := by decide +kernel
theorem dX7_turnBack_6 : decode cX7_turnBack 6 = .ok (.getfield 19, 3) := by decide +kernel
theorem dX7_turnBack_9 : decode cX7_turnBack 9 = .ok (.aload_n 0, 1) := by decide +kernel
theorem dX7_turnBack_10 : decode cX7_turnBack 10 = .ok (.getfield 19, 3) := by decide +kernel
theorem dX7_turnBack_13 : decode cX7_turnBack 13 = .ok (.iconst 0, 1) := by decide +kernel
theorem dX7_turnBack_14 : decode cX7_turnBack 14 = .ok (.iaload, 1) := by decide +kernel
theorem dX7_turnBack_15 : decode cX7_turnBack 15 = .ok (.ifCond .ne 14, 3) := by decide +kernel
theorem dX7_turnBack_18 : decode cX7_turnBack 18 = .ok (.aload_n 0, 1) := by decide +kernel
theorem dX7_turnBack_19 : decode cX7_turnBack 19 = .ok (.getfield 7, 3) := by decide +kernel
theorem dX7_turnBack_22 : decode cX7_turnBack 22 = .ok (.iconst 1, 1) := by decide +kernel
theorem dX7_turnBack_23 : decode cX7_turnBack 23 = .ok (.iaload, 1) := by decide +kernel
theorem dX7_turnBack_24 : decode cX7_turnBack 24 = .ok (.iconst 1, 1) := by decide +kernel
theorem dX7_turnBack_25 : decode cX7_turnBack 25 = .ok (.isub, 1) := by decide +kernel
theorem dX7_turnBack_26 : decode cX7_turnBack 26 = .ok (.goto 11, 3) := by decide +kernel
theorem dX7_turnBack_29 : decode cX7_turnBack 29 = .ok (.aload_n 0, 1) := by decide +kernel
theorem dX7_turnBack_30 : decode cX7_turnBack 30 = .ok (.getfield 19, 3) := by decide +kernel
theorem dX7_turnBack_33 : decode cX7_turnBack 33 = .ok (.iconst 0, 1) := by decide +kernel
theorem dX7_turnBack_34 : decode cX7_turnBack 34 = .ok (.iaload, 1) := by decide +kernel
theorem dX7_turnBack_35 : decode cX7_turnBack 35 = .ok (.iconst 1, 1) := by decide +kernel
theorem dX7_turnBack_36 : decode cX7_turnBack 36 = .ok (.isub, 1) := by decide +kernel
theorem dX7_turnBack_37 : decode cX7_turnBack 37 = .ok (.invokevirtual 155, 3) := by decide +kernel
theorem dX7_turnBack_40 : decode cX7_turnBack 40 = .ok (.ireturn, 1) := by decide +kernel
theorem dX7_pin_0 : decode cX7_pin 0 = .ok (.aload_n 0, 1) := by decide +kernel
theorem dX7_pin_1 : decode cX7_pin 1 = .ok (.iload_n 1, 1) := by decide +kernel
theorem dX7_pin_2 : decode cX7_pin 2 = .ok (.invokevirtual 162, 3) := by decide +kernel
theorem dX7_pin_5 : decode cX7_pin 5 = .ok (.ifCond .eq 11, 3) := by decide +kernel
theorem dX7_pin_8 : decode cX7_pin 8 = .ok (.aload_n 0, 1) := by decide +kernel
theorem dX7_pin_9 : decode cX7_pin 9 = .ok (.iload_n 2, 1) := by decide +kernel
theorem dX7_pin_10 : decode cX7_pin 10 = .ok (.invokevirtual 159, 3) := by decide +kernel
theorem dX7_pin_13 : decode cX7_pin 13 = .ok (.ifCond .ne 5, 3) := by decide +kernel
theorem dX7_pin_16 : decode cX7_pin 16 = .ok (.iconst (-1), 1) := by decide +kernel
theorem dX7_pin_17 : decode cX7_pin 17 = .ok (.ireturn, 1) := by decide +kernel
theorem dX7_pin_18 : decode cX7_pin 18 = .ok (.aload_n 0, 1) := by decide +kernel
theorem dX7_pin_19 : decode cX7_pin 19 = .ok (.getfield 19, 3) := by decide +kernel
theorem dX7_pin_22 : decode cX7_pin 22 = .ok (.iconst 2, 1) := by decide +kernel
theorem dX7_pin_23 : decode cX7_pin 23 = .ok (.iload_n 1, 1) := by decide +kernel
theorem dX7_pin_24 : decode cX7_pin 24 = .ok (.iadd, 1) := by decide +kernel
theorem dX7_pin_25 : decode cX7_pin 25 = .ok (.iaload, 1) := by decide +kernel
theorem dX7_pin_26 : decode cX7_pin 26 = .ok (.iload_n 2, 1) := by decide +kernel
theorem dX7_pin_27 : decode cX7_pin 27 = .ok (.invokestatic 152, 3) := by decide +kernel
theorem dX7_pin_30 : decode cX7_pin 30 = .ok (.iload_n 3, 1) := by decide +kernel
theorem dX7_pin_31 : decode cX7_pin 31 = .ok (.if_icmp .ne 6, 3) := by decide +kernel
theorem dX7_pin_34 : decode cX7_pin 34 = .ok (.bipush (-2), 2) := by decide +kernel
theorem dX7_pin_36 : decode cX7_pin 36 = .ok (.ireturn, 1) := by decide +kernel
theorem dX7_pin_37 : decode cX7_pin 37 = .ok (.aload_n 0, 1) := by decide +kernel
theorem dX7_pin_38 : decode cX7_pin 38 = .ok (.invokevirtual 169, 3) := by decide +kernel
theorem dX7_pin_41 : decode cX7_pin 41 = .ok (.aload_n 0, 1) := by decide +kernel
theorem dX7_pin_42 : decode cX7_pin 42 = .ok (.getfield 19, 3) := by decide +kernel
theorem dX7_pin_45 : decode cX7_pin 45 = .ok (.iconst 2, 1) := by decide +kernel
theorem dX7_pin_46 : decode cX7_pin 46 = .ok (.iload_n 1, 1) := by decide +kernel
theorem dX7_pin_47 : decode cX7_pin 47 = .ok (.iadd, 1) := by decide +kernel
theorem dX7_pin_48 : decode cX7_pin 48 = .ok (.dup2, 1) := by decide +kernel
theorem dX7_pin_49 : decode cX7_pin 49 = .ok (.iaload, 1) := by decide +kernel
theorem dX7_pin_50 : decode cX7_pin 50 = .ok (.iconst 1, 1) := by decide +kernel
theorem dX7_pin_51 : decode cX7_pin 51 = .ok (.iload_n 2, 1) := by decide +kernel
theorem dX7_pin_52 : decode cX7_pin 52 = .ok (.ishl, 1) := by decide +kernel
theorem dX7_pin_53 : decode cX7_pin 53 = .ok (.ixor, 1) := by decide +kernel
theorem dX7_pin_54 : decode cX7_pin 54 = .ok (.iastore, 1) := by decide +kernel
theorem dX7_pin_55 : decode cX7_pin 55 = .ok (.aload_n 0, 1) := by decide +kernel
theorem dX7_pin_56 : decode cX7_pin 56 = .ok (.getfield 19, 3) := by decide +kernel
theorem dX7_pin_59 : decode cX7_pin 59 = .ok (.iconst 2, 1) := by decide +kernel
theorem dX7_pin_60 : decode cX7_pin 60 = .ok (.iload_n 1, 1) := by decide +kernel
theorem dX7_pin_61 : decode cX7_pin 61 = .ok (.iadd, 1) := by decide +kernel
theorem dX7_pin_62 : decode cX7_pin 62 = .ok (.iaload, 1) := by decide +kernel
theorem dX7_pin_63 : decode cX7_pin 63 = .ok (.invokestatic 114, 3) := by decide +kernel
theorem dX7_pin_66 : decode cX7_pin 66 = .ok (.ireturn, 1) := by decide +kernel
theorem dX7_shifted_0 : decode cX7_shifted 0 = .ok (.aload_n 0, 1) := by decide +kernel
theorem dX7_shifted_1 : decode cX7_shifted 1 = .ok (.getfield 19, 3) := by decide +kernel
theorem dX7_shifted_4 : decode cX7_shifted 4 = .ok (.iconst 2, 1) := by decide +kernel
theorem dX7_shifted_5 : decode cX7_shifted 5 = .ok (.iload_n 1, 1) := by decide +kernel
theorem dX7_shifted_6 : decode cX7_shifted 6 = .ok (.iload_n 2, 1) := by decide +kernel
theorem dX7_shifted_7 : decode cX7_shifted 7 = .ok (.isub, 1) := by decide +kernel
theorem dX7_shifted_8 : decode cX7_shifted 8 = .ok (.aload_n 0, 1) := by decide +kernel
theorem dX7_shifted_9 : decode cX7_shifted 9 = .ok (.getfield 7, 3) := by decide +kernel
theorem dX7_shifted_12 : decode cX7_shifted 12 = .ok (.iconst 1, 1) := by decide +kernel
theorem dX7_shifted_13 : decode cX7_shifted 13 = .ok (.iaload, 1) := by decide +kernel
theorem dX7_shifted_14 : decode cX7_shifted 14 = .ok (.iadd, 1) := by decide +kernel
theorem dX7_shifted_15 : decode cX7_shifted 15 = .ok (.aload_n 0, 1) := by decide +kernel
theorem dX7_shifted_16 : decode cX7_shifted 16 = .ok (.getfield 7, 3) := by decide +kernel
theorem dX7_shifted_19 : decode cX7_shifted 19 = .ok (.iconst 1, 1) := by decide +kernel
theorem dX7_shifted_20 : decode cX7_shifted 20 = .ok (.iaload, 1) := by decide +kernel
theorem dX7_shifted_21 : decode cX7_shifted 21 = .ok (.irem, 1) := by decide +kernel
theorem dX7_shifted_22 : decode cX7_shifted 22 = .ok (.iadd, 1) := by decide +kernel
theorem dX7_shifted_23 : decode cX7_shifted 23 = .ok (.iaload, 1) := by decide +kernel
theorem dX7_shifted_24 : decode cX7_shifted 24 = .ok (.ireturn, 1) := by decide +kernel
theorem dX7_shift_0 : decode cX7_shift 0 = .ok (.aload_n 0, 1) := by decide +kernel
theorem dX7_shift_1 : decode cX7_shift 1 = .ok (.iload_n 1, 1) := by decide +kernel
theorem dX7_shift_2 : decode cX7_shift 2 = .ok (.invokevirtual 162, 3) := by decide +kernel
theorem dX7_shift_5 : decode cX7_shift 5 = .ok (.ifCond .ne 5, 3) := by decide +kernel
theorem dX7_shift_8 : decode cX7_shift 8 = .ok (.iconst (-1), 1) := by decide +kernel
theorem dX7_shift_9 : decode cX7_shift 9 = .ok (.ireturn, 1) := by decide +kernel
theorem dX7_shift_10 : decode cX7_shift 10 = .ok (.aload_n 0, 1) := by decide +kernel
theorem dX7_shift_11 : decode cX7_shift 11 = .ok (.invokevirtual 169, 3) := by decide +kernel
theorem dX7_shift_14 : decode cX7_shift 14 = .ok (.iconst 0, 1) := by decide +kernel
theorem dX7_shift_15 : decode cX7_shift 15 = .ok (.istore_n 2, 1) := by decide +kernel
theorem dX7_shift_16 : decode cX7_shift 16 = .ok (.iload_n 2, 1) := by decide +kernel
theorem dX7_shift_17 : decode cX7_shift 17 = .ok (.aload_n 0, 1) := by decide +kernel
theorem dX7_shift_18 : decode cX7_shift 18 = .ok (.getfield 7, 3) := by decide +kernel
theorem dX7_shift_21 : decode cX7_shift 21 = .ok (.iconst 1, 1) := by decide +kernel
theorem dX7_shift_22 : decode cX7_shift 22 = .ok (.iaload, 1) := by decide +kernel
theorem dX7_shift_23 : decode cX7_shift 23 = .ok (.if_icmp .ge 21, 3) := by decide +kernel
theorem dX7_shift_26 : decode cX7_shift 26 = .ok (.aload_n 0, 1) := by decide +kernel
theorem dX7_shift_27 : decode cX7_shift 27 = .ok (.getfield 43, 3) := by decide +kernel
theorem dX7_shift_30 : decode cX7_shift 30 = .ok (.iload_n 2, 1) := by decide +kernel
theorem dX7_shift_31 : decode cX7_shift 31 = .ok (.aload_n 0, 1) := by decide +kernel
theorem dX7_shift_32 : decode cX7_shift 32 = .ok (.iload_n 2, 1) := by decide +kernel
theorem dX7_shift_33 : decode cX7_shift 33 = .ok (.iload_n 1, 1) := by decide +kernel
theorem dX7_shift_34 : decode cX7_shift 34 = .ok (.invokevirtual 176, 3) := by decide +kernel
theorem dX7_shift_37 : decode cX7_shift 37 = .ok (.iastore, 1) := by decide +kernel
theorem dX7_shift_38 : decode cX7_shift 38 = .ok (.iinc 2 1, 3) := by decide +kernel
theorem dX7_shift_41 : decode cX7_shift 41 = .ok (.goto (-25), 3) := by decide +kernel
theorem dX7_shift_44 : decode cX7_shift 44 = .ok (.iconst 0, 1) := by decide +kernel
theorem dX7_shift_45 : decode cX7_shift 45 = .ok (.istore_n 2, 1) := by decide +kernel
theorem dX7_shift_46 : decode cX7_shift 46 = .ok (.iload_n 2, 1) := by decide +kernel
theorem dX7_shift_47 : decode cX7_shift 47 = .ok (.aload_n 0, 1) := by decide +kernel
theorem dX7_shift_48 : decode cX7_shift 48 = .ok (.getfield 7, 3) := by decide +kernel
theorem dX7_shift_51 : decode cX7_shift 51 = .ok (.iconst 1, 1) := by decide +kernel
theorem dX7_shift_52 : decode cX7_shift 52 = .ok (.iaload, 1) := by decide +kernel
theorem dX7_shift_53 : decode cX7_shift 53 = .ok (.if_icmp .ge 23, 3) := by decide +kernel
theorem dX7_shift_56 : decode cX7_shift 56 = .ok (.aload_n 0, 1) := by decide +kernel
theorem dX7_shift_57 : decode cX7_shift 57 = .ok (.getfield 19, 3) := by decide +kernel
theorem dX7_shift_60 : decode cX7_shift 60 = .ok (.iconst 2, 1) := by decide +kernel
theorem dX7_shift_61 : decode cX7_shift 61 = .ok (.iload_n 2, 1) := by decide +kernel
theorem dX7_shift_62 : decode cX7_shift 62 = .ok (.iadd, 1) := by decide +kernel
theorem dX7_shift_63 : decode cX7_shift 63 = .ok (.aload_n 0, 1) := by decide +kernel
theorem dX7_shift_64 : decode cX7_shift 64 = .ok (.getfield 43, 3) := by decide +kernel
theorem dX7_shift_67 : decode cX7_shift 67 = .ok (.iload_n 2, 1) := by decide +kernel
theorem dX7_shift_68 : decode cX7_shift 68 = .ok (.iaload, 1) := by decide +kernel
theorem dX7_shift_69 : decode cX7_shift 69 = .ok (.iastore, 1) := by decide +kernel
theorem dX7_shift_70 : decode cX7_shift 70 = .ok (.iinc 2 1, 3) := by decide +kernel
theorem dX7_shift_73 : decode cX7_shift 73 = .ok (.goto (-27), 3) := by decide +kernel
theorem dX7_shift_76 : decode cX7_shift 76 = .ok (.aload_n 0, 1) := by decide +kernel
theorem dX7_shift_77 : decode cX7_shift 77 = .ok (.getfield 19, 3) := by decide +kernel
theorem dX7_shift_80 : decode cX7_shift 80 = .ok (.iconst 2, 1) := by decide +kernel
theorem dX7_shift_81 : decode cX7_shift 81 = .ok (.iaload, 1) := by decide +kernel
theorem dX7_shift_82 : decode cX7_shift 82 = .ok (.ireturn, 1) := by decide +kernel
theorem dX7_undo_0 : decode cX7_undo 0 = .ok (.aload_n 0, 1) := by decide +kernel
theorem dX7_undo_1 : decode cX7_undo 1 = .ok (.getfield 143, 3) := by decide +kernel
theorem dX7_undo_4 : decode cX7_undo 4 = .ok (.ifCond .ne 6, 3) := by decide +kernel
theorem dX7_undo_7 : decode cX7_undo 7 = .ok (.bipush (-2), 2) := by decide +kernel
theorem dX7_undo_9 : decode cX7_undo 9 = .ok (.ireturn, 1) := by decide +kernel
theorem dX7_undo_10 : decode cX7_undo 10 = .ok (.aload_n 0, 1) := by decide +kernel
theorem dX7_undo_11 : decode cX7_undo 11 = .ok (.dup, 1) := by decide +kernel
theorem dX7_undo_12 : decode cX7_undo 12 = .ok (.getfield 143, 3) := by decide +kernel
theorem dX7_undo_15 : decode cX7_undo 15 = .ok (.iconst 1, 1) := by decide +kernel
theorem dX7_undo_16 : decode cX7_undo 16 = .ok (.isub, 1) := by decide +kernel
theorem dX7_undo_17 : decode cX7_undo 17 = .ok (.putfield 143, 3) := by decide +kernel
theorem dX7_undo_20 : decode cX7_undo 20 = .ok (.aload_n 0, 1) := by decide +kernel
theorem dX7_undo_21 : decode cX7_undo 21 = .ok (.getfield 22, 3) := by decide +kernel
theorem dX7_undo_24 : decode cX7_undo 24 = .ok (.bipush 66, 2) := by decide +kernel
theorem dX7_undo_26 : decode cX7_undo 26 = .ok (.aload_n 0, 1) := by decide +kernel
theorem dX7_undo_27 : decode cX7_undo 27 = .ok (.getfield 143, 3) := by decide +kernel
theorem dX7_undo_30 : decode cX7_undo 30 = .ok (.imul, 1) := by decide +kernel
theorem dX7_undo_31 : decode cX7_undo 31 = .ok (.aload_n 0, 1) := by decide +kernel
theorem dX7_undo_32 : decode cX7_undo 32 = .ok (.getfield 19, 3) := by decide +kernel
theorem dX7_undo_35 : decode cX7_undo 35 = .ok (.iconst 0, 1) := by decide +kernel
theorem dX7_undo_36 : decode cX7_undo 36 = .ok (.invokestatic 165, 3) := by decide +kernel
theorem dX7_undo_39 : decode cX7_undo 39 = .ok (.aload_n 0, 1) := by decide +kernel
theorem dX7_undo_40 : decode cX7_undo 40 = .ok (.getfield 143, 3) := by decide +kernel
theorem dX7_undo_43 : decode cX7_undo 43 = .ok (.ireturn, 1) := by decide +kernel
theorem dX7_sumOf_0 : decode cX7_sumOf 0 = .ok (.iconst 0, 1) := by decide +kernel
theorem dX7_sumOf_1 : decode cX7_sumOf 1 = .ok (.istore_n 2, 1) := by decide +kernel
theorem dX7_sumOf_2 : decode cX7_sumOf 2 = .ok (.iconst 0, 1) := by decide +kernel
theorem dX7_sumOf_3 : decode cX7_sumOf 3 = .ok (.istore_n 3, 1) := by decide +kernel
theorem dX7_sumOf_4 : decode cX7_sumOf 4 = .ok (.iload_n 3, 1) := by decide +kernel
theorem dX7_sumOf_5 : decode cX7_sumOf 5 = .ok (.aload_n 0, 1) := by decide +kernel
theorem dX7_sumOf_6 : decode cX7_sumOf 6 = .ok (.getfield 7, 3) := by decide +kernel
theorem dX7_sumOf_9 : decode cX7_sumOf 9 = .ok (.iconst 0, 1) := by decide +kernel
theorem dX7_sumOf_10 : decode cX7_sumOf 10 = .ok (.iaload, 1) := by decide +kernel
theorem dX7_sumOf_11 : decode cX7_sumOf 11 = .ok (.if_icmp .ge 20, 3) := by decide +kernel
theorem dX7_sumOf_14 : decode cX7_sumOf 14 = .ok (.iload_n 2, 1) := by decide +kernel
theorem dX7_sumOf_15 : decode cX7_sumOf 15 = .ok (.aload_n 0, 1) := by decide +kernel
theorem dX7_sumOf_16 : decode cX7_sumOf 16 = .ok (.getfield 46, 3) := by decide +kernel
theorem dX7_sumOf_19 : decode cX7_sumOf 19 = .ok (.iload_n 1, 1) := by decide +kernel
theorem dX7_sumOf_20 : decode cX7_sumOf 20 = .ok (.iload_n 3, 1) := by decide +kernel
theorem dX7_sumOf_21 : decode cX7_sumOf 21 = .ok (.iadd, 1) := by decide +kernel
theorem dX7_sumOf_22 : decode cX7_sumOf 22 = .ok (.iaload, 1) := by decide +kernel
theorem dX7_sumOf_23 : decode cX7_sumOf 23 = .ok (.iadd, 1) := by decide +kernel
theorem dX7_sumOf_24 : decode cX7_sumOf 24 = .ok (.istore_n 2, 1) := by decide +kernel
theorem dX7_sumOf_25 : decode cX7_sumOf 25 = .ok (.iinc 3 1, 3) := by decide +kernel
theorem dX7_sumOf_28 : decode cX7_sumOf 28 = .ok (.goto (-24), 3) := by decide +kernel
theorem dX7_sumOf_31 : decode cX7_sumOf 31 = .ok (.iload_n 2, 1) := by decide +kernel
theorem dX7_sumOf_32 : decode cX7_sumOf 32 = .ok (.ireturn, 1) := by decide +kernel
theorem dX7_go_0 : decode cX7_go 0 = .ok (.iconst 0, 1) := by decide +kernel
theorem dX7_go_1 : decode cX7_go 1 = .ok (.istore_n 2, 1) := by decide +kernel
theorem dX7_go_2 : decode cX7_go 2 = .ok (.iload_n 2, 1) := by decide +kernel
theorem dX7_go_3 : decode cX7_go 3 = .ok (.iload_n 1, 1) := by decide +kernel
theorem dX7_go_4 : decode cX7_go 4 = .ok (.if_icmp .ge 18, 3) := by decide +kernel
theorem dX7_go_7 : decode cX7_go 7 = .ok (.aload_n 0, 1) := by decide +kernel
theorem dX7_go_8 : decode cX7_go 8 = .ok (.aload_n 0, 1) := by decide +kernel
theorem dX7_go_9 : decode cX7_go 9 = .ok (.getfield 46, 3) := by decide +kernel
theorem dX7_go_12 : decode cX7_go 12 = .ok (.invokevirtual 172, 3) := by decide +kernel
theorem dX7_go_15 : decode cX7_go 15 = .ok (.istore_n 3, 1) := by decide +kernel
theorem dX7_go_16 : decode cX7_go 16 = .ok (.iinc 2 1, 3) := by decide +kernel
theorem dX7_go_19 : decode cX7_go 19 = .ok (.goto (-17), 3) := by decide +kernel
theorem dX7_go_22 : decode cX7_go 22 = .ok (.return_, 1) := by decide +kernel
theorem dX7_whole_0 : decode cX7_whole 0 = .ok (.iload_n 1, 1) := by decide +kernel
theorem dX7_whole_1 : decode cX7_whole 1 = .ok (.i2l, 1) := by decide +kernel
theorem dX7_whole_2 : decode cX7_whole 2 = .ok (.lconst 0, 1) := by decide +kernel
theorem dX7_whole_3 : decode cX7_whole 3 = .ok (.ldc2_w 103, 3) := by decide +kernel
theorem dX7_whole_6 : decode cX7_whole 6 = .ok (.invokestatic 73, 3) := by decide +kernel
theorem dX7_whole_9 : decode cX7_whole 9 = .ok (.ifCond .ne 5, 3) := by decide +kernel
theorem dX7_whole_12 : decode cX7_whole 12 = .ok (.iconst (-1), 1) := by decide +kernel
theorem dX7_whole_13 : decode cX7_whole 13 = .ok (.ireturn, 1) := by decide +kernel
theorem dX7_whole_14 : decode cX7_whole 14 = .ok (.aload_n 0, 1) := by decide +kernel
theorem dX7_whole_15 : decode cX7_whole 15 = .ok (.getfield 19, 3) := by decide +kernel
theorem dX7_whole_18 : decode cX7_whole 18 = .ok (.iconst 0, 1) := by decide +kernel
theorem dX7_whole_19 : decode cX7_whole 19 = .ok (.aload_n 0, 1) := by decide +kernel
theorem dX7_whole_20 : decode cX7_whole 20 = .ok (.getfield 46, 3) := by decide +kernel
theorem dX7_whole_23 : decode cX7_whole 23 = .ok (.iconst 0, 1) := by decide +kernel
theorem dX7_whole_24 : decode cX7_whole 24 = .ok (.invokestatic 165, 3) := by decide +kernel
theorem dX7_whole_27 : decode cX7_whole 27 = .ok (.aload_n 0, 1) := by decide +kernel
theorem dX7_whole_28 : decode cX7_whole 28 = .ok (.iload_n 1, 1) := by decide +kernel
theorem dX7_whole_29 : decode cX7_whole 29 = .ok (.iconst 2, 1) := by decide +kernel
theorem dX7_whole_30 : decode cX7_whole 30 = .ok (.if_icmp .ne 15, 3) := by decide +kernel
theorem dX7_whole_33 : decode cX7_whole 33 = .ok (.bipush 8, 2) := by decide +kernel
theorem dX7_whole_35 : decode cX7_whole 35 = .ok (.aload_n 0, 1) := by decide +kernel
theorem dX7_whole_36 : decode cX7_whole 36 = .ok (.getfield 7, 3) := by decide +kernel
theorem dX7_whole_39 : decode cX7_whole 39 = .ok (.iconst 1, 1) := by decide +kernel
theorem dX7_whole_40 : decode cX7_whole 40 = .ok (.iaload, 1) := by decide +kernel
theorem dX7_whole_41 : decode cX7_whole 41 = .ok (.imul, 1) := by decide +kernel
theorem dX7_whole_42 : decode cX7_whole 42 = .ok (.goto 4, 3) := by decide +kernel
theorem dX7_whole_45 : decode cX7_whole 45 = .ok (.iconst 0, 1) := by decide +kernel
theorem dX7_whole_46 : decode cX7_whole 46 = .ok (.invokevirtual 180, 3) := by decide +kernel
theorem dX7_whole_49 : decode cX7_whole 49 = .ok (.iload_n 1, 1) := by decide +kernel
theorem dX7_whole_50 : decode cX7_whole 50 = .ok (.ifCond .ne 8, 3) := by decide +kernel
theorem dX7_whole_53 : decode cX7_whole 53 = .ok (.bipush 50, 2) := by decide +kernel
theorem dX7_whole_55 : decode cX7_whole 55 = .ok (.goto 5, 3) := by decide +kernel
theorem dX7_whole_58 : decode cX7_whole 58 = .ok (.bipush 58, 2) := by decide +kernel
theorem dX7_whole_60 : decode cX7_whole 60 = .ok (.istore_n 2, 1) := by decide +kernel
theorem dX7_whole_61 : decode cX7_whole 61 = .ok (.aload_n 0, 1) := by decide +kernel
theorem dX7_whole_62 : decode cX7_whole 62 = .ok (.iload_n 2, 1) := by decide +kernel
theorem dX7_whole_63 : decode cX7_whole 63 = .ok (.invokevirtual 184, 3) := by decide +kernel
theorem dX7_whole_66 : decode cX7_whole 66 = .ok (.istore_n 3, 1) := by decide +kernel
theorem dX7_whole_67 : decode cX7_whole 67 = .ok (.aload_n 0, 1) := by decide +kernel
theorem dX7_whole_68 : decode cX7_whole 68 = .ok (.aload_n 0, 1) := by decide +kernel
theorem dX7_whole_69 : decode cX7_whole 69 = .ok (.getfield 7, 3) := by decide +kernel
theorem dX7_whole_72 : decode cX7_whole 72 = .ok (.iconst 1, 1) := by decide +kernel
theorem dX7_whole_73 : decode cX7_whole 73 = .ok (.iaload, 1) := by decide +kernel
theorem dX7_whole_74 : decode cX7_whole 74 = .ok (.invokevirtual 180, 3) := by decide +kernel
theorem dX7_whole_77 : decode cX7_whole 77 = .ok (.aload_n 0, 1) := by decide +kernel
theorem dX7_whole_78 : decode cX7_whole 78 = .ok (.iload_n 2, 1) := by decide +kernel
theorem dX7_whole_79 : decode cX7_whole 79 = .ok (.invokevirtual 184, 3) := by decide +kernel
theorem dX7_whole_82 : decode cX7_whole 82 = .ok (.iload_n 3, 1) := by decide +kernel
theorem dX7_whole_83 : decode cX7_whole 83 = .ok (.isub, 1) := by decide +kernel
theorem dX7_whole_84 : decode cX7_whole 84 = .ok (.ireturn, 1) := by decide +kernel
theorem dX7_silence_0 : decode cX7_silence 0 = .ok (.iconst 0, 1) := by decide +kernel
theorem dX7_silence_1 : decode cX7_silence 1 = .ok (.istore_n 1, 1) := by decide +kernel
theorem dX7_silence_2 : decode cX7_silence 2 = .ok (.iconst 0, 1) := by decide +kernel
theorem dX7_silence_3 : decode cX7_silence 3 = .ok (.istore_n 2, 1) := by decide +kernel
theorem dX7_silence_4 : decode cX7_silence 4 = .ok (.iconst 0, 1) := by decide +kernel
theorem dX7_silence_5 : decode cX7_silence 5 = .ok (.istore_n 3, 1) := by decide +kernel
theorem dX7_silence_6 : decode cX7_silence 6 = .ok (.iload_n 3, 1) := by decide +kernel
theorem dX7_silence_7 : decode cX7_silence 7 = .ok (.iconst 2, 1) := by decide +kernel
theorem dX7_silence_8 : decode cX7_silence 8 = .ok (.aload_n 0, 1) := by decide +kernel
theorem dX7_silence_9 : decode cX7_silence 9 = .ok (.getfield 7, 3) := by decide +kernel
theorem dX7_silence_12 : decode cX7_silence 12 = .ok (.iconst 1, 1) := by decide +kernel
theorem dX7_silence_13 : decode cX7_silence 13 = .ok (.iaload, 1) := by decide +kernel
theorem dX7_silence_14 : decode cX7_silence 14 = .ok (.imul, 1) := by decide +kernel
theorem dX7_silence_15 : decode cX7_silence 15 = .ok (.if_icmp .ge 46, 3) := by decide +kernel
theorem dX7_silence_18 : decode cX7_silence 18 = .ok (.aload_n 0, 1) := by decide +kernel
theorem dX7_silence_19 : decode cX7_silence 19 = .ok (.getfield 19, 3) := by decide +kernel
theorem dX7_silence_22 : decode cX7_silence 22 = .ok (.iconst 2, 1) := by decide +kernel
theorem dX7_silence_23 : decode cX7_silence 23 = .ok (.iload_n 3, 1) := by decide +kernel
theorem dX7_silence_24 : decode cX7_silence 24 = .ok (.aload_n 0, 1) := by decide +kernel
theorem dX7_silence_25 : decode cX7_silence 25 = .ok (.getfield 7, 3) := by decide +kernel
theorem dX7_silence_28 : decode cX7_silence 28 = .ok (.iconst 1, 1) := by decide +kernel
theorem dX7_silence_29 : decode cX7_silence 29 = .ok (.iaload, 1) := by decide +kernel
theorem dX7_silence_30 : decode cX7_silence 30 = .ok (.irem, 1) := by decide +kernel
theorem dX7_silence_31 : decode cX7_silence 31 = .ok (.iadd, 1) := by decide +kernel
theorem dX7_silence_32 : decode cX7_silence 32 = .ok (.iaload, 1) := by decide +kernel
theorem dX7_silence_33 : decode cX7_silence 33 = .ok (.ifCond .ne 9, 3) := by decide +kernel
theorem dX7_silence_36 : decode cX7_silence 36 = .ok (.iload_n 2, 1) := by decide +kernel
theorem dX7_silence_37 : decode cX7_silence 37 = .ok (.iconst 1, 1) := by decide +kernel
theorem dX7_silence_38 : decode cX7_silence 38 = .ok (.iadd, 1) := by decide +kernel
theorem dX7_silence_39 : decode cX7_silence 39 = .ok (.goto 4, 3) := by decide +kernel
theorem dX7_silence_42 : decode cX7_silence 42 = .ok (.iconst 0, 1) := by decide +kernel
theorem dX7_silence_43 : decode cX7_silence 43 = .ok (.istore_n 2, 1) := by decide +kernel
theorem dX7_silence_44 : decode cX7_silence 44 = .ok (.iload_n 2, 1) := by decide +kernel
theorem dX7_silence_45 : decode cX7_silence 45 = .ok (.iload_n 1, 1) := by decide +kernel
theorem dX7_silence_46 : decode cX7_silence 46 = .ok (.if_icmp .le 7, 3) := by decide +kernel
theorem dX7_silence_49 : decode cX7_silence 49 = .ok (.iload_n 2, 1) := by decide +kernel
theorem dX7_silence_50 : decode cX7_silence 50 = .ok (.goto 4, 3) := by decide +kernel
theorem dX7_silence_53 : decode cX7_silence 53 = .ok (.iload_n 1, 1) := by decide +kernel
theorem dX7_silence_54 : decode cX7_silence 54 = .ok (.istore_n 1, 1) := by decide +kernel
theorem dX7_silence_55 : decode cX7_silence 55 = .ok (.iinc 3 1, 3) := by decide +kernel
theorem dX7_silence_58 : decode cX7_silence 58 = .ok (.goto (-52), 3) := by decide +kernel
theorem dX7_silence_61 : decode cX7_silence 61 = .ok (.iload_n 1, 1) := by decide +kernel
theorem dX7_silence_62 : decode cX7_silence 62 = .ok (.aload_n 0, 1) := by decide +kernel
theorem dX7_silence_63 : decode cX7_silence 63 = .ok (.getfield 7, 3) := by decide +kernel
theorem dX7_silence_66 : decode cX7_silence 66 = .ok (.iconst 1, 1) := by decide +kernel
theorem dX7_silence_67 : decode cX7_silence 67 = .ok (.iaload, 1) := by decide +kernel
theorem dX7_silence_68 : decode cX7_silence 68 = .ok (.if_icmp .le 12, 3) := by decide +kernel
theorem dX7_silence_71 : decode cX7_silence 71 = .ok (.aload_n 0, 1) := by decide +kernel
theorem dX7_silence_72 : decode cX7_silence 72 = .ok (.getfield 7, 3) := by decide +kernel
theorem dX7_silence_75 : decode cX7_silence 75 = .ok (.iconst 1, 1) := by decide +kernel
theorem dX7_silence_76 : decode cX7_silence 76 = .ok (.iaload, 1) := by decide +kernel
theorem dX7_silence_77 : decode cX7_silence 77 = .ok (.goto 4, 3) := by decide +kernel
theorem dX7_silence_80 : decode cX7_silence 80 = .ok (.iload_n 1, 1) := by decide +kernel
theorem dX7_silence_81 : decode cX7_silence 81 = .ok (.ireturn, 1) := by decide +kernel
theorem dX7_again_0 : decode cX7_again 0 = .ok (.iconst 1, 1) := by decide +kernel
theorem dX7_again_1 : decode cX7_again 1 = .ok (.istore_n 1, 1) := by decide +kernel
theorem dX7_again_2 : decode cX7_again 2 = .ok (.aload_n 0, 1) := by decide +kernel
theorem dX7_again_3 : decode cX7_again 3 = .ok (.iload_n 1, 1) := by decide +kernel
theorem dX7_again_4 : decode cX7_again 4 = .ok (.invokevirtual 187, 3) := by decide +kernel
theorem dX7_again_7 : decode cX7_again 7 = .ok (.ifCond .ne 9, 3) := by decide +kernel
theorem dX7_again_10 : decode cX7_again 10 = .ok (.iinc 1 1, 3) := by decide +kernel
theorem dX7_again_13 : decode cX7_again 13 = .ok (.goto (-11), 3) := by decide +kernel
theorem dX7_again_16 : decode cX7_again 16 = .ok (.iload_n 1, 1) := by decide +kernel
theorem dX7_again_17 : decode cX7_again 17 = .ok (.ireturn, 1) := by decide +kernel
theorem dX7_comesAgain_0 : decode cX7_comesAgain 0 = .ok (.iconst 1, 1) := by decide +kernel
theorem dX7_comesAgain_1 : decode cX7_comesAgain 1 = .ok (.istore_n 2, 1) := by decide +kernel
theorem dX7_comesAgain_2 : decode cX7_comesAgain 2 = .ok (.iconst 0, 1) := by decide +kernel
theorem dX7_comesAgain_3 : decode cX7_comesAgain 3 = .ok (.istore_n 3, 1) := by decide +kernel
theorem dX7_comesAgain_4 : decode cX7_comesAgain 4 = .ok (.iload_n 3, 1) := by decide +kernel
theorem dX7_comesAgain_5 : decode cX7_comesAgain 5 = .ok (.aload_n 0, 1) := by decide +kernel
theorem dX7_comesAgain_6 : decode cX7_comesAgain 6 = .ok (.getfield 7, 3) := by decide +kernel
theorem dX7_comesAgain_9 : decode cX7_comesAgain 9 = .ok (.iconst 1, 1) := by decide +kernel
theorem dX7_comesAgain_10 : decode cX7_comesAgain 10 = .ok (.iaload, 1) := by decide +kernel
theorem dX7_comesAgain_11 : decode cX7_comesAgain 11 = .ok (.if_icmp .ge 43, 3) := by decide +kernel
theorem dX7_comesAgain_14 : decode cX7_comesAgain 14 = .ok (.iload_n 2, 1) := by decide +kernel
theorem dX7_comesAgain_15 : decode cX7_comesAgain 15 = .ok (.ifCond .eq 31, 3) := by decide +kernel
theorem dX7_comesAgain_18 : decode cX7_comesAgain 18 = .ok (.aload_n 0, 1) := by decide +kernel
theorem dX7_comesAgain_19 : decode cX7_comesAgain 19 = .ok (.iload_n 3, 1) := by decide +kernel
theorem dX7_comesAgain_20 : decode cX7_comesAgain 20 = .ok (.iload_n 1, 1) := by decide +kernel
theorem dX7_comesAgain_21 : decode cX7_comesAgain 21 = .ok (.aload_n 0, 1) := by decide +kernel
theorem dX7_comesAgain_22 : decode cX7_comesAgain 22 = .ok (.getfield 7, 3) := by decide +kernel
theorem dX7_comesAgain_25 : decode cX7_comesAgain 25 = .ok (.iconst 1, 1) := by decide +kernel
theorem dX7_comesAgain_26 : decode cX7_comesAgain 26 = .ok (.iaload, 1) := by decide +kernel
theorem dX7_comesAgain_27 : decode cX7_comesAgain 27 = .ok (.irem, 1) := by decide +kernel
theorem dX7_comesAgain_28 : decode cX7_comesAgain 28 = .ok (.invokevirtual 176, 3) := by decide +kernel
theorem dX7_comesAgain_31 : decode cX7_comesAgain 31 = .ok (.aload_n 0, 1) := by decide +kernel
theorem dX7_comesAgain_32 : decode cX7_comesAgain 32 = .ok (.getfield 19, 3) := by decide +kernel
theorem dX7_comesAgain_35 : decode cX7_comesAgain 35 = .ok (.iconst 2, 1) := by decide +kernel
theorem dX7_comesAgain_36 : decode cX7_comesAgain 36 = .ok (.iload_n 3, 1) := by decide +kernel
theorem dX7_comesAgain_37 : decode cX7_comesAgain 37 = .ok (.iadd, 1) := by decide +kernel
theorem dX7_comesAgain_38 : decode cX7_comesAgain 38 = .ok (.iaload, 1) := by decide +kernel
theorem dX7_comesAgain_39 : decode cX7_comesAgain 39 = .ok (.if_icmp .ne 7, 3) := by decide +kernel
theorem dX7_comesAgain_42 : decode cX7_comesAgain 42 = .ok (.iconst 1, 1) := by decide +kernel
theorem dX7_comesAgain_43 : decode cX7_comesAgain 43 = .ok (.goto 4, 3) := by decide +kernel
theorem dX7_comesAgain_46 : decode cX7_comesAgain 46 = .ok (.iconst 0, 1) := by decide +kernel
theorem dX7_comesAgain_47 : decode cX7_comesAgain 47 = .ok (.istore_n 2, 1) := by decide +kernel
theorem dX7_comesAgain_48 : decode cX7_comesAgain 48 = .ok (.iinc 3 1, 3) := by decide +kernel
theorem dX7_comesAgain_51 : decode cX7_comesAgain 51 = .ok (.goto (-47), 3) := by decide +kernel
theorem dX7_comesAgain_54 : decode cX7_comesAgain 54 = .ok (.iload_n 2, 1) := by decide +kernel
theorem dX7_comesAgain_55 : decode cX7_comesAgain 55 = .ok (.ireturn, 1) := by decide +kernel
theorem dX7_isIll_0 : decode cX7_isIll 0 = .ok (.aload_n 0, 1) := by decide +kernel
theorem dX7_isIll_1 : decode cX7_isIll 1 = .ok (.getfield 7, 3) := by decide +kernel
theorem dX7_isIll_4 : decode cX7_isIll 4 = .ok (.iconst 3, 1) := by decide +kernel
theorem dX7_isIll_5 : decode cX7_isIll 5 = .ok (.iload_n 1, 1) := by decide +kernel
theorem dX7_isIll_6 : decode cX7_isIll 6 = .ok (.iadd, 1) := by decide +kernel
theorem dX7_isIll_7 : decode cX7_isIll 7 = .ok (.iaload, 1) := by decide +kernel
theorem dX7_isIll_8 : decode cX7_isIll 8 = .ok (.aload_n 0, 1) := by decide +kernel
theorem dX7_isIll_9 : decode cX7_isIll 9 = .ok (.getfield 7, 3) := by decide +kernel
theorem dX7_isIll_12 : decode cX7_isIll 12 = .ok (.iconst 3, 1) := by decide +kernel
theorem dX7_isIll_13 : decode cX7_isIll 13 = .ok (.iload_n 2, 1) := by decide +kernel
theorem dX7_isIll_14 : decode cX7_isIll 14 = .ok (.iadd, 1) := by decide +kernel
theorem dX7_isIll_15 : decode cX7_isIll 15 = .ok (.iaload, 1) := by decide +kernel
theorem dX7_isIll_16 : decode cX7_isIll 16 = .ok (.isub, 1) := by decide +kernel
theorem dX7_isIll_17 : decode cX7_isIll 17 = .ok (.istore_n 3, 1) := by decide +kernel
theorem dX7_isIll_18 : decode cX7_isIll 18 = .ok (.iload_n 3, 1) := by decide +kernel
theorem dX7_isIll_19 : decode cX7_isIll 19 = .ok (.ifCond .ge 8, 3) := by decide +kernel
theorem dX7_isIll_22 : decode cX7_isIll 22 = .ok (.iload_n 3, 1) := by decide +kernel
theorem dX7_isIll_23 : decode cX7_isIll 23 = .ok (.ineg, 1) := by decide +kernel
theorem dX7_isIll_24 : decode cX7_isIll 24 = .ok (.goto 4, 3) := by decide +kernel
theorem dX7_isIll_27 : decode cX7_isIll 27 = .ok (.iload_n 3, 1) := by decide +kernel
theorem dX7_isIll_28 : decode cX7_isIll 28 = .ok (.bipush 12, 2) := by decide +kernel
theorem dX7_isIll_30 : decode cX7_isIll 30 = .ok (.irem, 1) := by decide +kernel
theorem dX7_isIll_31 : decode cX7_isIll 31 = .ok (.istore_n 3, 1) := by decide +kernel
theorem dX7_isIll_32 : decode cX7_isIll 32 = .ok (.iload_n 3, 1) := by decide +kernel
theorem dX7_isIll_33 : decode cX7_isIll 33 = .ok (.iconst 1, 1) := by decide +kernel
theorem dX7_isIll_34 : decode cX7_isIll 34 = .ok (.if_icmp .eq 26, 3) := by decide +kernel
theorem dX7_isIll_37 : decode cX7_isIll 37 = .ok (.iload_n 3, 1) := by decide +kernel
theorem dX7_isIll_38 : decode cX7_isIll 38 = .ok (.iconst 2, 1) := by decide +kernel
theorem dX7_isIll_39 : decode cX7_isIll 39 = .ok (.if_icmp .eq 21, 3) := by decide +kernel
theorem dX7_isIll_42 : decode cX7_isIll 42 = .ok (.iload_n 3, 1) := by decide +kernel
theorem dX7_isIll_43 : decode cX7_isIll 43 = .ok (.bipush 6, 2) := by decide +kernel
theorem dX7_isIll_45 : decode cX7_isIll 45 = .ok (.if_icmp .eq 15, 3) := by decide +kernel
theorem dX7_isIll_48 : decode cX7_isIll 48 = .ok (.iload_n 3, 1) := by decide +kernel
theorem dX7_isIll_49 : decode cX7_isIll 49 = .ok (.bipush 10, 2) := by decide +kernel
theorem dX7_isIll_51 : decode cX7_isIll 51 = .ok (.if_icmp .eq 9, 3) := by decide +kernel
theorem dX7_isIll_54 : decode cX7_isIll 54 = .ok (.iload_n 3, 1) := by decide +kernel
theorem dX7_isIll_55 : decode cX7_isIll 55 = .ok (.bipush 11, 2) := by decide +kernel
theorem dX7_isIll_57 : decode cX7_isIll 57 = .ok (.if_icmp .ne 7, 3) := by decide +kernel
theorem dX7_isIll_60 : decode cX7_isIll 60 = .ok (.iconst 1, 1) := by decide +kernel
theorem dX7_isIll_61 : decode cX7_isIll 61 = .ok (.goto 4, 3) := by decide +kernel
theorem dX7_isIll_64 : decode cX7_isIll 64 = .ok (.iconst 0, 1) := by decide +kernel
theorem dX7_isIll_65 : decode cX7_isIll 65 = .ok (.ireturn, 1) := by decide +kernel
theorem dX7_illOf_0 : decode cX7_illOf 0 = .ok (.iconst 0, 1) := by decide +kernel
theorem dX7_illOf_1 : decode cX7_illOf 1 = .ok (.istore_n 3, 1) := by decide +kernel
theorem dX7_illOf_2 : decode cX7_illOf 2 = .ok (.iconst 0, 1) := by decide +kernel
theorem dX7_illOf_3 : decode cX7_illOf 3 = .ok (.istore 4, 2) := by decide +kernel
theorem dX7_illOf_5 : decode cX7_illOf 5 = .ok (.iload 4, 2) := by decide +kernel
theorem dX7_illOf_7 : decode cX7_illOf 7 = .ok (.aload_n 0, 1) := by decide +kernel
theorem dX7_illOf_8 : decode cX7_illOf 8 = .ok (.getfield 7, 3) := by decide +kernel
theorem dX7_illOf_11 : decode cX7_illOf 11 = .ok (.iconst 0, 1) := by decide +kernel
theorem dX7_illOf_12 : decode cX7_illOf 12 = .ok (.iaload, 1) := by decide +kernel
theorem dX7_illOf_13 : decode cX7_illOf 13 = .ok (.if_icmp .ge 66, 3) := by decide +kernel
theorem dX7_illOf_16 : decode cX7_illOf 16 = .ok (.iconst 0, 1) := by decide +kernel
theorem dX7_illOf_17 : decode cX7_illOf 17 = .ok (.istore 5, 2) := by decide +kernel
theorem dX7_illOf_19 : decode cX7_illOf 19 = .ok (.iload 5, 2) := by decide +kernel
theorem dX7_illOf_21 : decode cX7_illOf 21 = .ok (.aload_n 0, 1) := by decide +kernel
theorem dX7_illOf_22 : decode cX7_illOf 22 = .ok (.getfield 7, 3) := by decide +kernel
theorem dX7_illOf_25 : decode cX7_illOf 25 = .ok (.iconst 0, 1) := by decide +kernel
theorem dX7_illOf_26 : decode cX7_illOf 26 = .ok (.iaload, 1) := by decide +kernel
theorem dX7_illOf_27 : decode cX7_illOf 27 = .ok (.if_icmp .ge 46, 3) := by decide +kernel
theorem dX7_illOf_30 : decode cX7_illOf 30 = .ok (.iload_n 3, 1) := by decide +kernel
theorem dX7_illOf_31 : decode cX7_illOf 31 = .ok (.iload_n 1, 1) := by decide +kernel
theorem dX7_illOf_32 : decode cX7_illOf 32 = .ok (.iload 4, 2) := by decide +kernel
theorem dX7_illOf_34 : decode cX7_illOf 34 = .ok (.invokestatic 152, 3) := by decide +kernel
theorem dX7_illOf_37 : decode cX7_illOf 37 = .ok (.ifCond .eq 27, 3) := by decide +kernel
theorem dX7_illOf_40 : decode cX7_illOf 40 = .ok (.iload_n 2, 1) := by decide +kernel
theorem dX7_illOf_41 : decode cX7_illOf 41 = .ok (.iload 5, 2) := by decide +kernel
theorem dX7_illOf_43 : decode cX7_illOf 43 = .ok (.invokestatic 152, 3) := by decide +kernel
theorem dX7_illOf_46 : decode cX7_illOf 46 = .ok (.ifCond .eq 18, 3) := by decide +kernel
theorem dX7_illOf_49 : decode cX7_illOf 49 = .ok (.aload_n 0, 1) := by decide +kernel
theorem dX7_illOf_50 : decode cX7_illOf 50 = .ok (.iload 4, 2) := by decide +kernel
theorem dX7_illOf_52 : decode cX7_illOf 52 = .ok (.iload 5, 2) := by decide +kernel
theorem dX7_illOf_54 : decode cX7_illOf 54 = .ok (.invokevirtual 190, 3) := by decide +kernel
theorem dX7_illOf_57 : decode cX7_illOf 57 = .ok (.ifCond .eq 7, 3) := by decide +kernel
theorem dX7_illOf_60 : decode cX7_illOf 60 = .ok (.iconst 1, 1) := by decide +kernel
theorem dX7_illOf_61 : decode cX7_illOf 61 = .ok (.goto 4, 3) := by decide +kernel
theorem dX7_illOf_64 : decode cX7_illOf 64 = .ok (.iconst 0, 1) := by decide +kernel
theorem dX7_illOf_65 : decode cX7_illOf 65 = .ok (.iadd, 1) := by decide +kernel
theorem dX7_illOf_66 : decode cX7_illOf 66 = .ok (.istore_n 3, 1) := by decide +kernel
theorem dX7_illOf_67 : decode cX7_illOf 67 = .ok (.iinc 5 1, 3) := by decide +kernel
theorem dX7_illOf_70 : decode cX7_illOf 70 = .ok (.goto (-51), 3) := by decide +kernel
theorem dX7_illOf_73 : decode cX7_illOf 73 = .ok (.iinc 4 1, 3) := by decide +kernel
theorem dX7_illOf_76 : decode cX7_illOf 76 = .ok (.goto (-71), 3) := by decide +kernel
theorem dX7_illOf_79 : decode cX7_illOf 79 = .ok (.iload_n 3, 1) := by decide +kernel
theorem dX7_illOf_80 : decode cX7_illOf 80 = .ok (.ireturn, 1) := by decide +kernel
theorem dX7_harsh_0 : decode cX7_harsh 0 = .ok (.iconst 0, 1) := by decide +kernel
theorem dX7_harsh_1 : decode cX7_harsh 1 = .ok (.istore_n 1, 1) := by decide +kernel
theorem dX7_harsh_2 : decode cX7_harsh 2 = .ok (.iconst 0, 1) := by decide +kernel
theorem dX7_harsh_3 : decode cX7_harsh 3 = .ok (.istore_n 2, 1) := by decide +kernel
theorem dX7_harsh_4 : decode cX7_harsh 4 = .ok (.iload_n 2, 1) := by decide +kernel
theorem dX7_harsh_5 : decode cX7_harsh 5 = .ok (.aload_n 0, 1) := by decide +kernel
theorem dX7_harsh_6 : decode cX7_harsh 6 = .ok (.getfield 7, 3) := by decide +kernel
theorem dX7_harsh_9 : decode cX7_harsh 9 = .ok (.iconst 1, 1) := by decide +kernel
theorem dX7_harsh_10 : decode cX7_harsh 10 = .ok (.iaload, 1) := by decide +kernel
theorem dX7_harsh_11 : decode cX7_harsh 11 = .ok (.if_icmp .ge 34, 3) := by decide +kernel
theorem dX7_harsh_14 : decode cX7_harsh 14 = .ok (.iload_n 1, 1) := by decide +kernel
theorem dX7_harsh_15 : decode cX7_harsh 15 = .ok (.aload_n 0, 1) := by decide +kernel
theorem dX7_harsh_16 : decode cX7_harsh 16 = .ok (.aload_n 0, 1) := by decide +kernel
theorem dX7_harsh_17 : decode cX7_harsh 17 = .ok (.getfield 19, 3) := by decide +kernel
theorem dX7_harsh_20 : decode cX7_harsh 20 = .ok (.iconst 2, 1) := by decide +kernel
theorem dX7_harsh_21 : decode cX7_harsh 21 = .ok (.iload_n 2, 1) := by decide +kernel
theorem dX7_harsh_22 : decode cX7_harsh 22 = .ok (.iadd, 1) := by decide +kernel
theorem dX7_harsh_23 : decode cX7_harsh 23 = .ok (.iaload, 1) := by decide +kernel
theorem dX7_harsh_24 : decode cX7_harsh 24 = .ok (.aload_n 0, 1) := by decide +kernel
theorem dX7_harsh_25 : decode cX7_harsh 25 = .ok (.getfield 19, 3) := by decide +kernel
theorem dX7_harsh_28 : decode cX7_harsh 28 = .ok (.iconst 2, 1) := by decide +kernel
theorem dX7_harsh_29 : decode cX7_harsh 29 = .ok (.iload_n 2, 1) := by decide +kernel
theorem dX7_harsh_30 : decode cX7_harsh 30 = .ok (.iadd, 1) := by decide +kernel
theorem dX7_harsh_31 : decode cX7_harsh 31 = .ok (.iaload, 1) := by decide +kernel
theorem dX7_harsh_32 : decode cX7_harsh 32 = .ok (.invokevirtual 193, 3) := by decide +kernel
theorem dX7_harsh_35 : decode cX7_harsh 35 = .ok (.iconst 2, 1) := by decide +kernel
theorem dX7_harsh_36 : decode cX7_harsh 36 = .ok (.idiv, 1) := by decide +kernel
theorem dX7_harsh_37 : decode cX7_harsh 37 = .ok (.iadd, 1) := by decide +kernel
theorem dX7_harsh_38 : decode cX7_harsh 38 = .ok (.istore_n 1, 1) := by decide +kernel
theorem dX7_harsh_39 : decode cX7_harsh 39 = .ok (.iinc 2 1, 3) := by decide +kernel
theorem dX7_harsh_42 : decode cX7_harsh 42 = .ok (.goto (-38), 3) := by decide +kernel
theorem dX7_harsh_45 : decode cX7_harsh 45 = .ok (.iload_n 1, 1) := by decide +kernel
theorem dX7_harsh_46 : decode cX7_harsh 46 = .ok (.ireturn, 1) := by decide +kernel
theorem dX7_canon_0 : decode cX7_canon 0 = .ok (.iload_n 1, 1) := by decide +kernel
theorem dX7_canon_1 : decode cX7_canon 1 = .ok (.invokestatic 196, 3) := by decide +kernel
theorem dX7_canon_4 : decode cX7_canon 4 = .ok (.ifCond .ne 5, 3) := by decide +kernel
theorem dX7_canon_7 : decode cX7_canon 7 = .ok (.iconst (-1), 1) := by decide +kernel
theorem dX7_canon_8 : decode cX7_canon 8 = .ok (.ireturn, 1) := by decide +kernel
theorem dX7_canon_9 : decode cX7_canon 9 = .ok (.iconst 0, 1) := by decide +kernel
theorem dX7_canon_10 : decode cX7_canon 10 = .ok (.istore_n 2, 1) := by decide +kernel
theorem dX7_canon_11 : decode cX7_canon 11 = .ok (.ldc 199, 2) := by decide +kernel
theorem dX7_canon_13 : decode cX7_canon 13 = .ok (.istore_n 3, 1) := by decide +kernel
theorem dX7_canon_14 : decode cX7_canon 14 = .ok (.iconst 1, 1) := by decide +kernel
theorem dX7_canon_15 : decode cX7_canon 15 = .ok (.istore 4, 2) := by decide +kernel
theorem dX7_canon_17 : decode cX7_canon 17 = .ok (.iload 4, 2) := by decide +kernel
theorem dX7_canon_19 : decode cX7_canon 19 = .ok (.aload_n 0, 1) := by decide +kernel
theorem dX7_canon_20 : decode cX7_canon 20 = .ok (.getfield 7, 3) := by decide +kernel
theorem dX7_canon_23 : decode cX7_canon 23 = .ok (.iconst 1, 1) := by decide +kernel
theorem dX7_canon_24 : decode cX7_canon 24 = .ok (.iaload, 1) := by decide +kernel
theorem dX7_canon_25 : decode cX7_canon 25 = .ok (.if_icmp .ge 84, 3) := by decide +kernel
theorem dX7_canon_28 : decode cX7_canon 28 = .ok (.iconst 0, 1) := by decide +kernel
theorem dX7_canon_29 : decode cX7_canon 29 = .ok (.istore 5, 2) := by decide +kernel
theorem dX7_canon_31 : decode cX7_canon 31 = .ok (.iconst 0, 1) := by decide +kernel
theorem dX7_canon_32 : decode cX7_canon 32 = .ok (.istore 6, 2) := by decide +kernel
theorem dX7_canon_34 : decode cX7_canon 34 = .ok (.iload 6, 2) := by decide +kernel
theorem dX7_canon_36 : decode cX7_canon 36 = .ok (.aload_n 0, 1) := by decide +kernel
theorem dX7_canon_37 : decode cX7_canon 37 = .ok (.getfield 7, 3) := by decide +kernel
theorem dX7_canon_40 : decode cX7_canon 40 = .ok (.iconst 1, 1) := by decide +kernel
theorem dX7_canon_41 : decode cX7_canon 41 = .ok (.iaload, 1) := by decide +kernel
theorem dX7_canon_42 : decode cX7_canon 42 = .ok (.if_icmp .ge 35, 3) := by decide +kernel
theorem dX7_canon_45 : decode cX7_canon 45 = .ok (.iload 5, 2) := by decide +kernel
theorem dX7_canon_47 : decode cX7_canon 47 = .ok (.aload_n 0, 1) := by decide +kernel
theorem dX7_canon_48 : decode cX7_canon 48 = .ok (.aload_n 0, 1) := by decide +kernel
theorem dX7_canon_49 : decode cX7_canon 49 = .ok (.getfield 19, 3) := by decide +kernel
theorem dX7_canon_52 : decode cX7_canon 52 = .ok (.iconst 2, 1) := by decide +kernel
theorem dX7_canon_53 : decode cX7_canon 53 = .ok (.iload 6, 2) := by decide +kernel
theorem dX7_canon_55 : decode cX7_canon 55 = .ok (.iadd, 1) := by decide +kernel
theorem dX7_canon_56 : decode cX7_canon 56 = .ok (.iaload, 1) := by decide +kernel
theorem dX7_canon_57 : decode cX7_canon 57 = .ok (.aload_n 0, 1) := by decide +kernel
theorem dX7_canon_58 : decode cX7_canon 58 = .ok (.iload 6, 2) := by decide +kernel
theorem dX7_canon_60 : decode cX7_canon 60 = .ok (.iload 4, 2) := by decide +kernel
theorem dX7_canon_62 : decode cX7_canon 62 = .ok (.invokevirtual 176, 3) := by decide +kernel
theorem dX7_canon_65 : decode cX7_canon 65 = .ok (.invokevirtual 193, 3) := by decide +kernel
theorem dX7_canon_68 : decode cX7_canon 68 = .ok (.iadd, 1) := by decide +kernel
theorem dX7_canon_69 : decode cX7_canon 69 = .ok (.istore 5, 2) := by decide +kernel
theorem dX7_canon_71 : decode cX7_canon 71 = .ok (.iinc 6 1, 3) := by decide +kernel
theorem dX7_canon_74 : decode cX7_canon 74 = .ok (.goto (-40), 3) := by decide +kernel
theorem dX7_canon_77 : decode cX7_canon 77 = .ok (.iload 5, 2) := by decide +kernel
theorem dX7_canon_79 : decode cX7_canon 79 = .ok (.iload_n 3, 1) := by decide +kernel
theorem dX7_canon_80 : decode cX7_canon 80 = .ok (.if_icmp .ge 8, 3) := by decide +kernel
theorem dX7_canon_83 : decode cX7_canon 83 = .ok (.iload 4, 2) := by decide +kernel
theorem dX7_canon_85 : decode cX7_canon 85 = .ok (.goto 4, 3) := by decide +kernel
theorem dX7_canon_88 : decode cX7_canon 88 = .ok (.iload_n 2, 1) := by decide +kernel
theorem dX7_canon_89 : decode cX7_canon 89 = .ok (.istore_n 2, 1) := by decide +kernel
theorem dX7_canon_90 : decode cX7_canon 90 = .ok (.iload 5, 2) := by decide +kernel
theorem dX7_canon_92 : decode cX7_canon 92 = .ok (.iload_n 3, 1) := by decide +kernel
theorem dX7_canon_93 : decode cX7_canon 93 = .ok (.if_icmp .ge 8, 3) := by decide +kernel
theorem dX7_canon_96 : decode cX7_canon 96 = .ok (.iload 5, 2) := by decide +kernel
theorem dX7_canon_98 : decode cX7_canon 98 = .ok (.goto 4, 3) := by decide +kernel
theorem dX7_canon_101 : decode cX7_canon 101 = .ok (.iload_n 3, 1) := by decide +kernel
theorem dX7_canon_102 : decode cX7_canon 102 = .ok (.istore_n 3, 1) := by decide +kernel
theorem dX7_canon_103 : decode cX7_canon 103 = .ok (.iinc 4 1, 3) := by decide +kernel
theorem dX7_canon_106 : decode cX7_canon 106 = .ok (.goto (-89), 3) := by decide +kernel
theorem dX7_canon_109 : decode cX7_canon 109 = .ok (.iload_n 1, 1) := by decide +kernel
theorem dX7_canon_110 : decode cX7_canon 110 = .ok (.ifCond .ne 7, 3) := by decide +kernel
theorem dX7_canon_113 : decode cX7_canon 113 = .ok (.iload_n 2, 1) := by decide +kernel
theorem dX7_canon_114 : decode cX7_canon 114 = .ok (.goto 4, 3) := by decide +kernel
theorem dX7_canon_117 : decode cX7_canon 117 = .ok (.iload_n 3, 1) := by decide +kernel
theorem dX7_canon_118 : decode cX7_canon 118 = .ok (.ireturn, 1) := by decide +kernel
theorem dX7_want_0 : decode cX7_want 0 = .ok (.aload_n 0, 1) := by decide +kernel
theorem dX7_want_1 : decode cX7_want 1 = .ok (.iload_n 1, 1) := by decide +kernel
theorem dX7_want_2 : decode cX7_want 2 = .ok (.invokevirtual 162, 3) := by decide +kernel
theorem dX7_want_5 : decode cX7_want 5 = .ok (.ifCond .eq 11, 3) := by decide +kernel
theorem dX7_want_8 : decode cX7_want 8 = .ok (.aload_n 0, 1) := by decide +kernel
theorem dX7_want_9 : decode cX7_want 9 = .ok (.iload_n 2, 1) := by decide +kernel
theorem dX7_want_10 : decode cX7_want 10 = .ok (.invokevirtual 200, 3) := by decide +kernel
theorem dX7_want_13 : decode cX7_want 13 = .ok (.ifCond .ne 5, 3) := by decide +kernel
theorem dX7_want_16 : decode cX7_want 16 = .ok (.iconst (-1), 1) := by decide +kernel
theorem dX7_want_17 : decode cX7_want 17 = .ok (.ireturn, 1) := by decide +kernel
theorem dX7_want_18 : decode cX7_want 18 = .ok (.aload_n 0, 1) := by decide +kernel
theorem dX7_want_19 : decode cX7_want 19 = .ok (.getfield 31, 3) := by decide +kernel
theorem dX7_want_22 : decode cX7_want 22 = .ok (.iload_n 1, 1) := by decide +kernel
theorem dX7_want_23 : decode cX7_want 23 = .ok (.iaload, 1) := by decide +kernel
theorem dX7_want_24 : decode cX7_want 24 = .ok (.istore_n 3, 1) := by decide +kernel
theorem dX7_want_25 : decode cX7_want 25 = .ok (.aload_n 0, 1) := by decide +kernel
theorem dX7_want_26 : decode cX7_want 26 = .ok (.getfield 31, 3) := by decide +kernel
theorem dX7_want_29 : decode cX7_want 29 = .ok (.iload_n 1, 1) := by decide +kernel
theorem dX7_want_30 : decode cX7_want 30 = .ok (.iload_n 2, 1) := by decide +kernel
theorem dX7_want_31 : decode cX7_want 31 = .ok (.iastore, 1) := by decide +kernel
theorem dX7_want_32 : decode cX7_want 32 = .ok (.iload_n 3, 1) := by decide +kernel
theorem dX7_want_33 : decode cX7_want 33 = .ok (.ireturn, 1) := by decide +kernel
theorem dX7_changes_0 : decode cX7_changes 0 = .ok (.iload_n 1, 1) := by decide +kernel
theorem dX7_changes_1 : decode cX7_changes 1 = .ok (.invokestatic 196, 3) := by decide +kernel
theorem dX7_changes_4 : decode cX7_changes 4 = .ok (.ifCond .ne 5, 3) := by decide +kernel
theorem dX7_changes_7 : decode cX7_changes 7 = .ok (.iconst (-1), 1) := by decide +kernel
theorem dX7_changes_8 : decode cX7_changes 8 = .ok (.ireturn, 1) := by decide +kernel
theorem dX7_changes_9 : decode cX7_changes 9 = .ok (.iconst 0, 1) := by decide +kernel
theorem dX7_changes_10 : decode cX7_changes 10 = .ok (.istore_n 2, 1) := by decide +kernel
theorem dX7_changes_11 : decode cX7_changes 11 = .ok (.ldc 199, 2) := by decide +kernel
theorem dX7_changes_13 : decode cX7_changes 13 = .ok (.istore_n 3, 1) := by decide +kernel
theorem dX7_changes_14 : decode cX7_changes 14 = .ok (.iconst 0, 1) := by decide +kernel
theorem dX7_changes_15 : decode cX7_changes 15 = .ok (.istore 4, 2) := by decide +kernel
theorem dX7_changes_17 : decode cX7_changes 17 = .ok (.iload 4, 2) := by decide +kernel
theorem dX7_changes_19 : decode cX7_changes 19 = .ok (.aload_n 0, 1) := by decide +kernel
theorem dX7_changes_20 : decode cX7_changes 20 = .ok (.getfield 7, 3) := by decide +kernel
theorem dX7_changes_23 : decode cX7_changes 23 = .ok (.iconst 1, 1) := by decide +kernel
theorem dX7_changes_24 : decode cX7_changes 24 = .ok (.iaload, 1) := by decide +kernel
theorem dX7_changes_25 : decode cX7_changes 25 = .ok (.if_icmp .ge 82, 3) := by decide +kernel
theorem dX7_changes_28 : decode cX7_changes 28 = .ok (.iconst 0, 1) := by decide +kernel
theorem dX7_changes_29 : decode cX7_changes 29 = .ok (.istore 5, 2) := by decide +kernel
theorem dX7_changes_31 : decode cX7_changes 31 = .ok (.iconst 0, 1) := by decide +kernel
theorem dX7_changes_32 : decode cX7_changes 32 = .ok (.istore 6, 2) := by decide +kernel
theorem dX7_changes_34 : decode cX7_changes 34 = .ok (.iload 6, 2) := by decide +kernel
theorem dX7_changes_36 : decode cX7_changes 36 = .ok (.aload_n 0, 1) := by decide +kernel
theorem dX7_changes_37 : decode cX7_changes 37 = .ok (.getfield 7, 3) := by decide +kernel
theorem dX7_changes_40 : decode cX7_changes 40 = .ok (.iconst 1, 1) := by decide +kernel
theorem dX7_changes_41 : decode cX7_changes 41 = .ok (.iaload, 1) := by decide +kernel
theorem dX7_changes_42 : decode cX7_changes 42 = .ok (.if_icmp .ge 33, 3) := by decide +kernel
theorem dX7_changes_45 : decode cX7_changes 45 = .ok (.iload 5, 2) := by decide +kernel
theorem dX7_changes_47 : decode cX7_changes 47 = .ok (.aload_n 0, 1) := by decide +kernel
theorem dX7_changes_48 : decode cX7_changes 48 = .ok (.iload 6, 2) := by decide +kernel
theorem dX7_changes_50 : decode cX7_changes 50 = .ok (.iload 4, 2) := by decide +kernel
theorem dX7_changes_52 : decode cX7_changes 52 = .ok (.invokevirtual 176, 3) := by decide +kernel
theorem dX7_changes_55 : decode cX7_changes 55 = .ok (.aload_n 0, 1) := by decide +kernel
theorem dX7_changes_56 : decode cX7_changes 56 = .ok (.getfield 31, 3) := by decide +kernel
theorem dX7_changes_59 : decode cX7_changes 59 = .ok (.iload 6, 2) := by decide +kernel
theorem dX7_changes_61 : decode cX7_changes 61 = .ok (.iaload, 1) := by decide +kernel
theorem dX7_changes_62 : decode cX7_changes 62 = .ok (.ixor, 1) := by decide +kernel
theorem dX7_changes_63 : decode cX7_changes 63 = .ok (.invokestatic 114, 3) := by decide +kernel
theorem dX7_changes_66 : decode cX7_changes 66 = .ok (.iadd, 1) := by decide +kernel
theorem dX7_changes_67 : decode cX7_changes 67 = .ok (.istore 5, 2) := by decide +kernel
theorem dX7_changes_69 : decode cX7_changes 69 = .ok (.iinc 6 1, 3) := by decide +kernel
theorem dX7_changes_72 : decode cX7_changes 72 = .ok (.goto (-38), 3) := by decide +kernel
theorem dX7_changes_75 : decode cX7_changes 75 = .ok (.iload 5, 2) := by decide +kernel
theorem dX7_changes_77 : decode cX7_changes 77 = .ok (.iload_n 3, 1) := by decide +kernel
theorem dX7_changes_78 : decode cX7_changes 78 = .ok (.if_icmp .ge 8, 3) := by decide +kernel
theorem dX7_changes_81 : decode cX7_changes 81 = .ok (.iload 4, 2) := by decide +kernel
theorem dX7_changes_83 : decode cX7_changes 83 = .ok (.goto 4, 3) := by decide +kernel
theorem dX7_changes_86 : decode cX7_changes 86 = .ok (.iload_n 2, 1) := by decide +kernel
theorem dX7_changes_87 : decode cX7_changes 87 = .ok (.istore_n 2, 1) := by decide +kernel
theorem dX7_changes_88 : decode cX7_changes 88 = .ok (.iload 5, 2) := by decide +kernel
theorem dX7_changes_90 : decode cX7_changes 90 = .ok (.iload_n 3, 1) := by decide +kernel
theorem dX7_changes_91 : decode cX7_changes 91 = .ok (.if_icmp .ge 8, 3) := by decide +kernel
theorem dX7_changes_94 : decode cX7_changes 94 = .ok (.iload 5, 2) := by decide +kernel
theorem dX7_changes_96 : decode cX7_changes 96 = .ok (.goto 4, 3) := by decide +kernel
theorem dX7_changes_99 : decode cX7_changes 99 = .ok (.iload_n 3, 1) := by decide +kernel
theorem dX7_changes_100 : decode cX7_changes 100 = .ok (.istore_n 3, 1) := by decide +kernel
theorem dX7_changes_101 : decode cX7_changes 101 = .ok (.iinc 4 1, 3) := by decide +kernel
theorem dX7_changes_104 : decode cX7_changes 104 = .ok (.goto (-87), 3) := by decide +kernel
theorem dX7_changes_107 : decode cX7_changes 107 = .ok (.iload_n 1, 1) := by decide +kernel
theorem dX7_changes_108 : decode cX7_changes 108 = .ok (.ifCond .ne 7, 3) := by decide +kernel
theorem dX7_changes_111 : decode cX7_changes 111 = .ok (.iload_n 3, 1) := by decide +kernel
theorem dX7_changes_112 : decode cX7_changes 112 = .ok (.goto 4, 3) := by decide +kernel
theorem dX7_changes_115 : decode cX7_changes 115 = .ok (.iload_n 2, 1) := by decide +kernel
theorem dX7_changes_116 : decode cX7_changes 116 = .ok (.ireturn, 1) := by decide +kernel
theorem dX7_cell_0 : decode cX7_cell 0 = .ok (.bipush 33, 2) := by decide +kernel
theorem dX7_cell_2 : decode cX7_cell 2 = .ok (.iload_n 0, 1) := by decide +kernel
theorem dX7_cell_3 : decode cX7_cell 3 = .ok (.imul, 1) := by decide +kernel
theorem dX7_cell_4 : decode cX7_cell 4 = .ok (.iload_n 1, 1) := by decide +kernel
theorem dX7_cell_5 : decode cX7_cell 5 = .ok (.iadd, 1) := by decide +kernel
theorem dX7_cell_6 : decode cX7_cell 6 = .ok (.bipush 33, 2) := by decide +kernel
theorem dX7_cell_8 : decode cX7_cell 8 = .ok (.imul, 1) := by decide +kernel
theorem dX7_cell_9 : decode cX7_cell 9 = .ok (.iload_n 2, 1) := by decide +kernel
theorem dX7_cell_10 : decode cX7_cell 10 = .ok (.iadd, 1) := by decide +kernel
theorem dX7_cell_11 : decode cX7_cell 11 = .ok (.ireturn, 1) := by decide +kernel
theorem dX7_isAgain_0 : decode cX7_isAgain 0 = .ok (.iconst 1, 1) := by decide +kernel
theorem dX7_isAgain_1 : decode cX7_isAgain 1 = .ok (.istore 4, 2) := by decide +kernel
theorem dX7_isAgain_3 : decode cX7_isAgain 3 = .ok (.iload_n 1, 1) := by decide +kernel
theorem dX7_isAgain_4 : decode cX7_isAgain 4 = .ok (.iload_n 3, 1) := by decide +kernel
theorem dX7_isAgain_5 : decode cX7_isAgain 5 = .ok (.iadd, 1) := by decide +kernel
theorem dX7_isAgain_6 : decode cX7_isAgain 6 = .ok (.istore 5, 2) := by decide +kernel
theorem dX7_isAgain_8 : decode cX7_isAgain 8 = .ok (.iload 5, 2) := by decide +kernel
theorem dX7_isAgain_10 : decode cX7_isAgain 10 = .ok (.iload_n 2, 1) := by decide +kernel
theorem dX7_isAgain_11 : decode cX7_isAgain 11 = .ok (.if_icmp .ge 44, 3) := by decide +kernel
theorem dX7_isAgain_14 : decode cX7_isAgain 14 = .ok (.iload 4, 2) := by decide +kernel
theorem dX7_isAgain_16 : decode cX7_isAgain 16 = .ok (.ifCond .eq 30, 3) := by decide +kernel
theorem dX7_isAgain_19 : decode cX7_isAgain 19 = .ok (.aload_n 0, 1) := by decide +kernel
theorem dX7_isAgain_20 : decode cX7_isAgain 20 = .ok (.getfield 19, 3) := by decide +kernel
theorem dX7_isAgain_23 : decode cX7_isAgain 23 = .ok (.iconst 2, 1) := by decide +kernel
theorem dX7_isAgain_24 : decode cX7_isAgain 24 = .ok (.iload 5, 2) := by decide +kernel
theorem dX7_isAgain_26 : decode cX7_isAgain 26 = .ok (.iadd, 1) := by decide +kernel
theorem dX7_isAgain_27 : decode cX7_isAgain 27 = .ok (.iaload, 1) := by decide +kernel
theorem dX7_isAgain_28 : decode cX7_isAgain 28 = .ok (.aload_n 0, 1) := by decide +kernel
theorem dX7_isAgain_29 : decode cX7_isAgain 29 = .ok (.getfield 19, 3) := by decide +kernel
theorem dX7_isAgain_32 : decode cX7_isAgain 32 = .ok (.iconst 2, 1) := by decide +kernel
theorem dX7_isAgain_33 : decode cX7_isAgain 33 = .ok (.iload 5, 2) := by decide +kernel
theorem dX7_isAgain_35 : decode cX7_isAgain 35 = .ok (.iadd, 1) := by decide +kernel
theorem dX7_isAgain_36 : decode cX7_isAgain 36 = .ok (.iload_n 3, 1) := by decide +kernel
theorem dX7_isAgain_37 : decode cX7_isAgain 37 = .ok (.isub, 1) := by decide +kernel
theorem dX7_isAgain_38 : decode cX7_isAgain 38 = .ok (.iaload, 1) := by decide +kernel
theorem dX7_isAgain_39 : decode cX7_isAgain 39 = .ok (.if_icmp .ne 7, 3) := by decide +kernel
theorem dX7_isAgain_42 : decode cX7_isAgain 42 = .ok (.iconst 1, 1) := by decide +kernel
theorem dX7_isAgain_43 : decode cX7_isAgain 43 = .ok (.goto 4, 3) := by decide +kernel
theorem dX7_isAgain_46 : decode cX7_isAgain 46 = .ok (.iconst 0, 1) := by decide +kernel
theorem dX7_isAgain_47 : decode cX7_isAgain 47 = .ok (.istore 4, 2) := by decide +kernel
theorem dX7_isAgain_49 : decode cX7_isAgain 49 = .ok (.iinc 5 1, 3) := by decide +kernel
theorem dX7_isAgain_52 : decode cX7_isAgain 52 = .ok (.goto (-44), 3) := by decide +kernel
theorem dX7_isAgain_55 : decode cX7_isAgain 55 = .ok (.iload 4, 2) := by decide +kernel
theorem dX7_isAgain_57 : decode cX7_isAgain 57 = .ok (.ireturn, 1) := by decide +kernel
theorem dX7_fewest_0 : decode cX7_fewest 0 = .ok (.iload_n 3, 1) := by decide +kernel
theorem dX7_fewest_1 : decode cX7_fewest 1 = .ok (.iload_n 2, 1) := by decide +kernel
theorem dX7_fewest_2 : decode cX7_fewest 2 = .ok (.isub, 1) := by decide +kernel
theorem dX7_fewest_3 : decode cX7_fewest 3 = .ok (.istore 4, 2) := by decide +kernel
theorem dX7_fewest_5 : decode cX7_fewest 5 = .ok (.iload 4, 2) := by decide +kernel
theorem dX7_fewest_7 : decode cX7_fewest 7 = .ok (.iconst 1, 1) := by decide +kernel
theorem dX7_fewest_8 : decode cX7_fewest 8 = .ok (.if_icmp .ne 31, 3) := by decide +kernel
theorem dX7_fewest_11 : decode cX7_fewest 11 = .ok (.aload_n 0, 1) := by decide +kernel
theorem dX7_fewest_12 : decode cX7_fewest 12 = .ok (.getfield 19, 3) := by decide +kernel
theorem dX7_fewest_15 : decode cX7_fewest 15 = .ok (.iconst 2, 1) := by decide +kernel
theorem dX7_fewest_16 : decode cX7_fewest 16 = .ok (.iload_n 2, 1) := by decide +kernel
theorem dX7_fewest_17 : decode cX7_fewest 17 = .ok (.iadd, 1) := by decide +kernel
theorem dX7_fewest_18 : decode cX7_fewest 18 = .ok (.iaload, 1) := by decide +kernel
theorem dX7_fewest_19 : decode cX7_fewest 19 = .ok (.invokestatic 114, 3) := by decide +kernel
theorem dX7_fewest_22 : decode cX7_fewest 22 = .ok (.istore 5, 2) := by decide +kernel
theorem dX7_fewest_24 : decode cX7_fewest 24 = .ok (.iload 5, 2) := by decide +kernel
theorem dX7_fewest_26 : decode cX7_fewest 26 = .ok (.iconst 2, 1) := by decide +kernel
theorem dX7_fewest_27 : decode cX7_fewest 27 = .ok (.if_icmp .ge 7, 3) := by decide +kernel
theorem dX7_fewest_30 : decode cX7_fewest 30 = .ok (.iconst 1, 1) := by decide +kernel
theorem dX7_fewest_31 : decode cX7_fewest 31 = .ok (.goto 7, 3) := by decide +kernel
theorem dX7_fewest_34 : decode cX7_fewest 34 = .ok (.iload 5, 2) := by decide +kernel
theorem dX7_fewest_36 : decode cX7_fewest 36 = .ok (.iconst 2, 1) := by decide +kernel
theorem dX7_fewest_37 : decode cX7_fewest 37 = .ok (.iadd, 1) := by decide +kernel
theorem dX7_fewest_38 : decode cX7_fewest 38 = .ok (.ireturn, 1) := by decide +kernel
theorem dX7_fewest_39 : decode cX7_fewest 39 = .ok (.ldc 199, 2) := by decide +kernel
theorem dX7_fewest_41 : decode cX7_fewest 41 = .ok (.istore 5, 2) := by decide +kernel
theorem dX7_fewest_43 : decode cX7_fewest 43 = .ok (.iload_n 2, 1) := by decide +kernel
theorem dX7_fewest_44 : decode cX7_fewest 44 = .ok (.iconst 1, 1) := by decide +kernel
theorem dX7_fewest_45 : decode cX7_fewest 45 = .ok (.iadd, 1) := by decide +kernel
theorem dX7_fewest_46 : decode cX7_fewest 46 = .ok (.istore 6, 2) := by decide +kernel
theorem dX7_fewest_48 : decode cX7_fewest 48 = .ok (.iload 6, 2) := by decide +kernel
theorem dX7_fewest_50 : decode cX7_fewest 50 = .ok (.iload_n 3, 1) := by decide +kernel
theorem dX7_fewest_51 : decode cX7_fewest 51 = .ok (.if_icmp .ge 52, 3) := by decide +kernel
theorem dX7_fewest_54 : decode cX7_fewest 54 = .ok (.aload_n 0, 1) := by decide +kernel
theorem dX7_fewest_55 : decode cX7_fewest 55 = .ok (.getfield 49, 3) := by decide +kernel
theorem dX7_fewest_58 : decode cX7_fewest 58 = .ok (.iload_n 1, 1) := by decide +kernel
theorem dX7_fewest_59 : decode cX7_fewest 59 = .ok (.iload_n 2, 1) := by decide +kernel
theorem dX7_fewest_60 : decode cX7_fewest 60 = .ok (.iload 6, 2) := by decide +kernel
theorem dX7_fewest_62 : decode cX7_fewest 62 = .ok (.invokestatic 203, 3) := by decide +kernel
theorem dX7_fewest_65 : decode cX7_fewest 65 = .ok (.iaload, 1) := by decide +kernel
theorem dX7_fewest_66 : decode cX7_fewest 66 = .ok (.aload_n 0, 1) := by decide +kernel
theorem dX7_fewest_67 : decode cX7_fewest 67 = .ok (.getfield 49, 3) := by decide +kernel
theorem dX7_fewest_70 : decode cX7_fewest 70 = .ok (.iload_n 1, 1) := by decide +kernel
theorem dX7_fewest_71 : decode cX7_fewest 71 = .ok (.iload 6, 2) := by decide +kernel
theorem dX7_fewest_73 : decode cX7_fewest 73 = .ok (.iload_n 3, 1) := by decide +kernel
theorem dX7_fewest_74 : decode cX7_fewest 74 = .ok (.invokestatic 203, 3) := by decide +kernel
theorem dX7_fewest_77 : decode cX7_fewest 77 = .ok (.iaload, 1) := by decide +kernel
theorem dX7_fewest_78 : decode cX7_fewest 78 = .ok (.iadd, 1) := by decide +kernel
theorem dX7_fewest_79 : decode cX7_fewest 79 = .ok (.istore 7, 2) := by decide +kernel
theorem dX7_fewest_81 : decode cX7_fewest 81 = .ok (.iload 7, 2) := by decide +kernel
theorem dX7_fewest_83 : decode cX7_fewest 83 = .ok (.iload 5, 2) := by decide +kernel
theorem dX7_fewest_85 : decode cX7_fewest 85 = .ok (.if_icmp .ge 8, 3) := by decide +kernel
theorem dX7_fewest_88 : decode cX7_fewest 88 = .ok (.iload 7, 2) := by decide +kernel
theorem dX7_fewest_90 : decode cX7_fewest 90 = .ok (.goto 5, 3) := by decide +kernel
theorem dX7_fewest_93 : decode cX7_fewest 93 = .ok (.iload 5, 2) := by decide +kernel
theorem dX7_fewest_95 : decode cX7_fewest 95 = .ok (.istore 5, 2) := by decide +kernel
theorem dX7_fewest_97 : decode cX7_fewest 97 = .ok (.iinc 6 1, 3) := by decide +kernel
theorem dX7_fewest_100 : decode cX7_fewest 100 = .ok (.goto (-52), 3) := by decide +kernel
theorem dX7_fewest_103 : decode cX7_fewest 103 = .ok (.iconst 2, 1) := by decide +kernel
theorem dX7_fewest_104 : decode cX7_fewest 104 = .ok (.istore 6, 2) := by decide +kernel
theorem dX7_fewest_106 : decode cX7_fewest 106 = .ok (.iload 6, 2) := by decide +kernel
theorem dX7_fewest_108 : decode cX7_fewest 108 = .ok (.bipush 10, 2) := by decide +kernel
theorem dX7_fewest_110 : decode cX7_fewest 110 = .ok (.if_icmp .ge 75, 3) := by decide +kernel
theorem dX7_fewest_113 : decode cX7_fewest 113 = .ok (.iload_n 1, 1) := by decide +kernel
theorem dX7_fewest_114 : decode cX7_fewest 114 = .ok (.ifCond .le 71, 3) := by decide +kernel
theorem dX7_fewest_117 : decode cX7_fewest 117 = .ok (.iload 4, 2) := by decide +kernel
theorem dX7_fewest_119 : decode cX7_fewest 119 = .ok (.iload 6, 2) := by decide +kernel
theorem dX7_fewest_121 : decode cX7_fewest 121 = .ok (.idiv, 1) := by decide +kernel
theorem dX7_fewest_122 : decode cX7_fewest 122 = .ok (.istore 7, 2) := by decide +kernel
theorem dX7_fewest_124 : decode cX7_fewest 124 = .ok (.iload 4, 2) := by decide +kernel
theorem dX7_fewest_126 : decode cX7_fewest 126 = .ok (.iload 6, 2) := by decide +kernel
theorem dX7_fewest_128 : decode cX7_fewest 128 = .ok (.irem, 1) := by decide +kernel
theorem dX7_fewest_129 : decode cX7_fewest 129 = .ok (.ifCond .ne 50, 3) := by decide +kernel
theorem dX7_fewest_132 : decode cX7_fewest 132 = .ok (.aload_n 0, 1) := by decide +kernel
theorem dX7_fewest_133 : decode cX7_fewest 133 = .ok (.iload_n 2, 1) := by decide +kernel
theorem dX7_fewest_134 : decode cX7_fewest 134 = .ok (.iload_n 3, 1) := by decide +kernel
theorem dX7_fewest_135 : decode cX7_fewest 135 = .ok (.iload 7, 2) := by decide +kernel
theorem dX7_fewest_137 : decode cX7_fewest 137 = .ok (.invokevirtual 207, 3) := by decide +kernel
theorem dX7_fewest_140 : decode cX7_fewest 140 = .ok (.ifCond .eq 39, 3) := by decide +kernel
theorem dX7_fewest_143 : decode cX7_fewest 143 = .ok (.iconst 3, 1) := by decide +kernel
theorem dX7_fewest_144 : decode cX7_fewest 144 = .ok (.aload_n 0, 1) := by decide +kernel
theorem dX7_fewest_145 : decode cX7_fewest 145 = .ok (.getfield 49, 3) := by decide +kernel
theorem dX7_fewest_148 : decode cX7_fewest 148 = .ok (.iload_n 1, 1) := by decide +kernel
theorem dX7_fewest_149 : decode cX7_fewest 149 = .ok (.iconst 1, 1) := by decide +kernel
theorem dX7_fewest_150 : decode cX7_fewest 150 = .ok (.isub, 1) := by decide +kernel
theorem dX7_fewest_151 : decode cX7_fewest 151 = .ok (.iload_n 2, 1) := by decide +kernel
theorem dX7_fewest_152 : decode cX7_fewest 152 = .ok (.iload_n 2, 1) := by decide +kernel
theorem dX7_fewest_153 : decode cX7_fewest 153 = .ok (.iload 7, 2) := by decide +kernel
theorem dX7_fewest_155 : decode cX7_fewest 155 = .ok (.iadd, 1) := by decide +kernel
theorem dX7_fewest_156 : decode cX7_fewest 156 = .ok (.invokestatic 203, 3) := by decide +kernel
theorem dX7_fewest_159 : decode cX7_fewest 159 = .ok (.iaload, 1) := by decide +kernel
theorem dX7_fewest_160 : decode cX7_fewest 160 = .ok (.iadd, 1) := by decide +kernel
theorem dX7_fewest_161 : decode cX7_fewest 161 = .ok (.istore 8, 2) := by decide +kernel
theorem dX7_fewest_163 : decode cX7_fewest 163 = .ok (.iload 8, 2) := by decide +kernel
theorem dX7_fewest_165 : decode cX7_fewest 165 = .ok (.iload 5, 2) := by decide +kernel
theorem dX7_fewest_167 : decode cX7_fewest 167 = .ok (.if_icmp .ge 8, 3) := by decide +kernel
theorem dX7_fewest_170 : decode cX7_fewest 170 = .ok (.iload 8, 2) := by decide +kernel
theorem dX7_fewest_172 : decode cX7_fewest 172 = .ok (.goto 5, 3) := by decide +kernel
theorem dX7_fewest_175 : decode cX7_fewest 175 = .ok (.iload 5, 2) := by decide +kernel
theorem dX7_fewest_177 : decode cX7_fewest 177 = .ok (.istore 5, 2) := by decide +kernel
theorem dX7_fewest_179 : decode cX7_fewest 179 = .ok (.iinc 6 1, 3) := by decide +kernel
theorem dX7_fewest_182 : decode cX7_fewest 182 = .ok (.goto (-76), 3) := by decide +kernel
theorem dX7_fewest_185 : decode cX7_fewest 185 = .ok (.iload 5, 2) := by decide +kernel
theorem dX7_fewest_187 : decode cX7_fewest 187 = .ok (.ireturn, 1) := by decide +kernel
theorem dX7_letters_0 : decode cX7_letters 0 = .ok (.iconst 0, 1) := by decide +kernel
theorem dX7_letters_1 : decode cX7_letters 1 = .ok (.istore_n 1, 1) := by decide +kernel
theorem dX7_letters_2 : decode cX7_letters 2 = .ok (.iload_n 1, 1) := by decide +kernel
theorem dX7_letters_3 : decode cX7_letters 3 = .ok (.iconst 4, 1) := by decide +kernel
theorem dX7_letters_4 : decode cX7_letters 4 = .ok (.if_icmp .ge 69, 3) := by decide +kernel
theorem dX7_letters_7 : decode cX7_letters 7 = .ok (.iconst 1, 1) := by decide +kernel
theorem dX7_letters_8 : decode cX7_letters 8 = .ok (.istore_n 2, 1) := by decide +kernel
theorem dX7_letters_9 : decode cX7_letters 9 = .ok (.iload_n 2, 1) := by decide +kernel
theorem dX7_letters_10 : decode cX7_letters 10 = .ok (.aload_n 0, 1) := by decide +kernel
theorem dX7_letters_11 : decode cX7_letters 11 = .ok (.getfield 7, 3) := by decide +kernel
theorem dX7_letters_14 : decode cX7_letters 14 = .ok (.iconst 1, 1) := by decide +kernel
theorem dX7_letters_15 : decode cX7_letters 15 = .ok (.iaload, 1) := by decide +kernel
theorem dX7_letters_16 : decode cX7_letters 16 = .ok (.if_icmp .gt 51, 3) := by decide +kernel
theorem dX7_letters_19 : decode cX7_letters 19 = .ok (.iconst 0, 1) := by decide +kernel
theorem dX7_letters_20 : decode cX7_letters 20 = .ok (.istore_n 3, 1) := by decide +kernel
theorem dX7_letters_21 : decode cX7_letters 21 = .ok (.iload_n 3, 1) := by decide +kernel
theorem dX7_letters_22 : decode cX7_letters 22 = .ok (.iload_n 2, 1) := by decide +kernel
theorem dX7_letters_23 : decode cX7_letters 23 = .ok (.iadd, 1) := by decide +kernel
theorem dX7_letters_24 : decode cX7_letters 24 = .ok (.aload_n 0, 1) := by decide +kernel
theorem dX7_letters_25 : decode cX7_letters 25 = .ok (.getfield 7, 3) := by decide +kernel
theorem dX7_letters_28 : decode cX7_letters 28 = .ok (.iconst 1, 1) := by decide +kernel
theorem dX7_letters_29 : decode cX7_letters 29 = .ok (.iaload, 1) := by decide +kernel
theorem dX7_letters_30 : decode cX7_letters 30 = .ok (.if_icmp .gt 31, 3) := by decide +kernel
theorem dX7_letters_33 : decode cX7_letters 33 = .ok (.aload_n 0, 1) := by decide +kernel
theorem dX7_letters_34 : decode cX7_letters 34 = .ok (.getfield 49, 3) := by decide +kernel
theorem dX7_letters_37 : decode cX7_letters 37 = .ok (.iload_n 1, 1) := by decide +kernel
theorem dX7_letters_38 : decode cX7_letters 38 = .ok (.iload_n 3, 1) := by decide +kernel
theorem dX7_letters_39 : decode cX7_letters 39 = .ok (.iload_n 3, 1) := by decide +kernel
theorem dX7_letters_40 : decode cX7_letters 40 = .ok (.iload_n 2, 1) := by decide +kernel
theorem dX7_letters_41 : decode cX7_letters 41 = .ok (.iadd, 1) := by decide +kernel
theorem dX7_letters_42 : decode cX7_letters 42 = .ok (.invokestatic 203, 3) := by decide +kernel
theorem dX7_letters_45 : decode cX7_letters 45 = .ok (.aload_n 0, 1) := by decide +kernel
theorem dX7_letters_46 : decode cX7_letters 46 = .ok (.iload_n 1, 1) := by decide +kernel
theorem dX7_letters_47 : decode cX7_letters 47 = .ok (.iload_n 3, 1) := by decide +kernel
theorem dX7_letters_48 : decode cX7_letters 48 = .ok (.iload_n 3, 1) := by decide +kernel
theorem dX7_letters_49 : decode cX7_letters 49 = .ok (.iload_n 2, 1) := by decide +kernel
theorem dX7_letters_50 : decode cX7_letters 50 = .ok (.iadd, 1) := by decide +kernel
theorem dX7_letters_51 : decode cX7_letters 51 = .ok (.invokevirtual 210, 3) := by decide +kernel
theorem dX7_letters_54 : decode cX7_letters 54 = .ok (.iastore, 1) := by decide +kernel
theorem dX7_letters_55 : decode cX7_letters 55 = .ok (.iinc 3 1, 3) := by decide +kernel
theorem dX7_letters_58 : decode cX7_letters 58 = .ok (.goto (-37), 3) := by decide +kernel
theorem dX7_letters_61 : decode cX7_letters 61 = .ok (.iinc 2 1, 3) := by decide +kernel
theorem dX7_letters_64 : decode cX7_letters 64 = .ok (.goto (-55), 3) := by decide +kernel
theorem dX7_letters_67 : decode cX7_letters 67 = .ok (.iinc 1 1, 3) := by decide +kernel
theorem dX7_letters_70 : decode cX7_letters 70 = .ok (.goto (-68), 3) := by decide +kernel
theorem dX7_letters_73 : decode cX7_letters 73 = .ok (.aload_n 0, 1) := by decide +kernel
theorem dX7_letters_74 : decode cX7_letters 74 = .ok (.getfield 49, 3) := by decide +kernel
theorem dX7_letters_77 : decode cX7_letters 77 = .ok (.iconst 3, 1) := by decide +kernel
theorem dX7_letters_78 : decode cX7_letters 78 = .ok (.iconst 0, 1) := by decide +kernel
theorem dX7_letters_79 : decode cX7_letters 79 = .ok (.aload_n 0, 1) := by decide +kernel
theorem dX7_letters_80 : decode cX7_letters 80 = .ok (.getfield 7, 3) := by decide +kernel
theorem dX7_letters_83 : decode cX7_letters 83 = .ok (.iconst 1, 1) := by decide +kernel
theorem dX7_letters_84 : decode cX7_letters 84 = .ok (.iaload, 1) := by decide +kernel
theorem dX7_letters_85 : decode cX7_letters 85 = .ok (.invokestatic 203, 3) := by decide +kernel
theorem dX7_letters_88 : decode cX7_letters 88 = .ok (.iaload, 1) := by decide +kernel
theorem dX7_letters_89 : decode cX7_letters 89 = .ok (.ireturn, 1) := by decide +kernel
theorem dX7_areOne_0 : decode cX7_areOne 0 = .ok (.iconst 1, 1) := by decide +kernel
theorem dX7_areOne_1 : decode cX7_areOne 1 = .ok (.istore_n 2, 1) := by decide +kernel
theorem dX7_areOne_2 : decode cX7_areOne 2 = .ok (.iconst 0, 1) := by decide +kernel
theorem dX7_areOne_3 : decode cX7_areOne 3 = .ok (.istore_n 3, 1) := by decide +kernel
theorem dX7_areOne_4 : decode cX7_areOne 4 = .ok (.iload_n 3, 1) := by decide +kernel
theorem dX7_areOne_5 : decode cX7_areOne 5 = .ok (.aload_n 0, 1) := by decide +kernel
theorem dX7_areOne_6 : decode cX7_areOne 6 = .ok (.getfield 7, 3) := by decide +kernel
theorem dX7_areOne_9 : decode cX7_areOne 9 = .ok (.iconst 1, 1) := by decide +kernel
theorem dX7_areOne_10 : decode cX7_areOne 10 = .ok (.iaload, 1) := by decide +kernel
theorem dX7_areOne_11 : decode cX7_areOne 11 = .ok (.if_icmp .ge 36, 3) := by decide +kernel
theorem dX7_areOne_14 : decode cX7_areOne 14 = .ok (.iload_n 2, 1) := by decide +kernel
theorem dX7_areOne_15 : decode cX7_areOne 15 = .ok (.ifCond .eq 24, 3) := by decide +kernel
theorem dX7_areOne_18 : decode cX7_areOne 18 = .ok (.iload_n 1, 1) := by decide +kernel
theorem dX7_areOne_19 : decode cX7_areOne 19 = .ok (.aload_n 0, 1) := by decide +kernel
theorem dX7_areOne_20 : decode cX7_areOne 20 = .ok (.getfield 19, 3) := by decide +kernel
theorem dX7_areOne_23 : decode cX7_areOne 23 = .ok (.iconst 2, 1) := by decide +kernel
theorem dX7_areOne_24 : decode cX7_areOne 24 = .ok (.iload_n 3, 1) := by decide +kernel
theorem dX7_areOne_25 : decode cX7_areOne 25 = .ok (.iadd, 1) := by decide +kernel
theorem dX7_areOne_26 : decode cX7_areOne 26 = .ok (.iaload, 1) := by decide +kernel
theorem dX7_areOne_27 : decode cX7_areOne 27 = .ok (.iand, 1) := by decide +kernel
theorem dX7_areOne_28 : decode cX7_areOne 28 = .ok (.invokestatic 114, 3) := by decide +kernel
theorem dX7_areOne_31 : decode cX7_areOne 31 = .ok (.iconst 2, 1) := by decide +kernel
theorem dX7_areOne_32 : decode cX7_areOne 32 = .ok (.if_icmp .ge 7, 3) := by decide +kernel
theorem dX7_areOne_35 : decode cX7_areOne 35 = .ok (.iconst 1, 1) := by decide +kernel
theorem dX7_areOne_36 : decode cX7_areOne 36 = .ok (.goto 4, 3) := by decide +kernel
theorem dX7_areOne_39 : decode cX7_areOne 39 = .ok (.iconst 0, 1) := by decide +kernel
theorem dX7_areOne_40 : decode cX7_areOne 40 = .ok (.istore_n 2, 1) := by decide +kernel
theorem dX7_areOne_41 : decode cX7_areOne 41 = .ok (.iinc 3 1, 3) := by decide +kernel
theorem dX7_areOne_44 : decode cX7_areOne 44 = .ok (.goto (-40), 3) := by decide +kernel
theorem dX7_areOne_47 : decode cX7_areOne 47 = .ok (.iload_n 2, 1) := by decide +kernel
theorem dX7_areOne_48 : decode cX7_areOne 48 = .ok (.ireturn, 1) := by decide +kernel
theorem dX7_ringers_0 : decode cX7_ringers 0 = .ok (.iconst 1, 1) := by decide +kernel
theorem dX7_ringers_1 : decode cX7_ringers 1 = .ok (.aload_n 0, 1) := by decide +kernel
theorem dX7_ringers_2 : decode cX7_ringers 2 = .ok (.getfield 7, 3) := by decide +kernel
theorem dX7_ringers_5 : decode cX7_ringers 5 = .ok (.iconst 0, 1) := by decide +kernel
theorem dX7_ringers_6 : decode cX7_ringers 6 = .ok (.iaload, 1) := by decide +kernel
theorem dX7_ringers_7 : decode cX7_ringers 7 = .ok (.ishl, 1) := by decide +kernel
theorem dX7_ringers_8 : decode cX7_ringers 8 = .ok (.iconst 1, 1) := by decide +kernel
theorem dX7_ringers_9 : decode cX7_ringers 9 = .ok (.isub, 1) := by decide +kernel
theorem dX7_ringers_10 : decode cX7_ringers 10 = .ok (.istore_n 1, 1) := by decide +kernel
theorem dX7_ringers_11 : decode cX7_ringers 11 = .ok (.iconst 1, 1) := by decide +kernel
theorem dX7_ringers_12 : decode cX7_ringers 12 = .ok (.istore_n 2, 1) := by decide +kernel
theorem dX7_ringers_13 : decode cX7_ringers 13 = .ok (.iload_n 2, 1) := by decide +kernel
theorem dX7_ringers_14 : decode cX7_ringers 14 = .ok (.iload_n 1, 1) := by decide +kernel
theorem dX7_ringers_15 : decode cX7_ringers 15 = .ok (.if_icmp .gt 108, 3) := by decide +kernel
theorem dX7_ringers_18 : decode cX7_ringers 18 = .ok (.aload_n 0, 1) := by decide +kernel
theorem dX7_ringers_19 : decode cX7_ringers 19 = .ok (.getfield 55, 3) := by decide +kernel
theorem dX7_ringers_22 : decode cX7_ringers 22 = .ok (.iload_n 2, 1) := by decide +kernel
theorem dX7_ringers_23 : decode cX7_ringers 23 = .ok (.aload_n 0, 1) := by decide +kernel
theorem dX7_ringers_24 : decode cX7_ringers 24 = .ok (.iload_n 2, 1) := by decide +kernel
theorem dX7_ringers_25 : decode cX7_ringers 25 = .ok (.invokevirtual 213, 3) := by decide +kernel
theorem dX7_ringers_28 : decode cX7_ringers 28 = .ok (.bastore, 1) := by decide +kernel
theorem dX7_ringers_29 : decode cX7_ringers 29 = .ok (.aload_n 0, 1) := by decide +kernel
theorem dX7_ringers_30 : decode cX7_ringers 30 = .ok (.getfield 52, 3) := by decide +kernel
theorem dX7_ringers_33 : decode cX7_ringers 33 = .ok (.iload_n 2, 1) := by decide +kernel
theorem dX7_ringers_34 : decode cX7_ringers 34 = .ok (.ldc 199, 2) := by decide +kernel
theorem dX7_ringers_36 : decode cX7_ringers 36 = .ok (.iastore, 1) := by decide +kernel
theorem dX7_ringers_37 : decode cX7_ringers 37 = .ok (.iload_n 2, 1) := by decide +kernel
theorem dX7_ringers_38 : decode cX7_ringers 38 = .ok (.istore_n 3, 1) := by decide +kernel
theorem dX7_ringers_39 : decode cX7_ringers 39 = .ok (.iload_n 3, 1) := by decide +kernel
theorem dX7_ringers_40 : decode cX7_ringers 40 = .ok (.ifCond .le 77, 3) := by decide +kernel
theorem dX7_ringers_43 : decode cX7_ringers 43 = .ok (.aload_n 0, 1) := by decide +kernel
theorem dX7_ringers_44 : decode cX7_ringers 44 = .ok (.getfield 55, 3) := by decide +kernel
theorem dX7_ringers_47 : decode cX7_ringers 47 = .ok (.iload_n 3, 1) := by decide +kernel
theorem dX7_ringers_48 : decode cX7_ringers 48 = .ok (.baload, 1) := by decide +kernel
theorem dX7_ringers_49 : decode cX7_ringers 49 = .ok (.ifCond .eq 27, 3) := by decide +kernel
theorem dX7_ringers_52 : decode cX7_ringers 52 = .ok (.iconst 1, 1) := by decide +kernel
theorem dX7_ringers_53 : decode cX7_ringers 53 = .ok (.iload_n 3, 1) := by decide +kernel
theorem dX7_ringers_54 : decode cX7_ringers 54 = .ok (.iload_n 2, 1) := by decide +kernel
theorem dX7_ringers_55 : decode cX7_ringers 55 = .ok (.if_icmp .ne 7, 3) := by decide +kernel
theorem dX7_ringers_58 : decode cX7_ringers 58 = .ok (.iconst 0, 1) := by decide +kernel
theorem dX7_ringers_59 : decode cX7_ringers 59 = .ok (.goto 13, 3) := by decide +kernel
theorem dX7_ringers_62 : decode cX7_ringers 62 = .ok (.aload_n 0, 1) := by decide +kernel
theorem dX7_ringers_63 : decode cX7_ringers 63 = .ok (.getfield 52, 3) := by decide +kernel
theorem dX7_ringers_66 : decode cX7_ringers 66 = .ok (.iload_n 2, 1) := by decide +kernel
theorem dX7_ringers_67 : decode cX7_ringers 67 = .ok (.iload_n 3, 1) := by decide +kernel
theorem dX7_ringers_68 : decode cX7_ringers 68 = .ok (.iconst (-1), 1) := by decide +kernel
theorem dX7_ringers_69 : decode cX7_ringers 69 = .ok (.ixor, 1) := by decide +kernel
theorem dX7_ringers_70 : decode cX7_ringers 70 = .ok (.iand, 1) := by decide +kernel
theorem dX7_ringers_71 : decode cX7_ringers 71 = .ok (.iaload, 1) := by decide +kernel
theorem dX7_ringers_72 : decode cX7_ringers 72 = .ok (.iadd, 1) := by decide +kernel
theorem dX7_ringers_73 : decode cX7_ringers 73 = .ok (.goto 5, 3) := by decide +kernel
theorem dX7_ringers_76 : decode cX7_ringers 76 = .ok (.ldc 199, 2) := by decide +kernel
theorem dX7_ringers_78 : decode cX7_ringers 78 = .ok (.istore 4, 2) := by decide +kernel
theorem dX7_ringers_80 : decode cX7_ringers 80 = .ok (.aload_n 0, 1) := by decide +kernel
theorem dX7_ringers_81 : decode cX7_ringers 81 = .ok (.getfield 52, 3) := by decide +kernel
theorem dX7_ringers_84 : decode cX7_ringers 84 = .ok (.iload_n 2, 1) := by decide +kernel
theorem dX7_ringers_85 : decode cX7_ringers 85 = .ok (.iload 4, 2) := by decide +kernel
theorem dX7_ringers_87 : decode cX7_ringers 87 = .ok (.aload_n 0, 1) := by decide +kernel
theorem dX7_ringers_88 : decode cX7_ringers 88 = .ok (.getfield 52, 3) := by decide +kernel
theorem dX7_ringers_91 : decode cX7_ringers 91 = .ok (.iload_n 2, 1) := by decide +kernel
theorem dX7_ringers_92 : decode cX7_ringers 92 = .ok (.iaload, 1) := by decide +kernel
theorem dX7_ringers_93 : decode cX7_ringers 93 = .ok (.if_icmp .ge 8, 3) := by decide +kernel
theorem dX7_ringers_96 : decode cX7_ringers 96 = .ok (.iload 4, 2) := by decide +kernel
theorem dX7_ringers_98 : decode cX7_ringers 98 = .ok (.goto 9, 3) := by decide +kernel
theorem dX7_ringers_101 : decode cX7_ringers 101 = .ok (.aload_n 0, 1) := by decide +kernel
theorem dX7_ringers_102 : decode cX7_ringers 102 = .ok (.getfield 52, 3) := by decide +kernel
theorem dX7_ringers_105 : decode cX7_ringers 105 = .ok (.iload_n 2, 1) := by decide +kernel
theorem dX7_ringers_106 : decode cX7_ringers 106 = .ok (.iaload, 1) := by decide +kernel
theorem dX7_ringers_107 : decode cX7_ringers 107 = .ok (.iastore, 1) := by decide +kernel
theorem dX7_ringers_108 : decode cX7_ringers 108 = .ok (.iload_n 3, 1) := by decide +kernel
theorem dX7_ringers_109 : decode cX7_ringers 109 = .ok (.iconst 1, 1) := by decide +kernel
theorem dX7_ringers_110 : decode cX7_ringers 110 = .ok (.isub, 1) := by decide +kernel
theorem dX7_ringers_111 : decode cX7_ringers 111 = .ok (.iload_n 2, 1) := by decide +kernel
theorem dX7_ringers_112 : decode cX7_ringers 112 = .ok (.iand, 1) := by decide +kernel
theorem dX7_ringers_113 : decode cX7_ringers 113 = .ok (.istore_n 3, 1) := by decide +kernel
theorem dX7_ringers_114 : decode cX7_ringers 114 = .ok (.goto (-75), 3) := by decide +kernel
theorem dX7_ringers_117 : decode cX7_ringers 117 = .ok (.iinc 2 1, 3) := by decide +kernel
theorem dX7_ringers_120 : decode cX7_ringers 120 = .ok (.goto (-107), 3) := by decide +kernel
theorem dX7_ringers_123 : decode cX7_ringers 123 = .ok (.aload_n 0, 1) := by decide +kernel
theorem dX7_ringers_124 : decode cX7_ringers 124 = .ok (.getfield 52, 3) := by decide +kernel
theorem dX7_ringers_127 : decode cX7_ringers 127 = .ok (.iload_n 1, 1) := by decide +kernel
theorem dX7_ringers_128 : decode cX7_ringers 128 = .ok (.iaload, 1) := by decide +kernel
theorem dX7_ringers_129 : decode cX7_ringers 129 = .ok (.ireturn, 1) := by decide +kernel
theorem dX7_hear_0 : decode cX7_hear 0 = .ok (.aload_n 0, 1) := by decide +kernel
theorem dX7_hear_1 : decode cX7_hear 1 = .ok (.iload_n 1, 1) := by decide +kernel
theorem dX7_hear_2 : decode cX7_hear 2 = .ok (.invokevirtual 200, 3) := by decide +kernel
theorem dX7_hear_5 : decode cX7_hear 5 = .ok (.ifCond .ne 5, 3) := by decide +kernel
theorem dX7_hear_8 : decode cX7_hear 8 = .ok (.iconst (-1), 1) := by decide +kernel
theorem dX7_hear_9 : decode cX7_hear 9 = .ok (.ireturn, 1) := by decide +kernel
theorem dX7_hear_10 : decode cX7_hear 10 = .ok (.aload_n 0, 1) := by decide +kernel
theorem dX7_hear_11 : decode cX7_hear 11 = .ok (.getfield 140, 3) := by decide +kernel
theorem dX7_hear_14 : decode cX7_hear 14 = .ok (.bipush 8, 2) := by decide +kernel
theorem dX7_hear_16 : decode cX7_hear 16 = .ok (.if_icmp .ne 6, 3) := by decide +kernel
theorem dX7_hear_19 : decode cX7_hear 19 = .ok (.bipush (-3), 2) := by decide +kernel
theorem dX7_hear_21 : decode cX7_hear 21 = .ok (.ireturn, 1) := by decide +kernel
theorem dX7_hear_22 : decode cX7_hear 22 = .ok (.aload_n 0, 1) := by decide +kernel
theorem dX7_hear_23 : decode cX7_hear 23 = .ok (.getfield 34, 3) := by decide +kernel
theorem dX7_hear_26 : decode cX7_hear 26 = .ok (.aload_n 0, 1) := by decide +kernel
theorem dX7_hear_27 : decode cX7_hear 27 = .ok (.getfield 140, 3) := by decide +kernel
theorem dX7_hear_30 : decode cX7_hear 30 = .ok (.iload_n 1, 1) := by decide +kernel
theorem dX7_hear_31 : decode cX7_hear 31 = .ok (.iastore, 1) := by decide +kernel
theorem dX7_hear_32 : decode cX7_hear 32 = .ok (.aload_n 0, 1) := by decide +kernel
theorem dX7_hear_33 : decode cX7_hear 33 = .ok (.dup, 1) := by decide +kernel
theorem dX7_hear_34 : decode cX7_hear 34 = .ok (.getfield 140, 3) := by decide +kernel
theorem dX7_hear_37 : decode cX7_hear 37 = .ok (.iconst 1, 1) := by decide +kernel
theorem dX7_hear_38 : decode cX7_hear 38 = .ok (.iadd, 1) := by decide +kernel
theorem dX7_hear_39 : decode cX7_hear 39 = .ok (.putfield 140, 3) := by decide +kernel
theorem dX7_hear_42 : decode cX7_hear 42 = .ok (.aload_n 0, 1) := by decide +kernel
theorem dX7_hear_43 : decode cX7_hear 43 = .ok (.getfield 140, 3) := by decide +kernel
theorem dX7_hear_46 : decode cX7_hear 46 = .ok (.ireturn, 1) := by decide +kernel
theorem dX7_forget_0 : decode cX7_forget 0 = .ok (.aload_n 0, 1) := by decide +kernel
theorem dX7_forget_1 : decode cX7_forget 1 = .ok (.getfield 140, 3) := by decide +kernel
theorem dX7_forget_4 : decode cX7_forget 4 = .ok (.istore_n 1, 1) := by decide +kernel
theorem dX7_forget_5 : decode cX7_forget 5 = .ok (.aload_n 0, 1) := by decide +kernel
theorem dX7_forget_6 : decode cX7_forget 6 = .ok (.iconst 0, 1) := by decide +kernel
theorem dX7_forget_7 : decode cX7_forget 7 = .ok (.putfield 140, 3) := by decide +kernel
theorem dX7_forget_10 : decode cX7_forget 10 = .ok (.iload_n 1, 1) := by decide +kernel
theorem dX7_forget_11 : decode cX7_forget 11 = .ok (.ireturn, 1) := by decide +kernel
theorem dX7_stood_0 : decode cX7_stood 0 = .ok (.iconst 0, 1) := by decide +kernel
theorem dX7_stood_1 : decode cX7_stood 1 = .ok (.istore_n 1, 1) := by decide +kernel
theorem dX7_stood_2 : decode cX7_stood 2 = .ok (.iconst 0, 1) := by decide +kernel
theorem dX7_stood_3 : decode cX7_stood 3 = .ok (.istore_n 2, 1) := by decide +kernel
theorem dX7_stood_4 : decode cX7_stood 4 = .ok (.iload_n 2, 1) := by decide +kernel
theorem dX7_stood_5 : decode cX7_stood 5 = .ok (.aload_n 0, 1) := by decide +kernel
theorem dX7_stood_6 : decode cX7_stood 6 = .ok (.getfield 7, 3) := by decide +kernel
theorem dX7_stood_9 : decode cX7_stood 9 = .ok (.iconst 1, 1) := by decide +kernel
theorem dX7_stood_10 : decode cX7_stood 10 = .ok (.iaload, 1) := by decide +kernel
theorem dX7_stood_11 : decode cX7_stood 11 = .ok (.if_icmp .ge 81, 3) := by decide +kernel
theorem dX7_stood_14 : decode cX7_stood 14 = .ok (.iconst 1, 1) := by decide +kernel
theorem dX7_stood_15 : decode cX7_stood 15 = .ok (.istore_n 3, 1) := by decide +kernel
theorem dX7_stood_16 : decode cX7_stood 16 = .ok (.iconst 0, 1) := by decide +kernel
theorem dX7_stood_17 : decode cX7_stood 17 = .ok (.istore 4, 2) := by decide +kernel
theorem dX7_stood_19 : decode cX7_stood 19 = .ok (.iload 4, 2) := by decide +kernel
theorem dX7_stood_21 : decode cX7_stood 21 = .ok (.aload_n 0, 1) := by decide +kernel
theorem dX7_stood_22 : decode cX7_stood 22 = .ok (.getfield 140, 3) := by decide +kernel
theorem dX7_stood_25 : decode cX7_stood 25 = .ok (.if_icmp .ge 47, 3) := by decide +kernel
theorem dX7_stood_28 : decode cX7_stood 28 = .ok (.iload_n 3, 1) := by decide +kernel
theorem dX7_stood_29 : decode cX7_stood 29 = .ok (.ifCond .eq 35, 3) := by decide +kernel
theorem dX7_stood_32 : decode cX7_stood 32 = .ok (.aload_n 0, 1) := by decide +kernel
theorem dX7_stood_33 : decode cX7_stood 33 = .ok (.getfield 19, 3) := by decide +kernel
theorem dX7_stood_36 : decode cX7_stood 36 = .ok (.iconst 2, 1) := by decide +kernel
theorem dX7_stood_37 : decode cX7_stood 37 = .ok (.iload_n 2, 1) := by decide +kernel
theorem dX7_stood_38 : decode cX7_stood 38 = .ok (.iload 4, 2) := by decide +kernel
theorem dX7_stood_40 : decode cX7_stood 40 = .ok (.iadd, 1) := by decide +kernel
theorem dX7_stood_41 : decode cX7_stood 41 = .ok (.aload_n 0, 1) := by decide +kernel
theorem dX7_stood_42 : decode cX7_stood 42 = .ok (.getfield 7, 3) := by decide +kernel
theorem dX7_stood_45 : decode cX7_stood 45 = .ok (.iconst 1, 1) := by decide +kernel
theorem dX7_stood_46 : decode cX7_stood 46 = .ok (.iaload, 1) := by decide +kernel
theorem dX7_stood_47 : decode cX7_stood 47 = .ok (.irem, 1) := by decide +kernel
theorem dX7_stood_48 : decode cX7_stood 48 = .ok (.iadd, 1) := by decide +kernel
theorem dX7_stood_49 : decode cX7_stood 49 = .ok (.iaload, 1) := by decide +kernel
theorem dX7_stood_50 : decode cX7_stood 50 = .ok (.aload_n 0, 1) := by decide +kernel
theorem dX7_stood_51 : decode cX7_stood 51 = .ok (.getfield 34, 3) := by decide +kernel
theorem dX7_stood_54 : decode cX7_stood 54 = .ok (.iload 4, 2) := by decide +kernel
theorem dX7_stood_56 : decode cX7_stood 56 = .ok (.iaload, 1) := by decide +kernel
theorem dX7_stood_57 : decode cX7_stood 57 = .ok (.if_icmp .ne 7, 3) := by decide +kernel
theorem dX7_stood_60 : decode cX7_stood 60 = .ok (.iconst 1, 1) := by decide +kernel
theorem dX7_stood_61 : decode cX7_stood 61 = .ok (.goto 4, 3) := by decide +kernel
theorem dX7_stood_64 : decode cX7_stood 64 = .ok (.iconst 0, 1) := by decide +kernel
theorem dX7_stood_65 : decode cX7_stood 65 = .ok (.istore_n 3, 1) := by decide +kernel
theorem dX7_stood_66 : decode cX7_stood 66 = .ok (.iinc 4 1, 3) := by decide +kernel
theorem dX7_stood_69 : decode cX7_stood 69 = .ok (.goto (-50), 3) := by decide +kernel
theorem dX7_stood_72 : decode cX7_stood 72 = .ok (.iload_n 1, 1) := by decide +kernel
theorem dX7_stood_73 : decode cX7_stood 73 = .ok (.iload_n 3, 1) := by decide +kernel
theorem dX7_stood_74 : decode cX7_stood 74 = .ok (.ifCond .eq 9, 3) := by decide +kernel
theorem dX7_stood_77 : decode cX7_stood 77 = .ok (.iconst 1, 1) := by decide +kernel
theorem dX7_stood_78 : decode cX7_stood 78 = .ok (.iload_n 2, 1) := by decide +kernel
theorem dX7_stood_79 : decode cX7_stood 79 = .ok (.ishl, 1) := by decide +kernel
theorem dX7_stood_80 : decode cX7_stood 80 = .ok (.goto 4, 3) := by decide +kernel
theorem dX7_stood_83 : decode cX7_stood 83 = .ok (.iconst 0, 1) := by decide +kernel
theorem dX7_stood_84 : decode cX7_stood 84 = .ok (.ior, 1) := by decide +kernel
theorem dX7_stood_85 : decode cX7_stood 85 = .ok (.istore_n 1, 1) := by decide +kernel
theorem dX7_stood_86 : decode cX7_stood 86 = .ok (.iinc 2 1, 3) := by decide +kernel
theorem dX7_stood_89 : decode cX7_stood 89 = .ok (.goto (-85), 3) := by decide +kernel
theorem dX7_stood_92 : decode cX7_stood 92 = .ok (.iload_n 1, 1) := by decide +kernel
theorem dX7_stood_93 : decode cX7_stood 93 = .ok (.ireturn, 1) := by decide +kernel
theorem dX7_octaves_0 : decode cX7_octaves 0 = .ok (.iconst 0, 1) := by decide +kernel
theorem dX7_octaves_1 : decode cX7_octaves 1 = .ok (.istore_n 1, 1) := by decide +kernel
theorem dX7_octaves_2 : decode cX7_octaves 2 = .ok (.iconst 0, 1) := by decide +kernel
theorem dX7_octaves_3 : decode cX7_octaves 3 = .ok (.istore_n 2, 1) := by decide +kernel
theorem dX7_octaves_4 : decode cX7_octaves 4 = .ok (.iload_n 2, 1) := by decide +kernel
theorem dX7_octaves_5 : decode cX7_octaves 5 = .ok (.bipush 12, 2) := by decide +kernel
theorem dX7_octaves_7 : decode cX7_octaves 7 = .ok (.if_icmp .ge 68, 3) := by decide +kernel
theorem dX7_octaves_10 : decode cX7_octaves 10 = .ok (.iconst 0, 1) := by decide +kernel
theorem dX7_octaves_11 : decode cX7_octaves 11 = .ok (.istore_n 3, 1) := by decide +kernel
theorem dX7_octaves_12 : decode cX7_octaves 12 = .ok (.iconst 0, 1) := by decide +kernel
theorem dX7_octaves_13 : decode cX7_octaves 13 = .ok (.istore 4, 2) := by decide +kernel
theorem dX7_octaves_15 : decode cX7_octaves 15 = .ok (.iload 4, 2) := by decide +kernel
theorem dX7_octaves_17 : decode cX7_octaves 17 = .ok (.aload_n 0, 1) := by decide +kernel
theorem dX7_octaves_18 : decode cX7_octaves 18 = .ok (.getfield 7, 3) := by decide +kernel
theorem dX7_octaves_21 : decode cX7_octaves 21 = .ok (.iconst 0, 1) := by decide +kernel
theorem dX7_octaves_22 : decode cX7_octaves 22 = .ok (.iaload, 1) := by decide +kernel
theorem dX7_octaves_23 : decode cX7_octaves 23 = .ok (.if_icmp .ge 33, 3) := by decide +kernel
theorem dX7_octaves_26 : decode cX7_octaves 26 = .ok (.iload_n 3, 1) := by decide +kernel
theorem dX7_octaves_27 : decode cX7_octaves 27 = .ok (.aload_n 0, 1) := by decide +kernel
theorem dX7_octaves_28 : decode cX7_octaves 28 = .ok (.getfield 7, 3) := by decide +kernel
theorem dX7_octaves_31 : decode cX7_octaves 31 = .ok (.iconst 3, 1) := by decide +kernel
theorem dX7_octaves_32 : decode cX7_octaves 32 = .ok (.iload 4, 2) := by decide +kernel
theorem dX7_octaves_34 : decode cX7_octaves 34 = .ok (.iadd, 1) := by decide +kernel
theorem dX7_octaves_35 : decode cX7_octaves 35 = .ok (.iaload, 1) := by decide +kernel
theorem dX7_octaves_36 : decode cX7_octaves 36 = .ok (.bipush 12, 2) := by decide +kernel
theorem dX7_octaves_38 : decode cX7_octaves 38 = .ok (.irem, 1) := by decide +kernel
theorem dX7_octaves_39 : decode cX7_octaves 39 = .ok (.iload_n 2, 1) := by decide +kernel
theorem dX7_octaves_40 : decode cX7_octaves 40 = .ok (.if_icmp .ne 7, 3) := by decide +kernel
theorem dX7_octaves_43 : decode cX7_octaves 43 = .ok (.iconst 1, 1) := by decide +kernel
theorem dX7_octaves_44 : decode cX7_octaves 44 = .ok (.goto 4, 3) := by decide +kernel
theorem dX7_octaves_47 : decode cX7_octaves 47 = .ok (.iconst 0, 1) := by decide +kernel
theorem dX7_octaves_48 : decode cX7_octaves 48 = .ok (.iadd, 1) := by decide +kernel
theorem dX7_octaves_49 : decode cX7_octaves 49 = .ok (.istore_n 3, 1) := by decide +kernel
theorem dX7_octaves_50 : decode cX7_octaves 50 = .ok (.iinc 4 1, 3) := by decide +kernel
theorem dX7_octaves_53 : decode cX7_octaves 53 = .ok (.goto (-38), 3) := by decide +kernel
theorem dX7_octaves_56 : decode cX7_octaves 56 = .ok (.iload_n 1, 1) := by decide +kernel
theorem dX7_octaves_57 : decode cX7_octaves 57 = .ok (.iload_n 3, 1) := by decide +kernel
theorem dX7_octaves_58 : decode cX7_octaves 58 = .ok (.iconst 1, 1) := by decide +kernel
theorem dX7_octaves_59 : decode cX7_octaves 59 = .ok (.if_icmp .le 7, 3) := by decide +kernel
theorem dX7_octaves_62 : decode cX7_octaves 62 = .ok (.iconst 1, 1) := by decide +kernel
theorem dX7_octaves_63 : decode cX7_octaves 63 = .ok (.goto 4, 3) := by decide +kernel
theorem dX7_octaves_66 : decode cX7_octaves 66 = .ok (.iconst 0, 1) := by decide +kernel
theorem dX7_octaves_67 : decode cX7_octaves 67 = .ok (.iadd, 1) := by decide +kernel
theorem dX7_octaves_68 : decode cX7_octaves 68 = .ok (.istore_n 1, 1) := by decide +kernel
theorem dX7_octaves_69 : decode cX7_octaves 69 = .ok (.iinc 2 1, 3) := by decide +kernel
theorem dX7_octaves_72 : decode cX7_octaves 72 = .ok (.goto (-68), 3) := by decide +kernel
theorem dX7_octaves_75 : decode cX7_octaves 75 = .ok (.iload_n 1, 1) := by decide +kernel
theorem dX7_octaves_76 : decode cX7_octaves 76 = .ok (.ireturn, 1) := by decide +kernel
theorem dX7_melody_0 : decode cX7_melody 0 = .ok (.iload_n 1, 1) := by decide +kernel
theorem dX7_melody_1 : decode cX7_melody 1 = .ok (.i2l, 1) := by decide +kernel
theorem dX7_melody_2 : decode cX7_melody 2 = .ok (.lconst 0, 1) := by decide +kernel
theorem dX7_melody_3 : decode cX7_melody 3 = .ok (.ldc2_w 103, 3) := by decide +kernel
theorem dX7_melody_6 : decode cX7_melody 6 = .ok (.invokestatic 73, 3) := by decide +kernel
theorem dX7_melody_9 : decode cX7_melody 9 = .ok (.ifCond .ne 5, 3) := by decide +kernel
theorem dX7_melody_12 : decode cX7_melody 12 = .ok (.iconst (-1), 1) := by decide +kernel
theorem dX7_melody_13 : decode cX7_melody 13 = .ok (.ireturn, 1) := by decide +kernel
theorem dX7_melody_14 : decode cX7_melody 14 = .ok (.iconst 0, 1) := by decide +kernel
theorem dX7_melody_15 : decode cX7_melody 15 = .ok (.istore_n 2, 1) := by decide +kernel
theorem dX7_melody_16 : decode cX7_melody 16 = .ok (.iconst 0, 1) := by decide +kernel
theorem dX7_melody_17 : decode cX7_melody 17 = .ok (.istore_n 3, 1) := by decide +kernel
theorem dX7_melody_18 : decode cX7_melody 18 = .ok (.iconst 0, 1) := by decide +kernel
theorem dX7_melody_19 : decode cX7_melody 19 = .ok (.istore 4, 2) := by decide +kernel
theorem dX7_melody_21 : decode cX7_melody 21 = .ok (.iconst (-1), 1) := by decide +kernel
theorem dX7_melody_22 : decode cX7_melody 22 = .ok (.istore 5, 2) := by decide +kernel
theorem dX7_melody_24 : decode cX7_melody 24 = .ok (.iconst 0, 1) := by decide +kernel
theorem dX7_melody_25 : decode cX7_melody 25 = .ok (.istore 6, 2) := by decide +kernel
theorem dX7_melody_27 : decode cX7_melody 27 = .ok (.iload 6, 2) := by decide +kernel
theorem dX7_melody_29 : decode cX7_melody 29 = .ok (.aload_n 0, 1) := by decide +kernel
theorem dX7_melody_30 : decode cX7_melody 30 = .ok (.getfield 7, 3) := by decide +kernel
theorem dX7_melody_33 : decode cX7_melody 33 = .ok (.iconst 1, 1) := by decide +kernel
theorem dX7_melody_34 : decode cX7_melody 34 = .ok (.iaload, 1) := by decide +kernel
theorem dX7_melody_35 : decode cX7_melody 35 = .ok (.if_icmp .ge 161, 3) := by decide +kernel
theorem dX7_melody_38 : decode cX7_melody 38 = .ok (.iconst (-1), 1) := by decide +kernel
theorem dX7_melody_39 : decode cX7_melody 39 = .ok (.istore 7, 2) := by decide +kernel
theorem dX7_melody_41 : decode cX7_melody 41 = .ok (.iconst 0, 1) := by decide +kernel
theorem dX7_melody_42 : decode cX7_melody 42 = .ok (.istore 8, 2) := by decide +kernel
theorem dX7_melody_44 : decode cX7_melody 44 = .ok (.iload 8, 2) := by decide +kernel
theorem dX7_melody_46 : decode cX7_melody 46 = .ok (.aload_n 0, 1) := by decide +kernel
theorem dX7_melody_47 : decode cX7_melody 47 = .ok (.getfield 7, 3) := by decide +kernel
theorem dX7_melody_50 : decode cX7_melody 50 = .ok (.iconst 0, 1) := by decide +kernel
theorem dX7_melody_51 : decode cX7_melody 51 = .ok (.iaload, 1) := by decide +kernel
theorem dX7_melody_52 : decode cX7_melody 52 = .ok (.if_icmp .ge 56, 3) := by decide +kernel
theorem dX7_melody_55 : decode cX7_melody 55 = .ok (.aload_n 0, 1) := by decide +kernel
theorem dX7_melody_56 : decode cX7_melody 56 = .ok (.getfield 19, 3) := by decide +kernel
theorem dX7_melody_59 : decode cX7_melody 59 = .ok (.iconst 2, 1) := by decide +kernel
theorem dX7_melody_60 : decode cX7_melody 60 = .ok (.iload 6, 2) := by decide +kernel
theorem dX7_melody_62 : decode cX7_melody 62 = .ok (.iadd, 1) := by decide +kernel
theorem dX7_melody_63 : decode cX7_melody 63 = .ok (.iaload, 1) := by decide +kernel
theorem dX7_melody_64 : decode cX7_melody 64 = .ok (.iload 8, 2) := by decide +kernel
theorem dX7_melody_66 : decode cX7_melody 66 = .ok (.invokestatic 152, 3) := by decide +kernel
theorem dX7_melody_69 : decode cX7_melody 69 = .ok (.ifCond .eq 29, 3) := by decide +kernel
theorem dX7_melody_72 : decode cX7_melody 72 = .ok (.aload_n 0, 1) := by decide +kernel
theorem dX7_melody_73 : decode cX7_melody 73 = .ok (.getfield 7, 3) := by decide +kernel
theorem dX7_melody_76 : decode cX7_melody 76 = .ok (.iconst 3, 1) := by decide +kernel
theorem dX7_melody_77 : decode cX7_melody 77 = .ok (.iload 8, 2) := by decide +kernel
theorem dX7_melody_79 : decode cX7_melody 79 = .ok (.iadd, 1) := by decide +kernel
theorem dX7_melody_80 : decode cX7_melody 80 = .ok (.iaload, 1) := by decide +kernel
theorem dX7_melody_81 : decode cX7_melody 81 = .ok (.iload 7, 2) := by decide +kernel
theorem dX7_melody_83 : decode cX7_melody 83 = .ok (.if_icmp .le 15, 3) := by decide +kernel
theorem dX7_melody_86 : decode cX7_melody 86 = .ok (.aload_n 0, 1) := by decide +kernel
theorem dX7_melody_87 : decode cX7_melody 87 = .ok (.getfield 7, 3) := by decide +kernel
theorem dX7_melody_90 : decode cX7_melody 90 = .ok (.iconst 3, 1) := by decide +kernel
theorem dX7_melody_91 : decode cX7_melody 91 = .ok (.iload 8, 2) := by decide +kernel
theorem dX7_melody_93 : decode cX7_melody 93 = .ok (.iadd, 1) := by decide +kernel
theorem dX7_melody_94 : decode cX7_melody 94 = .ok (.iaload, 1) := by decide +kernel
theorem dX7_melody_95 : decode cX7_melody 95 = .ok (.goto 5, 3) := by decide +kernel
theorem dX7_melody_98 : decode cX7_melody 98 = .ok (.iload 7, 2) := by decide +kernel
theorem dX7_melody_100 : decode cX7_melody 100 = .ok (.istore 7, 2) := by decide +kernel
theorem dX7_melody_102 : decode cX7_melody 102 = .ok (.iinc 8 1, 3) := by decide +kernel
theorem dX7_melody_105 : decode cX7_melody 105 = .ok (.goto (-61), 3) := by decide +kernel
theorem dX7_melody_108 : decode cX7_melody 108 = .ok (.iload 7, 2) := by decide +kernel
theorem dX7_melody_110 : decode cX7_melody 110 = .ok (.ifCond .lt 80, 3) := by decide +kernel
theorem dX7_melody_113 : decode cX7_melody 113 = .ok (.iload 5, 2) := by decide +kernel
theorem dX7_melody_115 : decode cX7_melody 115 = .ok (.ifCond .ge 7, 3) := by decide +kernel
theorem dX7_melody_118 : decode cX7_melody 118 = .ok (.iconst 0, 1) := by decide +kernel
theorem dX7_melody_119 : decode cX7_melody 119 = .ok (.goto 8, 3) := by decide +kernel
theorem dX7_melody_122 : decode cX7_melody 122 = .ok (.iload 7, 2) := by decide +kernel
theorem dX7_melody_124 : decode cX7_melody 124 = .ok (.iload 5, 2) := by decide +kernel
theorem dX7_melody_126 : decode cX7_melody 126 = .ok (.isub, 1) := by decide +kernel
theorem dX7_melody_127 : decode cX7_melody 127 = .ok (.istore 8, 2) := by decide +kernel
theorem dX7_melody_129 : decode cX7_melody 129 = .ok (.iload_n 2, 1) := by decide +kernel
theorem dX7_melody_130 : decode cX7_melody 130 = .ok (.iload 8, 2) := by decide +kernel
theorem dX7_melody_132 : decode cX7_melody 132 = .ok (.ifCond .le 7, 3) := by decide +kernel
theorem dX7_melody_135 : decode cX7_melody 135 = .ok (.iconst 1, 1) := by decide +kernel
theorem dX7_melody_136 : decode cX7_melody 136 = .ok (.goto 4, 3) := by decide +kernel
theorem dX7_melody_139 : decode cX7_melody 139 = .ok (.iconst 0, 1) := by decide +kernel
theorem dX7_melody_140 : decode cX7_melody 140 = .ok (.iadd, 1) := by decide +kernel
theorem dX7_melody_141 : decode cX7_melody 141 = .ok (.istore_n 2, 1) := by decide +kernel
theorem dX7_melody_142 : decode cX7_melody 142 = .ok (.iload_n 3, 1) := by decide +kernel
theorem dX7_melody_143 : decode cX7_melody 143 = .ok (.iload 8, 2) := by decide +kernel
theorem dX7_melody_145 : decode cX7_melody 145 = .ok (.ifCond .ge 7, 3) := by decide +kernel
theorem dX7_melody_148 : decode cX7_melody 148 = .ok (.iconst 1, 1) := by decide +kernel
theorem dX7_melody_149 : decode cX7_melody 149 = .ok (.goto 4, 3) := by decide +kernel
theorem dX7_melody_152 : decode cX7_melody 152 = .ok (.iconst 0, 1) := by decide +kernel
theorem dX7_melody_153 : decode cX7_melody 153 = .ok (.iadd, 1) := by decide +kernel
theorem dX7_melody_154 : decode cX7_melody 154 = .ok (.istore_n 3, 1) := by decide +kernel
theorem dX7_melody_155 : decode cX7_melody 155 = .ok (.iload 8, 2) := by decide +kernel
theorem dX7_melody_157 : decode cX7_melody 157 = .ok (.ifCond .ge 9, 3) := by decide +kernel
theorem dX7_melody_160 : decode cX7_melody 160 = .ok (.iload 8, 2) := by decide +kernel
theorem dX7_melody_162 : decode cX7_melody 162 = .ok (.ineg, 1) := by decide +kernel
theorem dX7_melody_163 : decode cX7_melody 163 = .ok (.goto 5, 3) := by decide +kernel
theorem dX7_melody_166 : decode cX7_melody 166 = .ok (.iload 8, 2) := by decide +kernel
theorem dX7_melody_168 : decode cX7_melody 168 = .ok (.istore 9, 2) := by decide +kernel
theorem dX7_melody_170 : decode cX7_melody 170 = .ok (.iload 9, 2) := by decide +kernel
theorem dX7_melody_172 : decode cX7_melody 172 = .ok (.iload 4, 2) := by decide +kernel
theorem dX7_melody_174 : decode cX7_melody 174 = .ok (.if_icmp .le 8, 3) := by decide +kernel
theorem dX7_melody_177 : decode cX7_melody 177 = .ok (.iload 9, 2) := by decide +kernel
theorem dX7_melody_179 : decode cX7_melody 179 = .ok (.goto 5, 3) := by decide +kernel
theorem dX7_melody_182 : decode cX7_melody 182 = .ok (.iload 4, 2) := by decide +kernel
theorem dX7_melody_184 : decode cX7_melody 184 = .ok (.istore 4, 2) := by decide +kernel
theorem dX7_melody_186 : decode cX7_melody 186 = .ok (.iload 7, 2) := by decide +kernel
theorem dX7_melody_188 : decode cX7_melody 188 = .ok (.istore 5, 2) := by decide +kernel
theorem dX7_melody_190 : decode cX7_melody 190 = .ok (.iinc 6 1, 3) := by decide +kernel
theorem dX7_melody_193 : decode cX7_melody 193 = .ok (.goto (-166), 3) := by decide +kernel
theorem dX7_melody_196 : decode cX7_melody 196 = .ok (.iload_n 1, 1) := by decide +kernel
theorem dX7_melody_197 : decode cX7_melody 197 = .ok (.ifCond .ne 7, 3) := by decide +kernel
theorem dX7_melody_200 : decode cX7_melody 200 = .ok (.iload_n 2, 1) := by decide +kernel
theorem dX7_melody_201 : decode cX7_melody 201 = .ok (.goto 14, 3) := by decide +kernel
theorem dX7_melody_204 : decode cX7_melody 204 = .ok (.iload_n 1, 1) := by decide +kernel
theorem dX7_melody_205 : decode cX7_melody 205 = .ok (.iconst 1, 1) := by decide +kernel
theorem dX7_melody_206 : decode cX7_melody 206 = .ok (.if_icmp .ne 7, 3) := by decide +kernel
theorem dX7_melody_209 : decode cX7_melody 209 = .ok (.iload_n 3, 1) := by decide +kernel
theorem dX7_melody_210 : decode cX7_melody 210 = .ok (.goto 5, 3) := by decide +kernel
theorem dX7_melody_213 : decode cX7_melody 213 = .ok (.iload 4, 2) := by decide +kernel
theorem dX7_melody_215 : decode cX7_melody 215 = .ok (.ireturn, 1) := by decide +kernel
theorem dX7_winter_0 : decode cX7_winter 0 = .ok (.iload_n 1, 1) := by decide +kernel
theorem dX7_winter_1 : decode cX7_winter 1 = .ok (.i2l, 1) := by decide +kernel
theorem dX7_winter_2 : decode cX7_winter 2 = .ok (.lconst 0, 1) := by decide +kernel
theorem dX7_winter_3 : decode cX7_winter 3 = .ok (.ldc2_w 216, 3) := by decide +kernel
theorem dX7_winter_6 : decode cX7_winter 6 = .ok (.invokestatic 73, 3) := by decide +kernel
theorem dX7_winter_9 : decode cX7_winter 9 = .ok (.ifCond .eq 22, 3) := by decide +kernel
theorem dX7_winter_12 : decode cX7_winter 12 = .ok (.iload_n 2, 1) := by decide +kernel
theorem dX7_winter_13 : decode cX7_winter 13 = .ok (.i2l, 1) := by decide +kernel
theorem dX7_winter_14 : decode cX7_winter 14 = .ok (.lconst 1, 1) := by decide +kernel
theorem dX7_winter_15 : decode cX7_winter 15 = .ok (.ldc2_w 218, 3) := by decide +kernel
theorem dX7_winter_18 : decode cX7_winter 18 = .ok (.invokestatic 73, 3) := by decide +kernel
theorem dX7_winter_21 : decode cX7_winter 21 = .ok (.ifCond .eq 10, 3) := by decide +kernel
theorem dX7_winter_24 : decode cX7_winter 24 = .ok (.iload_n 3, 1) := by decide +kernel
theorem dX7_winter_25 : decode cX7_winter 25 = .ok (.invokestatic 196, 3) := by decide +kernel
theorem dX7_winter_28 : decode cX7_winter 28 = .ok (.ifCond .ne 5, 3) := by decide +kernel
theorem dX7_winter_31 : decode cX7_winter 31 = .ok (.iconst (-1), 1) := by decide +kernel
theorem dX7_winter_32 : decode cX7_winter 32 = .ok (.ireturn, 1) := by decide +kernel
theorem dX7_winter_33 : decode cX7_winter 33 = .ok (.aload_n 0, 1) := by decide +kernel
theorem dX7_winter_34 : decode cX7_winter 34 = .ok (.getfield 19, 3) := by decide +kernel
theorem dX7_winter_37 : decode cX7_winter 37 = .ok (.iconst 0, 1) := by decide +kernel
theorem dX7_winter_38 : decode cX7_winter 38 = .ok (.aload_n 0, 1) := by decide +kernel
theorem dX7_winter_39 : decode cX7_winter 39 = .ok (.getfield 46, 3) := by decide +kernel
theorem dX7_winter_42 : decode cX7_winter 42 = .ok (.iconst 0, 1) := by decide +kernel
theorem dX7_winter_43 : decode cX7_winter 43 = .ok (.invokestatic 165, 3) := by decide +kernel
theorem dX7_winter_46 : decode cX7_winter 46 = .ok (.iconst 0, 1) := by decide +kernel
theorem dX7_winter_47 : decode cX7_winter 47 = .ok (.istore 4, 2) := by decide +kernel
theorem dX7_winter_49 : decode cX7_winter 49 = .ok (.iload 4, 2) := by decide +kernel
theorem dX7_winter_51 : decode cX7_winter 51 = .ok (.iload_n 2, 1) := by decide +kernel
theorem dX7_winter_52 : decode cX7_winter 52 = .ok (.if_icmp .ge 74, 3) := by decide +kernel
theorem dX7_winter_55 : decode cX7_winter 55 = .ok (.ldc2_w 220, 3) := by decide +kernel
theorem dX7_winter_58 : decode cX7_winter 58 = .ok (.iload_n 1, 1) := by decide +kernel
theorem dX7_winter_59 : decode cX7_winter 59 = .ok (.i2l, 1) := by decide +kernel
theorem dX7_winter_60 : decode cX7_winter 60 = .ok (.lmul, 1) := by decide +kernel
theorem dX7_winter_61 : decode cX7_winter 61 = .ok (.ldc2_w 222, 3) := by decide +kernel
theorem dX7_winter_64 : decode cX7_winter 64 = .ok (.iload 4, 2) := by decide +kernel
theorem dX7_winter_66 : decode cX7_winter 66 = .ok (.i2l, 1) := by decide +kernel
theorem dX7_winter_67 : decode cX7_winter 67 = .ok (.lmul, 1) := by decide +kernel
theorem dX7_winter_68 : decode cX7_winter 68 = .ok (.ladd, 1) := by decide +kernel
theorem dX7_winter_69 : decode cX7_winter 69 = .ok (.lconst 1, 1) := by decide +kernel
theorem dX7_winter_70 : decode cX7_winter 70 = .ok (.ladd, 1) := by decide +kernel
theorem dX7_winter_71 : decode cX7_winter 71 = .ok (.lstore 5, 2) := by decide +kernel
theorem dX7_winter_73 : decode cX7_winter 73 = .ok (.lload 5, 2) := by decide +kernel
theorem dX7_winter_75 : decode cX7_winter 75 = .ok (.lload 5, 2) := by decide +kernel
theorem dX7_winter_77 : decode cX7_winter 77 = .ok (.lmul, 1) := by decide +kernel
theorem dX7_winter_78 : decode cX7_winter 78 = .ok (.ldc2_w 224, 3) := by decide +kernel
theorem dX7_winter_81 : decode cX7_winter 81 = .ok (.lrem, 1) := by decide +kernel
theorem dX7_winter_82 : decode cX7_winter 82 = .ok (.l2i, 1) := by decide +kernel
theorem dX7_winter_83 : decode cX7_winter 83 = .ok (.bipush 8, 2) := by decide +kernel
theorem dX7_winter_85 : decode cX7_winter 85 = .ok (.idiv, 1) := by decide +kernel
theorem dX7_winter_86 : decode cX7_winter 86 = .ok (.istore 7, 2) := by decide +kernel
theorem dX7_winter_88 : decode cX7_winter 88 = .ok (.iconst 2, 1) := by decide +kernel
theorem dX7_winter_89 : decode cX7_winter 89 = .ok (.iload 7, 2) := by decide +kernel
theorem dX7_winter_91 : decode cX7_winter 91 = .ok (.aload_n 0, 1) := by decide +kernel
theorem dX7_winter_92 : decode cX7_winter 92 = .ok (.getfield 7, 3) := by decide +kernel
theorem dX7_winter_95 : decode cX7_winter 95 = .ok (.iconst 1, 1) := by decide +kernel
theorem dX7_winter_96 : decode cX7_winter 96 = .ok (.iaload, 1) := by decide +kernel
theorem dX7_winter_97 : decode cX7_winter 97 = .ok (.irem, 1) := by decide +kernel
theorem dX7_winter_98 : decode cX7_winter 98 = .ok (.iadd, 1) := by decide +kernel
theorem dX7_winter_99 : decode cX7_winter 99 = .ok (.istore 8, 2) := by decide +kernel
theorem dX7_winter_101 : decode cX7_winter 101 = .ok (.aload_n 0, 1) := by decide +kernel
theorem dX7_winter_102 : decode cX7_winter 102 = .ok (.getfield 46, 3) := by decide +kernel
theorem dX7_winter_105 : decode cX7_winter 105 = .ok (.iload 8, 2) := by decide +kernel
theorem dX7_winter_107 : decode cX7_winter 107 = .ok (.dup2, 1) := by decide +kernel
theorem dX7_winter_108 : decode cX7_winter 108 = .ok (.iaload, 1) := by decide +kernel
theorem dX7_winter_109 : decode cX7_winter 109 = .ok (.aload_n 0, 1) := by decide +kernel
theorem dX7_winter_110 : decode cX7_winter 110 = .ok (.getfield 46, 3) := by decide +kernel
theorem dX7_winter_113 : decode cX7_winter 113 = .ok (.iload 8, 2) := by decide +kernel
theorem dX7_winter_115 : decode cX7_winter 115 = .ok (.iaload, 1) := by decide +kernel
theorem dX7_winter_116 : decode cX7_winter 116 = .ok (.iconst 1, 1) := by decide +kernel
theorem dX7_winter_117 : decode cX7_winter 117 = .ok (.isub, 1) := by decide +kernel
theorem dX7_winter_118 : decode cX7_winter 118 = .ok (.iand, 1) := by decide +kernel
theorem dX7_winter_119 : decode cX7_winter 119 = .ok (.iastore, 1) := by decide +kernel
theorem dX7_winter_120 : decode cX7_winter 120 = .ok (.iinc 4 1, 3) := by decide +kernel
theorem dX7_winter_123 : decode cX7_winter 123 = .ok (.goto (-74), 3) := by decide +kernel
theorem dX7_winter_126 : decode cX7_winter 126 = .ok (.iconst 0, 1) := by decide +kernel
theorem dX7_winter_127 : decode cX7_winter 127 = .ok (.istore 4, 2) := by decide +kernel
theorem dX7_winter_129 : decode cX7_winter 129 = .ok (.iconst 0, 1) := by decide +kernel
theorem dX7_winter_130 : decode cX7_winter 130 = .ok (.istore 5, 2) := by decide +kernel
theorem dX7_winter_132 : decode cX7_winter 132 = .ok (.iconst 0, 1) := by decide +kernel
theorem dX7_winter_133 : decode cX7_winter 133 = .ok (.istore 6, 2) := by decide +kernel
theorem dX7_winter_135 : decode cX7_winter 135 = .ok (.iload 6, 2) := by decide +kernel
theorem dX7_winter_137 : decode cX7_winter 137 = .ok (.aload_n 0, 1) := by decide +kernel
theorem dX7_winter_138 : decode cX7_winter 138 = .ok (.getfield 7, 3) := by decide +kernel
theorem dX7_winter_141 : decode cX7_winter 141 = .ok (.iconst 1, 1) := by decide +kernel
theorem dX7_winter_142 : decode cX7_winter 142 = .ok (.iaload, 1) := by decide +kernel
theorem dX7_winter_143 : decode cX7_winter 143 = .ok (.if_icmp .ge 48, 3) := by decide +kernel
theorem dX7_winter_146 : decode cX7_winter 146 = .ok (.iload 4, 2) := by decide +kernel
theorem dX7_winter_148 : decode cX7_winter 148 = .ok (.aload_n 0, 1) := by decide +kernel
theorem dX7_winter_149 : decode cX7_winter 149 = .ok (.getfield 46, 3) := by decide +kernel
theorem dX7_winter_152 : decode cX7_winter 152 = .ok (.iconst 2, 1) := by decide +kernel
theorem dX7_winter_153 : decode cX7_winter 153 = .ok (.iload 6, 2) := by decide +kernel
theorem dX7_winter_155 : decode cX7_winter 155 = .ok (.iadd, 1) := by decide +kernel
theorem dX7_winter_156 : decode cX7_winter 156 = .ok (.iaload, 1) := by decide +kernel
theorem dX7_winter_157 : decode cX7_winter 157 = .ok (.invokestatic 114, 3) := by decide +kernel
theorem dX7_winter_160 : decode cX7_winter 160 = .ok (.iadd, 1) := by decide +kernel
theorem dX7_winter_161 : decode cX7_winter 161 = .ok (.istore 4, 2) := by decide +kernel
theorem dX7_winter_163 : decode cX7_winter 163 = .ok (.iload 5, 2) := by decide +kernel
theorem dX7_winter_165 : decode cX7_winter 165 = .ok (.aload_n 0, 1) := by decide +kernel
theorem dX7_winter_166 : decode cX7_winter 166 = .ok (.getfield 46, 3) := by decide +kernel
theorem dX7_winter_169 : decode cX7_winter 169 = .ok (.iconst 2, 1) := by decide +kernel
theorem dX7_winter_170 : decode cX7_winter 170 = .ok (.iload 6, 2) := by decide +kernel
theorem dX7_winter_172 : decode cX7_winter 172 = .ok (.iadd, 1) := by decide +kernel
theorem dX7_winter_173 : decode cX7_winter 173 = .ok (.iaload, 1) := by decide +kernel
theorem dX7_winter_174 : decode cX7_winter 174 = .ok (.ifCond .ne 7, 3) := by decide +kernel
theorem dX7_winter_177 : decode cX7_winter 177 = .ok (.iconst 1, 1) := by decide +kernel
theorem dX7_winter_178 : decode cX7_winter 178 = .ok (.goto 4, 3) := by decide +kernel
theorem dX7_winter_181 : decode cX7_winter 181 = .ok (.iconst 0, 1) := by decide +kernel
theorem dX7_winter_182 : decode cX7_winter 182 = .ok (.iadd, 1) := by decide +kernel
theorem dX7_winter_183 : decode cX7_winter 183 = .ok (.istore 5, 2) := by decide +kernel
theorem dX7_winter_185 : decode cX7_winter 185 = .ok (.iinc 6 1, 3) := by decide +kernel
theorem dX7_winter_188 : decode cX7_winter 188 = .ok (.goto (-53), 3) := by decide +kernel
theorem dX7_winter_191 : decode cX7_winter 191 = .ok (.iload_n 3, 1) := by decide +kernel
theorem dX7_winter_192 : decode cX7_winter 192 = .ok (.ifCond .ne 8, 3) := by decide +kernel
theorem dX7_winter_195 : decode cX7_winter 195 = .ok (.iload 4, 2) := by decide +kernel
theorem dX7_winter_197 : decode cX7_winter 197 = .ok (.goto 5, 3) := by decide +kernel
theorem dX7_winter_200 : decode cX7_winter 200 = .ok (.iload 5, 2) := by decide +kernel
theorem dX7_winter_202 : decode cX7_winter 202 = .ok (.ireturn, 1) := by decide +kernel
theorem dX7_keep_0 : decode cX7_keep 0 = .ok (.aload_n 0, 1) := by decide +kernel
theorem dX7_keep_1 : decode cX7_keep 1 = .ok (.getfield 146, 3) := by decide +kernel
theorem dX7_keep_4 : decode cX7_keep 4 = .ok (.iconst 2, 1) := by decide +kernel
theorem dX7_keep_5 : decode cX7_keep 5 = .ok (.if_icmp .ne 6, 3) := by decide +kernel
theorem dX7_keep_8 : decode cX7_keep 8 = .ok (.bipush (-3), 2) := by decide +kernel
theorem dX7_keep_10 : decode cX7_keep 10 = .ok (.ireturn, 1) := by decide +kernel
theorem dX7_keep_11 : decode cX7_keep 11 = .ok (.aload_n 0, 1) := by decide +kernel
theorem dX7_keep_12 : decode cX7_keep 12 = .ok (.getfield 19, 3) := by decide +kernel
theorem dX7_keep_15 : decode cX7_keep 15 = .ok (.iconst 0, 1) := by decide +kernel
theorem dX7_keep_16 : decode cX7_keep 16 = .ok (.aload_n 0, 1) := by decide +kernel
theorem dX7_keep_17 : decode cX7_keep 17 = .ok (.getfield 25, 3) := by decide +kernel
theorem dX7_keep_20 : decode cX7_keep 20 = .ok (.bipush 66, 2) := by decide +kernel
theorem dX7_keep_22 : decode cX7_keep 22 = .ok (.aload_n 0, 1) := by decide +kernel
theorem dX7_keep_23 : decode cX7_keep 23 = .ok (.getfield 146, 3) := by decide +kernel
theorem dX7_keep_26 : decode cX7_keep 26 = .ok (.imul, 1) := by decide +kernel
theorem dX7_keep_27 : decode cX7_keep 27 = .ok (.invokestatic 165, 3) := by decide +kernel
theorem dX7_keep_30 : decode cX7_keep 30 = .ok (.aload_n 0, 1) := by decide +kernel
theorem dX7_keep_31 : decode cX7_keep 31 = .ok (.dup, 1) := by decide +kernel
theorem dX7_keep_32 : decode cX7_keep 32 = .ok (.getfield 146, 3) := by decide +kernel
theorem dX7_keep_35 : decode cX7_keep 35 = .ok (.iconst 1, 1) := by decide +kernel
theorem dX7_keep_36 : decode cX7_keep 36 = .ok (.iadd, 1) := by decide +kernel
theorem dX7_keep_37 : decode cX7_keep 37 = .ok (.putfield 146, 3) := by decide +kernel
theorem dX7_keep_40 : decode cX7_keep 40 = .ok (.aload_n 0, 1) := by decide +kernel
theorem dX7_keep_41 : decode cX7_keep 41 = .ok (.getfield 146, 3) := by decide +kernel
theorem dX7_keep_44 : decode cX7_keep 44 = .ok (.ireturn, 1) := by decide +kernel
theorem dX7_back_0 : decode cX7_back 0 = .ok (.aload_n 0, 1) := by decide +kernel
theorem dX7_back_1 : decode cX7_back 1 = .ok (.getfield 146, 3) := by decide +kernel
theorem dX7_back_4 : decode cX7_back 4 = .ok (.ifCond .ne 6, 3) := by decide +kernel
theorem dX7_back_7 : decode cX7_back 7 = .ok (.bipush (-2), 2) := by decide +kernel
theorem dX7_back_9 : decode cX7_back 9 = .ok (.ireturn, 1) := by decide +kernel
theorem dX7_back_10 : decode cX7_back 10 = .ok (.aload_n 0, 1) := by decide +kernel
theorem dX7_back_11 : decode cX7_back 11 = .ok (.dup, 1) := by decide +kernel
theorem dX7_back_12 : decode cX7_back 12 = .ok (.getfield 146, 3) := by decide +kernel
theorem dX7_back_15 : decode cX7_back 15 = .ok (.iconst 1, 1) := by decide +kernel
theorem dX7_back_16 : decode cX7_back 16 = .ok (.isub, 1) := by decide +kernel
theorem dX7_back_17 : decode cX7_back 17 = .ok (.putfield 146, 3) := by decide +kernel
theorem dX7_back_20 : decode cX7_back 20 = .ok (.aload_n 0, 1) := by decide +kernel
theorem dX7_back_21 : decode cX7_back 21 = .ok (.getfield 25, 3) := by decide +kernel
theorem dX7_back_24 : decode cX7_back 24 = .ok (.bipush 66, 2) := by decide +kernel
theorem dX7_back_26 : decode cX7_back 26 = .ok (.aload_n 0, 1) := by decide +kernel
theorem dX7_back_27 : decode cX7_back 27 = .ok (.getfield 146, 3) := by decide +kernel
theorem dX7_back_30 : decode cX7_back 30 = .ok (.imul, 1) := by decide +kernel
theorem dX7_back_31 : decode cX7_back 31 = .ok (.aload_n 0, 1) := by decide +kernel
theorem dX7_back_32 : decode cX7_back 32 = .ok (.getfield 19, 3) := by decide +kernel
theorem dX7_back_35 : decode cX7_back 35 = .ok (.iconst 0, 1) := by decide +kernel
theorem dX7_back_36 : decode cX7_back 36 = .ok (.invokestatic 165, 3) := by decide +kernel
theorem dX7_back_39 : decode cX7_back 39 = .ok (.aload_n 0, 1) := by decide +kernel
theorem dX7_back_40 : decode cX7_back 40 = .ok (.iconst 0, 1) := by decide +kernel
theorem dX7_back_41 : decode cX7_back 41 = .ok (.putfield 143, 3) := by decide +kernel
theorem dX7_back_44 : decode cX7_back 44 = .ok (.aload_n 0, 1) := by decide +kernel
theorem dX7_back_45 : decode cX7_back 45 = .ok (.getfield 146, 3) := by decide +kernel
theorem dX7_back_48 : decode cX7_back 48 = .ok (.ireturn, 1) := by decide +kernel
theorem dX7_count_0 : decode cX7_count 0 = .ok (.iconst 0, 1) := by decide +kernel
theorem dX7_count_1 : decode cX7_count 1 = .ok (.istore_n 2, 1) := by decide +kernel
theorem dX7_count_2 : decode cX7_count 2 = .ok (.iconst 0, 1) := by decide +kernel
theorem dX7_count_3 : decode cX7_count 3 = .ok (.istore_n 3, 1) := by decide +kernel
theorem dX7_count_4 : decode cX7_count 4 = .ok (.iload_n 3, 1) := by decide +kernel
theorem dX7_count_5 : decode cX7_count 5 = .ok (.aload_n 0, 1) := by decide +kernel
theorem dX7_count_6 : decode cX7_count 6 = .ok (.getfield 7, 3) := by decide +kernel
theorem dX7_count_9 : decode cX7_count 9 = .ok (.iconst 1, 1) := by decide +kernel
theorem dX7_count_10 : decode cX7_count 10 = .ok (.iaload, 1) := by decide +kernel
theorem dX7_count_11 : decode cX7_count 11 = .ok (.if_icmp .ge 23, 3) := by decide +kernel
theorem dX7_count_14 : decode cX7_count 14 = .ok (.iload_n 2, 1) := by decide +kernel
theorem dX7_count_15 : decode cX7_count 15 = .ok (.aload_n 0, 1) := by decide +kernel
theorem dX7_count_16 : decode cX7_count 16 = .ok (.getfield 19, 3) := by decide +kernel
theorem dX7_count_19 : decode cX7_count 19 = .ok (.iconst 2, 1) := by decide +kernel
theorem dX7_count_20 : decode cX7_count 20 = .ok (.iload_n 3, 1) := by decide +kernel
theorem dX7_count_21 : decode cX7_count 21 = .ok (.iadd, 1) := by decide +kernel
theorem dX7_count_22 : decode cX7_count 22 = .ok (.iaload, 1) := by decide +kernel
theorem dX7_count_23 : decode cX7_count 23 = .ok (.invokestatic 114, 3) := by decide +kernel
theorem dX7_count_26 : decode cX7_count 26 = .ok (.iadd, 1) := by decide +kernel
theorem dX7_count_27 : decode cX7_count 27 = .ok (.istore_n 2, 1) := by decide +kernel
theorem dX7_count_28 : decode cX7_count 28 = .ok (.iinc 3 1, 3) := by decide +kernel
theorem dX7_count_31 : decode cX7_count 31 = .ok (.goto (-27), 3) := by decide +kernel
theorem dX7_count_34 : decode cX7_count 34 = .ok (.iload_n 1, 1) := by decide +kernel
theorem dX7_count_35 : decode cX7_count 35 = .ok (.tableswitch 96 0 9 #[53, 53, 53, 60, 62, 69, 76, 81, 86, 91], 53) := by decide +kernel
theorem dX7_count_88 : decode cX7_count 88 = .ok (.aload_n 0, 1) := by decide +kernel
theorem dX7_count_89 : decode cX7_count 89 = .ok (.getfield 7, 3) := by decide +kernel
theorem dX7_count_92 : decode cX7_count 92 = .ok (.iload_n 1, 1) := by decide +kernel
theorem dX7_count_93 : decode cX7_count 93 = .ok (.iaload, 1) := by decide +kernel
theorem dX7_count_94 : decode cX7_count 94 = .ok (.ireturn, 1) := by decide +kernel
theorem dX7_count_95 : decode cX7_count 95 = .ok (.iload_n 2, 1) := by decide +kernel
theorem dX7_count_96 : decode cX7_count 96 = .ok (.ireturn, 1) := by decide +kernel
theorem dX7_count_97 : decode cX7_count 97 = .ok (.aload_n 0, 1) := by decide +kernel
theorem dX7_count_98 : decode cX7_count 98 = .ok (.getfield 19, 3) := by decide +kernel
theorem dX7_count_101 : decode cX7_count 101 = .ok (.iconst 1, 1) := by decide +kernel
theorem dX7_count_102 : decode cX7_count 102 = .ok (.iaload, 1) := by decide +kernel
theorem dX7_count_103 : decode cX7_count 103 = .ok (.ireturn, 1) := by decide +kernel
theorem dX7_count_104 : decode cX7_count 104 = .ok (.aload_n 0, 1) := by decide +kernel
theorem dX7_count_105 : decode cX7_count 105 = .ok (.getfield 19, 3) := by decide +kernel
theorem dX7_count_108 : decode cX7_count 108 = .ok (.iconst 0, 1) := by decide +kernel
theorem dX7_count_109 : decode cX7_count 109 = .ok (.iaload, 1) := by decide +kernel
theorem dX7_count_110 : decode cX7_count 110 = .ok (.ireturn, 1) := by decide +kernel
theorem dX7_count_111 : decode cX7_count 111 = .ok (.aload_n 0, 1) := by decide +kernel
theorem dX7_count_112 : decode cX7_count 112 = .ok (.getfield 140, 3) := by decide +kernel
theorem dX7_count_115 : decode cX7_count 115 = .ok (.ireturn, 1) := by decide +kernel
theorem dX7_count_116 : decode cX7_count 116 = .ok (.aload_n 0, 1) := by decide +kernel
theorem dX7_count_117 : decode cX7_count 117 = .ok (.getfield 143, 3) := by decide +kernel
theorem dX7_count_120 : decode cX7_count 120 = .ok (.ireturn, 1) := by decide +kernel
theorem dX7_count_121 : decode cX7_count 121 = .ok (.aload_n 0, 1) := by decide +kernel
theorem dX7_count_122 : decode cX7_count 122 = .ok (.getfield 146, 3) := by decide +kernel
theorem dX7_count_125 : decode cX7_count 125 = .ok (.ireturn, 1) := by decide +kernel
theorem dX7_count_126 : decode cX7_count 126 = .ok (.aload_n 0, 1) := by decide +kernel
theorem dX7_count_127 : decode cX7_count 127 = .ok (.getfield 81, 3) := by decide +kernel
theorem dX7_count_130 : decode cX7_count 130 = .ok (.ireturn, 1) := by decide +kernel
theorem dX7_count_131 : decode cX7_count 131 = .ok (.iconst (-1), 1) := by decide +kernel
theorem dX7_count_132 : decode cX7_count 132 = .ok (.ireturn, 1) := by decide +kernel
