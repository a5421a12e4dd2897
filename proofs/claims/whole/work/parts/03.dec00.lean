theorem dX0_init_0 : decode cX0_init 0 = .ok (.aload_n 0, 1) := by decide +kernel
theorem dX0_init_1 : decode cX0_init 1 = .ok (.invokespecial 3, 3) := by decide +kernel
theorem dX0_init_4 : decode cX0_init 4 = .ok (.aload_n 0, 1) := by decide +kernel
theorem dX0_init_5 : decode cX0_init 5 = .ok (.aload_n 1, 1) := by decide +kernel
theorem dX0_init_6 : decode cX0_init 6 = .ok (.putfield 9, 3) := by decide +kernel
theorem dX0_init_9 : decode cX0_init 9 = .ok (.aload_n 0, 1) := by decide +kernel
theorem dX0_init_10 : decode cX0_init 10 = .ok (.new 15, 3) := by decide +kernel
theorem dX0_init_13 : decode cX0_init 13 = .ok (.dup, 1) := by decide +kernel
theorem dX0_init_14 : decode cX0_init 14 = .ok (.invokespecial 17, 3) := by decide +kernel
theorem dX0_init_17 : decode cX0_init 17 = .ok (.putfield 18, 3) := by decide +kernel
theorem dX0_init_20 : decode cX0_init 20 = .ok (.return_, 1) := by decide +kernel
theorem dX0_read_0 : decode cX0_read 0 = .ok (.aload_n 0, 1) := by decide +kernel
theorem dX0_read_1 : decode cX0_read 1 = .ok (.getfield 9, 3) := by decide +kernel
theorem dX0_read_4 : decode cX0_read 4 = .ok (.iload_n 1, 1) := by decide +kernel
theorem dX0_read_5 : decode cX0_read 5 = .ok (.invokevirtual 22, 3) := by decide +kernel
theorem dX0_read_8 : decode cX0_read 8 = .ok (.aload_n 0, 1) := by decide +kernel
theorem dX0_read_9 : decode cX0_read 9 = .ok (.getfield 18, 3) := by decide +kernel
theorem dX0_read_12 : decode cX0_read 12 = .ok (.iconst 0, 1) := by decide +kernel
theorem dX0_read_13 : decode cX0_read 13 = .ok (.putfield 28, 3) := by decide +kernel
theorem dX0_read_16 : decode cX0_read 16 = .ok (.iconst 1, 1) := by decide +kernel
theorem dX0_read_17 : decode cX0_read 17 = .ok (.istore_n 2, 1) := by decide +kernel
theorem dX0_read_18 : decode cX0_read 18 = .ok (.iconst 0, 1) := by decide +kernel
theorem dX0_read_19 : decode cX0_read 19 = .ok (.istore_n 3, 1) := by decide +kernel
theorem dX0_read_20 : decode cX0_read 20 = .ok (.iload_n 3, 1) := by decide +kernel
theorem dX0_read_21 : decode cX0_read 21 = .ok (.bipush 16, 2) := by decide +kernel
theorem dX0_read_23 : decode cX0_read 23 = .ok (.if_icmp .gt 28, 3) := by decide +kernel
theorem dX0_read_26 : decode cX0_read 26 = .ok (.iload_n 2, 1) := by decide +kernel
theorem dX0_read_27 : decode cX0_read 27 = .ok (.ifCond .eq 24, 3) := by decide +kernel
theorem dX0_read_30 : decode cX0_read 30 = .ok (.aload_n 0, 1) := by decide +kernel
theorem dX0_read_31 : decode cX0_read 31 = .ok (.iload_n 3, 1) := by decide +kernel
theorem dX0_read_32 : decode cX0_read 32 = .ok (.invokevirtual 32, 3) := by decide +kernel
theorem dX0_read_35 : decode cX0_read 35 = .ok (.aload_n 0, 1) := by decide +kernel
theorem dX0_read_36 : decode cX0_read 36 = .ok (.getfield 9, 3) := by decide +kernel
theorem dX0_read_39 : decode cX0_read 39 = .ok (.bipush 59, 2) := by decide +kernel
theorem dX0_read_41 : decode cX0_read 41 = .ok (.invokevirtual 35, 3) := by decide +kernel
theorem dX0_read_44 : decode cX0_read 44 = .ok (.istore_n 2, 1) := by decide +kernel
theorem dX0_read_45 : decode cX0_read 45 = .ok (.iinc 3 1, 3) := by decide +kernel
theorem dX0_read_48 : decode cX0_read 48 = .ok (.goto (-28), 3) := by decide +kernel
theorem dX0_read_51 : decode cX0_read 51 = .ok (.aload_n 0, 1) := by decide +kernel
theorem dX0_read_52 : decode cX0_read 52 = .ok (.getfield 9, 3) := by decide +kernel
theorem dX0_read_55 : decode cX0_read 55 = .ok (.aload_n 0, 1) := by decide +kernel
theorem dX0_read_56 : decode cX0_read 56 = .ok (.getfield 18, 3) := by decide +kernel
theorem dX0_read_59 : decode cX0_read 59 = .ok (.getfield 28, 3) := by decide +kernel
theorem dX0_read_62 : decode cX0_read 62 = .ok (.invokevirtual 39, 3) := by decide +kernel
theorem dX0_read_65 : decode cX0_read 65 = .ok (.ireturn, 1) := by decide +kernel
theorem dX0_cut_0 : decode cX0_cut 0 = .ok (.iload_n 1, 1) := by decide +kernel
theorem dX0_cut_1 : decode cX0_cut 1 = .ok (.bipush 16, 2) := by decide +kernel
theorem dX0_cut_3 : decode cX0_cut 3 = .ok (.if_icmp .lt 36, 3) := by decide +kernel
theorem dX0_cut_6 : decode cX0_cut 6 = .ok (.aload_n 0, 1) := by decide +kernel
theorem dX0_cut_7 : decode cX0_cut 7 = .ok (.getfield 9, 3) := by decide +kernel
theorem dX0_cut_10 : decode cX0_cut 10 = .ok (.aload_n 0, 1) := by decide +kernel
theorem dX0_cut_11 : decode cX0_cut 11 = .ok (.getfield 9, 3) := by decide +kernel
theorem dX0_cut_14 : decode cX0_cut 14 = .ok (.invokevirtual 43, 3) := by decide +kernel
theorem dX0_cut_17 : decode cX0_cut 17 = .ok (.invokestatic 47, 3) := by decide +kernel
theorem dX0_cut_20 : decode cX0_cut 20 = .ok (.ifCond .eq 7, 3) := by decide +kernel
theorem dX0_cut_23 : decode cX0_cut 23 = .ok (.iconst 4, 1) := by decide +kernel
theorem dX0_cut_24 : decode cX0_cut 24 = .ok (.goto 4, 3) := by decide +kernel
theorem dX0_cut_27 : decode cX0_cut 27 = .ok (.iconst 1, 1) := by decide +kernel
theorem dX0_cut_28 : decode cX0_cut 28 = .ok (.aload_n 0, 1) := by decide +kernel
theorem dX0_cut_29 : decode cX0_cut 29 = .ok (.getfield 9, 3) := by decide +kernel
theorem dX0_cut_32 : decode cX0_cut 32 = .ok (.getfield 51, 3) := by decide +kernel
theorem dX0_cut_35 : decode cX0_cut 35 = .ok (.invokevirtual 54, 3) := by decide +kernel
theorem dX0_cut_38 : decode cX0_cut 38 = .ok (.return_, 1) := by decide +kernel
theorem dX0_cut_39 : decode cX0_cut 39 = .ok (.aload_n 0, 1) := by decide +kernel
theorem dX0_cut_40 : decode cX0_cut 40 = .ok (.bipush 23, 2) := by decide +kernel
theorem dX0_cut_42 : decode cX0_cut 42 = .ok (.invokevirtual 58, 3) := by decide +kernel
theorem dX0_cut_45 : decode cX0_cut 45 = .ok (.istore_n 2, 1) := by decide +kernel
theorem dX0_cut_46 : decode cX0_cut 46 = .ok (.aload_n 0, 1) := by decide +kernel
theorem dX0_cut_47 : decode cX0_cut 47 = .ok (.getfield 9, 3) := by decide +kernel
theorem dX0_cut_50 : decode cX0_cut 50 = .ok (.bipush 44, 2) := by decide +kernel
theorem dX0_cut_52 : decode cX0_cut 52 = .ok (.invokevirtual 61, 3) := by decide +kernel
theorem dX0_cut_55 : decode cX0_cut 55 = .ok (.aload_n 0, 1) := by decide +kernel
theorem dX0_cut_56 : decode cX0_cut 56 = .ok (.bipush 15, 2) := by decide +kernel
theorem dX0_cut_58 : decode cX0_cut 58 = .ok (.invokevirtual 58, 3) := by decide +kernel
theorem dX0_cut_61 : decode cX0_cut 61 = .ok (.istore_n 3, 1) := by decide +kernel
theorem dX0_cut_62 : decode cX0_cut 62 = .ok (.aload_n 0, 1) := by decide +kernel
theorem dX0_cut_63 : decode cX0_cut 63 = .ok (.getfield 9, 3) := by decide +kernel
theorem dX0_cut_66 : decode cX0_cut 66 = .ok (.bipush 58, 2) := by decide +kernel
theorem dX0_cut_68 : decode cX0_cut 68 = .ok (.invokevirtual 61, 3) := by decide +kernel
theorem dX0_cut_71 : decode cX0_cut 71 = .ok (.aload_n 0, 1) := by decide +kernel
theorem dX0_cut_72 : decode cX0_cut 72 = .ok (.getfield 18, 3) := by decide +kernel
theorem dX0_cut_75 : decode cX0_cut 75 = .ok (.getfield 65, 3) := by decide +kernel
theorem dX0_cut_78 : decode cX0_cut 78 = .ok (.iload_n 1, 1) := by decide +kernel
theorem dX0_cut_79 : decode cX0_cut 79 = .ok (.bipush 24, 2) := by decide +kernel
theorem dX0_cut_81 : decode cX0_cut 81 = .ok (.iload_n 3, 1) := by decide +kernel
theorem dX0_cut_82 : decode cX0_cut 82 = .ok (.imul, 1) := by decide +kernel
theorem dX0_cut_83 : decode cX0_cut 83 = .ok (.iload_n 2, 1) := by decide +kernel
theorem dX0_cut_84 : decode cX0_cut 84 = .ok (.iadd, 1) := by decide +kernel
theorem dX0_cut_85 : decode cX0_cut 85 = .ok (.iastore, 1) := by decide +kernel
theorem dX0_cut_86 : decode cX0_cut 86 = .ok (.aload_n 0, 1) := by decide +kernel
theorem dX0_cut_87 : decode cX0_cut 87 = .ok (.getfield 18, 3) := by decide +kernel
theorem dX0_cut_90 : decode cX0_cut 90 = .ok (.getfield 69, 3) := by decide +kernel
theorem dX0_cut_93 : decode cX0_cut 93 = .ok (.iload_n 1, 1) := by decide +kernel
theorem dX0_cut_94 : decode cX0_cut 94 = .ok (.aload_n 0, 1) := by decide +kernel
theorem dX0_cut_95 : decode cX0_cut 95 = .ok (.getfield 18, 3) := by decide +kernel
theorem dX0_cut_98 : decode cX0_cut 98 = .ok (.getfield 65, 3) := by decide +kernel
theorem dX0_cut_101 : decode cX0_cut 101 = .ok (.iload_n 1, 1) := by decide +kernel
theorem dX0_cut_102 : decode cX0_cut 102 = .ok (.iaload, 1) := by decide +kernel
theorem dX0_cut_103 : decode cX0_cut 103 = .ok (.iastore, 1) := by decide +kernel
theorem dX0_cut_104 : decode cX0_cut 104 = .ok (.aload_n 0, 1) := by decide +kernel
theorem dX0_cut_105 : decode cX0_cut 105 = .ok (.getfield 18, 3) := by decide +kernel
theorem dX0_cut_108 : decode cX0_cut 108 = .ok (.getfield 72, 3) := by decide +kernel
theorem dX0_cut_111 : decode cX0_cut 111 = .ok (.iload_n 1, 1) := by decide +kernel
theorem dX0_cut_112 : decode cX0_cut 112 = .ok (.aload_n 0, 1) := by decide +kernel
theorem dX0_cut_113 : decode cX0_cut 113 = .ok (.getfield 9, 3) := by decide +kernel
theorem dX0_cut_116 : decode cX0_cut 116 = .ok (.bipush 120, 2) := by decide +kernel
theorem dX0_cut_118 : decode cX0_cut 118 = .ok (.invokevirtual 35, 3) := by decide +kernel
theorem dX0_cut_121 : decode cX0_cut 121 = .ok (.ifCond .eq 7, 3) := by decide +kernel
theorem dX0_cut_124 : decode cX0_cut 124 = .ok (.iconst 1, 1) := by decide +kernel
theorem dX0_cut_125 : decode cX0_cut 125 = .ok (.goto 4, 3) := by decide +kernel
theorem dX0_cut_128 : decode cX0_cut 128 = .ok (.iconst 0, 1) := by decide +kernel
theorem dX0_cut_129 : decode cX0_cut 129 = .ok (.iastore, 1) := by decide +kernel
theorem dX0_cut_130 : decode cX0_cut 130 = .ok (.aload_n 0, 1) := by decide +kernel
theorem dX0_cut_131 : decode cX0_cut 131 = .ok (.getfield 18, 3) := by decide +kernel
theorem dX0_cut_134 : decode cX0_cut 134 = .ok (.getfield 75, 3) := by decide +kernel
theorem dX0_cut_137 : decode cX0_cut 137 = .ok (.iload_n 1, 1) := by decide +kernel
theorem dX0_cut_138 : decode cX0_cut 138 = .ok (.aload_n 0, 1) := by decide +kernel
theorem dX0_cut_139 : decode cX0_cut 139 = .ok (.getfield 9, 3) := by decide +kernel
theorem dX0_cut_142 : decode cX0_cut 142 = .ok (.bipush 91, 2) := by decide +kernel
theorem dX0_cut_144 : decode cX0_cut 144 = .ok (.invokevirtual 35, 3) := by decide +kernel
theorem dX0_cut_147 : decode cX0_cut 147 = .ok (.ifCond .eq 7, 3) := by decide +kernel
theorem dX0_cut_150 : decode cX0_cut 150 = .ok (.iconst 1, 1) := by decide +kernel
theorem dX0_cut_151 : decode cX0_cut 151 = .ok (.goto 4, 3) := by decide +kernel
theorem dX0_cut_154 : decode cX0_cut 154 = .ok (.iconst 0, 1) := by decide +kernel
theorem dX0_cut_155 : decode cX0_cut 155 = .ok (.iastore, 1) := by decide +kernel
theorem dX0_cut_156 : decode cX0_cut 156 = .ok (.aload_n 0, 1) := by decide +kernel
theorem dX0_cut_157 : decode cX0_cut 157 = .ok (.getfield 18, 3) := by decide +kernel
theorem dX0_cut_160 : decode cX0_cut 160 = .ok (.getfield 78, 3) := by decide +kernel
theorem dX0_cut_163 : decode cX0_cut 163 = .ok (.iload_n 1, 1) := by decide +kernel
theorem dX0_cut_164 : decode cX0_cut 164 = .ok (.aload_n 0, 1) := by decide +kernel
theorem dX0_cut_165 : decode cX0_cut 165 = .ok (.invokevirtual 81, 3) := by decide +kernel
theorem dX0_cut_168 : decode cX0_cut 168 = .ok (.iastore, 1) := by decide +kernel
theorem dX0_cut_169 : decode cX0_cut 169 = .ok (.aload_n 0, 1) := by decide +kernel
theorem dX0_cut_170 : decode cX0_cut 170 = .ok (.getfield 18, 3) := by decide +kernel
theorem dX0_cut_173 : decode cX0_cut 173 = .ok (.getfield 84, 3) := by decide +kernel
theorem dX0_cut_176 : decode cX0_cut 176 = .ok (.iload_n 1, 1) := by decide +kernel
theorem dX0_cut_177 : decode cX0_cut 177 = .ok (.aload_n 0, 1) := by decide +kernel
theorem dX0_cut_178 : decode cX0_cut 178 = .ok (.aload_n 0, 1) := by decide +kernel
theorem dX0_cut_179 : decode cX0_cut 179 = .ok (.getfield 18, 3) := by decide +kernel
theorem dX0_cut_182 : decode cX0_cut 182 = .ok (.getfield 78, 3) := by decide +kernel
theorem dX0_cut_185 : decode cX0_cut 185 = .ok (.iload_n 1, 1) := by decide +kernel
theorem dX0_cut_186 : decode cX0_cut 186 = .ok (.iaload, 1) := by decide +kernel
theorem dX0_cut_187 : decode cX0_cut 187 = .ok (.invokevirtual 87, 3) := by decide +kernel
theorem dX0_cut_190 : decode cX0_cut 190 = .ok (.iastore, 1) := by decide +kernel
theorem dX0_cut_191 : decode cX0_cut 191 = .ok (.aload_n 0, 1) := by decide +kernel
theorem dX0_cut_192 : decode cX0_cut 192 = .ok (.getfield 18, 3) := by decide +kernel
theorem dX0_cut_195 : decode cX0_cut 195 = .ok (.getfield 75, 3) := by decide +kernel
theorem dX0_cut_198 : decode cX0_cut 198 = .ok (.iload_n 1, 1) := by decide +kernel
theorem dX0_cut_199 : decode cX0_cut 199 = .ok (.iaload, 1) := by decide +kernel
theorem dX0_cut_200 : decode cX0_cut 200 = .ok (.iconst 1, 1) := by decide +kernel
theorem dX0_cut_201 : decode cX0_cut 201 = .ok (.if_icmp .ne 12, 3) := by decide +kernel
theorem dX0_cut_204 : decode cX0_cut 204 = .ok (.aload_n 0, 1) := by decide +kernel
theorem dX0_cut_205 : decode cX0_cut 205 = .ok (.getfield 9, 3) := by decide +kernel
theorem dX0_cut_208 : decode cX0_cut 208 = .ok (.bipush 93, 2) := by decide +kernel
theorem dX0_cut_210 : decode cX0_cut 210 = .ok (.invokevirtual 61, 3) := by decide +kernel
theorem dX0_cut_213 : decode cX0_cut 213 = .ok (.aload_n 0, 1) := by decide +kernel
theorem dX0_cut_214 : decode cX0_cut 214 = .ok (.getfield 18, 3) := by decide +kernel
theorem dX0_cut_217 : decode cX0_cut 217 = .ok (.getfield 90, 3) := by decide +kernel
theorem dX0_cut_220 : decode cX0_cut 220 = .ok (.iload_n 1, 1) := by decide +kernel
theorem dX0_cut_221 : decode cX0_cut 221 = .ok (.aload_n 0, 1) := by decide +kernel
theorem dX0_cut_222 : decode cX0_cut 222 = .ok (.getfield 9, 3) := by decide +kernel
theorem dX0_cut_225 : decode cX0_cut 225 = .ok (.invokevirtual 43, 3) := by decide +kernel
theorem dX0_cut_228 : decode cX0_cut 228 = .ok (.invokestatic 47, 3) := by decide +kernel
theorem dX0_cut_231 : decode cX0_cut 231 = .ok (.ifCond .eq 18, 3) := by decide +kernel
theorem dX0_cut_234 : decode cX0_cut 234 = .ok (.bipush 10, 2) := by decide +kernel
theorem dX0_cut_236 : decode cX0_cut 236 = .ok (.aload_n 0, 1) := by decide +kernel
theorem dX0_cut_237 : decode cX0_cut 237 = .ok (.invokevirtual 93, 3) := by decide +kernel
theorem dX0_cut_240 : decode cX0_cut 240 = .ok (.imul, 1) := by decide +kernel
theorem dX0_cut_241 : decode cX0_cut 241 = .ok (.aload_n 0, 1) := by decide +kernel
theorem dX0_cut_242 : decode cX0_cut 242 = .ok (.invokevirtual 93, 3) := by decide +kernel
theorem dX0_cut_245 : decode cX0_cut 245 = .ok (.iadd, 1) := by decide +kernel
theorem dX0_cut_246 : decode cX0_cut 246 = .ok (.goto 5, 3) := by decide +kernel
theorem dX0_cut_249 : decode cX0_cut 249 = .ok (.bipush (-2), 2) := by decide +kernel
theorem dX0_cut_251 : decode cX0_cut 251 = .ok (.iastore, 1) := by decide +kernel
theorem dX0_cut_252 : decode cX0_cut 252 = .ok (.aload_n 0, 1) := by decide +kernel
theorem dX0_cut_253 : decode cX0_cut 253 = .ok (.getfield 18, 3) := by decide +kernel
theorem dX0_cut_256 : decode cX0_cut 256 = .ok (.getfield 96, 3) := by decide +kernel
theorem dX0_cut_259 : decode cX0_cut 259 = .ok (.iload_n 1, 1) := by decide +kernel
theorem dX0_cut_260 : decode cX0_cut 260 = .ok (.aload_n 0, 1) := by decide +kernel
theorem dX0_cut_261 : decode cX0_cut 261 = .ok (.getfield 9, 3) := by decide +kernel
theorem dX0_cut_264 : decode cX0_cut 264 = .ok (.bipush 62, 2) := by decide +kernel
theorem dX0_cut_266 : decode cX0_cut 266 = .ok (.invokevirtual 35, 3) := by decide +kernel
theorem dX0_cut_269 : decode cX0_cut 269 = .ok (.ifCond .eq 7, 3) := by decide +kernel
theorem dX0_cut_272 : decode cX0_cut 272 = .ok (.iconst 1, 1) := by decide +kernel
theorem dX0_cut_273 : decode cX0_cut 273 = .ok (.goto 4, 3) := by decide +kernel
theorem dX0_cut_276 : decode cX0_cut 276 = .ok (.iconst 0, 1) := by decide +kernel
theorem dX0_cut_277 : decode cX0_cut 277 = .ok (.iastore, 1) := by decide +kernel
theorem dX0_cut_278 : decode cX0_cut 278 = .ok (.aload_n 0, 1) := by decide +kernel
theorem dX0_cut_279 : decode cX0_cut 279 = .ok (.getfield 18, 3) := by decide +kernel
theorem dX0_cut_282 : decode cX0_cut 282 = .ok (.iload_n 1, 1) := by decide +kernel
theorem dX0_cut_283 : decode cX0_cut 283 = .ok (.iconst 1, 1) := by decide +kernel
theorem dX0_cut_284 : decode cX0_cut 284 = .ok (.iadd, 1) := by decide +kernel
theorem dX0_cut_285 : decode cX0_cut 285 = .ok (.putfield 28, 3) := by decide +kernel
theorem dX0_cut_288 : decode cX0_cut 288 = .ok (.return_, 1) := by decide +kernel
theorem dX0_digit_0 : decode cX0_digit 0 = .ok (.aload_n 0, 1) := by decide +kernel
theorem dX0_digit_1 : decode cX0_digit 1 = .ok (.getfield 9, 3) := by decide +kernel
theorem dX0_digit_4 : decode cX0_digit 4 = .ok (.invokevirtual 43, 3) := by decide +kernel
theorem dX0_digit_7 : decode cX0_digit 7 = .ok (.istore_n 1, 1) := by decide +kernel
theorem dX0_digit_8 : decode cX0_digit 8 = .ok (.iload_n 1, 1) := by decide +kernel
theorem dX0_digit_9 : decode cX0_digit 9 = .ok (.invokestatic 47, 3) := by decide +kernel
theorem dX0_digit_12 : decode cX0_digit 12 = .ok (.ifCond .ne 20, 3) := by decide +kernel
theorem dX0_digit_15 : decode cX0_digit 15 = .ok (.aload_n 0, 1) := by decide +kernel
theorem dX0_digit_16 : decode cX0_digit 16 = .ok (.getfield 9, 3) := by decide +kernel
theorem dX0_digit_19 : decode cX0_digit 19 = .ok (.iconst 1, 1) := by decide +kernel
theorem dX0_digit_20 : decode cX0_digit 20 = .ok (.aload_n 0, 1) := by decide +kernel
theorem dX0_digit_21 : decode cX0_digit 21 = .ok (.getfield 9, 3) := by decide +kernel
theorem dX0_digit_24 : decode cX0_digit 24 = .ok (.getfield 51, 3) := by decide +kernel
theorem dX0_digit_27 : decode cX0_digit 27 = .ok (.invokevirtual 54, 3) := by decide +kernel
theorem dX0_digit_30 : decode cX0_digit 30 = .ok (.iconst 0, 1) := by decide +kernel
theorem dX0_digit_31 : decode cX0_digit 31 = .ok (.ireturn, 1) := by decide +kernel
theorem dX0_digit_32 : decode cX0_digit 32 = .ok (.aload_n 0, 1) := by decide +kernel
theorem dX0_digit_33 : decode cX0_digit 33 = .ok (.getfield 9, 3) := by decide +kernel
theorem dX0_digit_36 : decode cX0_digit 36 = .ok (.dup, 1) := by decide +kernel
theorem dX0_digit_37 : decode cX0_digit 37 = .ok (.getfield 51, 3) := by decide +kernel
theorem dX0_digit_40 : decode cX0_digit 40 = .ok (.iconst 1, 1) := by decide +kernel
theorem dX0_digit_41 : decode cX0_digit 41 = .ok (.iadd, 1) := by decide +kernel
theorem dX0_digit_42 : decode cX0_digit 42 = .ok (.putfield 51, 3) := by decide +kernel
theorem dX0_digit_45 : decode cX0_digit 45 = .ok (.iload_n 1, 1) := by decide +kernel
theorem dX0_digit_46 : decode cX0_digit 46 = .ok (.bipush 48, 2) := by decide +kernel
theorem dX0_digit_48 : decode cX0_digit 48 = .ok (.isub, 1) := by decide +kernel
theorem dX0_digit_49 : decode cX0_digit 49 = .ok (.ireturn, 1) := by decide +kernel
theorem dX0_number_0 : decode cX0_number 0 = .ok (.aload_n 0, 1) := by decide +kernel
theorem dX0_number_1 : decode cX0_number 1 = .ok (.getfield 9, 3) := by decide +kernel
theorem dX0_number_4 : decode cX0_number 4 = .ok (.getfield 51, 3) := by decide +kernel
theorem dX0_number_7 : decode cX0_number 7 = .ok (.istore_n 2, 1) := by decide +kernel
theorem dX0_number_8 : decode cX0_number 8 = .ok (.aload_n 0, 1) := by decide +kernel
theorem dX0_number_9 : decode cX0_number 9 = .ok (.invokevirtual 93, 3) := by decide +kernel
theorem dX0_number_12 : decode cX0_number 12 = .ok (.istore_n 3, 1) := by decide +kernel
theorem dX0_number_13 : decode cX0_number 13 = .ok (.aload_n 0, 1) := by decide +kernel
theorem dX0_number_14 : decode cX0_number 14 = .ok (.getfield 9, 3) := by decide +kernel
theorem dX0_number_17 : decode cX0_number 17 = .ok (.invokevirtual 43, 3) := by decide +kernel
theorem dX0_number_20 : decode cX0_number 20 = .ok (.invokestatic 47, 3) := by decide +kernel
theorem dX0_number_23 : decode cX0_number 23 = .ok (.ifCond .eq 13, 3) := by decide +kernel
theorem dX0_number_26 : decode cX0_number 26 = .ok (.bipush 10, 2) := by decide +kernel
theorem dX0_number_28 : decode cX0_number 28 = .ok (.iload_n 3, 1) := by decide +kernel
theorem dX0_number_29 : decode cX0_number 29 = .ok (.imul, 1) := by decide +kernel
theorem dX0_number_30 : decode cX0_number 30 = .ok (.aload_n 0, 1) := by decide +kernel
theorem dX0_number_31 : decode cX0_number 31 = .ok (.invokevirtual 93, 3) := by decide +kernel
theorem dX0_number_34 : decode cX0_number 34 = .ok (.iadd, 1) := by decide +kernel
theorem dX0_number_35 : decode cX0_number 35 = .ok (.istore_n 3, 1) := by decide +kernel
theorem dX0_number_36 : decode cX0_number 36 = .ok (.aload_n 0, 1) := by decide +kernel
theorem dX0_number_37 : decode cX0_number 37 = .ok (.getfield 9, 3) := by decide +kernel
theorem dX0_number_40 : decode cX0_number 40 = .ok (.invokevirtual 43, 3) := by decide +kernel
theorem dX0_number_43 : decode cX0_number 43 = .ok (.invokestatic 47, 3) := by decide +kernel
theorem dX0_number_46 : decode cX0_number 46 = .ok (.ifCond .eq 18, 3) := by decide +kernel
theorem dX0_number_49 : decode cX0_number 49 = .ok (.aload_n 0, 1) := by decide +kernel
theorem dX0_number_50 : decode cX0_number 50 = .ok (.getfield 9, 3) := by decide +kernel
theorem dX0_number_53 : decode cX0_number 53 = .ok (.iconst 2, 1) := by decide +kernel
theorem dX0_number_54 : decode cX0_number 54 = .ok (.aload_n 0, 1) := by decide +kernel
theorem dX0_number_55 : decode cX0_number 55 = .ok (.getfield 9, 3) := by decide +kernel
theorem dX0_number_58 : decode cX0_number 58 = .ok (.getfield 51, 3) := by decide +kernel
theorem dX0_number_61 : decode cX0_number 61 = .ok (.invokevirtual 54, 3) := by decide +kernel
theorem dX0_number_64 : decode cX0_number 64 = .ok (.iload_n 3, 1) := by decide +kernel
theorem dX0_number_65 : decode cX0_number 65 = .ok (.iload_n 1, 1) := by decide +kernel
theorem dX0_number_66 : decode cX0_number 66 = .ok (.if_icmp .le 12, 3) := by decide +kernel
theorem dX0_number_69 : decode cX0_number 69 = .ok (.aload_n 0, 1) := by decide +kernel
theorem dX0_number_70 : decode cX0_number 70 = .ok (.getfield 9, 3) := by decide +kernel
theorem dX0_number_73 : decode cX0_number 73 = .ok (.iconst 3, 1) := by decide +kernel
theorem dX0_number_74 : decode cX0_number 74 = .ok (.iload_n 2, 1) := by decide +kernel
theorem dX0_number_75 : decode cX0_number 75 = .ok (.invokevirtual 54, 3) := by decide +kernel
theorem dX0_number_78 : decode cX0_number 78 = .ok (.iload_n 3, 1) := by decide +kernel
theorem dX0_number_79 : decode cX0_number 79 = .ok (.ireturn, 1) := by decide +kernel
theorem dX0_isLetter_0 : decode cX0_isLetter 0 = .ok (.iload_n 0, 1) := by decide +kernel
theorem dX0_isLetter_1 : decode cX0_isLetter 1 = .ok (.bipush 65, 2) := by decide +kernel
theorem dX0_isLetter_3 : decode cX0_isLetter 3 = .ok (.if_icmp .lt 13, 3) := by decide +kernel
theorem dX0_isLetter_6 : decode cX0_isLetter 6 = .ok (.iload_n 0, 1) := by decide +kernel
theorem dX0_isLetter_7 : decode cX0_isLetter 7 = .ok (.bipush 81, 2) := by decide +kernel
theorem dX0_isLetter_9 : decode cX0_isLetter 9 = .ok (.if_icmp .ge 7, 3) := by decide +kernel
theorem dX0_isLetter_12 : decode cX0_isLetter 12 = .ok (.iconst 1, 1) := by decide +kernel
theorem dX0_isLetter_13 : decode cX0_isLetter 13 = .ok (.goto 4, 3) := by decide +kernel
theorem dX0_isLetter_16 : decode cX0_isLetter 16 = .ok (.iconst 0, 1) := by decide +kernel
theorem dX0_isLetter_17 : decode cX0_isLetter 17 = .ok (.ireturn, 1) := by decide +kernel
theorem dX0_letter_0 : decode cX0_letter 0 = .ok (.aload_n 0, 1) := by decide +kernel
theorem dX0_letter_1 : decode cX0_letter 1 = .ok (.getfield 9, 3) := by decide +kernel
theorem dX0_letter_4 : decode cX0_letter 4 = .ok (.invokevirtual 43, 3) := by decide +kernel
theorem dX0_letter_7 : decode cX0_letter 7 = .ok (.istore_n 1, 1) := by decide +kernel
theorem dX0_letter_8 : decode cX0_letter 8 = .ok (.iload_n 1, 1) := by decide +kernel
theorem dX0_letter_9 : decode cX0_letter 9 = .ok (.invokestatic 99, 3) := by decide +kernel
theorem dX0_letter_12 : decode cX0_letter 12 = .ok (.ifCond .ne 20, 3) := by decide +kernel
theorem dX0_letter_15 : decode cX0_letter 15 = .ok (.aload_n 0, 1) := by decide +kernel
theorem dX0_letter_16 : decode cX0_letter 16 = .ok (.getfield 9, 3) := by decide +kernel
theorem dX0_letter_19 : decode cX0_letter 19 = .ok (.iconst 1, 1) := by decide +kernel
theorem dX0_letter_20 : decode cX0_letter 20 = .ok (.aload_n 0, 1) := by decide +kernel
theorem dX0_letter_21 : decode cX0_letter 21 = .ok (.getfield 9, 3) := by decide +kernel
theorem dX0_letter_24 : decode cX0_letter 24 = .ok (.getfield 51, 3) := by decide +kernel
theorem dX0_letter_27 : decode cX0_letter 27 = .ok (.invokevirtual 54, 3) := by decide +kernel
theorem dX0_letter_30 : decode cX0_letter 30 = .ok (.iconst 0, 1) := by decide +kernel
theorem dX0_letter_31 : decode cX0_letter 31 = .ok (.ireturn, 1) := by decide +kernel
theorem dX0_letter_32 : decode cX0_letter 32 = .ok (.aload_n 0, 1) := by decide +kernel
theorem dX0_letter_33 : decode cX0_letter 33 = .ok (.getfield 9, 3) := by decide +kernel
theorem dX0_letter_36 : decode cX0_letter 36 = .ok (.dup, 1) := by decide +kernel
theorem dX0_letter_37 : decode cX0_letter 37 = .ok (.getfield 51, 3) := by decide +kernel
theorem dX0_letter_40 : decode cX0_letter 40 = .ok (.iconst 1, 1) := by decide +kernel
theorem dX0_letter_41 : decode cX0_letter 41 = .ok (.iadd, 1) := by decide +kernel
theorem dX0_letter_42 : decode cX0_letter 42 = .ok (.putfield 51, 3) := by decide +kernel
theorem dX0_letter_45 : decode cX0_letter 45 = .ok (.iload_n 1, 1) := by decide +kernel
theorem dX0_letter_46 : decode cX0_letter 46 = .ok (.bipush 65, 2) := by decide +kernel
theorem dX0_letter_48 : decode cX0_letter 48 = .ok (.isub, 1) := by decide +kernel
theorem dX0_letter_49 : decode cX0_letter 49 = .ok (.ireturn, 1) := by decide +kernel
theorem dX0_secondOne_0 : decode cX0_secondOne 0 = .ok (.aload_n 0, 1) := by decide +kernel
theorem dX0_secondOne_1 : decode cX0_secondOne 1 = .ok (.getfield 9, 3) := by decide +kernel
theorem dX0_secondOne_4 : decode cX0_secondOne 4 = .ok (.bipush 38, 2) := by decide +kernel
theorem dX0_secondOne_6 : decode cX0_secondOne 6 = .ok (.invokevirtual 35, 3) := by decide +kernel
theorem dX0_secondOne_9 : decode cX0_secondOne 9 = .ok (.ifCond .eq 8, 3) := by decide +kernel
theorem dX0_secondOne_12 : decode cX0_secondOne 12 = .ok (.bipush (-3), 2) := by decide +kernel
theorem dX0_secondOne_14 : decode cX0_secondOne 14 = .ok (.goto 5, 3) := by decide +kernel
theorem dX0_secondOne_17 : decode cX0_secondOne 17 = .ok (.bipush (-2), 2) := by decide +kernel
theorem dX0_secondOne_19 : decode cX0_secondOne 19 = .ok (.istore_n 2, 1) := by decide +kernel
theorem dX0_secondOne_20 : decode cX0_secondOne 20 = .ok (.aload_n 0, 1) := by decide +kernel
theorem dX0_secondOne_21 : decode cX0_secondOne 21 = .ok (.getfield 9, 3) := by decide +kernel
theorem dX0_secondOne_24 : decode cX0_secondOne 24 = .ok (.invokevirtual 43, 3) := by decide +kernel
theorem dX0_secondOne_27 : decode cX0_secondOne 27 = .ok (.invokestatic 99, 3) := by decide +kernel
theorem dX0_secondOne_30 : decode cX0_secondOne 30 = .ok (.ifCond .ne 5, 3) := by decide +kernel
theorem dX0_secondOne_33 : decode cX0_secondOne 33 = .ok (.iload_n 2, 1) := by decide +kernel
theorem dX0_secondOne_34 : decode cX0_secondOne 34 = .ok (.ireturn, 1) := by decide +kernel
theorem dX0_secondOne_35 : decode cX0_secondOne 35 = .ok (.aload_n 0, 1) := by decide +kernel
theorem dX0_secondOne_36 : decode cX0_secondOne 36 = .ok (.getfield 9, 3) := by decide +kernel
theorem dX0_secondOne_39 : decode cX0_secondOne 39 = .ok (.getfield 51, 3) := by decide +kernel
theorem dX0_secondOne_42 : decode cX0_secondOne 42 = .ok (.istore_n 3, 1) := by decide +kernel
theorem dX0_secondOne_43 : decode cX0_secondOne 43 = .ok (.aload_n 0, 1) := by decide +kernel
theorem dX0_secondOne_44 : decode cX0_secondOne 44 = .ok (.invokevirtual 81, 3) := by decide +kernel
theorem dX0_secondOne_47 : decode cX0_secondOne 47 = .ok (.istore 4, 2) := by decide +kernel
theorem dX0_secondOne_49 : decode cX0_secondOne 49 = .ok (.iload 4, 2) := by decide +kernel
theorem dX0_secondOne_51 : decode cX0_secondOne 51 = .ok (.iload_n 1, 1) := by decide +kernel
theorem dX0_secondOne_52 : decode cX0_secondOne 52 = .ok (.if_icmp .ne 13, 3) := by decide +kernel
theorem dX0_secondOne_55 : decode cX0_secondOne 55 = .ok (.aload_n 0, 1) := by decide +kernel
theorem dX0_secondOne_56 : decode cX0_secondOne 56 = .ok (.getfield 9, 3) := by decide +kernel
theorem dX0_secondOne_59 : decode cX0_secondOne 59 = .ok (.bipush 6, 2) := by decide +kernel
theorem dX0_secondOne_61 : decode cX0_secondOne 61 = .ok (.iload_n 3, 1) := by decide +kernel
theorem dX0_secondOne_62 : decode cX0_secondOne 62 = .ok (.invokevirtual 54, 3) := by decide +kernel
theorem dX0_secondOne_65 : decode cX0_secondOne 65 = .ok (.iload 4, 2) := by decide +kernel
theorem dX0_secondOne_67 : decode cX0_secondOne 67 = .ok (.ireturn, 1) := by decide +kernel
theorem dX1_init_0 : decode cX1_init 0 = .ok (.aload_n 0, 1) := by decide +kernel
theorem dX1_init_1 : decode cX1_init 1 = .ok (.invokespecial 3, 3) := by decide +kernel
theorem dX1_init_4 : decode cX1_init 4 = .ok (.aload_n 0, 1) := by decide +kernel
theorem dX1_init_5 : decode cX1_init 5 = .ok (.bipush 16, 2) := by decide +kernel
theorem dX1_init_7 : decode cX1_init 7 = .ok (.newarray .int, 2) := by decide +kernel
theorem dX1_init_9 : decode cX1_init 9 = .ok (.putfield 9, 3) := by decide +kernel
theorem dX1_init_12 : decode cX1_init 12 = .ok (.aload_n 0, 1) := by decide +kernel
theorem dX1_init_13 : decode cX1_init 13 = .ok (.bipush 16, 2) := by decide +kernel
theorem dX1_init_15 : decode cX1_init 15 = .ok (.newarray .int, 2) := by decide +kernel
theorem dX1_init_17 : decode cX1_init 17 = .ok (.putfield 15, 3) := by decide +kernel
theorem dX1_init_20 : decode cX1_init 20 = .ok (.aload_n 0, 1) := by decide +kernel
theorem dX1_init_21 : decode cX1_init 21 = .ok (.bipush 16, 2) := by decide +kernel
theorem dX1_init_23 : decode cX1_init 23 = .ok (.newarray .int, 2) := by decide +kernel
theorem dX1_init_25 : decode cX1_init 25 = .ok (.putfield 18, 3) := by decide +kernel
theorem dX1_init_28 : decode cX1_init 28 = .ok (.aload_n 0, 1) := by decide +kernel
theorem dX1_init_29 : decode cX1_init 29 = .ok (.bipush 16, 2) := by decide +kernel
theorem dX1_init_31 : decode cX1_init 31 = .ok (.newarray .int, 2) := by decide +kernel
theorem dX1_init_33 : decode cX1_init 33 = .ok (.putfield 21, 3) := by decide +kernel
theorem dX1_init_36 : decode cX1_init 36 = .ok (.aload_n 0, 1) := by decide +kernel
theorem dX1_init_37 : decode cX1_init 37 = .ok (.bipush 16, 2) := by decide +kernel
theorem dX1_init_39 : decode cX1_init 39 = .ok (.newarray .int, 2) := by decide +kernel
theorem dX1_init_41 : decode cX1_init 41 = .ok (.putfield 24, 3) := by decide +kernel
theorem dX1_init_44 : decode cX1_init 44 = .ok (.aload_n 0, 1) := by decide +kernel
theorem dX1_init_45 : decode cX1_init 45 = .ok (.bipush 16, 2) := by decide +kernel
theorem dX1_init_47 : decode cX1_init 47 = .ok (.newarray .int, 2) := by decide +kernel
theorem dX1_init_49 : decode cX1_init 49 = .ok (.putfield 27, 3) := by decide +kernel
theorem dX1_init_52 : decode cX1_init 52 = .ok (.aload_n 0, 1) := by decide +kernel
theorem dX1_init_53 : decode cX1_init 53 = .ok (.bipush 16, 2) := by decide +kernel
theorem dX1_init_55 : decode cX1_init 55 = .ok (.newarray .int, 2) := by decide +kernel
theorem dX1_init_57 : decode cX1_init 57 = .ok (.putfield 30, 3) := by decide +kernel
theorem dX1_init_60 : decode cX1_init 60 = .ok (.aload_n 0, 1) := by decide +kernel
theorem dX1_init_61 : decode cX1_init 61 = .ok (.bipush 16, 2) := by decide +kernel
theorem dX1_init_63 : decode cX1_init 63 = .ok (.newarray .int, 2) := by decide +kernel
theorem dX1_init_65 : decode cX1_init 65 = .ok (.putfield 33, 3) := by decide +kernel
theorem dX1_init_68 : decode cX1_init 68 = .ok (.aload_n 0, 1) := by decide +kernel
theorem dX1_init_69 : decode cX1_init 69 = .ok (.iconst 0, 1) := by decide +kernel
theorem dX1_init_70 : decode cX1_init 70 = .ok (.putfield 36, 3) := by decide +kernel
theorem dX1_init_73 : decode cX1_init 73 = .ok (.return_, 1) := by decide +kernel
theorem dX1_copyOf_0 : decode cX1_copyOf 0 = .ok (.aload_n 1, 1) := by decide +kernel
theorem dX1_copyOf_1 : decode cX1_copyOf 1 = .ok (.getfield 9, 3) := by decide +kernel
theorem dX1_copyOf_4 : decode cX1_copyOf 4 = .ok (.iconst 0, 1) := by decide +kernel
theorem dX1_copyOf_5 : decode cX1_copyOf 5 = .ok (.aload_n 0, 1) := by decide +kernel
theorem dX1_copyOf_6 : decode cX1_copyOf 6 = .ok (.getfield 9, 3) := by decide +kernel
theorem dX1_copyOf_9 : decode cX1_copyOf 9 = .ok (.iconst 0, 1) := by decide +kernel
theorem dX1_copyOf_10 : decode cX1_copyOf 10 = .ok (.bipush 16, 2) := by decide +kernel
theorem dX1_copyOf_12 : decode cX1_copyOf 12 = .ok (.invokestatic 40, 3) := by decide +kernel
theorem dX1_copyOf_15 : decode cX1_copyOf 15 = .ok (.aload_n 1, 1) := by decide +kernel
theorem dX1_copyOf_16 : decode cX1_copyOf 16 = .ok (.getfield 15, 3) := by decide +kernel
theorem dX1_copyOf_19 : decode cX1_copyOf 19 = .ok (.iconst 0, 1) := by decide +kernel
theorem dX1_copyOf_20 : decode cX1_copyOf 20 = .ok (.aload_n 0, 1) := by decide +kernel
theorem dX1_copyOf_21 : decode cX1_copyOf 21 = .ok (.getfield 15, 3) := by decide +kernel
theorem dX1_copyOf_24 : decode cX1_copyOf 24 = .ok (.iconst 0, 1) := by decide +kernel
theorem dX1_copyOf_25 : decode cX1_copyOf 25 = .ok (.bipush 16, 2) := by decide +kernel
theorem dX1_copyOf_27 : decode cX1_copyOf 27 = .ok (.invokestatic 40, 3) := by decide +kernel
theorem dX1_copyOf_30 : decode cX1_copyOf 30 = .ok (.aload_n 1, 1) := by decide +kernel
theorem dX1_copyOf_31 : decode cX1_copyOf 31 = .ok (.getfield 18, 3) := by decide +kernel
theorem dX1_copyOf_34 : decode cX1_copyOf 34 = .ok (.iconst 0, 1) := by decide +kernel
theorem dX1_copyOf_35 : decode cX1_copyOf 35 = .ok (.aload_n 0, 1) := by decide +kernel
theorem dX1_copyOf_36 : decode cX1_copyOf 36 = .ok (.getfield 18, 3) := by decide +kernel
theorem dX1_copyOf_39 : decode cX1_copyOf 39 = .ok (.iconst 0, 1) := by decide +kernel
theorem dX1_copyOf_40 : decode cX1_copyOf 40 = .ok (.bipush 16, 2) := by decide +kernel
theorem dX1_copyOf_42 : decode cX1_copyOf 42 = .ok (.invokestatic 40, 3) := by decide +kernel
theorem dX1_copyOf_45 : decode cX1_copyOf 45 = .ok (.aload_n 1, 1) := by decide +kernel
theorem dX1_copyOf_46 : decode cX1_copyOf 46 = .ok (.getfield 21, 3) := by decide +kernel
theorem dX1_copyOf_49 : decode cX1_copyOf 49 = .ok (.iconst 0, 1) := by decide +kernel
theorem dX1_copyOf_50 : decode cX1_copyOf 50 = .ok (.aload_n 0, 1) := by decide +kernel
theorem dX1_copyOf_51 : decode cX1_copyOf 51 = .ok (.getfield 21, 3) := by decide +kernel
theorem dX1_copyOf_54 : decode cX1_copyOf 54 = .ok (.iconst 0, 1) := by decide +kernel
theorem dX1_copyOf_55 : decode cX1_copyOf 55 = .ok (.bipush 16, 2) := by decide +kernel
theorem dX1_copyOf_57 : decode cX1_copyOf 57 = .ok (.invokestatic 40, 3) := by decide +kernel
theorem dX1_copyOf_60 : decode cX1_copyOf 60 = .ok (.aload_n 1, 1) := by decide +kernel
theorem dX1_copyOf_61 : decode cX1_copyOf 61 = .ok (.getfield 24, 3) := by decide +kernel
theorem dX1_copyOf_64 : decode cX1_copyOf 64 = .ok (.iconst 0, 1) := by decide +kernel
theorem dX1_copyOf_65 : decode cX1_copyOf 65 = .ok (.aload_n 0, 1) := by decide +kernel
theorem dX1_copyOf_66 : decode cX1_copyOf 66 = .ok (.getfield 24, 3) := by decide +kernel
theorem dX1_copyOf_69 : decode cX1_copyOf 69 = .ok (.iconst 0, 1) := by decide +kernel
theorem dX1_copyOf_70 : decode cX1_copyOf 70 = .ok (.bipush 16, 2) := by decide +kernel
theorem dX1_copyOf_72 : decode cX1_copyOf 72 = .ok (.invokestatic 40, 3) := by decide +kernel
theorem dX1_copyOf_75 : decode cX1_copyOf 75 = .ok (.aload_n 1, 1) := by decide +kernel
theorem dX1_copyOf_76 : decode cX1_copyOf 76 = .ok (.getfield 27, 3) := by decide +kernel
theorem dX1_copyOf_79 : decode cX1_copyOf 79 = .ok (.iconst 0, 1) := by decide +kernel
theorem dX1_copyOf_80 : decode cX1_copyOf 80 = .ok (.aload_n 0, 1) := by decide +kernel
theorem dX1_copyOf_81 : decode cX1_copyOf 81 = .ok (.getfield 27, 3) := by decide +kernel
theorem dX1_copyOf_84 : decode cX1_copyOf 84 = .ok (.iconst 0, 1) := by decide +kernel
theorem dX1_copyOf_85 : decode cX1_copyOf 85 = .ok (.bipush 16, 2) := by decide +kernel
theorem dX1_copyOf_87 : decode cX1_copyOf 87 = .ok (.invokestatic 40, 3) := by decide +kernel
theorem dX1_copyOf_90 : decode cX1_copyOf 90 = .ok (.aload_n 1, 1) := by decide +kernel
theorem dX1_copyOf_91 : decode cX1_copyOf 91 = .ok (.getfield 30, 3) := by decide +kernel
theorem dX1_copyOf_94 : decode cX1_copyOf 94 = .ok (.iconst 0, 1) := by decide +kernel
theorem dX1_copyOf_95 : decode cX1_copyOf 95 = .ok (.aload_n 0, 1) := by decide +kernel
theorem dX1_copyOf_96 : decode cX1_copyOf 96 = .ok (.getfield 30, 3) := by decide +kernel
theorem dX1_copyOf_99 : decode cX1_copyOf 99 = .ok (.iconst 0, 1) := by decide +kernel
theorem dX1_copyOf_100 : decode cX1_copyOf 100 = .ok (.bipush 16, 2) := by decide +kernel
theorem dX1_copyOf_102 : decode cX1_copyOf 102 = .ok (.invokestatic 40, 3) := by decide +kernel
theorem dX1_copyOf_105 : decode cX1_copyOf 105 = .ok (.aload_n 1, 1) := by decide +kernel
theorem dX1_copyOf_106 : decode cX1_copyOf 106 = .ok (.getfield 33, 3) := by decide +kernel
theorem dX1_copyOf_109 : decode cX1_copyOf 109 = .ok (.iconst 0, 1) := by decide +kernel
theorem dX1_copyOf_110 : decode cX1_copyOf 110 = .ok (.aload_n 0, 1) := by decide +kernel
theorem dX1_copyOf_111 : decode cX1_copyOf 111 = .ok (.getfield 33, 3) := by decide +kernel
theorem dX1_copyOf_114 : decode cX1_copyOf 114 = .ok (.iconst 0, 1) := by decide +kernel
theorem dX1_copyOf_115 : decode cX1_copyOf 115 = .ok (.bipush 16, 2) := by decide +kernel
theorem dX1_copyOf_117 : decode cX1_copyOf 117 = .ok (.invokestatic 40, 3) := by decide +kernel
theorem dX1_copyOf_120 : decode cX1_copyOf 120 = .ok (.aload_n 0, 1) := by decide +kernel
theorem dX1_copyOf_121 : decode cX1_copyOf 121 = .ok (.aload_n 1, 1) := by decide +kernel
theorem dX1_copyOf_122 : decode cX1_copyOf 122 = .ok (.getfield 36, 3) := by decide +kernel
theorem dX1_copyOf_125 : decode cX1_copyOf 125 = .ok (.putfield 36, 3) := by decide +kernel
theorem dX1_copyOf_128 : decode cX1_copyOf 128 = .ok (.return_, 1) := by decide +kernel
theorem dX1_letterBits_0 : decode cX1_letterBits 0 = .ok (.iconst 1, 1) := by decide +kernel
theorem dX1_letterBits_1 : decode cX1_letterBits 1 = .ok (.aload_n 0, 1) := by decide +kernel
theorem dX1_letterBits_2 : decode cX1_letterBits 2 = .ok (.getfield 15, 3) := by decide +kernel
theorem dX1_letterBits_5 : decode cX1_letterBits 5 = .ok (.iload_n 1, 1) := by decide +kernel
theorem dX1_letterBits_6 : decode cX1_letterBits 6 = .ok (.iaload, 1) := by decide +kernel
theorem dX1_letterBits_7 : decode cX1_letterBits 7 = .ok (.ishl, 1) := by decide +kernel
theorem dX1_letterBits_8 : decode cX1_letterBits 8 = .ok (.istore_n 2, 1) := by decide +kernel
theorem dX1_letterBits_9 : decode cX1_letterBits 9 = .ok (.aload_n 0, 1) := by decide +kernel
theorem dX1_letterBits_10 : decode cX1_letterBits 10 = .ok (.getfield 18, 3) := by decide +kernel
theorem dX1_letterBits_13 : decode cX1_letterBits 13 = .ok (.iload_n 1, 1) := by decide +kernel
theorem dX1_letterBits_14 : decode cX1_letterBits 14 = .ok (.iaload, 1) := by decide +kernel
theorem dX1_letterBits_15 : decode cX1_letterBits 15 = .ok (.ifCond .ge 7, 3) := by decide +kernel
theorem dX1_letterBits_18 : decode cX1_letterBits 18 = .ok (.iload_n 2, 1) := by decide +kernel
theorem dX1_letterBits_19 : decode cX1_letterBits 19 = .ok (.goto 13, 3) := by decide +kernel
theorem dX1_letterBits_22 : decode cX1_letterBits 22 = .ok (.iload_n 2, 1) := by decide +kernel
theorem dX1_letterBits_23 : decode cX1_letterBits 23 = .ok (.iconst 1, 1) := by decide +kernel
theorem dX1_letterBits_24 : decode cX1_letterBits 24 = .ok (.aload_n 0, 1) := by decide +kernel
theorem dX1_letterBits_25 : decode cX1_letterBits 25 = .ok (.getfield 18, 3) := by decide +kernel
theorem dX1_letterBits_28 : decode cX1_letterBits 28 = .ok (.iload_n 1, 1) := by decide +kernel
theorem dX1_letterBits_29 : decode cX1_letterBits 29 = .ok (.iaload, 1) := by decide +kernel
theorem dX1_letterBits_30 : decode cX1_letterBits 30 = .ok (.ishl, 1) := by decide +kernel
theorem dX1_letterBits_31 : decode cX1_letterBits 31 = .ok (.ior, 1) := by decide +kernel
theorem dX1_letterBits_32 : decode cX1_letterBits 32 = .ok (.ireturn, 1) := by decide +kernel
theorem dX1_dwellersAt_0 : decode cX1_dwellersAt 0 = .ok (.iconst 0, 1) := by decide +kernel
theorem dX1_dwellersAt_1 : decode cX1_dwellersAt 1 = .ok (.istore_n 2, 1) := by decide +kernel
theorem dX1_dwellersAt_2 : decode cX1_dwellersAt 2 = .ok (.iconst 0, 1) := by decide +kernel
theorem dX1_dwellersAt_3 : decode cX1_dwellersAt 3 = .ok (.istore_n 3, 1) := by decide +kernel
theorem dX1_dwellersAt_4 : decode cX1_dwellersAt 4 = .ok (.iload_n 3, 1) := by decide +kernel
theorem dX1_dwellersAt_5 : decode cX1_dwellersAt 5 = .ok (.aload_n 0, 1) := by decide +kernel
theorem dX1_dwellersAt_6 : decode cX1_dwellersAt 6 = .ok (.getfield 36, 3) := by decide +kernel
theorem dX1_dwellersAt_9 : decode cX1_dwellersAt 9 = .ok (.if_icmp .ge 22, 3) := by decide +kernel
theorem dX1_dwellersAt_12 : decode cX1_dwellersAt 12 = .ok (.aload_n 0, 1) := by decide +kernel
theorem dX1_dwellersAt_13 : decode cX1_dwellersAt 13 = .ok (.getfield 33, 3) := by decide +kernel
theorem dX1_dwellersAt_16 : decode cX1_dwellersAt 16 = .ok (.iload_n 3, 1) := by decide +kernel
theorem dX1_dwellersAt_17 : decode cX1_dwellersAt 17 = .ok (.iaload, 1) := by decide +kernel
theorem dX1_dwellersAt_18 : decode cX1_dwellersAt 18 = .ok (.iload_n 1, 1) := by decide +kernel
theorem dX1_dwellersAt_19 : decode cX1_dwellersAt 19 = .ok (.if_icmp .ne 6, 3) := by decide +kernel
theorem dX1_dwellersAt_22 : decode cX1_dwellersAt 22 = .ok (.iinc 2 1, 3) := by decide +kernel
theorem dX1_dwellersAt_25 : decode cX1_dwellersAt 25 = .ok (.iinc 3 1, 3) := by decide +kernel
theorem dX1_dwellersAt_28 : decode cX1_dwellersAt 28 = .ok (.goto (-24), 3) := by decide +kernel
theorem dX1_dwellersAt_31 : decode cX1_dwellersAt 31 = .ok (.iload_n 2, 1) := by decide +kernel
theorem dX1_dwellersAt_32 : decode cX1_dwellersAt 32 = .ok (.ireturn, 1) := by decide +kernel
theorem dX2_init_0 : decode cX2_init 0 = .ok (.aload_n 0, 1) := by decide +kernel
theorem dX2_init_1 : decode cX2_init 1 = .ok (.invokespecial 3, 3) := by decide +kernel
theorem dX2_init_4 : decode cX2_init 4 = .ok (.aload_n 0, 1) := by decide +kernel
theorem dX2_init_5 : decode cX2_init 5 = .ok (.bipush 32, 2) := by decide +kernel
theorem dX2_init_7 : decode cX2_init 7 = .ok (.newarray .int, 2) := by decide +kernel
theorem dX2_init_9 : decode cX2_init 9 = .ok (.putfield 11, 3) := by decide +kernel
theorem dX2_init_12 : decode cX2_init 12 = .ok (.aload_n 0, 1) := by decide +kernel
theorem dX2_init_13 : decode cX2_init 13 = .ok (.bipush 64, 2) := by decide +kernel
theorem dX2_init_15 : decode cX2_init 15 = .ok (.newarray .int, 2) := by decide +kernel
theorem dX2_init_17 : decode cX2_init 17 = .ok (.putfield 15, 3) := by decide +kernel
theorem dX2_init_20 : decode cX2_init 20 = .ok (.aload_n 0, 1) := by decide +kernel
theorem dX2_init_21 : decode cX2_init 21 = .ok (.bipush 32, 2) := by decide +kernel
theorem dX2_init_23 : decode cX2_init 23 = .ok (.newarray .int, 2) := by decide +kernel
theorem dX2_init_25 : decode cX2_init 25 = .ok (.putfield 18, 3) := by decide +kernel
theorem dX2_init_28 : decode cX2_init 28 = .ok (.aload_n 0, 1) := by decide +kernel
theorem dX2_init_29 : decode cX2_init 29 = .ok (.iconst 0, 1) := by decide +kernel
theorem dX2_init_30 : decode cX2_init 30 = .ok (.putfield 21, 3) := by decide +kernel
theorem dX2_init_33 : decode cX2_init 33 = .ok (.aload_n 0, 1) := by decide +kernel
theorem dX2_init_34 : decode cX2_init 34 = .ok (.iconst 0, 1) := by decide +kernel
theorem dX2_init_35 : decode cX2_init 35 = .ok (.putfield 25, 3) := by decide +kernel
theorem dX2_init_38 : decode cX2_init 38 = .ok (.return_, 1) := by decide +kernel
theorem dX2_gather_0 : decode cX2_gather 0 = .ok (.aload_n 0, 1) := by decide +kernel
theorem dX2_gather_1 : decode cX2_gather 1 = .ok (.iconst 0, 1) := by decide +kernel
theorem dX2_gather_2 : decode cX2_gather 2 = .ok (.putfield 21, 3) := by decide +kernel
theorem dX2_gather_5 : decode cX2_gather 5 = .ok (.iconst 0, 1) := by decide +kernel
theorem dX2_gather_6 : decode cX2_gather 6 = .ok (.istore_n 3, 1) := by decide +kernel
theorem dX2_gather_7 : decode cX2_gather 7 = .ok (.iload_n 3, 1) := by decide +kernel
theorem dX2_gather_8 : decode cX2_gather 8 = .ok (.aload_n 1, 1) := by decide +kernel
theorem dX2_gather_9 : decode cX2_gather 9 = .ok (.getfield 28, 3) := by decide +kernel
theorem dX2_gather_12 : decode cX2_gather 12 = .ok (.if_icmp .ge 39, 3) := by decide +kernel
theorem dX2_gather_15 : decode cX2_gather 15 = .ok (.aload_n 0, 1) := by decide +kernel
theorem dX2_gather_16 : decode cX2_gather 16 = .ok (.aload_n 1, 1) := by decide +kernel
theorem dX2_gather_17 : decode cX2_gather 17 = .ok (.getfield 31, 3) := by decide +kernel
theorem dX2_gather_20 : decode cX2_gather 20 = .ok (.iload_n 3, 1) := by decide +kernel
theorem dX2_gather_21 : decode cX2_gather 21 = .ok (.iaload, 1) := by decide +kernel
theorem dX2_gather_22 : decode cX2_gather 22 = .ok (.invokevirtual 34, 3) := by decide +kernel
theorem dX2_gather_25 : decode cX2_gather 25 = .ok (.aload_n 2, 1) := by decide +kernel
theorem dX2_gather_26 : decode cX2_gather 26 = .ok (.getfield 38, 3) := by decide +kernel
theorem dX2_gather_29 : decode cX2_gather 29 = .ok (.iload_n 3, 1) := by decide +kernel
theorem dX2_gather_30 : decode cX2_gather 30 = .ok (.iaload, 1) := by decide +kernel
theorem dX2_gather_31 : decode cX2_gather 31 = .ok (.iconst 3, 1) := by decide +kernel
theorem dX2_gather_32 : decode cX2_gather 32 = .ok (.if_icmp .ne 13, 3) := by decide +kernel
theorem dX2_gather_35 : decode cX2_gather 35 = .ok (.aload_n 0, 1) := by decide +kernel
theorem dX2_gather_36 : decode cX2_gather 36 = .ok (.aload_n 2, 1) := by decide +kernel
theorem dX2_gather_37 : decode cX2_gather 37 = .ok (.getfield 43, 3) := by decide +kernel
theorem dX2_gather_40 : decode cX2_gather 40 = .ok (.iload_n 3, 1) := by decide +kernel
theorem dX2_gather_41 : decode cX2_gather 41 = .ok (.iaload, 1) := by decide +kernel
theorem dX2_gather_42 : decode cX2_gather 42 = .ok (.invokevirtual 34, 3) := by decide +kernel
theorem dX2_gather_45 : decode cX2_gather 45 = .ok (.iinc 3 1, 3) := by decide +kernel
theorem dX2_gather_48 : decode cX2_gather 48 = .ok (.goto (-41), 3) := by decide +kernel
theorem dX2_gather_51 : decode cX2_gather 51 = .ok (.return_, 1) := by decide +kernel
theorem dX2_put_0 : decode cX2_put 0 = .ok (.iconst 0, 1) := by decide +kernel
theorem dX2_put_1 : decode cX2_put 1 = .ok (.istore_n 2, 1) := by decide +kernel
theorem dX2_put_2 : decode cX2_put 2 = .ok (.iconst 0, 1) := by decide +kernel
theorem dX2_put_3 : decode cX2_put 3 = .ok (.istore_n 3, 1) := by decide +kernel
theorem dX2_put_4 : decode cX2_put 4 = .ok (.iload_n 3, 1) := by decide +kernel
theorem dX2_put_5 : decode cX2_put 5 = .ok (.aload_n 0, 1) := by decide +kernel
theorem dX2_put_6 : decode cX2_put 6 = .ok (.getfield 21, 3) := by decide +kernel
theorem dX2_put_9 : decode cX2_put 9 = .ok (.if_icmp .ge 23, 3) := by decide +kernel
theorem dX2_put_12 : decode cX2_put 12 = .ok (.aload_n 0, 1) := by decide +kernel
theorem dX2_put_13 : decode cX2_put 13 = .ok (.getfield 11, 3) := by decide +kernel
theorem dX2_put_16 : decode cX2_put 16 = .ok (.iload_n 3, 1) := by decide +kernel
theorem dX2_put_17 : decode cX2_put 17 = .ok (.iaload, 1) := by decide +kernel
theorem dX2_put_18 : decode cX2_put 18 = .ok (.iload_n 1, 1) := by decide +kernel
theorem dX2_put_19 : decode cX2_put 19 = .ok (.if_icmp .ge 7, 3) := by decide +kernel
theorem dX2_put_22 : decode cX2_put 22 = .ok (.iload_n 3, 1) := by decide +kernel
theorem dX2_put_23 : decode cX2_put 23 = .ok (.iconst 1, 1) := by decide +kernel
theorem dX2_put_24 : decode cX2_put 24 = .ok (.iadd, 1) := by decide +kernel
theorem dX2_put_25 : decode cX2_put 25 = .ok (.istore_n 2, 1) := by decide +kernel
theorem dX2_put_26 : decode cX2_put 26 = .ok (.iinc 3 1, 3) := by decide +kernel
theorem dX2_put_29 : decode cX2_put 29 = .ok (.goto (-25), 3) := by decide +kernel
theorem dX2_put_32 : decode cX2_put 32 = .ok (.iload_n 2, 1) := by decide +kernel
theorem dX2_put_33 : decode cX2_put 33 = .ok (.aload_n 0, 1) := by decide +kernel
theorem dX2_put_34 : decode cX2_put 34 = .ok (.getfield 21, 3) := by decide +kernel
theorem dX2_put_37 : decode cX2_put 37 = .ok (.if_icmp .ge 17, 3) := by decide +kernel
theorem dX2_put_40 : decode cX2_put 40 = .ok (.aload_n 0, 1) := by decide +kernel
theorem dX2_put_41 : decode cX2_put 41 = .ok (.getfield 11, 3) := by decide +kernel
theorem dX2_put_44 : decode cX2_put 44 = .ok (.iload_n 2, 1) := by decide +kernel
theorem dX2_put_45 : decode cX2_put 45 = .ok (.iaload, 1) := by decide +kernel
theorem dX2_put_46 : decode cX2_put 46 = .ok (.iload_n 1, 1) := by decide +kernel
theorem dX2_put_47 : decode cX2_put 47 = .ok (.if_icmp .ne 7, 3) := by decide +kernel
theorem dX2_put_50 : decode cX2_put 50 = .ok (.iconst 1, 1) := by decide +kernel
theorem dX2_put_51 : decode cX2_put 51 = .ok (.goto 4, 3) := by decide +kernel
theorem dX2_put_54 : decode cX2_put 54 = .ok (.iconst 0, 1) := by decide +kernel
theorem dX2_put_55 : decode cX2_put 55 = .ok (.istore_n 3, 1) := by decide +kernel
theorem dX2_put_56 : decode cX2_put 56 = .ok (.iload_n 3, 1) := by decide +kernel
theorem dX2_put_57 : decode cX2_put 57 = .ok (.ifCond .ne 12, 3) := by decide +kernel
theorem dX2_put_60 : decode cX2_put 60 = .ok (.aload_n 0, 1) := by decide +kernel
theorem dX2_put_61 : decode cX2_put 61 = .ok (.getfield 21, 3) := by decide +kernel
theorem dX2_put_64 : decode cX2_put 64 = .ok (.bipush 32, 2) := by decide +kernel
theorem dX2_put_66 : decode cX2_put 66 = .ok (.if_icmp .lt 4, 3) := by decide +kernel
theorem dX2_put_69 : decode cX2_put 69 = .ok (.return_, 1) := by decide +kernel
theorem dX2_put_70 : decode cX2_put 70 = .ok (.aload_n 0, 1) := by decide +kernel
theorem dX2_put_71 : decode cX2_put 71 = .ok (.getfield 21, 3) := by decide +kernel
theorem dX2_put_74 : decode cX2_put 74 = .ok (.istore 4, 2) := by decide +kernel
theorem dX2_put_76 : decode cX2_put 76 = .ok (.iload 4, 2) := by decide +kernel
theorem dX2_put_78 : decode cX2_put 78 = .ok (.iload_n 2, 1) := by decide +kernel
theorem dX2_put_79 : decode cX2_put 79 = .ok (.if_icmp .le 25, 3) := by decide +kernel
theorem dX2_put_82 : decode cX2_put 82 = .ok (.aload_n 0, 1) := by decide +kernel
theorem dX2_put_83 : decode cX2_put 83 = .ok (.getfield 11, 3) := by decide +kernel
theorem dX2_put_86 : decode cX2_put 86 = .ok (.iload 4, 2) := by decide +kernel
theorem dX2_put_88 : decode cX2_put 88 = .ok (.aload_n 0, 1) := by decide +kernel
theorem dX2_put_89 : decode cX2_put 89 = .ok (.getfield 11, 3) := by decide +kernel
theorem dX2_put_92 : decode cX2_put 92 = .ok (.iload 4, 2) := by decide +kernel
theorem dX2_put_94 : decode cX2_put 94 = .ok (.iconst 1, 1) := by decide +kernel
theorem dX2_put_95 : decode cX2_put 95 = .ok (.isub, 1) := by decide +kernel
theorem dX2_put_96 : decode cX2_put 96 = .ok (.iaload, 1) := by decide +kernel
theorem dX2_put_97 : decode cX2_put 97 = .ok (.iastore, 1) := by decide +kernel
theorem dX2_put_98 : decode cX2_put 98 = .ok (.iinc 4 (-1), 3) := by decide +kernel
theorem dX2_put_101 : decode cX2_put 101 = .ok (.goto (-25), 3) := by decide +kernel
theorem dX2_put_104 : decode cX2_put 104 = .ok (.aload_n 0, 1) := by decide +kernel
theorem dX2_put_105 : decode cX2_put 105 = .ok (.getfield 11, 3) := by decide +kernel
theorem dX2_put_108 : decode cX2_put 108 = .ok (.iload_n 2, 1) := by decide +kernel
theorem dX2_put_109 : decode cX2_put 109 = .ok (.iload_n 1, 1) := by decide +kernel
theorem dX2_put_110 : decode cX2_put 110 = .ok (.iastore, 1) := by decide +kernel
theorem dX2_put_111 : decode cX2_put 111 = .ok (.aload_n 0, 1) := by decide +kernel
theorem dX2_put_112 : decode cX2_put 112 = .ok (.dup, 1) := by decide +kernel
theorem dX2_put_113 : decode cX2_put 113 = .ok (.getfield 21, 3) := by decide +kernel
theorem dX2_put_116 : decode cX2_put 116 = .ok (.iconst 1, 1) := by decide +kernel
theorem dX2_put_117 : decode cX2_put 117 = .ok (.iadd, 1) := by decide +kernel
theorem dX2_put_118 : decode cX2_put 118 = .ok (.putfield 21, 3) := by decide +kernel
theorem dX2_put_121 : decode cX2_put 121 = .ok (.return_, 1) := by decide +kernel
theorem dX2_within_0 : decode cX2_within 0 = .ok (.iconst 0, 1) := by decide +kernel
theorem dX2_within_1 : decode cX2_within 1 = .ok (.istore 5, 2) := by decide +kernel
theorem dX2_within_3 : decode cX2_within 3 = .ok (.iconst 0, 1) := by decide +kernel
theorem dX2_within_4 : decode cX2_within 4 = .ok (.istore 6, 2) := by decide +kernel
theorem dX2_within_6 : decode cX2_within 6 = .ok (.iload 6, 2) := by decide +kernel
theorem dX2_within_8 : decode cX2_within 8 = .ok (.aload_n 0, 1) := by decide +kernel
theorem dX2_within_9 : decode cX2_within 9 = .ok (.getfield 21, 3) := by decide +kernel
theorem dX2_within_12 : decode cX2_within 12 = .ok (.if_icmp .ge 61, 3) := by decide +kernel
theorem dX2_within_15 : decode cX2_within 15 = .ok (.aload_n 0, 1) := by decide +kernel
theorem dX2_within_16 : decode cX2_within 16 = .ok (.getfield 11, 3) := by decide +kernel
theorem dX2_within_19 : decode cX2_within 19 = .ok (.iload 6, 2) := by decide +kernel
theorem dX2_within_21 : decode cX2_within 21 = .ok (.iaload, 1) := by decide +kernel
theorem dX2_within_22 : decode cX2_within 22 = .ok (.bipush 24, 2) := by decide +kernel
theorem dX2_within_24 : decode cX2_within 24 = .ok (.irem, 1) := by decide +kernel
theorem dX2_within_25 : decode cX2_within 25 = .ok (.istore 7, 2) := by decide +kernel
theorem dX2_within_27 : decode cX2_within 27 = .ok (.aload_n 0, 1) := by decide +kernel
theorem dX2_within_28 : decode cX2_within 28 = .ok (.getfield 11, 3) := by decide +kernel
theorem dX2_within_31 : decode cX2_within 31 = .ok (.iload 6, 2) := by decide +kernel
theorem dX2_within_33 : decode cX2_within 33 = .ok (.iaload, 1) := by decide +kernel
theorem dX2_within_34 : decode cX2_within 34 = .ok (.bipush 24, 2) := by decide +kernel
theorem dX2_within_36 : decode cX2_within 36 = .ok (.idiv, 1) := by decide +kernel
theorem dX2_within_37 : decode cX2_within 37 = .ok (.istore 8, 2) := by decide +kernel
theorem dX2_within_39 : decode cX2_within 39 = .ok (.iload 7, 2) := by decide +kernel
theorem dX2_within_41 : decode cX2_within 41 = .ok (.iload_n 1, 1) := by decide +kernel
theorem dX2_within_42 : decode cX2_within 42 = .ok (.if_icmp .lt 25, 3) := by decide +kernel
theorem dX2_within_45 : decode cX2_within 45 = .ok (.iload 7, 2) := by decide +kernel
theorem dX2_within_47 : decode cX2_within 47 = .ok (.iload_n 2, 1) := by decide +kernel
theorem dX2_within_48 : decode cX2_within 48 = .ok (.if_icmp .gt 19, 3) := by decide +kernel
theorem dX2_within_51 : decode cX2_within 51 = .ok (.iload 8, 2) := by decide +kernel
theorem dX2_within_53 : decode cX2_within 53 = .ok (.iload_n 3, 1) := by decide +kernel
theorem dX2_within_54 : decode cX2_within 54 = .ok (.if_icmp .lt 13, 3) := by decide +kernel
theorem dX2_within_57 : decode cX2_within 57 = .ok (.iload 8, 2) := by decide +kernel
theorem dX2_within_59 : decode cX2_within 59 = .ok (.iload 4, 2) := by decide +kernel
theorem dX2_within_61 : decode cX2_within 61 = .ok (.if_icmp .gt 6, 3) := by decide +kernel
theorem dX2_within_64 : decode cX2_within 64 = .ok (.iinc 5 1, 3) := by decide +kernel
theorem dX2_within_67 : decode cX2_within 67 = .ok (.iinc 6 1, 3) := by decide +kernel
theorem dX2_within_70 : decode cX2_within 70 = .ok (.goto (-64), 3) := by decide +kernel
theorem dX2_within_73 : decode cX2_within 73 = .ok (.iload 5, 2) := by decide +kernel
theorem dX2_within_75 : decode cX2_within 75 = .ok (.ireturn, 1) := by decide +kernel
theorem dX2_putFence_0 : decode cX2_putFence 0 = .ok (.aload_n 0, 1) := by decide +kernel
theorem dX2_putFence_1 : decode cX2_putFence 1 = .ok (.iconst 0, 1) := by decide +kernel
theorem dX2_putFence_2 : decode cX2_putFence 2 = .ok (.putfield 25, 3) := by decide +kernel
theorem dX2_putFence_5 : decode cX2_putFence 5 = .ok (.iconst 0, 1) := by decide +kernel
theorem dX2_putFence_6 : decode cX2_putFence 6 = .ok (.istore_n 1, 1) := by decide +kernel
theorem dX2_putFence_7 : decode cX2_putFence 7 = .ok (.iload_n 1, 1) := by decide +kernel
theorem dX2_putFence_8 : decode cX2_putFence 8 = .ok (.aload_n 0, 1) := by decide +kernel
theorem dX2_putFence_9 : decode cX2_putFence 9 = .ok (.getfield 21, 3) := by decide +kernel
theorem dX2_putFence_12 : decode cX2_putFence 12 = .ok (.if_icmp .ge 20, 3) := by decide +kernel
theorem dX2_putFence_15 : decode cX2_putFence 15 = .ok (.aload_n 0, 1) := by decide +kernel
theorem dX2_putFence_16 : decode cX2_putFence 16 = .ok (.aload_n 0, 1) := by decide +kernel
theorem dX2_putFence_17 : decode cX2_putFence 17 = .ok (.getfield 11, 3) := by decide +kernel
theorem dX2_putFence_20 : decode cX2_putFence 20 = .ok (.iload_n 1, 1) := by decide +kernel
theorem dX2_putFence_21 : decode cX2_putFence 21 = .ok (.iaload, 1) := by decide +kernel
theorem dX2_putFence_22 : decode cX2_putFence 22 = .ok (.iconst 0, 1) := by decide +kernel
theorem dX2_putFence_23 : decode cX2_putFence 23 = .ok (.invokevirtual 46, 3) := by decide +kernel
theorem dX2_putFence_26 : decode cX2_putFence 26 = .ok (.iinc 1 1, 3) := by decide +kernel
theorem dX2_putFence_29 : decode cX2_putFence 29 = .ok (.goto (-22), 3) := by decide +kernel
theorem dX2_putFence_32 : decode cX2_putFence 32 = .ok (.aload_n 0, 1) := by decide +kernel
theorem dX2_putFence_33 : decode cX2_putFence 33 = .ok (.iconst 0, 1) := by decide +kernel
theorem dX2_putFence_34 : decode cX2_putFence 34 = .ok (.aload_n 0, 1) := by decide +kernel
theorem dX2_putFence_35 : decode cX2_putFence 35 = .ok (.getfield 25, 3) := by decide +kernel
theorem dX2_putFence_38 : decode cX2_putFence 38 = .ok (.iconst 1, 1) := by decide +kernel
theorem dX2_putFence_39 : decode cX2_putFence 39 = .ok (.isub, 1) := by decide +kernel
theorem dX2_putFence_40 : decode cX2_putFence 40 = .ok (.invokestatic 50, 3) := by decide +kernel
theorem dX2_putFence_43 : decode cX2_putFence 43 = .ok (.putfield 25, 3) := by decide +kernel
theorem dX2_putFence_46 : decode cX2_putFence 46 = .ok (.aload_n 0, 1) := by decide +kernel
theorem dX2_putFence_47 : decode cX2_putFence 47 = .ok (.getfield 25, 3) := by decide +kernel
theorem dX2_putFence_50 : decode cX2_putFence 50 = .ok (.istore_n 1, 1) := by decide +kernel
theorem dX2_putFence_51 : decode cX2_putFence 51 = .ok (.aload_n 0, 1) := by decide +kernel
theorem dX2_putFence_52 : decode cX2_putFence 52 = .ok (.getfield 21, 3) := by decide +kernel
theorem dX2_putFence_55 : decode cX2_putFence 55 = .ok (.iconst 1, 1) := by decide +kernel
theorem dX2_putFence_56 : decode cX2_putFence 56 = .ok (.isub, 1) := by decide +kernel
theorem dX2_putFence_57 : decode cX2_putFence 57 = .ok (.istore_n 2, 1) := by decide +kernel
theorem dX2_putFence_58 : decode cX2_putFence 58 = .ok (.iload_n 2, 1) := by decide +kernel
theorem dX2_putFence_59 : decode cX2_putFence 59 = .ok (.ifCond .lt 20, 3) := by decide +kernel
theorem dX2_putFence_62 : decode cX2_putFence 62 = .ok (.aload_n 0, 1) := by decide +kernel
theorem dX2_putFence_63 : decode cX2_putFence 63 = .ok (.aload_n 0, 1) := by decide +kernel
theorem dX2_putFence_64 : decode cX2_putFence 64 = .ok (.getfield 11, 3) := by decide +kernel
theorem dX2_putFence_67 : decode cX2_putFence 67 = .ok (.iload_n 2, 1) := by decide +kernel
theorem dX2_putFence_68 : decode cX2_putFence 68 = .ok (.iaload, 1) := by decide +kernel
theorem dX2_putFence_69 : decode cX2_putFence 69 = .ok (.iload_n 1, 1) := by decide +kernel
theorem dX2_putFence_70 : decode cX2_putFence 70 = .ok (.invokevirtual 46, 3) := by decide +kernel
theorem dX2_putFence_73 : decode cX2_putFence 73 = .ok (.iinc 2 (-1), 3) := by decide +kernel
theorem dX2_putFence_76 : decode cX2_putFence 76 = .ok (.goto (-18), 3) := by decide +kernel
theorem dX2_putFence_79 : decode cX2_putFence 79 = .ok (.aload_n 0, 1) := by decide +kernel
theorem dX2_putFence_80 : decode cX2_putFence 80 = .ok (.getfield 21, 3) := by decide +kernel
theorem dX2_putFence_83 : decode cX2_putFence 83 = .ok (.iconst 1, 1) := by decide +kernel
theorem dX2_putFence_84 : decode cX2_putFence 84 = .ok (.if_icmp .le 13, 3) := by decide +kernel
theorem dX2_putFence_87 : decode cX2_putFence 87 = .ok (.aload_n 0, 1) := by decide +kernel
theorem dX2_putFence_88 : decode cX2_putFence 88 = .ok (.dup, 1) := by decide +kernel
theorem dX2_putFence_89 : decode cX2_putFence 89 = .ok (.getfield 25, 3) := by decide +kernel
theorem dX2_putFence_92 : decode cX2_putFence 92 = .ok (.iconst 1, 1) := by decide +kernel
theorem dX2_putFence_93 : decode cX2_putFence 93 = .ok (.isub, 1) := by decide +kernel
theorem dX2_putFence_94 : decode cX2_putFence 94 = .ok (.putfield 25, 3) := by decide +kernel
theorem dX2_putFence_97 : decode cX2_putFence 97 = .ok (.return_, 1) := by decide +kernel
theorem dX2_addCorner_0 : decode cX2_addCorner 0 = .ok (.iconst 0, 1) := by decide +kernel
theorem dX2_addCorner_1 : decode cX2_addCorner 1 = .ok (.istore_n 3, 1) := by decide +kernel
theorem dX2_addCorner_2 : decode cX2_addCorner 2 = .ok (.iload_n 3, 1) := by decide +kernel
theorem dX2_addCorner_3 : decode cX2_addCorner 3 = .ok (.bipush 32, 2) := by decide +kernel
theorem dX2_addCorner_5 : decode cX2_addCorner 5 = .ok (.if_icmp .ge 61, 3) := by decide +kernel
theorem dX2_addCorner_8 : decode cX2_addCorner 8 = .ok (.aload_n 0, 1) := by decide +kernel
theorem dX2_addCorner_9 : decode cX2_addCorner 9 = .ok (.getfield 25, 3) := by decide +kernel
theorem dX2_addCorner_12 : decode cX2_addCorner 12 = .ok (.iload_n 2, 1) := by decide +kernel
theorem dX2_addCorner_13 : decode cX2_addCorner 13 = .ok (.isub, 1) := by decide +kernel
theorem dX2_addCorner_14 : decode cX2_addCorner 14 = .ok (.iconst 2, 1) := by decide +kernel
theorem dX2_addCorner_15 : decode cX2_addCorner 15 = .ok (.if_icmp .lt 51, 3) := by decide +kernel
theorem dX2_addCorner_18 : decode cX2_addCorner 18 = .ok (.aload_n 0, 1) := by decide +kernel
theorem dX2_addCorner_19 : decode cX2_addCorner 19 = .ok (.getfield 15, 3) := by decide +kernel
theorem dX2_addCorner_22 : decode cX2_addCorner 22 = .ok (.aload_n 0, 1) := by decide +kernel
theorem dX2_addCorner_23 : decode cX2_addCorner 23 = .ok (.getfield 25, 3) := by decide +kernel
theorem dX2_addCorner_26 : decode cX2_addCorner 26 = .ok (.iconst 2, 1) := by decide +kernel
theorem dX2_addCorner_27 : decode cX2_addCorner 27 = .ok (.isub, 1) := by decide +kernel
theorem dX2_addCorner_28 : decode cX2_addCorner 28 = .ok (.iaload, 1) := by decide +kernel
theorem dX2_addCorner_29 : decode cX2_addCorner 29 = .ok (.aload_n 0, 1) := by decide +kernel
theorem dX2_addCorner_30 : decode cX2_addCorner 30 = .ok (.getfield 15, 3) := by decide +kernel
theorem dX2_addCorner_33 : decode cX2_addCorner 33 = .ok (.aload_n 0, 1) := by decide +kernel
theorem dX2_addCorner_34 : decode cX2_addCorner 34 = .ok (.getfield 25, 3) := by decide +kernel
theorem dX2_addCorner_37 : decode cX2_addCorner 37 = .ok (.iconst 1, 1) := by decide +kernel
theorem dX2_addCorner_38 : decode cX2_addCorner 38 = .ok (.isub, 1) := by decide +kernel
theorem dX2_addCorner_39 : decode cX2_addCorner 39 = .ok (.iaload, 1) := by decide +kernel
theorem dX2_addCorner_40 : decode cX2_addCorner 40 = .ok (.iload_n 1, 1) := by decide +kernel
theorem dX2_addCorner_41 : decode cX2_addCorner 41 = .ok (.invokestatic 56, 3) := by decide +kernel
theorem dX2_addCorner_44 : decode cX2_addCorner 44 = .ok (.ifCond .le 6, 3) := by decide +kernel
theorem dX2_addCorner_47 : decode cX2_addCorner 47 = .ok (.goto 19, 3) := by decide +kernel
theorem dX2_addCorner_50 : decode cX2_addCorner 50 = .ok (.aload_n 0, 1) := by decide +kernel
theorem dX2_addCorner_51 : decode cX2_addCorner 51 = .ok (.dup, 1) := by decide +kernel
theorem dX2_addCorner_52 : decode cX2_addCorner 52 = .ok (.getfield 25, 3) := by decide +kernel
theorem dX2_addCorner_55 : decode cX2_addCorner 55 = .ok (.iconst 1, 1) := by decide +kernel
theorem dX2_addCorner_56 : decode cX2_addCorner 56 = .ok (.isub, 1) := by decide +kernel
theorem dX2_addCorner_57 : decode cX2_addCorner 57 = .ok (.putfield 25, 3) := by decide +kernel
theorem dX2_addCorner_60 : decode cX2_addCorner 60 = .ok (.iinc 3 1, 3) := by decide +kernel
theorem dX2_addCorner_63 : decode cX2_addCorner 63 = .ok (.goto (-61), 3) := by decide +kernel
theorem dX2_addCorner_66 : decode cX2_addCorner 66 = .ok (.aload_n 0, 1) := by decide +kernel
theorem dX2_addCorner_67 : decode cX2_addCorner 67 = .ok (.getfield 25, 3) := by decide +kernel
theorem dX2_addCorner_70 : decode cX2_addCorner 70 = .ok (.aload_n 0, 1) := by decide +kernel
theorem dX2_addCorner_71 : decode cX2_addCorner 71 = .ok (.getfield 15, 3) := by decide +kernel
theorem dX2_addCorner_74 : decode cX2_addCorner 74 = .ok (.arraylength, 1) := by decide +kernel
theorem dX2_addCorner_75 : decode cX2_addCorner 75 = .ok (.if_icmp .ge 23, 3) := by decide +kernel
theorem dX2_addCorner_78 : decode cX2_addCorner 78 = .ok (.aload_n 0, 1) := by decide +kernel
theorem dX2_addCorner_79 : decode cX2_addCorner 79 = .ok (.getfield 15, 3) := by decide +kernel
theorem dX2_addCorner_82 : decode cX2_addCorner 82 = .ok (.aload_n 0, 1) := by decide +kernel
theorem dX2_addCorner_83 : decode cX2_addCorner 83 = .ok (.getfield 25, 3) := by decide +kernel
theorem dX2_addCorner_86 : decode cX2_addCorner 86 = .ok (.iload_n 1, 1) := by decide +kernel
theorem dX2_addCorner_87 : decode cX2_addCorner 87 = .ok (.iastore, 1) := by decide +kernel
theorem dX2_addCorner_88 : decode cX2_addCorner 88 = .ok (.aload_n 0, 1) := by decide +kernel
theorem dX2_addCorner_89 : decode cX2_addCorner 89 = .ok (.dup, 1) := by decide +kernel
theorem dX2_addCorner_90 : decode cX2_addCorner 90 = .ok (.getfield 25, 3) := by decide +kernel
theorem dX2_addCorner_93 : decode cX2_addCorner 93 = .ok (.iconst 1, 1) := by decide +kernel
theorem dX2_addCorner_94 : decode cX2_addCorner 94 = .ok (.iadd, 1) := by decide +kernel
theorem dX2_addCorner_95 : decode cX2_addCorner 95 = .ok (.putfield 25, 3) := by decide +kernel
theorem dX2_addCorner_98 : decode cX2_addCorner 98 = .ok (.return_, 1) := by decide +kernel
theorem dX2_twiceGround_0 : decode cX2_twiceGround 0 = .ok (.iconst 0, 1) := by decide +kernel
theorem dX2_twiceGround_1 : decode cX2_twiceGround 1 = .ok (.istore_n 1, 1) := by decide +kernel
theorem dX2_twiceGround_2 : decode cX2_twiceGround 2 = .ok (.iconst 0, 1) := by decide +kernel
theorem dX2_twiceGround_3 : decode cX2_twiceGround 3 = .ok (.istore_n 2, 1) := by decide +kernel
theorem dX2_twiceGround_4 : decode cX2_twiceGround 4 = .ok (.iload_n 2, 1) := by decide +kernel
theorem dX2_twiceGround_5 : decode cX2_twiceGround 5 = .ok (.iconst 2, 1) := by decide +kernel
theorem dX2_twiceGround_6 : decode cX2_twiceGround 6 = .ok (.iadd, 1) := by decide +kernel
theorem dX2_twiceGround_7 : decode cX2_twiceGround 7 = .ok (.aload_n 0, 1) := by decide +kernel
theorem dX2_twiceGround_8 : decode cX2_twiceGround 8 = .ok (.getfield 25, 3) := by decide +kernel
theorem dX2_twiceGround_11 : decode cX2_twiceGround 11 = .ok (.if_icmp .ge 37, 3) := by decide +kernel
theorem dX2_twiceGround_14 : decode cX2_twiceGround 14 = .ok (.iload_n 1, 1) := by decide +kernel
theorem dX2_twiceGround_15 : decode cX2_twiceGround 15 = .ok (.aload_n 0, 1) := by decide +kernel
theorem dX2_twiceGround_16 : decode cX2_twiceGround 16 = .ok (.getfield 15, 3) := by decide +kernel
theorem dX2_twiceGround_19 : decode cX2_twiceGround 19 = .ok (.iconst 0, 1) := by decide +kernel
theorem dX2_twiceGround_20 : decode cX2_twiceGround 20 = .ok (.iaload, 1) := by decide +kernel
theorem dX2_twiceGround_21 : decode cX2_twiceGround 21 = .ok (.aload_n 0, 1) := by decide +kernel
theorem dX2_twiceGround_22 : decode cX2_twiceGround 22 = .ok (.getfield 15, 3) := by decide +kernel
theorem dX2_twiceGround_25 : decode cX2_twiceGround 25 = .ok (.iload_n 2, 1) := by decide +kernel
theorem dX2_twiceGround_26 : decode cX2_twiceGround 26 = .ok (.iconst 1, 1) := by decide +kernel
theorem dX2_twiceGround_27 : decode cX2_twiceGround 27 = .ok (.iadd, 1) := by decide +kernel
theorem dX2_twiceGround_28 : decode cX2_twiceGround 28 = .ok (.iaload, 1) := by decide +kernel
theorem dX2_twiceGround_29 : decode cX2_twiceGround 29 = .ok (.aload_n 0, 1) := by decide +kernel
theorem dX2_twiceGround_30 : decode cX2_twiceGround 30 = .ok (.getfield 15, 3) := by decide +kernel
theorem dX2_twiceGround_33 : decode cX2_twiceGround 33 = .ok (.iload_n 2, 1) := by decide +kernel
theorem dX2_twiceGround_34 : decode cX2_twiceGround 34 = .ok (.iconst 2, 1) := by decide +kernel
theorem dX2_twiceGround_35 : decode cX2_twiceGround 35 = .ok (.iadd, 1) := by decide +kernel
theorem dX2_twiceGround_36 : decode cX2_twiceGround 36 = .ok (.iaload, 1) := by decide +kernel
theorem dX2_twiceGround_37 : decode cX2_twiceGround 37 = .ok (.invokestatic 56, 3) := by decide +kernel
theorem dX2_twiceGround_40 : decode cX2_twiceGround 40 = .ok (.iadd, 1) := by decide +kernel
theorem dX2_twiceGround_41 : decode cX2_twiceGround 41 = .ok (.istore_n 1, 1) := by decide +kernel
theorem dX2_twiceGround_42 : decode cX2_twiceGround 42 = .ok (.iinc 2 1, 3) := by decide +kernel
theorem dX2_twiceGround_45 : decode cX2_twiceGround 45 = .ok (.goto (-41), 3) := by decide +kernel
theorem dX2_twiceGround_48 : decode cX2_twiceGround 48 = .ok (.iload_n 1, 1) := by decide +kernel
theorem dX2_twiceGround_49 : decode cX2_twiceGround 49 = .ok (.invokestatic 60, 3) := by decide +kernel
theorem dX2_twiceGround_52 : decode cX2_twiceGround 52 = .ok (.ireturn, 1) := by decide +kernel
theorem dX2_leastPaths_0 : decode cX2_leastPaths 0 = .ok (.iconst 0, 1) := by decide +kernel
theorem dX2_leastPaths_1 : decode cX2_leastPaths 1 = .ok (.istore_n 1, 1) := by decide +kernel
theorem dX2_leastPaths_2 : decode cX2_leastPaths 2 = .ok (.iload_n 1, 1) := by decide +kernel
theorem dX2_leastPaths_3 : decode cX2_leastPaths 3 = .ok (.aload_n 0, 1) := by decide +kernel
theorem dX2_leastPaths_4 : decode cX2_leastPaths 4 = .ok (.getfield 21, 3) := by decide +kernel
theorem dX2_leastPaths_7 : decode cX2_leastPaths 7 = .ok (.if_icmp .ge 30, 3) := by decide +kernel
theorem dX2_leastPaths_10 : decode cX2_leastPaths 10 = .ok (.aload_n 0, 1) := by decide +kernel
theorem dX2_leastPaths_11 : decode cX2_leastPaths 11 = .ok (.getfield 18, 3) := by decide +kernel
theorem dX2_leastPaths_14 : decode cX2_leastPaths 14 = .ok (.iload_n 1, 1) := by decide +kernel
theorem dX2_leastPaths_15 : decode cX2_leastPaths 15 = .ok (.aload_n 0, 1) := by decide +kernel
theorem dX2_leastPaths_16 : decode cX2_leastPaths 16 = .ok (.getfield 11, 3) := by decide +kernel
theorem dX2_leastPaths_19 : decode cX2_leastPaths 19 = .ok (.iconst 0, 1) := by decide +kernel
theorem dX2_leastPaths_20 : decode cX2_leastPaths 20 = .ok (.iaload, 1) := by decide +kernel
theorem dX2_leastPaths_21 : decode cX2_leastPaths 21 = .ok (.aload_n 0, 1) := by decide +kernel
theorem dX2_leastPaths_22 : decode cX2_leastPaths 22 = .ok (.getfield 11, 3) := by decide +kernel
theorem dX2_leastPaths_25 : decode cX2_leastPaths 25 = .ok (.iload_n 1, 1) := by decide +kernel
theorem dX2_leastPaths_26 : decode cX2_leastPaths 26 = .ok (.iaload, 1) := by decide +kernel
theorem dX2_leastPaths_27 : decode cX2_leastPaths 27 = .ok (.invokestatic 64, 3) := by decide +kernel
theorem dX2_leastPaths_30 : decode cX2_leastPaths 30 = .ok (.iastore, 1) := by decide +kernel
theorem dX2_leastPaths_31 : decode cX2_leastPaths 31 = .ok (.iinc 1 1, 3) := by decide +kernel
theorem dX2_leastPaths_34 : decode cX2_leastPaths 34 = .ok (.goto (-32), 3) := by decide +kernel
theorem dX2_leastPaths_37 : decode cX2_leastPaths 37 = .ok (.iconst 0, 1) := by decide +kernel
theorem dX2_leastPaths_38 : decode cX2_leastPaths 38 = .ok (.istore_n 1, 1) := by decide +kernel
theorem dX2_leastPaths_39 : decode cX2_leastPaths 39 = .ok (.iconst 1, 1) := by decide +kernel
theorem dX2_leastPaths_40 : decode cX2_leastPaths 40 = .ok (.istore_n 2, 1) := by decide +kernel
theorem dX2_leastPaths_41 : decode cX2_leastPaths 41 = .ok (.iload_n 2, 1) := by decide +kernel
theorem dX2_leastPaths_42 : decode cX2_leastPaths 42 = .ok (.aload_n 0, 1) := by decide +kernel
theorem dX2_leastPaths_43 : decode cX2_leastPaths 43 = .ok (.getfield 21, 3) := by decide +kernel
theorem dX2_leastPaths_46 : decode cX2_leastPaths 46 = .ok (.if_icmp .ge 74, 3) := by decide +kernel
theorem dX2_leastPaths_49 : decode cX2_leastPaths 49 = .ok (.aload_n 0, 1) := by decide +kernel
theorem dX2_leastPaths_50 : decode cX2_leastPaths 50 = .ok (.invokevirtual 67, 3) := by decide +kernel
theorem dX2_leastPaths_53 : decode cX2_leastPaths 53 = .ok (.istore_n 3, 1) := by decide +kernel
theorem dX2_leastPaths_54 : decode cX2_leastPaths 54 = .ok (.iload_n 1, 1) := by decide +kernel
theorem dX2_leastPaths_55 : decode cX2_leastPaths 55 = .ok (.aload_n 0, 1) := by decide +kernel
theorem dX2_leastPaths_56 : decode cX2_leastPaths 56 = .ok (.getfield 18, 3) := by decide +kernel
theorem dX2_leastPaths_59 : decode cX2_leastPaths 59 = .ok (.iload_n 3, 1) := by decide +kernel
theorem dX2_leastPaths_60 : decode cX2_leastPaths 60 = .ok (.iaload, 1) := by decide +kernel
theorem dX2_leastPaths_61 : decode cX2_leastPaths 61 = .ok (.iadd, 1) := by decide +kernel
theorem dX2_leastPaths_62 : decode cX2_leastPaths 62 = .ok (.istore_n 1, 1) := by decide +kernel
theorem dX2_leastPaths_63 : decode cX2_leastPaths 63 = .ok (.iconst 0, 1) := by decide +kernel
theorem dX2_leastPaths_64 : decode cX2_leastPaths 64 = .ok (.istore 4, 2) := by decide +kernel
theorem dX2_leastPaths_66 : decode cX2_leastPaths 66 = .ok (.iload 4, 2) := by decide +kernel
theorem dX2_leastPaths_68 : decode cX2_leastPaths 68 = .ok (.aload_n 0, 1) := by decide +kernel
theorem dX2_leastPaths_69 : decode cX2_leastPaths 69 = .ok (.getfield 21, 3) := by decide +kernel
theorem dX2_leastPaths_72 : decode cX2_leastPaths 72 = .ok (.if_icmp .ge 42, 3) := by decide +kernel
theorem dX2_leastPaths_75 : decode cX2_leastPaths 75 = .ok (.aload_n 0, 1) := by decide +kernel
theorem dX2_leastPaths_76 : decode cX2_leastPaths 76 = .ok (.getfield 18, 3) := by decide +kernel
theorem dX2_leastPaths_79 : decode cX2_leastPaths 79 = .ok (.iload 4, 2) := by decide +kernel
theorem dX2_leastPaths_81 : decode cX2_leastPaths 81 = .ok (.aload_n 0, 1) := by decide +kernel
theorem dX2_leastPaths_82 : decode cX2_leastPaths 82 = .ok (.getfield 18, 3) := by decide +kernel
theorem dX2_leastPaths_85 : decode cX2_leastPaths 85 = .ok (.iload 4, 2) := by decide +kernel
theorem dX2_leastPaths_87 : decode cX2_leastPaths 87 = .ok (.iaload, 1) := by decide +kernel
theorem dX2_leastPaths_88 : decode cX2_leastPaths 88 = .ok (.aload_n 0, 1) := by decide +kernel
theorem dX2_leastPaths_89 : decode cX2_leastPaths 89 = .ok (.getfield 11, 3) := by decide +kernel
theorem dX2_leastPaths_92 : decode cX2_leastPaths 92 = .ok (.iload_n 3, 1) := by decide +kernel
theorem dX2_leastPaths_93 : decode cX2_leastPaths 93 = .ok (.iaload, 1) := by decide +kernel
theorem dX2_leastPaths_94 : decode cX2_leastPaths 94 = .ok (.aload_n 0, 1) := by decide +kernel
theorem dX2_leastPaths_95 : decode cX2_leastPaths 95 = .ok (.getfield 11, 3) := by decide +kernel
theorem dX2_leastPaths_98 : decode cX2_leastPaths 98 = .ok (.iload 4, 2) := by decide +kernel
theorem dX2_leastPaths_100 : decode cX2_leastPaths 100 = .ok (.iaload, 1) := by decide +kernel
theorem dX2_leastPaths_101 : decode cX2_leastPaths 101 = .ok (.invokestatic 64, 3) := by decide +kernel
theorem dX2_leastPaths_104 : decode cX2_leastPaths 104 = .ok (.invokestatic 71, 3) := by decide +kernel
theorem dX2_leastPaths_107 : decode cX2_leastPaths 107 = .ok (.iastore, 1) := by decide +kernel
theorem dX2_leastPaths_108 : decode cX2_leastPaths 108 = .ok (.iinc 4 1, 3) := by decide +kernel
theorem dX2_leastPaths_111 : decode cX2_leastPaths 111 = .ok (.goto (-45), 3) := by decide +kernel
theorem dX2_leastPaths_114 : decode cX2_leastPaths 114 = .ok (.iinc 2 1, 3) := by decide +kernel
theorem dX2_leastPaths_117 : decode cX2_leastPaths 117 = .ok (.goto (-76), 3) := by decide +kernel
theorem dX2_leastPaths_120 : decode cX2_leastPaths 120 = .ok (.iload_n 1, 1) := by decide +kernel
theorem dX2_leastPaths_121 : decode cX2_leastPaths 121 = .ok (.ireturn, 1) := by decide +kernel
theorem dX2_nearestUnjoined_0 : decode cX2_nearestUnjoined 0 = .ok (.iconst 0, 1) := by decide +kernel
theorem dX2_nearestUnjoined_1 : decode cX2_nearestUnjoined 1 = .ok (.istore_n 1, 1) := by decide +kernel
theorem dX2_nearestUnjoined_2 : decode cX2_nearestUnjoined 2 = .ok (.iconst 1, 1) := by decide +kernel
theorem dX2_nearestUnjoined_3 : decode cX2_nearestUnjoined 3 = .ok (.istore_n 2, 1) := by decide +kernel
theorem dX2_nearestUnjoined_4 : decode cX2_nearestUnjoined 4 = .ok (.iload_n 2, 1) := by decide +kernel
theorem dX2_nearestUnjoined_5 : decode cX2_nearestUnjoined 5 = .ok (.aload_n 0, 1) := by decide +kernel
theorem dX2_nearestUnjoined_6 : decode cX2_nearestUnjoined 6 = .ok (.getfield 21, 3) := by decide +kernel
theorem dX2_nearestUnjoined_9 : decode cX2_nearestUnjoined 9 = .ok (.if_icmp .ge 44, 3) := by decide +kernel
theorem dX2_nearestUnjoined_12 : decode cX2_nearestUnjoined 12 = .ok (.aload_n 0, 1) := by decide +kernel
theorem dX2_nearestUnjoined_13 : decode cX2_nearestUnjoined 13 = .ok (.getfield 18, 3) := by decide +kernel
theorem dX2_nearestUnjoined_16 : decode cX2_nearestUnjoined 16 = .ok (.iload_n 2, 1) := by decide +kernel
theorem dX2_nearestUnjoined_17 : decode cX2_nearestUnjoined 17 = .ok (.iaload, 1) := by decide +kernel
theorem dX2_nearestUnjoined_18 : decode cX2_nearestUnjoined 18 = .ok (.ifCond .le 29, 3) := by decide +kernel
theorem dX2_nearestUnjoined_21 : decode cX2_nearestUnjoined 21 = .ok (.aload_n 0, 1) := by decide +kernel
theorem dX2_nearestUnjoined_22 : decode cX2_nearestUnjoined 22 = .ok (.getfield 18, 3) := by decide +kernel
theorem dX2_nearestUnjoined_25 : decode cX2_nearestUnjoined 25 = .ok (.iload_n 1, 1) := by decide +kernel
theorem dX2_nearestUnjoined_26 : decode cX2_nearestUnjoined 26 = .ok (.iaload, 1) := by decide +kernel
theorem dX2_nearestUnjoined_27 : decode cX2_nearestUnjoined 27 = .ok (.ifCond .eq 18, 3) := by decide +kernel
theorem dX2_nearestUnjoined_30 : decode cX2_nearestUnjoined 30 = .ok (.aload_n 0, 1) := by decide +kernel
theorem dX2_nearestUnjoined_31 : decode cX2_nearestUnjoined 31 = .ok (.getfield 18, 3) := by decide +kernel
theorem dX2_nearestUnjoined_34 : decode cX2_nearestUnjoined 34 = .ok (.iload_n 2, 1) := by decide +kernel
theorem dX2_nearestUnjoined_35 : decode cX2_nearestUnjoined 35 = .ok (.iaload, 1) := by decide +kernel
theorem dX2_nearestUnjoined_36 : decode cX2_nearestUnjoined 36 = .ok (.aload_n 0, 1) := by decide +kernel
theorem dX2_nearestUnjoined_37 : decode cX2_nearestUnjoined 37 = .ok (.getfield 18, 3) := by decide +kernel
theorem dX2_nearestUnjoined_40 : decode cX2_nearestUnjoined 40 = .ok (.iload_n 1, 1) := by decide +kernel
theorem dX2_nearestUnjoined_41 : decode cX2_nearestUnjoined 41 = .ok (.iaload, 1) := by decide +kernel
theorem dX2_nearestUnjoined_42 : decode cX2_nearestUnjoined 42 = .ok (.if_icmp .ge 5, 3) := by decide +kernel
theorem dX2_nearestUnjoined_45 : decode cX2_nearestUnjoined 45 = .ok (.iload_n 2, 1) := by decide +kernel
theorem dX2_nearestUnjoined_46 : decode cX2_nearestUnjoined 46 = .ok (.istore_n 1, 1) := by decide +kernel
theorem dX2_nearestUnjoined_47 : decode cX2_nearestUnjoined 47 = .ok (.iinc 2 1, 3) := by decide +kernel
theorem dX2_nearestUnjoined_50 : decode cX2_nearestUnjoined 50 = .ok (.goto (-46), 3) := by decide +kernel
theorem dX2_nearestUnjoined_53 : decode cX2_nearestUnjoined 53 = .ok (.iload_n 1, 1) := by decide +kernel
theorem dX2_nearestUnjoined_54 : decode cX2_nearestUnjoined 54 = .ok (.ireturn, 1) := by decide +kernel
theorem dX3_init_0 : decode cX3_init 0 = .ok (.aload_n 0, 1) := by decide +kernel
theorem dX3_init_1 : decode cX3_init 1 = .ok (.invokespecial 1, 3) := by decide +kernel
theorem dX3_init_4 : decode cX3_init 4 = .ok (.aload_n 0, 1) := by decide +kernel
theorem dX3_init_5 : decode cX3_init 5 = .ok (.bipush 16, 2) := by decide +kernel
theorem dX3_init_7 : decode cX3_init 7 = .ok (.newarray .int, 2) := by decide +kernel
theorem dX3_init_9 : decode cX3_init 9 = .ok (.putfield 9, 3) := by decide +kernel
theorem dX3_init_12 : decode cX3_init 12 = .ok (.aload_n 0, 1) := by decide +kernel
theorem dX3_init_13 : decode cX3_init 13 = .ok (.bipush 16, 2) := by decide +kernel
theorem dX3_init_15 : decode cX3_init 15 = .ok (.newarray .int, 2) := by decide +kernel
theorem dX3_init_17 : decode cX3_init 17 = .ok (.putfield 13, 3) := by decide +kernel
theorem dX3_init_20 : decode cX3_init 20 = .ok (.aload_n 0, 1) := by decide +kernel
theorem dX3_init_21 : decode cX3_init 21 = .ok (.bipush 16, 2) := by decide +kernel
theorem dX3_init_23 : decode cX3_init 23 = .ok (.newarray .int, 2) := by decide +kernel
theorem dX3_init_25 : decode cX3_init 25 = .ok (.putfield 16, 3) := by decide +kernel
theorem dX3_init_28 : decode cX3_init 28 = .ok (.aload_n 0, 1) := by decide +kernel
theorem dX3_init_29 : decode cX3_init 29 = .ok (.bipush 16, 2) := by decide +kernel
theorem dX3_init_31 : decode cX3_init 31 = .ok (.newarray .int, 2) := by decide +kernel
theorem dX3_init_33 : decode cX3_init 33 = .ok (.putfield 19, 3) := by decide +kernel
theorem dX3_init_36 : decode cX3_init 36 = .ok (.aload_n 0, 1) := by decide +kernel
theorem dX3_init_37 : decode cX3_init 37 = .ok (.sipush 240, 3) := by decide +kernel
theorem dX3_init_40 : decode cX3_init 40 = .ok (.newarray .int, 2) := by decide +kernel
theorem dX3_init_42 : decode cX3_init 42 = .ok (.putfield 22, 3) := by decide +kernel
theorem dX3_init_45 : decode cX3_init 45 = .ok (.aload_n 0, 1) := by decide +kernel
theorem dX3_init_46 : decode cX3_init 46 = .ok (.bipush 64, 2) := by decide +kernel
theorem dX3_init_48 : decode cX3_init 48 = .ok (.newarray .int, 2) := by decide +kernel
theorem dX3_init_50 : decode cX3_init 50 = .ok (.putfield 25, 3) := by decide +kernel
theorem dX3_init_53 : decode cX3_init 53 = .ok (.aload_n 0, 1) := by decide +kernel
theorem dX3_init_54 : decode cX3_init 54 = .ok (.iconst 0, 1) := by decide +kernel
theorem dX3_init_55 : decode cX3_init 55 = .ok (.putfield 28, 3) := by decide +kernel
theorem dX3_init_58 : decode cX3_init 58 = .ok (.aload_n 0, 1) := by decide +kernel
theorem dX3_init_59 : decode cX3_init 59 = .ok (.iconst 0, 1) := by decide +kernel
theorem dX3_init_60 : decode cX3_init 60 = .ok (.putfield 32, 3) := by decide +kernel
theorem dX3_init_63 : decode cX3_init 63 = .ok (.aload_n 0, 1) := by decide +kernel
theorem dX3_init_64 : decode cX3_init 64 = .ok (.iconst 0, 1) := by decide +kernel
theorem dX3_init_65 : decode cX3_init 65 = .ok (.putfield 35, 3) := by decide +kernel
theorem dX3_init_68 : decode cX3_init 68 = .ok (.return_, 1) := by decide +kernel
theorem dX3_copyOf_0 : decode cX3_copyOf 0 = .ok (.aload_n 1, 1) := by decide +kernel
theorem dX3_copyOf_1 : decode cX3_copyOf 1 = .ok (.getfield 9, 3) := by decide +kernel
theorem dX3_copyOf_4 : decode cX3_copyOf 4 = .ok (.iconst 0, 1) := by decide +kernel
theorem dX3_copyOf_5 : decode cX3_copyOf 5 = .ok (.aload_n 0, 1) := by decide +kernel
theorem dX3_copyOf_6 : decode cX3_copyOf 6 = .ok (.getfield 9, 3) := by decide +kernel
theorem dX3_copyOf_9 : decode cX3_copyOf 9 = .ok (.iconst 0, 1) := by decide +kernel
theorem dX3_copyOf_10 : decode cX3_copyOf 10 = .ok (.bipush 16, 2) := by decide +kernel
theorem dX3_copyOf_12 : decode cX3_copyOf 12 = .ok (.invokestatic 39, 3) := by decide +kernel
theorem dX3_copyOf_15 : decode cX3_copyOf 15 = .ok (.aload_n 1, 1) := by decide +kernel
theorem dX3_copyOf_16 : decode cX3_copyOf 16 = .ok (.getfield 13, 3) := by decide +kernel
theorem dX3_copyOf_19 : decode cX3_copyOf 19 = .ok (.iconst 0, 1) := by decide +kernel
theorem dX3_copyOf_20 : decode cX3_copyOf 20 = .ok (.aload_n 0, 1) := by decide +kernel
theorem dX3_copyOf_21 : decode cX3_copyOf 21 = .ok (.getfield 13, 3) := by decide +kernel
theorem dX3_copyOf_24 : decode cX3_copyOf 24 = .ok (.iconst 0, 1) := by decide +kernel
theorem dX3_copyOf_25 : decode cX3_copyOf 25 = .ok (.bipush 16, 2) := by decide +kernel
theorem dX3_copyOf_27 : decode cX3_copyOf 27 = .ok (.invokestatic 39, 3) := by decide +kernel
theorem dX3_copyOf_30 : decode cX3_copyOf 30 = .ok (.aload_n 1, 1) := by decide +kernel
theorem dX3_copyOf_31 : decode cX3_copyOf 31 = .ok (.getfield 16, 3) := by decide +kernel
theorem dX3_copyOf_34 : decode cX3_copyOf 34 = .ok (.iconst 0, 1) := by decide +kernel
theorem dX3_copyOf_35 : decode cX3_copyOf 35 = .ok (.aload_n 0, 1) := by decide +kernel
theorem dX3_copyOf_36 : decode cX3_copyOf 36 = .ok (.getfield 16, 3) := by decide +kernel
theorem dX3_copyOf_39 : decode cX3_copyOf 39 = .ok (.iconst 0, 1) := by decide +kernel
theorem dX3_copyOf_40 : decode cX3_copyOf 40 = .ok (.bipush 16, 2) := by decide +kernel
theorem dX3_copyOf_42 : decode cX3_copyOf 42 = .ok (.invokestatic 39, 3) := by decide +kernel
theorem dX3_copyOf_45 : decode cX3_copyOf 45 = .ok (.aload_n 1, 1) := by decide +kernel
theorem dX3_copyOf_46 : decode cX3_copyOf 46 = .ok (.getfield 19, 3) := by decide +kernel
theorem dX3_copyOf_49 : decode cX3_copyOf 49 = .ok (.iconst 0, 1) := by decide +kernel
theorem dX3_copyOf_50 : decode cX3_copyOf 50 = .ok (.aload_n 0, 1) := by decide +kernel
theorem dX3_copyOf_51 : decode cX3_copyOf 51 = .ok (.getfield 19, 3) := by decide +kernel
theorem dX3_copyOf_54 : decode cX3_copyOf 54 = .ok (.iconst 0, 1) := by decide +kernel
theorem dX3_copyOf_55 : decode cX3_copyOf 55 = .ok (.bipush 16, 2) := by decide +kernel
theorem dX3_copyOf_57 : decode cX3_copyOf 57 = .ok (.invokestatic 39, 3) := by decide +kernel
theorem dX3_copyOf_60 : decode cX3_copyOf 60 = .ok (.aload_n 1, 1) := by decide +kernel
theorem dX3_copyOf_61 : decode cX3_copyOf 61 = .ok (.getfield 22, 3) := by decide +kernel
theorem dX3_copyOf_64 : decode cX3_copyOf 64 = .ok (.iconst 0, 1) := by decide +kernel
theorem dX3_copyOf_65 : decode cX3_copyOf 65 = .ok (.aload_n 0, 1) := by decide +kernel
theorem dX3_copyOf_66 : decode cX3_copyOf 66 = .ok (.getfield 22, 3) := by decide +kernel
theorem dX3_copyOf_69 : decode cX3_copyOf 69 = .ok (.iconst 0, 1) := by decide +kernel
theorem dX3_copyOf_70 : decode cX3_copyOf 70 = .ok (.sipush 240, 3) := by decide +kernel
theorem dX3_copyOf_73 : decode cX3_copyOf 73 = .ok (.invokestatic 39, 3) := by decide +kernel
theorem dX3_copyOf_76 : decode cX3_copyOf 76 = .ok (.aload_n 0, 1) := by decide +kernel
theorem dX3_copyOf_77 : decode cX3_copyOf 77 = .ok (.aload_n 1, 1) := by decide +kernel
theorem dX3_copyOf_78 : decode cX3_copyOf 78 = .ok (.getfield 28, 3) := by decide +kernel
theorem dX3_copyOf_81 : decode cX3_copyOf 81 = .ok (.putfield 28, 3) := by decide +kernel
theorem dX3_copyOf_84 : decode cX3_copyOf 84 = .ok (.aload_n 0, 1) := by decide +kernel
theorem dX3_copyOf_85 : decode cX3_copyOf 85 = .ok (.aload_n 1, 1) := by decide +kernel
theorem dX3_copyOf_86 : decode cX3_copyOf 86 = .ok (.getfield 32, 3) := by decide +kernel
theorem dX3_copyOf_89 : decode cX3_copyOf 89 = .ok (.putfield 32, 3) := by decide +kernel
theorem dX3_copyOf_92 : decode cX3_copyOf 92 = .ok (.return_, 1) := by decide +kernel
theorem dX3_add_0 : decode cX3_add 0 = .ok (.aload_n 0, 1) := by decide +kernel
theorem dX3_add_1 : decode cX3_add 1 = .ok (.getfield 32, 3) := by decide +kernel
theorem dX3_add_4 : decode cX3_add 4 = .ok (.aload_n 0, 1) := by decide +kernel
theorem dX3_add_5 : decode cX3_add 5 = .ok (.getfield 22, 3) := by decide +kernel
theorem dX3_add_8 : decode cX3_add 8 = .ok (.arraylength, 1) := by decide +kernel
theorem dX3_add_9 : decode cX3_add 9 = .ok (.if_icmp .ge 29, 3) := by decide +kernel
theorem dX3_add_12 : decode cX3_add 12 = .ok (.aload_n 0, 1) := by decide +kernel
theorem dX3_add_13 : decode cX3_add 13 = .ok (.getfield 22, 3) := by decide +kernel
theorem dX3_add_16 : decode cX3_add 16 = .ok (.aload_n 0, 1) := by decide +kernel
theorem dX3_add_17 : decode cX3_add 17 = .ok (.getfield 32, 3) := by decide +kernel
theorem dX3_add_20 : decode cX3_add 20 = .ok (.sipush 256, 3) := by decide +kernel
theorem dX3_add_23 : decode cX3_add 23 = .ok (.iload_n 2, 1) := by decide +kernel
theorem dX3_add_24 : decode cX3_add 24 = .ok (.imul, 1) := by decide +kernel
theorem dX3_add_25 : decode cX3_add 25 = .ok (.iload_n 1, 1) := by decide +kernel
theorem dX3_add_26 : decode cX3_add 26 = .ok (.iadd, 1) := by decide +kernel
theorem dX3_add_27 : decode cX3_add 27 = .ok (.iastore, 1) := by decide +kernel
theorem dX3_add_28 : decode cX3_add 28 = .ok (.aload_n 0, 1) := by decide +kernel
theorem dX3_add_29 : decode cX3_add 29 = .ok (.dup, 1) := by decide +kernel
theorem dX3_add_30 : decode cX3_add 30 = .ok (.getfield 32, 3) := by decide +kernel
theorem dX3_add_33 : decode cX3_add 33 = .ok (.iconst 1, 1) := by decide +kernel
theorem dX3_add_34 : decode cX3_add 34 = .ok (.iadd, 1) := by decide +kernel
theorem dX3_add_35 : decode cX3_add 35 = .ok (.putfield 32, 3) := by decide +kernel
theorem dX3_add_38 : decode cX3_add 38 = .ok (.return_, 1) := by decide +kernel
theorem dX3_addJump_0 : decode cX3_addJump 0 = .ok (.aload_n 0, 1) := by decide +kernel
theorem dX3_addJump_1 : decode cX3_addJump 1 = .ok (.iload_n 1, 1) := by decide +kernel
theorem dX3_addJump_2 : decode cX3_addJump 2 = .ok (.iload_n 2, 1) := by decide +kernel
theorem dX3_addJump_3 : decode cX3_addJump 3 = .ok (.iconst 1, 1) := by decide +kernel
theorem dX3_addJump_4 : decode cX3_addJump 4 = .ok (.iadd, 1) := by decide +kernel
theorem dX3_addJump_5 : decode cX3_addJump 5 = .ok (.invokevirtual 45, 3) := by decide +kernel
theorem dX3_addJump_8 : decode cX3_addJump 8 = .ok (.aload_n 0, 1) := by decide +kernel
theorem dX3_addJump_9 : decode cX3_addJump 9 = .ok (.getfield 32, 3) := by decide +kernel
theorem dX3_addJump_12 : decode cX3_addJump 12 = .ok (.iconst 1, 1) := by decide +kernel
theorem dX3_addJump_13 : decode cX3_addJump 13 = .ok (.isub, 1) := by decide +kernel
theorem dX3_addJump_14 : decode cX3_addJump 14 = .ok (.ireturn, 1) := by decide +kernel
theorem dX3_endJumps_0 : decode cX3_endJumps 0 = .ok (.iload_n 1, 1) := by decide +kernel
theorem dX3_endJumps_1 : decode cX3_endJumps 1 = .ok (.istore_n 2, 1) := by decide +kernel
theorem dX3_endJumps_2 : decode cX3_endJumps 2 = .ok (.iconst 0, 1) := by decide +kernel
theorem dX3_endJumps_3 : decode cX3_endJumps 3 = .ok (.istore_n 3, 1) := by decide +kernel
theorem dX3_endJumps_4 : decode cX3_endJumps 4 = .ok (.iload_n 3, 1) := by decide +kernel
theorem dX3_endJumps_5 : decode cX3_endJumps 5 = .ok (.aload_n 0, 1) := by decide +kernel
theorem dX3_endJumps_6 : decode cX3_endJumps 6 = .ok (.getfield 22, 3) := by decide +kernel
theorem dX3_endJumps_9 : decode cX3_endJumps 9 = .ok (.arraylength, 1) := by decide +kernel
theorem dX3_endJumps_10 : decode cX3_endJumps 10 = .ok (.if_icmp .ge 63, 3) := by decide +kernel
theorem dX3_endJumps_13 : decode cX3_endJumps 13 = .ok (.iload_n 2, 1) := by decide +kernel
theorem dX3_endJumps_14 : decode cX3_endJumps 14 = .ok (.ifCond .lt 59, 3) := by decide +kernel
theorem dX3_endJumps_17 : decode cX3_endJumps 17 = .ok (.iload_n 2, 1) := by decide +kernel
theorem dX3_endJumps_18 : decode cX3_endJumps 18 = .ok (.aload_n 0, 1) := by decide +kernel
theorem dX3_endJumps_19 : decode cX3_endJumps 19 = .ok (.getfield 22, 3) := by decide +kernel
theorem dX3_endJumps_22 : decode cX3_endJumps 22 = .ok (.arraylength, 1) := by decide +kernel
theorem dX3_endJumps_23 : decode cX3_endJumps 23 = .ok (.if_icmp .ge 50, 3) := by decide +kernel
theorem dX3_endJumps_26 : decode cX3_endJumps 26 = .ok (.aload_n 0, 1) := by decide +kernel
theorem dX3_endJumps_27 : decode cX3_endJumps 27 = .ok (.getfield 22, 3) := by decide +kernel
theorem dX3_endJumps_30 : decode cX3_endJumps 30 = .ok (.iload_n 2, 1) := by decide +kernel
theorem dX3_endJumps_31 : decode cX3_endJumps 31 = .ok (.iaload, 1) := by decide +kernel
theorem dX3_endJumps_32 : decode cX3_endJumps 32 = .ok (.bipush 8, 2) := by decide +kernel
theorem dX3_endJumps_34 : decode cX3_endJumps 34 = .ok (.ishr, 1) := by decide +kernel
theorem dX3_endJumps_35 : decode cX3_endJumps 35 = .ok (.iconst 1, 1) := by decide +kernel
theorem dX3_endJumps_36 : decode cX3_endJumps 36 = .ok (.isub, 1) := by decide +kernel
theorem dX3_endJumps_37 : decode cX3_endJumps 37 = .ok (.istore 4, 2) := by decide +kernel
theorem dX3_endJumps_39 : decode cX3_endJumps 39 = .ok (.aload_n 0, 1) := by decide +kernel
theorem dX3_endJumps_40 : decode cX3_endJumps 40 = .ok (.getfield 22, 3) := by decide +kernel
theorem dX3_endJumps_43 : decode cX3_endJumps 43 = .ok (.iload_n 2, 1) := by decide +kernel
theorem dX3_endJumps_44 : decode cX3_endJumps 44 = .ok (.sipush 256, 3) := by decide +kernel
theorem dX3_endJumps_47 : decode cX3_endJumps 47 = .ok (.aload_n 0, 1) := by decide +kernel
theorem dX3_endJumps_48 : decode cX3_endJumps 48 = .ok (.getfield 32, 3) := by decide +kernel
theorem dX3_endJumps_51 : decode cX3_endJumps 51 = .ok (.imul, 1) := by decide +kernel
theorem dX3_endJumps_52 : decode cX3_endJumps 52 = .ok (.aload_n 0, 1) := by decide +kernel
theorem dX3_endJumps_53 : decode cX3_endJumps 53 = .ok (.getfield 22, 3) := by decide +kernel
theorem dX3_endJumps_56 : decode cX3_endJumps 56 = .ok (.iload_n 2, 1) := by decide +kernel
theorem dX3_endJumps_57 : decode cX3_endJumps 57 = .ok (.iaload, 1) := by decide +kernel
theorem dX3_endJumps_58 : decode cX3_endJumps 58 = .ok (.sipush 255, 3) := by decide +kernel
theorem dX3_endJumps_61 : decode cX3_endJumps 61 = .ok (.iand, 1) := by decide +kernel
theorem dX3_endJumps_62 : decode cX3_endJumps 62 = .ok (.iadd, 1) := by decide +kernel
theorem dX3_endJumps_63 : decode cX3_endJumps 63 = .ok (.iastore, 1) := by decide +kernel
theorem dX3_endJumps_64 : decode cX3_endJumps 64 = .ok (.iload 4, 2) := by decide +kernel
theorem dX3_endJumps_66 : decode cX3_endJumps 66 = .ok (.istore_n 2, 1) := by decide +kernel
theorem dX3_endJumps_67 : decode cX3_endJumps 67 = .ok (.iinc 3 1, 3) := by decide +kernel
theorem dX3_endJumps_70 : decode cX3_endJumps 70 = .ok (.goto (-66), 3) := by decide +kernel
theorem dX3_endJumps_73 : decode cX3_endJumps 73 = .ok (.return_, 1) := by decide +kernel
theorem dX3_fells_0 : decode cX3_fells 0 = .ok (.iconst 0, 1) := by decide +kernel
theorem dX3_fells_1 : decode cX3_fells 1 = .ok (.istore_n 2, 1) := by decide +kernel
theorem dX3_fells_2 : decode cX3_fells 2 = .ok (.iload_n 2, 1) := by decide +kernel
theorem dX3_fells_3 : decode cX3_fells 3 = .ok (.aload_n 0, 1) := by decide +kernel
theorem dX3_fells_4 : decode cX3_fells 4 = .ok (.getfield 28, 3) := by decide +kernel
theorem dX3_fells_7 : decode cX3_fells 7 = .ok (.if_icmp .ge 31, 3) := by decide +kernel
theorem dX3_fells_10 : decode cX3_fells 10 = .ok (.aload_n 0, 1) := by decide +kernel
theorem dX3_fells_11 : decode cX3_fells 11 = .ok (.getfield 9, 3) := by decide +kernel
theorem dX3_fells_14 : decode cX3_fells 14 = .ok (.iload_n 2, 1) := by decide +kernel
theorem dX3_fells_15 : decode cX3_fells 15 = .ok (.iaload, 1) := by decide +kernel
theorem dX3_fells_16 : decode cX3_fells 16 = .ok (.bipush 120, 2) := by decide +kernel
theorem dX3_fells_18 : decode cX3_fells 18 = .ok (.if_icmp .ne 14, 3) := by decide +kernel
theorem dX3_fells_21 : decode cX3_fells 21 = .ok (.aload_n 0, 1) := by decide +kernel
theorem dX3_fells_22 : decode cX3_fells 22 = .ok (.iload_n 2, 1) := by decide +kernel
theorem dX3_fells_23 : decode cX3_fells 23 = .ok (.aload_n 1, 1) := by decide +kernel
theorem dX3_fells_24 : decode cX3_fells 24 = .ok (.invokevirtual 49, 3) := by decide +kernel
theorem dX3_fells_27 : decode cX3_fells 27 = .ok (.ifCond .eq 5, 3) := by decide +kernel
theorem dX3_fells_30 : decode cX3_fells 30 = .ok (.iconst 1, 1) := by decide +kernel
theorem dX3_fells_31 : decode cX3_fells 31 = .ok (.ireturn, 1) := by decide +kernel
theorem dX3_fells_32 : decode cX3_fells 32 = .ok (.iinc 2 1, 3) := by decide +kernel
theorem dX3_fells_35 : decode cX3_fells 35 = .ok (.goto (-33), 3) := by decide +kernel
theorem dX3_fells_38 : decode cX3_fells 38 = .ok (.iconst 0, 1) := by decide +kernel
theorem dX3_fells_39 : decode cX3_fells 39 = .ok (.ireturn, 1) := by decide +kernel
theorem dX3_worthOf_0 : decode cX3_worthOf 0 = .ok (.iconst 0, 1) := by decide +kernel
theorem dX3_worthOf_1 : decode cX3_worthOf 1 = .ok (.istore 5, 2) := by decide +kernel
theorem dX3_worthOf_3 : decode cX3_worthOf 3 = .ok (.iload 5, 2) := by decide +kernel
theorem dX3_worthOf_5 : decode cX3_worthOf 5 = .ok (.aload_n 0, 1) := by decide +kernel
theorem dX3_worthOf_6 : decode cX3_worthOf 6 = .ok (.getfield 28, 3) := by decide +kernel
theorem dX3_worthOf_9 : decode cX3_worthOf 9 = .ok (.if_icmp .ge 64, 3) := by decide +kernel
theorem dX3_worthOf_12 : decode cX3_worthOf 12 = .ok (.aload_n 0, 1) := by decide +kernel
theorem dX3_worthOf_13 : decode cX3_worthOf 13 = .ok (.getfield 9, 3) := by decide +kernel
theorem dX3_worthOf_16 : decode cX3_worthOf 16 = .ok (.iload 5, 2) := by decide +kernel
theorem dX3_worthOf_18 : decode cX3_worthOf 18 = .ok (.iaload, 1) := by decide +kernel
theorem dX3_worthOf_19 : decode cX3_worthOf 19 = .ok (.iload_n 1, 1) := by decide +kernel
theorem dX3_worthOf_20 : decode cX3_worthOf 20 = .ok (.if_icmp .ne 47, 3) := by decide +kernel
theorem dX3_worthOf_23 : decode cX3_worthOf 23 = .ok (.aload_n 0, 1) := by decide +kernel
theorem dX3_worthOf_24 : decode cX3_worthOf 24 = .ok (.iload 5, 2) := by decide +kernel
theorem dX3_worthOf_26 : decode cX3_worthOf 26 = .ok (.aload 4, 2) := by decide +kernel
theorem dX3_worthOf_28 : decode cX3_worthOf 28 = .ok (.invokevirtual 49, 3) := by decide +kernel
theorem dX3_worthOf_31 : decode cX3_worthOf 31 = .ok (.ifCond .eq 36, 3) := by decide +kernel
theorem dX3_worthOf_34 : decode cX3_worthOf 34 = .ok (.aload_n 0, 1) := by decide +kernel
theorem dX3_worthOf_35 : decode cX3_worthOf 35 = .ok (.aload_n 0, 1) := by decide +kernel
theorem dX3_worthOf_36 : decode cX3_worthOf 36 = .ok (.getfield 13, 3) := by decide +kernel
theorem dX3_worthOf_39 : decode cX3_worthOf 39 = .ok (.iload 5, 2) := by decide +kernel
theorem dX3_worthOf_41 : decode cX3_worthOf 41 = .ok (.iaload, 1) := by decide +kernel
theorem dX3_worthOf_42 : decode cX3_worthOf 42 = .ok (.aload_n 0, 1) := by decide +kernel
theorem dX3_worthOf_43 : decode cX3_worthOf 43 = .ok (.getfield 16, 3) := by decide +kernel
theorem dX3_worthOf_46 : decode cX3_worthOf 46 = .ok (.iload 5, 2) := by decide +kernel
theorem dX3_worthOf_48 : decode cX3_worthOf 48 = .ok (.iaload, 1) := by decide +kernel
theorem dX3_worthOf_49 : decode cX3_worthOf 49 = .ok (.aload 4, 2) := by decide +kernel
theorem dX3_worthOf_51 : decode cX3_worthOf 51 = .ok (.invokevirtual 53, 3) := by decide +kernel
theorem dX3_worthOf_54 : decode cX3_worthOf 54 = .ok (.istore 6, 2) := by decide +kernel
theorem dX3_worthOf_56 : decode cX3_worthOf 56 = .ok (.iconst 0, 1) := by decide +kernel
theorem dX3_worthOf_57 : decode cX3_worthOf 57 = .ok (.iload_n 3, 1) := by decide +kernel
theorem dX3_worthOf_58 : decode cX3_worthOf 58 = .ok (.iload 6, 2) := by decide +kernel
theorem dX3_worthOf_60 : decode cX3_worthOf 60 = .ok (.invokestatic 57, 3) := by decide +kernel
theorem dX3_worthOf_63 : decode cX3_worthOf 63 = .ok (.invokestatic 63, 3) := by decide +kernel
theorem dX3_worthOf_66 : decode cX3_worthOf 66 = .ok (.ireturn, 1) := by decide +kernel
theorem dX3_worthOf_67 : decode cX3_worthOf 67 = .ok (.iinc 5 1, 3) := by decide +kernel
theorem dX3_worthOf_70 : decode cX3_worthOf 70 = .ok (.goto (-67), 3) := by decide +kernel
theorem dX3_worthOf_73 : decode cX3_worthOf 73 = .ok (.iload_n 2, 1) := by decide +kernel
theorem dX3_worthOf_74 : decode cX3_worthOf 74 = .ok (.ireturn, 1) := by decide +kernel
theorem dX3_holds_0 : decode cX3_holds 0 = .ok (.aload_n 0, 1) := by decide +kernel
theorem dX3_holds_1 : decode cX3_holds 1 = .ok (.aload_n 0, 1) := by decide +kernel
theorem dX3_holds_2 : decode cX3_holds 2 = .ok (.getfield 16, 3) := by decide +kernel
theorem dX3_holds_5 : decode cX3_holds 5 = .ok (.iload_n 1, 1) := by decide +kernel
theorem dX3_holds_6 : decode cX3_holds 6 = .ok (.iaload, 1) := by decide +kernel
theorem dX3_holds_7 : decode cX3_holds 7 = .ok (.aload_n 0, 1) := by decide +kernel
theorem dX3_holds_8 : decode cX3_holds 8 = .ok (.getfield 19, 3) := by decide +kernel
theorem dX3_holds_11 : decode cX3_holds 11 = .ok (.iload_n 1, 1) := by decide +kernel
theorem dX3_holds_12 : decode cX3_holds 12 = .ok (.iaload, 1) := by decide +kernel
theorem dX3_holds_13 : decode cX3_holds 13 = .ok (.aload_n 2, 1) := by decide +kernel
theorem dX3_holds_14 : decode cX3_holds 14 = .ok (.invokevirtual 53, 3) := by decide +kernel
theorem dX3_holds_17 : decode cX3_holds 17 = .ok (.ifCond .eq 7, 3) := by decide +kernel
theorem dX3_holds_20 : decode cX3_holds 20 = .ok (.iconst 1, 1) := by decide +kernel
theorem dX3_holds_21 : decode cX3_holds 21 = .ok (.goto 4, 3) := by decide +kernel
theorem dX3_holds_24 : decode cX3_holds 24 = .ok (.iconst 0, 1) := by decide +kernel
theorem dX3_holds_25 : decode cX3_holds 25 = .ok (.ireturn, 1) := by decide +kernel
theorem dX3_reckon_0 : decode cX3_reckon 0 = .ok (.aload_n 0, 1) := by decide +kernel
theorem dX3_reckon_1 : decode cX3_reckon 1 = .ok (.iconst 0, 1) := by decide +kernel
theorem dX3_reckon_2 : decode cX3_reckon 2 = .ok (.putfield 35, 3) := by decide +kernel
theorem dX3_reckon_5 : decode cX3_reckon 5 = .ok (.iconst 0, 1) := by decide +kernel
theorem dX3_reckon_6 : decode cX3_reckon 6 = .ok (.istore 4, 2) := by decide +kernel
theorem dX3_reckon_8 : decode cX3_reckon 8 = .ok (.aload_n 0, 1) := by decide +kernel
theorem dX3_reckon_9 : decode cX3_reckon 9 = .ok (.getfield 25, 3) := by decide +kernel
theorem dX3_reckon_12 : decode cX3_reckon 12 = .ok (.iconst 0, 1) := by decide +kernel
theorem dX3_reckon_13 : decode cX3_reckon 13 = .ok (.iconst 0, 1) := by decide +kernel
theorem dX3_reckon_14 : decode cX3_reckon 14 = .ok (.iastore, 1) := by decide +kernel
theorem dX3_reckon_15 : decode cX3_reckon 15 = .ok (.iload_n 1, 1) := by decide +kernel
theorem dX3_reckon_16 : decode cX3_reckon 16 = .ok (.istore 5, 2) := by decide +kernel
theorem dX3_reckon_18 : decode cX3_reckon 18 = .ok (.iload 5, 2) := by decide +kernel
theorem dX3_reckon_20 : decode cX3_reckon 20 = .ok (.iload_n 2, 1) := by decide +kernel
theorem dX3_reckon_21 : decode cX3_reckon 21 = .ok (.if_icmp .ge 247, 3) := by decide +kernel
theorem dX3_reckon_24 : decode cX3_reckon 24 = .ok (.iload 5, 2) := by decide +kernel
theorem dX3_reckon_26 : decode cX3_reckon 26 = .ok (.aload_n 0, 1) := by decide +kernel
theorem dX3_reckon_27 : decode cX3_reckon 27 = .ok (.getfield 22, 3) := by decide +kernel
theorem dX3_reckon_30 : decode cX3_reckon 30 = .ok (.arraylength, 1) := by decide +kernel
theorem dX3_reckon_31 : decode cX3_reckon 31 = .ok (.if_icmp .ge 237, 3) := by decide +kernel
theorem dX3_reckon_34 : decode cX3_reckon 34 = .ok (.aload_n 0, 1) := by decide +kernel
theorem dX3_reckon_35 : decode cX3_reckon 35 = .ok (.getfield 35, 3) := by decide +kernel
theorem dX3_reckon_38 : decode cX3_reckon 38 = .ok (.ifCond .ne 230, 3) := by decide +kernel
theorem dX3_reckon_41 : decode cX3_reckon 41 = .ok (.aload_n 0, 1) := by decide +kernel
theorem dX3_reckon_42 : decode cX3_reckon 42 = .ok (.getfield 22, 3) := by decide +kernel
theorem dX3_reckon_45 : decode cX3_reckon 45 = .ok (.iload 5, 2) := by decide +kernel
theorem dX3_reckon_47 : decode cX3_reckon 47 = .ok (.iaload, 1) := by decide +kernel
theorem dX3_reckon_48 : decode cX3_reckon 48 = .ok (.sipush 255, 3) := by decide +kernel
theorem dX3_reckon_51 : decode cX3_reckon 51 = .ok (.iand, 1) := by decide +kernel
theorem dX3_reckon_52 : decode cX3_reckon 52 = .ok (.istore 6, 2) := by decide +kernel
theorem dX3_reckon_54 : decode cX3_reckon 54 = .ok (.aload_n 0, 1) := by decide +kernel
theorem dX3_reckon_55 : decode cX3_reckon 55 = .ok (.getfield 22, 3) := by decide +kernel
theorem dX3_reckon_58 : decode cX3_reckon 58 = .ok (.iload 5, 2) := by decide +kernel
theorem dX3_reckon_60 : decode cX3_reckon 60 = .ok (.iaload, 1) := by decide +kernel
theorem dX3_reckon_61 : decode cX3_reckon 61 = .ok (.bipush 8, 2) := by decide +kernel
theorem dX3_reckon_63 : decode cX3_reckon 63 = .ok (.ishr, 1) := by decide +kernel
theorem dX3_reckon_64 : decode cX3_reckon 64 = .ok (.istore 7, 2) := by decide +kernel
theorem dX3_reckon_66 : decode cX3_reckon 66 = .ok (.iload 6, 2) := by decide +kernel
theorem dX3_reckon_68 : decode cX3_reckon 68 = .ok (.bipush 48, 2) := by decide +kernel
theorem dX3_reckon_70 : decode cX3_reckon 70 = .ok (.if_icmp .eq 10, 3) := by decide +kernel
theorem dX3_reckon_73 : decode cX3_reckon 73 = .ok (.iload 6, 2) := by decide +kernel
theorem dX3_reckon_75 : decode cX3_reckon 75 = .ok (.bipush 97, 2) := by decide +kernel
theorem dX3_reckon_77 : decode cX3_reckon 77 = .ok (.if_icmp .ne 32, 3) := by decide +kernel
theorem dX3_reckon_80 : decode cX3_reckon 80 = .ok (.iload 4, 2) := by decide +kernel
theorem dX3_reckon_82 : decode cX3_reckon 82 = .ok (.iconst 1, 1) := by decide +kernel
theorem dX3_reckon_83 : decode cX3_reckon 83 = .ok (.iadd, 1) := by decide +kernel
theorem dX3_reckon_84 : decode cX3_reckon 84 = .ok (.bipush 63, 2) := by decide +kernel
theorem dX3_reckon_86 : decode cX3_reckon 86 = .ok (.invokestatic 57, 3) := by decide +kernel
theorem dX3_reckon_89 : decode cX3_reckon 89 = .ok (.istore 4, 2) := by decide +kernel
theorem dX3_reckon_91 : decode cX3_reckon 91 = .ok (.aload_n 0, 1) := by decide +kernel
theorem dX3_reckon_92 : decode cX3_reckon 92 = .ok (.getfield 25, 3) := by decide +kernel
theorem dX3_reckon_95 : decode cX3_reckon 95 = .ok (.iload 4, 2) := by decide +kernel
theorem dX3_reckon_97 : decode cX3_reckon 97 = .ok (.iload 6, 2) := by decide +kernel
theorem dX3_reckon_99 : decode cX3_reckon 99 = .ok (.iload 7, 2) := by decide +kernel
theorem dX3_reckon_101 : decode cX3_reckon 101 = .ok (.aload_n 3, 1) := by decide +kernel
theorem dX3_reckon_102 : decode cX3_reckon 102 = .ok (.invokestatic 66, 3) := by decide +kernel
theorem dX3_reckon_105 : decode cX3_reckon 105 = .ok (.iastore, 1) := by decide +kernel
theorem dX3_reckon_106 : decode cX3_reckon 106 = .ok (.goto 156, 3) := by decide +kernel
theorem dX3_reckon_109 : decode cX3_reckon 109 = .ok (.iload 6, 2) := by decide +kernel
theorem dX3_reckon_111 : decode cX3_reckon 111 = .ok (.bipush 33, 2) := by decide +kernel
theorem dX3_reckon_113 : decode cX3_reckon 113 = .ok (.if_icmp .ne 22, 3) := by decide +kernel
theorem dX3_reckon_116 : decode cX3_reckon 116 = .ok (.aload_n 0, 1) := by decide +kernel
theorem dX3_reckon_117 : decode cX3_reckon 117 = .ok (.getfield 25, 3) := by decide +kernel
theorem dX3_reckon_120 : decode cX3_reckon 120 = .ok (.iload 4, 2) := by decide +kernel
theorem dX3_reckon_122 : decode cX3_reckon 122 = .ok (.iconst 1, 1) := by decide +kernel
theorem dX3_reckon_123 : decode cX3_reckon 123 = .ok (.aload_n 0, 1) := by decide +kernel
theorem dX3_reckon_124 : decode cX3_reckon 124 = .ok (.getfield 25, 3) := by decide +kernel
theorem dX3_reckon_127 : decode cX3_reckon 127 = .ok (.iload 4, 2) := by decide +kernel
theorem dX3_reckon_129 : decode cX3_reckon 129 = .ok (.iaload, 1) := by decide +kernel
theorem dX3_reckon_130 : decode cX3_reckon 130 = .ok (.isub, 1) := by decide +kernel
theorem dX3_reckon_131 : decode cX3_reckon 131 = .ok (.iastore, 1) := by decide +kernel
theorem dX3_reckon_132 : decode cX3_reckon 132 = .ok (.goto 130, 3) := by decide +kernel
theorem dX3_reckon_135 : decode cX3_reckon 135 = .ok (.iload 6, 2) := by decide +kernel
theorem dX3_reckon_137 : decode cX3_reckon 137 = .ok (.bipush 38, 2) := by decide +kernel
theorem dX3_reckon_139 : decode cX3_reckon 139 = .ok (.if_icmp .eq 10, 3) := by decide +kernel
theorem dX3_reckon_142 : decode cX3_reckon 142 = .ok (.iload 6, 2) := by decide +kernel
theorem dX3_reckon_144 : decode cX3_reckon 144 = .ok (.bipush 124, 2) := by decide +kernel
theorem dX3_reckon_146 : decode cX3_reckon 146 = .ok (.if_icmp .ne 77, 3) := by decide +kernel
theorem dX3_reckon_149 : decode cX3_reckon 149 = .ok (.iload 6, 2) := by decide +kernel
theorem dX3_reckon_151 : decode cX3_reckon 151 = .ok (.bipush 38, 2) := by decide +kernel
theorem dX3_reckon_153 : decode cX3_reckon 153 = .ok (.if_icmp .ne 21, 3) := by decide +kernel
theorem dX3_reckon_156 : decode cX3_reckon 156 = .ok (.aload_n 0, 1) := by decide +kernel
theorem dX3_reckon_157 : decode cX3_reckon 157 = .ok (.getfield 25, 3) := by decide +kernel
theorem dX3_reckon_160 : decode cX3_reckon 160 = .ok (.iload 4, 2) := by decide +kernel
theorem dX3_reckon_162 : decode cX3_reckon 162 = .ok (.iaload, 1) := by decide +kernel
theorem dX3_reckon_163 : decode cX3_reckon 163 = .ok (.ifCond .ne 7, 3) := by decide +kernel
theorem dX3_reckon_166 : decode cX3_reckon 166 = .ok (.iconst 1, 1) := by decide +kernel
theorem dX3_reckon_167 : decode cX3_reckon 167 = .ok (.goto 22, 3) := by decide +kernel
theorem dX3_reckon_170 : decode cX3_reckon 170 = .ok (.iconst 0, 1) := by decide +kernel
theorem dX3_reckon_171 : decode cX3_reckon 171 = .ok (.goto 18, 3) := by decide +kernel
theorem dX3_reckon_174 : decode cX3_reckon 174 = .ok (.aload_n 0, 1) := by decide +kernel
theorem dX3_reckon_175 : decode cX3_reckon 175 = .ok (.getfield 25, 3) := by decide +kernel
theorem dX3_reckon_178 : decode cX3_reckon 178 = .ok (.iload 4, 2) := by decide +kernel
theorem dX3_reckon_180 : decode cX3_reckon 180 = .ok (.iaload, 1) := by decide +kernel
theorem dX3_reckon_181 : decode cX3_reckon 181 = .ok (.ifCond .eq 7, 3) := by decide +kernel
theorem dX3_reckon_184 : decode cX3_reckon 184 = .ok (.iconst 1, 1) := by decide +kernel
theorem dX3_reckon_185 : decode cX3_reckon 185 = .ok (.goto 4, 3) := by decide +kernel
theorem dX3_reckon_188 : decode cX3_reckon 188 = .ok (.iconst 0, 1) := by decide +kernel
theorem dX3_reckon_189 : decode cX3_reckon 189 = .ok (.istore 8, 2) := by decide +kernel
theorem dX3_reckon_191 : decode cX3_reckon 191 = .ok (.iload 8, 2) := by decide +kernel
theorem dX3_reckon_193 : decode cX3_reckon 193 = .ok (.ifCond .eq 17, 3) := by decide +kernel
theorem dX3_reckon_196 : decode cX3_reckon 196 = .ok (.iload 5, 2) := by decide +kernel
theorem dX3_reckon_198 : decode cX3_reckon 198 = .ok (.iload 7, 2) := by decide +kernel
theorem dX3_reckon_200 : decode cX3_reckon 200 = .ok (.iconst 1, 1) := by decide +kernel
theorem dX3_reckon_201 : decode cX3_reckon 201 = .ok (.isub, 1) := by decide +kernel
theorem dX3_reckon_202 : decode cX3_reckon 202 = .ok (.invokestatic 63, 3) := by decide +kernel
theorem dX3_reckon_205 : decode cX3_reckon 205 = .ok (.istore 5, 2) := by decide +kernel
theorem dX3_reckon_207 : decode cX3_reckon 207 = .ok (.goto 13, 3) := by decide +kernel
theorem dX3_reckon_210 : decode cX3_reckon 210 = .ok (.iload 4, 2) := by decide +kernel
theorem dX3_reckon_212 : decode cX3_reckon 212 = .ok (.iconst 1, 1) := by decide +kernel
theorem dX3_reckon_213 : decode cX3_reckon 213 = .ok (.isub, 1) := by decide +kernel
theorem dX3_reckon_214 : decode cX3_reckon 214 = .ok (.iconst 0, 1) := by decide +kernel
theorem dX3_reckon_215 : decode cX3_reckon 215 = .ok (.invokestatic 63, 3) := by decide +kernel
theorem dX3_reckon_218 : decode cX3_reckon 218 = .ok (.istore 4, 2) := by decide +kernel
theorem dX3_reckon_220 : decode cX3_reckon 220 = .ok (.goto 42, 3) := by decide +kernel
theorem dX3_reckon_223 : decode cX3_reckon 223 = .ok (.iload 4, 2) := by decide +kernel
theorem dX3_reckon_225 : decode cX3_reckon 225 = .ok (.iconst 1, 1) := by decide +kernel
theorem dX3_reckon_226 : decode cX3_reckon 226 = .ok (.isub, 1) := by decide +kernel
theorem dX3_reckon_227 : decode cX3_reckon 227 = .ok (.iconst 0, 1) := by decide +kernel
theorem dX3_reckon_228 : decode cX3_reckon 228 = .ok (.invokestatic 63, 3) := by decide +kernel
theorem dX3_reckon_231 : decode cX3_reckon 231 = .ok (.istore 4, 2) := by decide +kernel
theorem dX3_reckon_233 : decode cX3_reckon 233 = .ok (.aload_n 0, 1) := by decide +kernel
theorem dX3_reckon_234 : decode cX3_reckon 234 = .ok (.getfield 25, 3) := by decide +kernel
theorem dX3_reckon_237 : decode cX3_reckon 237 = .ok (.iload 4, 2) := by decide +kernel
theorem dX3_reckon_239 : decode cX3_reckon 239 = .ok (.aload_n 0, 1) := by decide +kernel
theorem dX3_reckon_240 : decode cX3_reckon 240 = .ok (.iload 6, 2) := by decide +kernel
theorem dX3_reckon_242 : decode cX3_reckon 242 = .ok (.aload_n 0, 1) := by decide +kernel
theorem dX3_reckon_243 : decode cX3_reckon 243 = .ok (.getfield 25, 3) := by decide +kernel
theorem dX3_reckon_246 : decode cX3_reckon 246 = .ok (.iload 4, 2) := by decide +kernel
theorem dX3_reckon_248 : decode cX3_reckon 248 = .ok (.iaload, 1) := by decide +kernel
theorem dX3_reckon_249 : decode cX3_reckon 249 = .ok (.aload_n 0, 1) := by decide +kernel
theorem dX3_reckon_250 : decode cX3_reckon 250 = .ok (.getfield 25, 3) := by decide +kernel
theorem dX3_reckon_253 : decode cX3_reckon 253 = .ok (.iload 4, 2) := by decide +kernel
theorem dX3_reckon_255 : decode cX3_reckon 255 = .ok (.iconst 1, 1) := by decide +kernel
theorem dX3_reckon_256 : decode cX3_reckon 256 = .ok (.iadd, 1) := by decide +kernel
theorem dX3_reckon_257 : decode cX3_reckon 257 = .ok (.iaload, 1) := by decide +kernel
theorem dX3_reckon_258 : decode cX3_reckon 258 = .ok (.invokevirtual 69, 3) := by decide +kernel
theorem dX3_reckon_261 : decode cX3_reckon 261 = .ok (.iastore, 1) := by decide +kernel
theorem dX3_reckon_262 : decode cX3_reckon 262 = .ok (.iinc 5 1, 3) := by decide +kernel
theorem dX3_reckon_265 : decode cX3_reckon 265 = .ok (.goto (-247), 3) := by decide +kernel
theorem dX3_reckon_268 : decode cX3_reckon 268 = .ok (.aload_n 0, 1) := by decide +kernel
theorem dX3_reckon_269 : decode cX3_reckon 269 = .ok (.getfield 35, 3) := by decide +kernel
theorem dX3_reckon_272 : decode cX3_reckon 272 = .ok (.ifCond .eq 7, 3) := by decide +kernel
theorem dX3_reckon_275 : decode cX3_reckon 275 = .ok (.iconst 0, 1) := by decide +kernel
theorem dX3_reckon_276 : decode cX3_reckon 276 = .ok (.goto 10, 3) := by decide +kernel
theorem dX3_reckon_279 : decode cX3_reckon 279 = .ok (.aload_n 0, 1) := by decide +kernel
theorem dX3_reckon_280 : decode cX3_reckon 280 = .ok (.getfield 25, 3) := by decide +kernel
theorem dX3_reckon_283 : decode cX3_reckon 283 = .ok (.iload 4, 2) := by decide +kernel
theorem dX3_reckon_285 : decode cX3_reckon 285 = .ok (.iaload, 1) := by decide +kernel
theorem dX3_reckon_286 : decode cX3_reckon 286 = .ok (.ireturn, 1) := by decide +kernel
theorem dX3_operand_0 : decode cX3_operand 0 = .ok (.iload_n 0, 1) := by decide +kernel
theorem dX3_operand_1 : decode cX3_operand 1 = .ok (.bipush 97, 2) := by decide +kernel
theorem dX3_operand_3 : decode cX3_operand 3 = .ok (.if_icmp .ne 17, 3) := by decide +kernel
theorem dX3_operand_6 : decode cX3_operand 6 = .ok (.iload_n 1, 1) := by decide +kernel
theorem dX3_operand_7 : decode cX3_operand 7 = .ok (.ifCond .lt 13, 3) := by decide +kernel
theorem dX3_operand_10 : decode cX3_operand 10 = .ok (.iload_n 1, 1) := by decide +kernel
theorem dX3_operand_11 : decode cX3_operand 11 = .ok (.aload_n 2, 1) := by decide +kernel
theorem dX3_operand_12 : decode cX3_operand 12 = .ok (.arraylength, 1) := by decide +kernel
theorem dX3_operand_13 : decode cX3_operand 13 = .ok (.if_icmp .ge 7, 3) := by decide +kernel
theorem dX3_operand_16 : decode cX3_operand 16 = .ok (.iconst 1, 1) := by decide +kernel
theorem dX3_operand_17 : decode cX3_operand 17 = .ok (.goto 4, 3) := by decide +kernel
theorem dX3_operand_20 : decode cX3_operand 20 = .ok (.iconst 0, 1) := by decide +kernel
theorem dX3_operand_21 : decode cX3_operand 21 = .ok (.istore_n 3, 1) := by decide +kernel
theorem dX3_operand_22 : decode cX3_operand 22 = .ok (.iload_n 3, 1) := by decide +kernel
theorem dX3_operand_23 : decode cX3_operand 23 = .ok (.ifCond .eq 9, 3) := by decide +kernel
theorem dX3_operand_26 : decode cX3_operand 26 = .ok (.aload_n 2, 1) := by decide +kernel
theorem dX3_operand_27 : decode cX3_operand 27 = .ok (.iload_n 1, 1) := by decide +kernel
theorem dX3_operand_28 : decode cX3_operand 28 = .ok (.iaload, 1) := by decide +kernel
theorem dX3_operand_29 : decode cX3_operand 29 = .ok (.goto 4, 3) := by decide +kernel
theorem dX3_operand_32 : decode cX3_operand 32 = .ok (.iload_n 1, 1) := by decide +kernel
theorem dX3_operand_33 : decode cX3_operand 33 = .ok (.ireturn, 1) := by decide +kernel
theorem dX3_joined_0 : decode cX3_joined 0 = .ok (.iload_n 1, 1) := by decide +kernel
theorem dX3_joined_1 : decode cX3_joined 1 = .ok (.lookupswitch 104 #[(42, 67), (43, 59), (45, 63), (60, 71), (61, 93), (62, 82)], 59) := by decide +kernel
theorem dX3_joined_60 : decode cX3_joined 60 = .ok (.iload_n 2, 1) := by decide +kernel
theorem dX3_joined_61 : decode cX3_joined 61 = .ok (.iload_n 3, 1) := by decide +kernel
theorem dX3_joined_62 : decode cX3_joined 62 = .ok (.iadd, 1) := by decide +kernel
theorem dX3_joined_63 : decode cX3_joined 63 = .ok (.ireturn, 1) := by decide +kernel
theorem dX3_joined_64 : decode cX3_joined 64 = .ok (.iload_n 2, 1) := by decide +kernel
theorem dX3_joined_65 : decode cX3_joined 65 = .ok (.iload_n 3, 1) := by decide +kernel
theorem dX3_joined_66 : decode cX3_joined 66 = .ok (.isub, 1) := by decide +kernel
theorem dX3_joined_67 : decode cX3_joined 67 = .ok (.ireturn, 1) := by decide +kernel
theorem dX3_joined_68 : decode cX3_joined 68 = .ok (.iload_n 2, 1) := by decide +kernel
theorem dX3_joined_69 : decode cX3_joined 69 = .ok (.iload_n 3, 1) := by decide +kernel
theorem dX3_joined_70 : decode cX3_joined 70 = .ok (.imul, 1) := by decide +kernel
theorem dX3_joined_71 : decode cX3_joined 71 = .ok (.ireturn, 1) := by decide +kernel
theorem dX3_joined_72 : decode cX3_joined 72 = .ok (.iload_n 2, 1) := by decide +kernel
theorem dX3_joined_73 : decode cX3_joined 73 = .ok (.iload_n 3, 1) := by decide +kernel
theorem dX3_joined_74 : decode cX3_joined 74 = .ok (.if_icmp .ge 7, 3) := by decide +kernel
theorem dX3_joined_77 : decode cX3_joined 77 = .ok (.iconst 1, 1) := by decide +kernel
theorem dX3_joined_78 : decode cX3_joined 78 = .ok (.goto 4, 3) := by decide +kernel
theorem dX3_joined_81 : decode cX3_joined 81 = .ok (.iconst 0, 1) := by decide +kernel
theorem dX3_joined_82 : decode cX3_joined 82 = .ok (.ireturn, 1) := by decide +kernel
theorem dX3_joined_83 : decode cX3_joined 83 = .ok (.iload_n 2, 1) := by decide +kernel
theorem dX3_joined_84 : decode cX3_joined 84 = .ok (.iload_n 3, 1) := by decide +kernel
theorem dX3_joined_85 : decode cX3_joined 85 = .ok (.if_icmp .le 7, 3) := by decide +kernel
theorem dX3_joined_88 : decode cX3_joined 88 = .ok (.iconst 1, 1) := by decide +kernel
theorem dX3_joined_89 : decode cX3_joined 89 = .ok (.goto 4, 3) := by decide +kernel
theorem dX3_joined_92 : decode cX3_joined 92 = .ok (.iconst 0, 1) := by decide +kernel
theorem dX3_joined_93 : decode cX3_joined 93 = .ok (.ireturn, 1) := by decide +kernel
theorem dX3_joined_94 : decode cX3_joined 94 = .ok (.iload_n 2, 1) := by decide +kernel
theorem dX3_joined_95 : decode cX3_joined 95 = .ok (.iload_n 3, 1) := by decide +kernel
theorem dX3_joined_96 : decode cX3_joined 96 = .ok (.if_icmp .ne 7, 3) := by decide +kernel
theorem dX3_joined_99 : decode cX3_joined 99 = .ok (.iconst 1, 1) := by decide +kernel
theorem dX3_joined_100 : decode cX3_joined 100 = .ok (.goto 4, 3) := by decide +kernel
theorem dX3_joined_103 : decode cX3_joined 103 = .ok (.iconst 0, 1) := by decide +kernel
theorem dX3_joined_104 : decode cX3_joined 104 = .ok (.ireturn, 1) := by decide +kernel
theorem dX3_joined_105 : decode cX3_joined 105 = .ok (.iload_n 3, 1) := by decide +kernel
theorem dX3_joined_106 : decode cX3_joined 106 = .ok (.ifCond .ne 10, 3) := by decide +kernel
theorem dX3_joined_109 : decode cX3_joined 109 = .ok (.aload_n 0, 1) := by decide +kernel
theorem dX3_joined_110 : decode cX3_joined 110 = .ok (.iconst 1, 1) := by decide +kernel
theorem dX3_joined_111 : decode cX3_joined 111 = .ok (.putfield 35, 3) := by decide +kernel
theorem dX3_joined_114 : decode cX3_joined 114 = .ok (.iconst 0, 1) := by decide +kernel
theorem dX3_joined_115 : decode cX3_joined 115 = .ok (.ireturn, 1) := by decide +kernel
theorem dX3_joined_116 : decode cX3_joined 116 = .ok (.iload_n 1, 1) := by decide +kernel
theorem dX3_joined_117 : decode cX3_joined 117 = .ok (.bipush 47, 2) := by decide +kernel
theorem dX3_joined_119 : decode cX3_joined 119 = .ok (.if_icmp .ne 9, 3) := by decide +kernel
theorem dX3_joined_122 : decode cX3_joined 122 = .ok (.iload_n 2, 1) := by decide +kernel
theorem dX3_joined_123 : decode cX3_joined 123 = .ok (.iload_n 3, 1) := by decide +kernel
theorem dX3_joined_124 : decode cX3_joined 124 = .ok (.idiv, 1) := by decide +kernel
theorem dX3_joined_125 : decode cX3_joined 125 = .ok (.goto 6, 3) := by decide +kernel
theorem dX3_joined_128 : decode cX3_joined 128 = .ok (.iload_n 2, 1) := by decide +kernel
theorem dX3_joined_129 : decode cX3_joined 129 = .ok (.iload_n 3, 1) := by decide +kernel
theorem dX3_joined_130 : decode cX3_joined 130 = .ok (.irem, 1) := by decide +kernel
theorem dX3_joined_131 : decode cX3_joined 131 = .ok (.ireturn, 1) := by decide +kernel
theorem dX4_init_0 : decode cX4_init 0 = .ok (.aload_n 0, 1) := by decide +kernel
theorem dX4_init_1 : decode cX4_init 1 = .ok (.invokespecial 1, 3) := by decide +kernel
theorem dX4_init_4 : decode cX4_init 4 = .ok (.aload_n 0, 1) := by decide +kernel
theorem dX4_init_5 : decode cX4_init 5 = .ok (.aload_n 1, 1) := by decide +kernel
theorem dX4_init_6 : decode cX4_init 6 = .ok (.putfield 7, 3) := by decide +kernel
theorem dX4_init_9 : decode cX4_init 9 = .ok (.aload_n 0, 1) := by decide +kernel
theorem dX4_init_10 : decode cX4_init 10 = .ok (.new 13, 3) := by decide +kernel
theorem dX4_init_13 : decode cX4_init 13 = .ok (.dup, 1) := by decide +kernel
theorem dX4_init_14 : decode cX4_init 14 = .ok (.invokespecial 15, 3) := by decide +kernel
theorem dX4_init_17 : decode cX4_init 17 = .ok (.putfield 16, 3) := by decide +kernel
theorem dX4_init_20 : decode cX4_init 20 = .ok (.return_, 1) := by decide +kernel
theorem dX4_read_0 : decode cX4_read 0 = .ok (.aload_n 0, 1) := by decide +kernel
theorem dX4_read_1 : decode cX4_read 1 = .ok (.getfield 7, 3) := by decide +kernel
theorem dX4_read_4 : decode cX4_read 4 = .ok (.iload_n 1, 1) := by decide +kernel
theorem dX4_read_5 : decode cX4_read 5 = .ok (.invokevirtual 20, 3) := by decide +kernel
theorem dX4_read_8 : decode cX4_read 8 = .ok (.aload_n 0, 1) := by decide +kernel
theorem dX4_read_9 : decode cX4_read 9 = .ok (.getfield 16, 3) := by decide +kernel
theorem dX4_read_12 : decode cX4_read 12 = .ok (.iconst 0, 1) := by decide +kernel
theorem dX4_read_13 : decode cX4_read 13 = .ok (.putfield 26, 3) := by decide +kernel
theorem dX4_read_16 : decode cX4_read 16 = .ok (.aload_n 0, 1) := by decide +kernel
theorem dX4_read_17 : decode cX4_read 17 = .ok (.getfield 16, 3) := by decide +kernel
theorem dX4_read_20 : decode cX4_read 20 = .ok (.iconst 0, 1) := by decide +kernel
theorem dX4_read_21 : decode cX4_read 21 = .ok (.putfield 30, 3) := by decide +kernel
theorem dX4_read_24 : decode cX4_read 24 = .ok (.iconst 1, 1) := by decide +kernel
theorem dX4_read_25 : decode cX4_read 25 = .ok (.istore_n 2, 1) := by decide +kernel
theorem dX4_read_26 : decode cX4_read 26 = .ok (.iconst 0, 1) := by decide +kernel
theorem dX4_read_27 : decode cX4_read 27 = .ok (.istore_n 3, 1) := by decide +kernel
theorem dX4_read_28 : decode cX4_read 28 = .ok (.iload_n 3, 1) := by decide +kernel
theorem dX4_read_29 : decode cX4_read 29 = .ok (.bipush 16, 2) := by decide +kernel
theorem dX4_read_31 : decode cX4_read 31 = .ok (.if_icmp .gt 28, 3) := by decide +kernel
theorem dX4_read_34 : decode cX4_read 34 = .ok (.iload_n 2, 1) := by decide +kernel
theorem dX4_read_35 : decode cX4_read 35 = .ok (.ifCond .eq 24, 3) := by decide +kernel
theorem dX4_read_38 : decode cX4_read 38 = .ok (.aload_n 0, 1) := by decide +kernel
theorem dX4_read_39 : decode cX4_read 39 = .ok (.iload_n 3, 1) := by decide +kernel
theorem dX4_read_40 : decode cX4_read 40 = .ok (.invokevirtual 33, 3) := by decide +kernel
theorem dX4_read_43 : decode cX4_read 43 = .ok (.aload_n 0, 1) := by decide +kernel
theorem dX4_read_44 : decode cX4_read 44 = .ok (.getfield 7, 3) := by decide +kernel
theorem dX4_read_47 : decode cX4_read 47 = .ok (.bipush 59, 2) := by decide +kernel
theorem dX4_read_49 : decode cX4_read 49 = .ok (.invokevirtual 36, 3) := by decide +kernel
theorem dX4_read_52 : decode cX4_read 52 = .ok (.istore_n 2, 1) := by decide +kernel
theorem dX4_read_53 : decode cX4_read 53 = .ok (.iinc 3 1, 3) := by decide +kernel
theorem dX4_read_56 : decode cX4_read 56 = .ok (.goto (-28), 3) := by decide +kernel
theorem dX4_read_59 : decode cX4_read 59 = .ok (.aload_n 0, 1) := by decide +kernel
theorem dX4_read_60 : decode cX4_read 60 = .ok (.getfield 7, 3) := by decide +kernel
theorem dX4_read_63 : decode cX4_read 63 = .ok (.aload_n 0, 1) := by decide +kernel
theorem dX4_read_64 : decode cX4_read 64 = .ok (.getfield 16, 3) := by decide +kernel
theorem dX4_read_67 : decode cX4_read 67 = .ok (.getfield 26, 3) := by decide +kernel
theorem dX4_read_70 : decode cX4_read 70 = .ok (.invokevirtual 40, 3) := by decide +kernel
theorem dX4_read_73 : decode cX4_read 73 = .ok (.ireturn, 1) := by decide +kernel
theorem dX4_rule_0 : decode cX4_rule 0 = .ok (.aload_n 0, 1) := by decide +kernel
theorem dX4_rule_1 : decode cX4_rule 1 = .ok (.getfield 7, 3) := by decide +kernel
theorem dX4_rule_4 : decode cX4_rule 4 = .ok (.invokevirtual 44, 3) := by decide +kernel
theorem dX4_rule_7 : decode cX4_rule 7 = .ok (.istore_n 2, 1) := by decide +kernel
theorem dX4_rule_8 : decode cX4_rule 8 = .ok (.iload_n 2, 1) := by decide +kernel
theorem dX4_rule_9 : decode cX4_rule 9 = .ok (.bipush 118, 2) := by decide +kernel
theorem dX4_rule_11 : decode cX4_rule 11 = .ok (.if_icmp .eq 31, 3) := by decide +kernel
theorem dX4_rule_14 : decode cX4_rule 14 = .ok (.iload_n 2, 1) := by decide +kernel
theorem dX4_rule_15 : decode cX4_rule 15 = .ok (.bipush 102, 2) := by decide +kernel
theorem dX4_rule_17 : decode cX4_rule 17 = .ok (.if_icmp .eq 25, 3) := by decide +kernel
theorem dX4_rule_20 : decode cX4_rule 20 = .ok (.iload_n 2, 1) := by decide +kernel
theorem dX4_rule_21 : decode cX4_rule 21 = .ok (.bipush 120, 2) := by decide +kernel
theorem dX4_rule_23 : decode cX4_rule 23 = .ok (.if_icmp .eq 19, 3) := by decide +kernel
theorem dX4_rule_26 : decode cX4_rule 26 = .ok (.aload_n 0, 1) := by decide +kernel
theorem dX4_rule_27 : decode cX4_rule 27 = .ok (.getfield 7, 3) := by decide +kernel
theorem dX4_rule_30 : decode cX4_rule 30 = .ok (.iconst 1, 1) := by decide +kernel
theorem dX4_rule_31 : decode cX4_rule 31 = .ok (.aload_n 0, 1) := by decide +kernel
theorem dX4_rule_32 : decode cX4_rule 32 = .ok (.getfield 7, 3) := by decide +kernel
theorem dX4_rule_35 : decode cX4_rule 35 = .ok (.getfield 48, 3) := by decide +kernel
theorem dX4_rule_38 : decode cX4_rule 38 = .ok (.invokevirtual 51, 3) := by decide +kernel
theorem dX4_rule_41 : decode cX4_rule 41 = .ok (.return_, 1) := by decide +kernel
theorem dX4_rule_42 : decode cX4_rule 42 = .ok (.iload_n 1, 1) := by decide +kernel
theorem dX4_rule_43 : decode cX4_rule 43 = .ok (.bipush 16, 2) := by decide +kernel
theorem dX4_rule_45 : decode cX4_rule 45 = .ok (.if_icmp .lt 19, 3) := by decide +kernel
theorem dX4_rule_48 : decode cX4_rule 48 = .ok (.aload_n 0, 1) := by decide +kernel
theorem dX4_rule_49 : decode cX4_rule 49 = .ok (.getfield 7, 3) := by decide +kernel
theorem dX4_rule_52 : decode cX4_rule 52 = .ok (.iconst 4, 1) := by decide +kernel
theorem dX4_rule_53 : decode cX4_rule 53 = .ok (.aload_n 0, 1) := by decide +kernel
theorem dX4_rule_54 : decode cX4_rule 54 = .ok (.getfield 7, 3) := by decide +kernel
theorem dX4_rule_57 : decode cX4_rule 57 = .ok (.getfield 48, 3) := by decide +kernel
theorem dX4_rule_60 : decode cX4_rule 60 = .ok (.invokevirtual 51, 3) := by decide +kernel
theorem dX4_rule_63 : decode cX4_rule 63 = .ok (.return_, 1) := by decide +kernel
theorem dX4_rule_64 : decode cX4_rule 64 = .ok (.aload_n 0, 1) := by decide +kernel
theorem dX4_rule_65 : decode cX4_rule 65 = .ok (.getfield 7, 3) := by decide +kernel
theorem dX4_rule_68 : decode cX4_rule 68 = .ok (.dup, 1) := by decide +kernel
theorem dX4_rule_69 : decode cX4_rule 69 = .ok (.getfield 48, 3) := by decide +kernel
theorem dX4_rule_72 : decode cX4_rule 72 = .ok (.iconst 1, 1) := by decide +kernel
theorem dX4_rule_73 : decode cX4_rule 73 = .ok (.iadd, 1) := by decide +kernel
theorem dX4_rule_74 : decode cX4_rule 74 = .ok (.putfield 48, 3) := by decide +kernel
theorem dX4_rule_77 : decode cX4_rule 77 = .ok (.aload_n 0, 1) := by decide +kernel
theorem dX4_rule_78 : decode cX4_rule 78 = .ok (.getfield 16, 3) := by decide +kernel
theorem dX4_rule_81 : decode cX4_rule 81 = .ok (.getfield 55, 3) := by decide +kernel
theorem dX4_rule_84 : decode cX4_rule 84 = .ok (.iload_n 1, 1) := by decide +kernel
theorem dX4_rule_85 : decode cX4_rule 85 = .ok (.iload_n 2, 1) := by decide +kernel
theorem dX4_rule_86 : decode cX4_rule 86 = .ok (.iastore, 1) := by decide +kernel
theorem dX4_rule_87 : decode cX4_rule 87 = .ok (.aload_n 0, 1) := by decide +kernel
theorem dX4_rule_88 : decode cX4_rule 88 = .ok (.getfield 16, 3) := by decide +kernel
theorem dX4_rule_91 : decode cX4_rule 91 = .ok (.getfield 59, 3) := by decide +kernel
theorem dX4_rule_94 : decode cX4_rule 94 = .ok (.iload_n 1, 1) := by decide +kernel
theorem dX4_rule_95 : decode cX4_rule 95 = .ok (.aload_n 0, 1) := by decide +kernel
theorem dX4_rule_96 : decode cX4_rule 96 = .ok (.getfield 16, 3) := by decide +kernel
theorem dX4_rule_99 : decode cX4_rule 99 = .ok (.getfield 30, 3) := by decide +kernel
theorem dX4_rule_102 : decode cX4_rule 102 = .ok (.iastore, 1) := by decide +kernel
theorem dX4_rule_103 : decode cX4_rule 103 = .ok (.iload_n 2, 1) := by decide +kernel
theorem dX4_rule_104 : decode cX4_rule 104 = .ok (.bipush 120, 2) := by decide +kernel
theorem dX4_rule_106 : decode cX4_rule 106 = .ok (.if_icmp .eq 8, 3) := by decide +kernel
theorem dX4_rule_109 : decode cX4_rule 109 = .ok (.aload_n 0, 1) := by decide +kernel
theorem dX4_rule_110 : decode cX4_rule 110 = .ok (.iconst 0, 1) := by decide +kernel
theorem dX4_rule_111 : decode cX4_rule 111 = .ok (.invokevirtual 62, 3) := by decide +kernel
theorem dX4_rule_114 : decode cX4_rule 114 = .ok (.aload_n 0, 1) := by decide +kernel
theorem dX4_rule_115 : decode cX4_rule 115 = .ok (.getfield 16, 3) := by decide +kernel
theorem dX4_rule_118 : decode cX4_rule 118 = .ok (.getfield 65, 3) := by decide +kernel
theorem dX4_rule_121 : decode cX4_rule 121 = .ok (.iload_n 1, 1) := by decide +kernel
theorem dX4_rule_122 : decode cX4_rule 122 = .ok (.aload_n 0, 1) := by decide +kernel
theorem dX4_rule_123 : decode cX4_rule 123 = .ok (.getfield 16, 3) := by decide +kernel
theorem dX4_rule_126 : decode cX4_rule 126 = .ok (.getfield 30, 3) := by decide +kernel
theorem dX4_rule_129 : decode cX4_rule 129 = .ok (.iastore, 1) := by decide +kernel
theorem dX4_rule_130 : decode cX4_rule 130 = .ok (.aload_n 0, 1) := by decide +kernel
theorem dX4_rule_131 : decode cX4_rule 131 = .ok (.getfield 7, 3) := by decide +kernel
theorem dX4_rule_134 : decode cX4_rule 134 = .ok (.bipush 40, 2) := by decide +kernel
theorem dX4_rule_136 : decode cX4_rule 136 = .ok (.invokevirtual 68, 3) := by decide +kernel
theorem dX4_rule_139 : decode cX4_rule 139 = .ok (.aload_n 0, 1) := by decide +kernel
theorem dX4_rule_140 : decode cX4_rule 140 = .ok (.iconst 1, 1) := by decide +kernel
theorem dX4_rule_141 : decode cX4_rule 141 = .ok (.invokevirtual 72, 3) := by decide +kernel
theorem dX4_rule_144 : decode cX4_rule 144 = .ok (.aload_n 0, 1) := by decide +kernel
theorem dX4_rule_145 : decode cX4_rule 145 = .ok (.getfield 7, 3) := by decide +kernel
theorem dX4_rule_148 : decode cX4_rule 148 = .ok (.bipush 41, 2) := by decide +kernel
theorem dX4_rule_150 : decode cX4_rule 150 = .ok (.invokevirtual 68, 3) := by decide +kernel
theorem dX4_rule_153 : decode cX4_rule 153 = .ok (.aload_n 0, 1) := by decide +kernel
theorem dX4_rule_154 : decode cX4_rule 154 = .ok (.getfield 16, 3) := by decide +kernel
theorem dX4_rule_157 : decode cX4_rule 157 = .ok (.getfield 75, 3) := by decide +kernel
theorem dX4_rule_160 : decode cX4_rule 160 = .ok (.iload_n 1, 1) := by decide +kernel
theorem dX4_rule_161 : decode cX4_rule 161 = .ok (.aload_n 0, 1) := by decide +kernel
theorem dX4_rule_162 : decode cX4_rule 162 = .ok (.getfield 16, 3) := by decide +kernel
theorem dX4_rule_165 : decode cX4_rule 165 = .ok (.getfield 30, 3) := by decide +kernel
theorem dX4_rule_168 : decode cX4_rule 168 = .ok (.iastore, 1) := by decide +kernel
theorem dX4_rule_169 : decode cX4_rule 169 = .ok (.aload_n 0, 1) := by decide +kernel
theorem dX4_rule_170 : decode cX4_rule 170 = .ok (.getfield 16, 3) := by decide +kernel
theorem dX4_rule_173 : decode cX4_rule 173 = .ok (.iload_n 1, 1) := by decide +kernel
theorem dX4_rule_174 : decode cX4_rule 174 = .ok (.iconst 1, 1) := by decide +kernel
theorem dX4_rule_175 : decode cX4_rule 175 = .ok (.iadd, 1) := by decide +kernel
theorem dX4_rule_176 : decode cX4_rule 176 = .ok (.putfield 26, 3) := by decide +kernel
theorem dX4_rule_179 : decode cX4_rule 179 = .ok (.return_, 1) := by decide +kernel
theorem dX4_mayOpen_0 : decode cX4_mayOpen 0 = .ok (.iload_n 1, 1) := by decide +kernel
