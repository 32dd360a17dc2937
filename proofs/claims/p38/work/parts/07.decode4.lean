theorem dL_at_0 : decode cL_at 0 = .ok (.iload_n 1, 1) := by decide +kernel
theorem dL_at_1 : decode cL_at 1 = .ok (.aload_n 0, 1) := by decide +kernel
theorem dL_at_2 : decode cL_at 2 = .ok (.arraylength, 1) := by decide +kernel
theorem dL_at_3 : decode cL_at 3 = .ok (.if_icmp .ge 9, 3) := by decide +kernel
theorem dL_at_6 : decode cL_at 6 = .ok (.aload_n 0, 1) := by decide +kernel
theorem dL_at_7 : decode cL_at 7 = .ok (.iload_n 1, 1) := by decide +kernel
theorem dL_at_8 : decode cL_at 8 = .ok (.iaload, 1) := by decide +kernel
theorem dL_at_9 : decode cL_at 9 = .ok (.goto 4, 3) := by decide +kernel
theorem dL_at_12 : decode cL_at 12 = .ok (.iconst 0, 1) := by decide +kernel
theorem dL_at_13 : decode cL_at 13 = .ok (.ireturn, 1) := by decide +kernel
theorem dL_put_0 : decode cL_put 0 = .ok (.iconst 0, 1) := by decide +kernel
theorem dL_put_1 : decode cL_put 1 = .ok (.istore_n 2, 1) := by decide +kernel
theorem dL_put_2 : decode cL_put 2 = .ok (.iload_n 2, 1) := by decide +kernel
theorem dL_put_3 : decode cL_put 3 = .ok (.aload_n 1, 1) := by decide +kernel
theorem dL_put_4 : decode cL_put 4 = .ok (.invokevirtual 7, 3) := by decide +kernel
theorem dL_put_7 : decode cL_put 7 = .ok (.if_icmp .ge 19, 3) := by decide +kernel
theorem dL_put_10 : decode cL_put 10 = .ok (.aload_n 0, 1) := by decide +kernel
theorem dL_put_11 : decode cL_put 11 = .ok (.aload_n 1, 1) := by decide +kernel
theorem dL_put_12 : decode cL_put 12 = .ok (.iload_n 2, 1) := by decide +kernel
theorem dL_put_13 : decode cL_put 13 = .ok (.invokevirtual 13, 3) := by decide +kernel
theorem dL_put_16 : decode cL_put 16 = .ok (.invokevirtual 17, 3) := by decide +kernel
theorem dL_put_19 : decode cL_put 19 = .ok (.pop, 1) := by decide +kernel
theorem dL_put_20 : decode cL_put 20 = .ok (.iinc 2 1, 3) := by decide +kernel
theorem dL_put_23 : decode cL_put 23 = .ok (.goto (-21), 3) := by decide +kernel
theorem dL_put_26 : decode cL_put 26 = .ok (.return_, 1) := by decide +kernel
theorem dL_build_0 : decode cL_build 0 = .ok (.new 18, 3) := by decide +kernel
theorem dL_build_3 : decode cL_build 3 = .ok (.dup, 1) := by decide +kernel
theorem dL_build_4 : decode cL_build 4 = .ok (.invokespecial 23, 3) := by decide +kernel
theorem dL_build_7 : decode cL_build 7 = .ok (.astore_n 1, 1) := by decide +kernel
theorem dL_build_8 : decode cL_build 8 = .ok (.aload_n 0, 1) := by decide +kernel
theorem dL_build_9 : decode cL_build 9 = .ok (.iconst 0, 1) := by decide +kernel
theorem dL_build_10 : decode cL_build 10 = .ok (.invokestatic 24, 3) := by decide +kernel
theorem dL_build_13 : decode cL_build 13 = .ok (.istore_n 2, 1) := by decide +kernel
theorem dL_build_14 : decode cL_build 14 = .ok (.iconst 0, 1) := by decide +kernel
theorem dL_build_15 : decode cL_build 15 = .ok (.istore_n 3, 1) := by decide +kernel
theorem dL_build_16 : decode cL_build 16 = .ok (.iload_n 3, 1) := by decide +kernel
theorem dL_build_17 : decode cL_build 17 = .ok (.bipush 6, 2) := by decide +kernel
theorem dL_build_19 : decode cL_build 19 = .ok (.if_icmp .ge 46, 3) := by decide +kernel
theorem dL_build_22 : decode cL_build 22 = .ok (.aload_n 1, 1) := by decide +kernel
theorem dL_build_23 : decode cL_build 23 = .ok (.aload_n 0, 1) := by decide +kernel
theorem dL_build_24 : decode cL_build 24 = .ok (.iconst 1, 1) := by decide +kernel
theorem dL_build_25 : decode cL_build 25 = .ok (.invokestatic 24, 3) := by decide +kernel
theorem dL_build_28 : decode cL_build 28 = .ok (.iconst 5, 1) := by decide +kernel
theorem dL_build_29 : decode cL_build 29 = .ok (.iload_n 3, 1) := by decide +kernel
theorem dL_build_30 : decode cL_build 30 = .ok (.imul, 1) := by decide +kernel
theorem dL_build_31 : decode cL_build 31 = .ok (.ishr, 1) := by decide +kernel
theorem dL_build_32 : decode cL_build 32 = .ok (.bipush 31, 2) := by decide +kernel
theorem dL_build_34 : decode cL_build 34 = .ok (.iand, 1) := by decide +kernel
theorem dL_build_35 : decode cL_build 35 = .ok (.bipush 24, 2) := by decide +kernel
theorem dL_build_37 : decode cL_build 37 = .ok (.irem, 1) := by decide +kernel
theorem dL_build_38 : decode cL_build 38 = .ok (.bipush 30, 2) := by decide +kernel
theorem dL_build_40 : decode cL_build 40 = .ok (.aload_n 0, 1) := by decide +kernel
theorem dL_build_41 : decode cL_build 41 = .ok (.iconst 2, 1) := by decide +kernel
theorem dL_build_42 : decode cL_build 42 = .ok (.invokestatic 24, 3) := by decide +kernel
theorem dL_build_45 : decode cL_build 45 = .ok (.iconst 5, 1) := by decide +kernel
theorem dL_build_46 : decode cL_build 46 = .ok (.iload_n 3, 1) := by decide +kernel
theorem dL_build_47 : decode cL_build 47 = .ok (.imul, 1) := by decide +kernel
theorem dL_build_48 : decode cL_build 48 = .ok (.ishr, 1) := by decide +kernel
theorem dL_build_49 : decode cL_build 49 = .ok (.bipush 31, 2) := by decide +kernel
theorem dL_build_51 : decode cL_build 51 = .ok (.iand, 1) := by decide +kernel
theorem dL_build_52 : decode cL_build 52 = .ok (.iconst 2, 1) := by decide +kernel
theorem dL_build_53 : decode cL_build 53 = .ok (.imul, 1) := by decide +kernel
theorem dL_build_54 : decode cL_build 54 = .ok (.iadd, 1) := by decide +kernel
theorem dL_build_55 : decode cL_build 55 = .ok (.invokevirtual 30, 3) := by decide +kernel
theorem dL_build_58 : decode cL_build 58 = .ok (.pop, 1) := by decide +kernel
theorem dL_build_59 : decode cL_build 59 = .ok (.iinc 3 1, 3) := by decide +kernel
theorem dL_build_62 : decode cL_build 62 = .ok (.goto (-46), 3) := by decide +kernel
theorem dL_build_65 : decode cL_build 65 = .ok (.aload_n 1, 1) := by decide +kernel
theorem dL_build_66 : decode cL_build 66 = .ok (.iconst 3, 1) := by decide +kernel
theorem dL_build_67 : decode cL_build 67 = .ok (.iload_n 2, 1) := by decide +kernel
theorem dL_build_68 : decode cL_build 68 = .ok (.iconst 3, 1) := by decide +kernel
theorem dL_build_69 : decode cL_build 69 = .ok (.iand, 1) := by decide +kernel
theorem dL_build_70 : decode cL_build 70 = .ok (.iadd, 1) := by decide +kernel
theorem dL_build_71 : decode cL_build 71 = .ok (.invokevirtual 34, 3) := by decide +kernel
theorem dL_build_74 : decode cL_build 74 = .ok (.pop, 1) := by decide +kernel
theorem dL_build_75 : decode cL_build 75 = .ok (.aload_n 1, 1) := by decide +kernel
theorem dL_build_76 : decode cL_build 76 = .ok (.bipush 8, 2) := by decide +kernel
theorem dL_build_78 : decode cL_build 78 = .ok (.iload_n 2, 1) := by decide +kernel
theorem dL_build_79 : decode cL_build 79 = .ok (.iconst 2, 1) := by decide +kernel
theorem dL_build_80 : decode cL_build 80 = .ok (.ishr, 1) := by decide +kernel
theorem dL_build_81 : decode cL_build 81 = .ok (.iconst 1, 1) := by decide +kernel
theorem dL_build_82 : decode cL_build 82 = .ok (.iand, 1) := by decide +kernel
theorem dL_build_83 : decode cL_build 83 = .ok (.iadd, 1) := by decide +kernel
theorem dL_build_84 : decode cL_build 84 = .ok (.invokevirtual 34, 3) := by decide +kernel
theorem dL_build_87 : decode cL_build 87 = .ok (.pop, 1) := by decide +kernel
theorem dL_build_88 : decode cL_build 88 = .ok (.iconst 0, 1) := by decide +kernel
theorem dL_build_89 : decode cL_build 89 = .ok (.istore_n 3, 1) := by decide +kernel
theorem dL_build_90 : decode cL_build 90 = .ok (.iload_n 3, 1) := by decide +kernel
theorem dL_build_91 : decode cL_build 91 = .ok (.iconst 3, 1) := by decide +kernel
theorem dL_build_92 : decode cL_build 92 = .ok (.if_icmp .ge 14, 3) := by decide +kernel
theorem dL_build_95 : decode cL_build 95 = .ok (.aload_n 1, 1) := by decide +kernel
theorem dL_build_96 : decode cL_build 96 = .ok (.invokevirtual 38, 3) := by decide +kernel
theorem dL_build_99 : decode cL_build 99 = .ok (.pop, 1) := by decide +kernel
theorem dL_build_100 : decode cL_build 100 = .ok (.iinc 3 1, 3) := by decide +kernel
theorem dL_build_103 : decode cL_build 103 = .ok (.goto (-13), 3) := by decide +kernel
theorem dL_build_106 : decode cL_build 106 = .ok (.aload_n 1, 1) := by decide +kernel
theorem dL_build_107 : decode cL_build 107 = .ok (.iconst 0, 1) := by decide +kernel
theorem dL_build_108 : decode cL_build 108 = .ok (.bipush 20, 2) := by decide +kernel
theorem dL_build_110 : decode cL_build 110 = .ok (.iload_n 2, 1) := by decide +kernel
theorem dL_build_111 : decode cL_build 111 = .ok (.iconst 3, 1) := by decide +kernel
theorem dL_build_112 : decode cL_build 112 = .ok (.ishr, 1) := by decide +kernel
theorem dL_build_113 : decode cL_build 113 = .ok (.bipush 15, 2) := by decide +kernel
theorem dL_build_115 : decode cL_build 115 = .ok (.iand, 1) := by decide +kernel
theorem dL_build_116 : decode cL_build 116 = .ok (.iadd, 1) := by decide +kernel
theorem dL_build_117 : decode cL_build 117 = .ok (.invokevirtual 41, 3) := by decide +kernel
theorem dL_build_120 : decode cL_build 120 = .ok (.pop, 1) := by decide +kernel
theorem dL_build_121 : decode cL_build 121 = .ok (.aload_n 1, 1) := by decide +kernel
theorem dL_build_122 : decode cL_build 122 = .ok (.iconst 1, 1) := by decide +kernel
theorem dL_build_123 : decode cL_build 123 = .ok (.bipush 10, 2) := by decide +kernel
theorem dL_build_125 : decode cL_build 125 = .ok (.invokevirtual 41, 3) := by decide +kernel
theorem dL_build_128 : decode cL_build 128 = .ok (.pop, 1) := by decide +kernel
theorem dL_build_129 : decode cL_build 129 = .ok (.aload_n 1, 1) := by decide +kernel
theorem dL_build_130 : decode cL_build 130 = .ok (.iconst 2, 1) := by decide +kernel
theorem dL_build_131 : decode cL_build 131 = .ok (.bipush 8, 2) := by decide +kernel
theorem dL_build_133 : decode cL_build 133 = .ok (.iload_n 2, 1) := by decide +kernel
theorem dL_build_134 : decode cL_build 134 = .ok (.bipush 7, 2) := by decide +kernel
theorem dL_build_136 : decode cL_build 136 = .ok (.ishr, 1) := by decide +kernel
theorem dL_build_137 : decode cL_build 137 = .ok (.iconst 3, 1) := by decide +kernel
theorem dL_build_138 : decode cL_build 138 = .ok (.iand, 1) := by decide +kernel
theorem dL_build_139 : decode cL_build 139 = .ok (.iadd, 1) := by decide +kernel
theorem dL_build_140 : decode cL_build 140 = .ok (.invokevirtual 41, 3) := by decide +kernel
theorem dL_build_143 : decode cL_build 143 = .ok (.pop, 1) := by decide +kernel
theorem dL_build_144 : decode cL_build 144 = .ok (.iconst 3, 1) := by decide +kernel
theorem dL_build_145 : decode cL_build 145 = .ok (.istore_n 3, 1) := by decide +kernel
theorem dL_build_146 : decode cL_build 146 = .ok (.iload_n 3, 1) := by decide +kernel
theorem dL_build_147 : decode cL_build 147 = .ok (.bipush 13, 2) := by decide +kernel
theorem dL_build_149 : decode cL_build 149 = .ok (.if_icmp .ge 222, 3) := by decide +kernel
theorem dL_build_152 : decode cL_build 152 = .ok (.aload_n 0, 1) := by decide +kernel
theorem dL_build_153 : decode cL_build 153 = .ok (.iload_n 3, 1) := by decide +kernel
theorem dL_build_154 : decode cL_build 154 = .ok (.invokestatic 24, 3) := by decide +kernel
theorem dL_build_157 : decode cL_build 157 = .ok (.istore 4, 2) := by decide +kernel
theorem dL_build_159 : decode cL_build 159 = .ok (.iconst 0, 1) := by decide +kernel
theorem dL_build_160 : decode cL_build 160 = .ok (.istore 5, 2) := by decide +kernel
theorem dL_build_162 : decode cL_build 162 = .ok (.iload 5, 2) := by decide +kernel
theorem dL_build_164 : decode cL_build 164 = .ok (.iconst 2, 1) := by decide +kernel
theorem dL_build_165 : decode cL_build 165 = .ok (.if_icmp .ge 115, 3) := by decide +kernel
theorem dL_build_168 : decode cL_build 168 = .ok (.iload 4, 2) := by decide +kernel
theorem dL_build_170 : decode cL_build 170 = .ok (.bipush 13, 2) := by decide +kernel
theorem dL_build_172 : decode cL_build 172 = .ok (.iload 5, 2) := by decide +kernel
theorem dL_build_174 : decode cL_build 174 = .ok (.imul, 1) := by decide +kernel
theorem dL_build_175 : decode cL_build 175 = .ok (.ishr, 1) := by decide +kernel
theorem dL_build_176 : decode cL_build 176 = .ok (.istore 6, 2) := by decide +kernel
theorem dL_build_178 : decode cL_build 178 = .ok (.aload_n 1, 1) := by decide +kernel
theorem dL_build_179 : decode cL_build 179 = .ok (.iconst 0, 1) := by decide +kernel
theorem dL_build_180 : decode cL_build 180 = .ok (.iload 6, 2) := by decide +kernel
theorem dL_build_182 : decode cL_build 182 = .ok (.iconst 3, 1) := by decide +kernel
theorem dL_build_183 : decode cL_build 183 = .ok (.iand, 1) := by decide +kernel
theorem dL_build_184 : decode cL_build 184 = .ok (.iconst 3, 1) := by decide +kernel
theorem dL_build_185 : decode cL_build 185 = .ok (.irem, 1) := by decide +kernel
theorem dL_build_186 : decode cL_build 186 = .ok (.iload 6, 2) := by decide +kernel
theorem dL_build_188 : decode cL_build 188 = .ok (.iconst 2, 1) := by decide +kernel
theorem dL_build_189 : decode cL_build 189 = .ok (.ishr, 1) := by decide +kernel
theorem dL_build_190 : decode cL_build 190 = .ok (.iconst 1, 1) := by decide +kernel
theorem dL_build_191 : decode cL_build 191 = .ok (.iand, 1) := by decide +kernel
theorem dL_build_192 : decode cL_build 192 = .ok (.iload 6, 2) := by decide +kernel
theorem dL_build_194 : decode cL_build 194 = .ok (.iconst 3, 1) := by decide +kernel
theorem dL_build_195 : decode cL_build 195 = .ok (.ishr, 1) := by decide +kernel
theorem dL_build_196 : decode cL_build 196 = .ok (.iconst 3, 1) := by decide +kernel
theorem dL_build_197 : decode cL_build 197 = .ok (.iand, 1) := by decide +kernel
theorem dL_build_198 : decode cL_build 198 = .ok (.iconst 3, 1) := by decide +kernel
theorem dL_build_199 : decode cL_build 199 = .ok (.irem, 1) := by decide +kernel
theorem dL_build_200 : decode cL_build 200 = .ok (.iconst 1, 1) := by decide +kernel
theorem dL_build_201 : decode cL_build 201 = .ok (.iload 6, 2) := by decide +kernel
theorem dL_build_203 : decode cL_build 203 = .ok (.iconst 5, 1) := by decide +kernel
theorem dL_build_204 : decode cL_build 204 = .ok (.ishr, 1) := by decide +kernel
theorem dL_build_205 : decode cL_build 205 = .ok (.bipush 15, 2) := by decide +kernel
theorem dL_build_207 : decode cL_build 207 = .ok (.iand, 1) := by decide +kernel
theorem dL_build_208 : decode cL_build 208 = .ok (.iadd, 1) := by decide +kernel
theorem dL_build_209 : decode cL_build 209 = .ok (.invokestatic 44, 3) := by decide +kernel
theorem dL_build_212 : decode cL_build 212 = .ok (.pop, 1) := by decide +kernel
theorem dL_build_213 : decode cL_build 213 = .ok (.iload 6, 2) := by decide +kernel
theorem dL_build_215 : decode cL_build 215 = .ok (.bipush 9, 2) := by decide +kernel
theorem dL_build_217 : decode cL_build 217 = .ok (.ishr, 1) := by decide +kernel
theorem dL_build_218 : decode cL_build 218 = .ok (.bipush 7, 2) := by decide +kernel
theorem dL_build_220 : decode cL_build 220 = .ok (.iand, 1) := by decide +kernel
theorem dL_build_221 : decode cL_build 221 = .ok (.ifCond .ne 18, 3) := by decide +kernel
theorem dL_build_224 : decode cL_build 224 = .ok (.aload_n 1, 1) := by decide +kernel
theorem dL_build_225 : decode cL_build 225 = .ok (.iconst 1, 1) := by decide +kernel
theorem dL_build_226 : decode cL_build 226 = .ok (.iload 6, 2) := by decide +kernel
theorem dL_build_228 : decode cL_build 228 = .ok (.iconst 3, 1) := by decide +kernel
theorem dL_build_229 : decode cL_build 229 = .ok (.iand, 1) := by decide +kernel
theorem dL_build_230 : decode cL_build 230 = .ok (.iconst 3, 1) := by decide +kernel
theorem dL_build_231 : decode cL_build 231 = .ok (.irem, 1) := by decide +kernel
theorem dL_build_232 : decode cL_build 232 = .ok (.iconst 0, 1) := by decide +kernel
theorem dL_build_233 : decode cL_build 233 = .ok (.iconst 0, 1) := by decide +kernel
theorem dL_build_234 : decode cL_build 234 = .ok (.iconst 0, 1) := by decide +kernel
theorem dL_build_235 : decode cL_build 235 = .ok (.invokestatic 44, 3) := by decide +kernel
theorem dL_build_238 : decode cL_build 238 = .ok (.pop, 1) := by decide +kernel
theorem dL_build_239 : decode cL_build 239 = .ok (.iload 6, 2) := by decide +kernel
theorem dL_build_241 : decode cL_build 241 = .ok (.bipush 9, 2) := by decide +kernel
theorem dL_build_243 : decode cL_build 243 = .ok (.ishr, 1) := by decide +kernel
theorem dL_build_244 : decode cL_build 244 = .ok (.bipush 7, 2) := by decide +kernel
theorem dL_build_246 : decode cL_build 246 = .ok (.iand, 1) := by decide +kernel
theorem dL_build_247 : decode cL_build 247 = .ok (.iconst 1, 1) := by decide +kernel
theorem dL_build_248 : decode cL_build 248 = .ok (.if_icmp .ne 26, 3) := by decide +kernel
theorem dL_build_251 : decode cL_build 251 = .ok (.aload_n 1, 1) := by decide +kernel
theorem dL_build_252 : decode cL_build 252 = .ok (.iconst 2, 1) := by decide +kernel
theorem dL_build_253 : decode cL_build 253 = .ok (.iload 6, 2) := by decide +kernel
theorem dL_build_255 : decode cL_build 255 = .ok (.iconst 3, 1) := by decide +kernel
theorem dL_build_256 : decode cL_build 256 = .ok (.iand, 1) := by decide +kernel
theorem dL_build_257 : decode cL_build 257 = .ok (.iconst 3, 1) := by decide +kernel
theorem dL_build_258 : decode cL_build 258 = .ok (.irem, 1) := by decide +kernel
theorem dL_build_259 : decode cL_build 259 = .ok (.iconst 1, 1) := by decide +kernel
theorem dL_build_260 : decode cL_build 260 = .ok (.iload 6, 2) := by decide +kernel
theorem dL_build_262 : decode cL_build 262 = .ok (.iconst 5, 1) := by decide +kernel
theorem dL_build_263 : decode cL_build 263 = .ok (.ishr, 1) := by decide +kernel
theorem dL_build_264 : decode cL_build 264 = .ok (.bipush 7, 2) := by decide +kernel
theorem dL_build_266 : decode cL_build 266 = .ok (.iand, 1) := by decide +kernel
theorem dL_build_267 : decode cL_build 267 = .ok (.iadd, 1) := by decide +kernel
theorem dL_build_268 : decode cL_build 268 = .ok (.iconst 0, 1) := by decide +kernel
theorem dL_build_269 : decode cL_build 269 = .ok (.iconst 0, 1) := by decide +kernel
theorem dL_build_270 : decode cL_build 270 = .ok (.invokestatic 44, 3) := by decide +kernel
theorem dL_build_273 : decode cL_build 273 = .ok (.pop, 1) := by decide +kernel
theorem dL_build_274 : decode cL_build 274 = .ok (.iinc 5 1, 3) := by decide +kernel
theorem dL_build_277 : decode cL_build 277 = .ok (.goto (-115), 3) := by decide +kernel
theorem dL_build_280 : decode cL_build 280 = .ok (.iload 4, 2) := by decide +kernel
theorem dL_build_282 : decode cL_build 282 = .ok (.bipush 26, 2) := by decide +kernel
theorem dL_build_284 : decode cL_build 284 = .ok (.ishr, 1) := by decide +kernel
theorem dL_build_285 : decode cL_build 285 = .ok (.iconst 1, 1) := by decide +kernel
theorem dL_build_286 : decode cL_build 286 = .ok (.iand, 1) := by decide +kernel
theorem dL_build_287 : decode cL_build 287 = .ok (.iconst 1, 1) := by decide +kernel
theorem dL_build_288 : decode cL_build 288 = .ok (.if_icmp .ne 62, 3) := by decide +kernel
theorem dL_build_291 : decode cL_build 291 = .ok (.aload_n 1, 1) := by decide +kernel
theorem dL_build_292 : decode cL_build 292 = .ok (.iconst 3, 1) := by decide +kernel
theorem dL_build_293 : decode cL_build 293 = .ok (.aload_n 1, 1) := by decide +kernel
theorem dL_build_294 : decode cL_build 294 = .ok (.iconst 0, 1) := by decide +kernel
theorem dL_build_295 : decode cL_build 295 = .ok (.invokevirtual 48, 3) := by decide +kernel
theorem dL_build_298 : decode cL_build 298 = .ok (.iconst 1, 1) := by decide +kernel
theorem dL_build_299 : decode cL_build 299 = .ok (.iadd, 1) := by decide +kernel
theorem dL_build_300 : decode cL_build 300 = .ok (.iload 4, 2) := by decide +kernel
theorem dL_build_302 : decode cL_build 302 = .ok (.bipush 7, 2) := by decide +kernel
theorem dL_build_304 : decode cL_build 304 = .ok (.iand, 1) := by decide +kernel
theorem dL_build_305 : decode cL_build 305 = .ok (.iadd, 1) := by decide +kernel
theorem dL_build_306 : decode cL_build 306 = .ok (.iconst 1, 1) := by decide +kernel
theorem dL_build_307 : decode cL_build 307 = .ok (.iload 4, 2) := by decide +kernel
theorem dL_build_309 : decode cL_build 309 = .ok (.iconst 3, 1) := by decide +kernel
theorem dL_build_310 : decode cL_build 310 = .ok (.ishr, 1) := by decide +kernel
theorem dL_build_311 : decode cL_build 311 = .ok (.iconst 3, 1) := by decide +kernel
theorem dL_build_312 : decode cL_build 312 = .ok (.iand, 1) := by decide +kernel
theorem dL_build_313 : decode cL_build 313 = .ok (.iadd, 1) := by decide +kernel
theorem dL_build_314 : decode cL_build 314 = .ok (.iconst 1, 1) := by decide +kernel
theorem dL_build_315 : decode cL_build 315 = .ok (.iload 4, 2) := by decide +kernel
theorem dL_build_317 : decode cL_build 317 = .ok (.iconst 5, 1) := by decide +kernel
theorem dL_build_318 : decode cL_build 318 = .ok (.ishr, 1) := by decide +kernel
theorem dL_build_319 : decode cL_build 319 = .ok (.bipush 31, 2) := by decide +kernel
theorem dL_build_321 : decode cL_build 321 = .ok (.iand, 1) := by decide +kernel
theorem dL_build_322 : decode cL_build 322 = .ok (.iadd, 1) := by decide +kernel
theorem dL_build_323 : decode cL_build 323 = .ok (.iconst 0, 1) := by decide +kernel
theorem dL_build_324 : decode cL_build 324 = .ok (.invokestatic 44, 3) := by decide +kernel
theorem dL_build_327 : decode cL_build 327 = .ok (.istore 5, 2) := by decide +kernel
theorem dL_build_329 : decode cL_build 329 = .ok (.iload 5, 2) := by decide +kernel
theorem dL_build_331 : decode cL_build 331 = .ok (.ifCond .lt 19, 3) := by decide +kernel
theorem dL_build_334 : decode cL_build 334 = .ok (.aload_n 1, 1) := by decide +kernel
theorem dL_build_335 : decode cL_build 335 = .ok (.iload 5, 2) := by decide +kernel
theorem dL_build_337 : decode cL_build 337 = .ok (.iload 4, 2) := by decide +kernel
theorem dL_build_339 : decode cL_build 339 = .ok (.bipush 10, 2) := by decide +kernel
theorem dL_build_341 : decode cL_build 341 = .ok (.ishr, 1) := by decide +kernel
theorem dL_build_342 : decode cL_build 342 = .ok (.iconst 3, 1) := by decide +kernel
theorem dL_build_343 : decode cL_build 343 = .ok (.iand, 1) := by decide +kernel
theorem dL_build_344 : decode cL_build 344 = .ok (.iconst 3, 1) := by decide +kernel
theorem dL_build_345 : decode cL_build 345 = .ok (.irem, 1) := by decide +kernel
theorem dL_build_346 : decode cL_build 346 = .ok (.invokevirtual 51, 3) := by decide +kernel
theorem dL_build_349 : decode cL_build 349 = .ok (.pop, 1) := by decide +kernel
theorem dL_build_350 : decode cL_build 350 = .ok (.aload_n 1, 1) := by decide +kernel
theorem dL_build_351 : decode cL_build 351 = .ok (.iconst 1, 1) := by decide +kernel
theorem dL_build_352 : decode cL_build 352 = .ok (.iload 4, 2) := by decide +kernel
theorem dL_build_354 : decode cL_build 354 = .ok (.bipush 27, 2) := by decide +kernel
theorem dL_build_356 : decode cL_build 356 = .ok (.ishr, 1) := by decide +kernel
theorem dL_build_357 : decode cL_build 357 = .ok (.bipush 7, 2) := by decide +kernel
theorem dL_build_359 : decode cL_build 359 = .ok (.iand, 1) := by decide +kernel
theorem dL_build_360 : decode cL_build 360 = .ok (.iadd, 1) := by decide +kernel
theorem dL_build_361 : decode cL_build 361 = .ok (.invokevirtual 54, 3) := by decide +kernel
theorem dL_build_364 : decode cL_build 364 = .ok (.pop, 1) := by decide +kernel
theorem dL_build_365 : decode cL_build 365 = .ok (.iinc 3 1, 3) := by decide +kernel
theorem dL_build_368 : decode cL_build 368 = .ok (.goto (-222), 3) := by decide +kernel
theorem dL_build_371 : decode cL_build 371 = .ok (.aload_n 1, 1) := by decide +kernel
theorem dL_build_372 : decode cL_build 372 = .ok (.areturn, 1) := by decide +kernel
theorem dL_act_0 : decode cL_act 0 = .ok (.iload_n 1, 1) := by decide +kernel
theorem dL_act_1 : decode cL_act 1 = .ok (.tableswitch 51 0 2 #[27, 38, 44], 27) := by decide +kernel
theorem dL_act_28 : decode cL_act 28 = .ok (.aload_n 0, 1) := by decide +kernel
theorem dL_act_29 : decode cL_act 29 = .ok (.iload_n 2, 1) := by decide +kernel
theorem dL_act_30 : decode cL_act 30 = .ok (.iload_n 3, 1) := by decide +kernel
theorem dL_act_31 : decode cL_act 31 = .ok (.iload 4, 2) := by decide +kernel
theorem dL_act_33 : decode cL_act 33 = .ok (.iload 5, 2) := by decide +kernel
theorem dL_act_35 : decode cL_act 35 = .ok (.invokevirtual 57, 3) := by decide +kernel
theorem dL_act_38 : decode cL_act 38 = .ok (.ireturn, 1) := by decide +kernel
theorem dL_act_39 : decode cL_act 39 = .ok (.aload_n 0, 1) := by decide +kernel
theorem dL_act_40 : decode cL_act 40 = .ok (.iload_n 2, 1) := by decide +kernel
theorem dL_act_41 : decode cL_act 41 = .ok (.invokevirtual 61, 3) := by decide +kernel
theorem dL_act_44 : decode cL_act 44 = .ok (.ireturn, 1) := by decide +kernel
theorem dL_act_45 : decode cL_act 45 = .ok (.aload_n 0, 1) := by decide +kernel
theorem dL_act_46 : decode cL_act 46 = .ok (.iload_n 2, 1) := by decide +kernel
theorem dL_act_47 : decode cL_act 47 = .ok (.iload_n 3, 1) := by decide +kernel
theorem dL_act_48 : decode cL_act 48 = .ok (.invokevirtual 41, 3) := by decide +kernel
theorem dL_act_51 : decode cL_act 51 = .ok (.ireturn, 1) := by decide +kernel
theorem dL_act_52 : decode cL_act 52 = .ok (.aload_n 0, 1) := by decide +kernel
theorem dL_act_53 : decode cL_act 53 = .ok (.iload_n 2, 1) := by decide +kernel
theorem dL_act_54 : decode cL_act 54 = .ok (.iload_n 3, 1) := by decide +kernel
theorem dL_act_55 : decode cL_act 55 = .ok (.iload 4, 2) := by decide +kernel
theorem dL_act_57 : decode cL_act 57 = .ok (.invokevirtual 64, 3) := by decide +kernel
theorem dL_act_60 : decode cL_act 60 = .ok (.ireturn, 1) := by decide +kernel
theorem dL_act_61 : decode cL_act 61 = .ok (.astore 6, 2) := by decide +kernel
theorem dL_act_63 : decode cL_act 63 = .ok (.iconst (-1), 1) := by decide +kernel
theorem dL_act_64 : decode cL_act 64 = .ok (.ireturn, 1) := by decide +kernel
theorem dL_state_0 : decode cL_state 0 = .ok (.iconst 0, 1) := by decide +kernel
theorem dL_state_1 : decode cL_state 1 = .ok (.istore_n 1, 1) := by decide +kernel
theorem dL_state_2 : decode cL_state 2 = .ok (.iconst 0, 1) := by decide +kernel
theorem dL_state_3 : decode cL_state 3 = .ok (.istore_n 2, 1) := by decide +kernel
theorem dL_state_4 : decode cL_state 4 = .ok (.iload_n 2, 1) := by decide +kernel
theorem dL_state_5 : decode cL_state 5 = .ok (.bipush 15, 2) := by decide +kernel
theorem dL_state_7 : decode cL_state 7 = .ok (.if_icmp .ge 20, 3) := by decide +kernel
theorem dL_state_10 : decode cL_state 10 = .ok (.bipush 31, 2) := by decide +kernel
theorem dL_state_12 : decode cL_state 12 = .ok (.iload_n 1, 1) := by decide +kernel
theorem dL_state_13 : decode cL_state 13 = .ok (.imul, 1) := by decide +kernel
theorem dL_state_14 : decode cL_state 14 = .ok (.aload_n 0, 1) := by decide +kernel
theorem dL_state_15 : decode cL_state 15 = .ok (.iload_n 2, 1) := by decide +kernel
theorem dL_state_16 : decode cL_state 16 = .ok (.invokevirtual 48, 3) := by decide +kernel
theorem dL_state_19 : decode cL_state 19 = .ok (.iadd, 1) := by decide +kernel
theorem dL_state_20 : decode cL_state 20 = .ok (.istore_n 1, 1) := by decide +kernel
theorem dL_state_21 : decode cL_state 21 = .ok (.iinc 2 1, 3) := by decide +kernel
theorem dL_state_24 : decode cL_state 24 = .ok (.goto (-20), 3) := by decide +kernel
theorem dL_state_27 : decode cL_state 27 = .ok (.iconst 0, 1) := by decide +kernel
theorem dL_state_28 : decode cL_state 28 = .ok (.istore_n 2, 1) := by decide +kernel
theorem dL_state_29 : decode cL_state 29 = .ok (.iload_n 2, 1) := by decide +kernel
theorem dL_state_30 : decode cL_state 30 = .ok (.iconst 3, 1) := by decide +kernel
theorem dL_state_31 : decode cL_state 31 = .ok (.if_icmp .ge 20, 3) := by decide +kernel
theorem dL_state_34 : decode cL_state 34 = .ok (.bipush 31, 2) := by decide +kernel
theorem dL_state_36 : decode cL_state 36 = .ok (.iload_n 1, 1) := by decide +kernel
theorem dL_state_37 : decode cL_state 37 = .ok (.imul, 1) := by decide +kernel
theorem dL_state_38 : decode cL_state 38 = .ok (.aload_n 0, 1) := by decide +kernel
theorem dL_state_39 : decode cL_state 39 = .ok (.iload_n 2, 1) := by decide +kernel
theorem dL_state_40 : decode cL_state 40 = .ok (.invokevirtual 70, 3) := by decide +kernel
theorem dL_state_43 : decode cL_state 43 = .ok (.iadd, 1) := by decide +kernel
theorem dL_state_44 : decode cL_state 44 = .ok (.istore_n 1, 1) := by decide +kernel
theorem dL_state_45 : decode cL_state 45 = .ok (.iinc 2 1, 3) := by decide +kernel
theorem dL_state_48 : decode cL_state 48 = .ok (.goto (-19), 3) := by decide +kernel
theorem dL_state_51 : decode cL_state 51 = .ok (.iconst 0, 1) := by decide +kernel
theorem dL_state_52 : decode cL_state 52 = .ok (.istore_n 2, 1) := by decide +kernel
theorem dL_state_53 : decode cL_state 53 = .ok (.iload_n 2, 1) := by decide +kernel
theorem dL_state_54 : decode cL_state 54 = .ok (.aload_n 0, 1) := by decide +kernel
theorem dL_state_55 : decode cL_state 55 = .ok (.iconst 3, 1) := by decide +kernel
theorem dL_state_56 : decode cL_state 56 = .ok (.invokevirtual 48, 3) := by decide +kernel
theorem dL_state_59 : decode cL_state 59 = .ok (.if_icmp .ge 34, 3) := by decide +kernel
theorem dL_state_62 : decode cL_state 62 = .ok (.iconst 0, 1) := by decide +kernel
theorem dL_state_63 : decode cL_state 63 = .ok (.istore_n 3, 1) := by decide +kernel
theorem dL_state_64 : decode cL_state 64 = .ok (.iload_n 3, 1) := by decide +kernel
theorem dL_state_65 : decode cL_state 65 = .ok (.iconst 3, 1) := by decide +kernel
theorem dL_state_66 : decode cL_state 66 = .ok (.if_icmp .ge 21, 3) := by decide +kernel
theorem dL_state_69 : decode cL_state 69 = .ok (.bipush 31, 2) := by decide +kernel
theorem dL_state_71 : decode cL_state 71 = .ok (.iload_n 1, 1) := by decide +kernel
theorem dL_state_72 : decode cL_state 72 = .ok (.imul, 1) := by decide +kernel
theorem dL_state_73 : decode cL_state 73 = .ok (.aload_n 0, 1) := by decide +kernel
theorem dL_state_74 : decode cL_state 74 = .ok (.iload_n 2, 1) := by decide +kernel
theorem dL_state_75 : decode cL_state 75 = .ok (.iload_n 3, 1) := by decide +kernel
theorem dL_state_76 : decode cL_state 76 = .ok (.invokevirtual 73, 3) := by decide +kernel
theorem dL_state_79 : decode cL_state 79 = .ok (.iadd, 1) := by decide +kernel
theorem dL_state_80 : decode cL_state 80 = .ok (.istore_n 1, 1) := by decide +kernel
theorem dL_state_81 : decode cL_state 81 = .ok (.iinc 3 1, 3) := by decide +kernel
theorem dL_state_84 : decode cL_state 84 = .ok (.goto (-20), 3) := by decide +kernel
theorem dL_state_87 : decode cL_state 87 = .ok (.iinc 2 1, 3) := by decide +kernel
theorem dL_state_90 : decode cL_state 90 = .ok (.goto (-37), 3) := by decide +kernel
theorem dL_state_93 : decode cL_state 93 = .ok (.iconst 0, 1) := by decide +kernel
theorem dL_state_94 : decode cL_state 94 = .ok (.istore_n 2, 1) := by decide +kernel
theorem dL_state_95 : decode cL_state 95 = .ok (.iload_n 2, 1) := by decide +kernel
theorem dL_state_96 : decode cL_state 96 = .ok (.aload_n 0, 1) := by decide +kernel
theorem dL_state_97 : decode cL_state 97 = .ok (.iconst 2, 1) := by decide +kernel
theorem dL_state_98 : decode cL_state 98 = .ok (.invokevirtual 48, 3) := by decide +kernel
theorem dL_state_101 : decode cL_state 101 = .ok (.if_icmp .ge 81, 3) := by decide +kernel
theorem dL_state_104 : decode cL_state 104 = .ok (.iconst 0, 1) := by decide +kernel
theorem dL_state_105 : decode cL_state 105 = .ok (.istore_n 3, 1) := by decide +kernel
theorem dL_state_106 : decode cL_state 106 = .ok (.iload_n 3, 1) := by decide +kernel
theorem dL_state_107 : decode cL_state 107 = .ok (.iconst 5, 1) := by decide +kernel
theorem dL_state_108 : decode cL_state 108 = .ok (.if_icmp .ge 21, 3) := by decide +kernel
theorem dL_state_111 : decode cL_state 111 = .ok (.bipush 31, 2) := by decide +kernel
theorem dL_state_113 : decode cL_state 113 = .ok (.iload_n 1, 1) := by decide +kernel
theorem dL_state_114 : decode cL_state 114 = .ok (.imul, 1) := by decide +kernel
theorem dL_state_115 : decode cL_state 115 = .ok (.aload_n 0, 1) := by decide +kernel
theorem dL_state_116 : decode cL_state 116 = .ok (.iload_n 2, 1) := by decide +kernel
theorem dL_state_117 : decode cL_state 117 = .ok (.iload_n 3, 1) := by decide +kernel
theorem dL_state_118 : decode cL_state 118 = .ok (.invokevirtual 76, 3) := by decide +kernel
theorem dL_state_121 : decode cL_state 121 = .ok (.iadd, 1) := by decide +kernel
theorem dL_state_122 : decode cL_state 122 = .ok (.istore_n 1, 1) := by decide +kernel
theorem dL_state_123 : decode cL_state 123 = .ok (.iinc 3 1, 3) := by decide +kernel
theorem dL_state_126 : decode cL_state 126 = .ok (.goto (-20), 3) := by decide +kernel
theorem dL_state_129 : decode cL_state 129 = .ok (.iconst 0, 1) := by decide +kernel
theorem dL_state_130 : decode cL_state 130 = .ok (.istore_n 3, 1) := by decide +kernel
theorem dL_state_131 : decode cL_state 131 = .ok (.iload_n 3, 1) := by decide +kernel
theorem dL_state_132 : decode cL_state 132 = .ok (.aload_n 0, 1) := by decide +kernel
theorem dL_state_133 : decode cL_state 133 = .ok (.iload_n 2, 1) := by decide +kernel
theorem dL_state_134 : decode cL_state 134 = .ok (.iconst 0, 1) := by decide +kernel
theorem dL_state_135 : decode cL_state 135 = .ok (.invokevirtual 76, 3) := by decide +kernel
theorem dL_state_138 : decode cL_state 138 = .ok (.if_icmp .ge 38, 3) := by decide +kernel
theorem dL_state_141 : decode cL_state 141 = .ok (.iconst 0, 1) := by decide +kernel
theorem dL_state_142 : decode cL_state 142 = .ok (.istore 4, 2) := by decide +kernel
theorem dL_state_144 : decode cL_state 144 = .ok (.iload 4, 2) := by decide +kernel
theorem dL_state_146 : decode cL_state 146 = .ok (.iconst 4, 1) := by decide +kernel
theorem dL_state_147 : decode cL_state 147 = .ok (.if_icmp .ge 23, 3) := by decide +kernel
theorem dL_state_150 : decode cL_state 150 = .ok (.bipush 31, 2) := by decide +kernel
theorem dL_state_152 : decode cL_state 152 = .ok (.iload_n 1, 1) := by decide +kernel
theorem dL_state_153 : decode cL_state 153 = .ok (.imul, 1) := by decide +kernel
theorem dL_state_154 : decode cL_state 154 = .ok (.aload_n 0, 1) := by decide +kernel
theorem dL_state_155 : decode cL_state 155 = .ok (.iload_n 2, 1) := by decide +kernel
theorem dL_state_156 : decode cL_state 156 = .ok (.iload_n 3, 1) := by decide +kernel
theorem dL_state_157 : decode cL_state 157 = .ok (.iload 4, 2) := by decide +kernel
theorem dL_state_159 : decode cL_state 159 = .ok (.invokevirtual 79, 3) := by decide +kernel
theorem dL_state_162 : decode cL_state 162 = .ok (.iadd, 1) := by decide +kernel
theorem dL_state_163 : decode cL_state 163 = .ok (.istore_n 1, 1) := by decide +kernel
theorem dL_state_164 : decode cL_state 164 = .ok (.iinc 4 1, 3) := by decide +kernel
theorem dL_state_167 : decode cL_state 167 = .ok (.goto (-23), 3) := by decide +kernel
theorem dL_state_170 : decode cL_state 170 = .ok (.iinc 3 1, 3) := by decide +kernel
theorem dL_state_173 : decode cL_state 173 = .ok (.goto (-42), 3) := by decide +kernel
theorem dL_state_176 : decode cL_state 176 = .ok (.iinc 2 1, 3) := by decide +kernel
theorem dL_state_179 : decode cL_state 179 = .ok (.goto (-84), 3) := by decide +kernel
theorem dL_state_182 : decode cL_state 182 = .ok (.iload_n 1, 1) := by decide +kernel
theorem dL_state_183 : decode cL_state 183 = .ok (.ireturn, 1) := by decide +kernel
theorem dL_law_0 : decode cL_law 0 = .ok (.aload_n 0, 1) := by decide +kernel
theorem dL_law_1 : decode cL_law 1 = .ok (.invokestatic 87, 3) := by decide +kernel
theorem dL_law_4 : decode cL_law 4 = .ok (.astore_n 1, 1) := by decide +kernel
theorem dL_law_5 : decode cL_law 5 = .ok (.aload_n 0, 1) := by decide +kernel
theorem dL_law_6 : decode cL_law 6 = .ok (.invokestatic 87, 3) := by decide +kernel
theorem dL_law_9 : decode cL_law 9 = .ok (.astore_n 2, 1) := by decide +kernel
theorem dL_law_10 : decode cL_law 10 = .ok (.aload_n 1, 1) := by decide +kernel
theorem dL_law_11 : decode cL_law 11 = .ok (.invokevirtual 91, 3) := by decide +kernel
theorem dL_law_14 : decode cL_law 14 = .ok (.istore_n 3, 1) := by decide +kernel
theorem dL_law_15 : decode cL_law 15 = .ok (.aload_n 1, 1) := by decide +kernel
theorem dL_law_16 : decode cL_law 16 = .ok (.invokestatic 94, 3) := by decide +kernel
theorem dL_law_19 : decode cL_law 19 = .ok (.istore 4, 2) := by decide +kernel
theorem dL_law_21 : decode cL_law 21 = .ok (.aload_n 1, 1) := by decide +kernel
theorem dL_law_22 : decode cL_law 22 = .ok (.ldc 98, 2) := by decide +kernel
theorem dL_law_24 : decode cL_law 24 = .ok (.invokestatic 100, 3) := by decide +kernel
theorem dL_law_27 : decode cL_law 27 = .ok (.aload_n 1, 1) := by decide +kernel
theorem dL_law_28 : decode cL_law 28 = .ok (.invokevirtual 104, 3) := by decide +kernel
theorem dL_law_31 : decode cL_law 31 = .ok (.iconst 3, 1) := by decide +kernel
theorem dL_law_32 : decode cL_law 32 = .ok (.if_icmp .ne 55, 3) := by decide +kernel
theorem dL_law_35 : decode cL_law 35 = .ok (.aload_n 2, 1) := by decide +kernel
theorem dL_law_36 : decode cL_law 36 = .ok (.iconst 3, 1) := by decide +kernel
theorem dL_law_37 : decode cL_law 37 = .ok (.invokevirtual 54, 3) := by decide +kernel
theorem dL_law_40 : decode cL_law 40 = .ok (.ifCond .lt 47, 3) := by decide +kernel
theorem dL_law_43 : decode cL_law 43 = .ok (.aload_n 2, 1) := by decide +kernel
theorem dL_law_44 : decode cL_law 44 = .ok (.iconst 1, 1) := by decide +kernel
theorem dL_law_45 : decode cL_law 45 = .ok (.invokevirtual 54, 3) := by decide +kernel
theorem dL_law_48 : decode cL_law 48 = .ok (.ifCond .lt 39, 3) := by decide +kernel
theorem dL_law_51 : decode cL_law 51 = .ok (.aload_n 2, 1) := by decide +kernel
theorem dL_law_52 : decode cL_law 52 = .ok (.iconst 2, 1) := by decide +kernel
theorem dL_law_53 : decode cL_law 53 = .ok (.invokevirtual 54, 3) := by decide +kernel
theorem dL_law_56 : decode cL_law 56 = .ok (.ifCond .lt 31, 3) := by decide +kernel
theorem dL_law_59 : decode cL_law 59 = .ok (.aload_n 1, 1) := by decide +kernel
theorem dL_law_60 : decode cL_law 60 = .ok (.invokestatic 94, 3) := by decide +kernel
theorem dL_law_63 : decode cL_law 63 = .ok (.aload_n 2, 1) := by decide +kernel
theorem dL_law_64 : decode cL_law 64 = .ok (.invokestatic 94, 3) := by decide +kernel
theorem dL_law_67 : decode cL_law 67 = .ok (.if_icmp .ne 20, 3) := by decide +kernel
theorem dL_law_70 : decode cL_law 70 = .ok (.aload_n 1, 1) := by decide +kernel
theorem dL_law_71 : decode cL_law 71 = .ok (.bipush 15, 2) := by decide +kernel
theorem dL_law_73 : decode cL_law 73 = .ok (.invokevirtual 48, 3) := by decide +kernel
theorem dL_law_76 : decode cL_law 76 = .ok (.ifCond .ne 11, 3) := by decide +kernel
theorem dL_law_79 : decode cL_law 79 = .ok (.aload_n 1, 1) := by decide +kernel
theorem dL_law_80 : decode cL_law 80 = .ok (.invokevirtual 107, 3) := by decide +kernel
theorem dL_law_83 : decode cL_law 83 = .ok (.iconst (-1), 1) := by decide +kernel
theorem dL_law_84 : decode cL_law 84 = .ok (.if_icmp .eq 5, 3) := by decide +kernel
theorem dL_law_87 : decode cL_law 87 = .ok (.iconst 0, 1) := by decide +kernel
theorem dL_law_88 : decode cL_law 88 = .ok (.ireturn, 1) := by decide +kernel
theorem dL_law_89 : decode cL_law 89 = .ok (.aload_n 1, 1) := by decide +kernel
theorem dL_law_90 : decode cL_law 90 = .ok (.bipush 16, 2) := by decide +kernel
theorem dL_law_92 : decode cL_law 92 = .ok (.invokevirtual 48, 3) := by decide +kernel
theorem dL_law_95 : decode cL_law 95 = .ok (.istore 5, 2) := by decide +kernel
theorem dL_law_97 : decode cL_law 97 = .ok (.aload_n 1, 1) := by decide +kernel
theorem dL_law_98 : decode cL_law 98 = .ok (.invokevirtual 110, 3) := by decide +kernel
theorem dL_law_101 : decode cL_law 101 = .ok (.iload 5, 2) := by decide +kernel
theorem dL_law_103 : decode cL_law 103 = .ok (.iconst 1, 1) := by decide +kernel
theorem dL_law_104 : decode cL_law 104 = .ok (.isub, 1) := by decide +kernel
theorem dL_law_105 : decode cL_law 105 = .ok (.if_icmp .ne 42, 3) := by decide +kernel
theorem dL_law_108 : decode cL_law 108 = .ok (.aload_n 1, 1) := by decide +kernel
theorem dL_law_109 : decode cL_law 109 = .ok (.invokestatic 94, 3) := by decide +kernel
theorem dL_law_112 : decode cL_law 112 = .ok (.iload 4, 2) := by decide +kernel
theorem dL_law_114 : decode cL_law 114 = .ok (.if_icmp .ne 33, 3) := by decide +kernel
theorem dL_law_117 : decode cL_law 117 = .ok (.aload_n 2, 1) := by decide +kernel
theorem dL_law_118 : decode cL_law 118 = .ok (.invokevirtual 110, 3) := by decide +kernel
theorem dL_law_121 : decode cL_law 121 = .ok (.ifCond .lt 26, 3) := by decide +kernel
theorem dL_law_124 : decode cL_law 124 = .ok (.aload_n 2, 1) := by decide +kernel
theorem dL_law_125 : decode cL_law 125 = .ok (.invokevirtual 110, 3) := by decide +kernel
theorem dL_law_128 : decode cL_law 128 = .ok (.ifCond .lt 19, 3) := by decide +kernel
theorem dL_law_131 : decode cL_law 131 = .ok (.aload_n 2, 1) := by decide +kernel
theorem dL_law_132 : decode cL_law 132 = .ok (.invokevirtual 110, 3) := by decide +kernel
theorem dL_law_135 : decode cL_law 135 = .ok (.ifCond .lt 12, 3) := by decide +kernel
theorem dL_law_138 : decode cL_law 138 = .ok (.aload_n 2, 1) := by decide +kernel
theorem dL_law_139 : decode cL_law 139 = .ok (.invokestatic 94, 3) := by decide +kernel
theorem dL_law_142 : decode cL_law 142 = .ok (.iload 4, 2) := by decide +kernel
theorem dL_law_144 : decode cL_law 144 = .ok (.if_icmp .eq 5, 3) := by decide +kernel
theorem dL_law_147 : decode cL_law 147 = .ok (.iconst 0, 1) := by decide +kernel
theorem dL_law_148 : decode cL_law 148 = .ok (.ireturn, 1) := by decide +kernel
theorem dL_law_149 : decode cL_law 149 = .ok (.aload_n 1, 1) := by decide +kernel
theorem dL_law_150 : decode cL_law 150 = .ok (.ldc 113, 2) := by decide +kernel
theorem dL_law_152 : decode cL_law 152 = .ok (.invokestatic 100, 3) := by decide +kernel
theorem dL_law_155 : decode cL_law 155 = .ok (.aload_n 1, 1) := by decide +kernel
theorem dL_law_156 : decode cL_law 156 = .ok (.invokestatic 115, 3) := by decide +kernel
theorem dL_law_159 : decode cL_law 159 = .ok (.iconst (-1), 1) := by decide +kernel
theorem dL_law_160 : decode cL_law 160 = .ok (.if_icmp .ne 20, 3) := by decide +kernel
theorem dL_law_163 : decode cL_law 163 = .ok (.aload_n 1, 1) := by decide +kernel
theorem dL_law_164 : decode cL_law 164 = .ok (.invokevirtual 107, 3) := by decide +kernel
theorem dL_law_167 : decode cL_law 167 = .ok (.iconst (-1), 1) := by decide +kernel
theorem dL_law_168 : decode cL_law 168 = .ok (.if_icmp .ne 12, 3) := by decide +kernel
theorem dL_law_171 : decode cL_law 171 = .ok (.aload_n 1, 1) := by decide +kernel
theorem dL_law_172 : decode cL_law 172 = .ok (.invokestatic 94, 3) := by decide +kernel
theorem dL_law_175 : decode cL_law 175 = .ok (.iload 4, 2) := by decide +kernel
theorem dL_law_177 : decode cL_law 177 = .ok (.if_icmp .eq 5, 3) := by decide +kernel
theorem dL_law_180 : decode cL_law 180 = .ok (.iconst 0, 1) := by decide +kernel
theorem dL_law_181 : decode cL_law 181 = .ok (.ireturn, 1) := by decide +kernel
theorem dL_law_182 : decode cL_law 182 = .ok (.aload_n 1, 1) := by decide +kernel
theorem dL_law_183 : decode cL_law 183 = .ok (.ldc 118, 2) := by decide +kernel
theorem dL_law_185 : decode cL_law 185 = .ok (.invokestatic 100, 3) := by decide +kernel
theorem dL_law_188 : decode cL_law 188 = .ok (.aload_n 1, 1) := by decide +kernel
theorem dL_law_189 : decode cL_law 189 = .ok (.invokestatic 115, 3) := by decide +kernel
theorem dL_law_192 : decode cL_law 192 = .ok (.iconst (-1), 1) := by decide +kernel
theorem dL_law_193 : decode cL_law 193 = .ok (.if_icmp .ne 11, 3) := by decide +kernel
theorem dL_law_196 : decode cL_law 196 = .ok (.aload_n 1, 1) := by decide +kernel
theorem dL_law_197 : decode cL_law 197 = .ok (.invokevirtual 107, 3) := by decide +kernel
theorem dL_law_200 : decode cL_law 200 = .ok (.iconst (-1), 1) := by decide +kernel
theorem dL_law_201 : decode cL_law 201 = .ok (.if_icmp .eq 5, 3) := by decide +kernel
theorem dL_law_204 : decode cL_law 204 = .ok (.iconst 0, 1) := by decide +kernel
theorem dL_law_205 : decode cL_law 205 = .ok (.ireturn, 1) := by decide +kernel
theorem dL_law_206 : decode cL_law 206 = .ok (.aload_n 1, 1) := by decide +kernel
theorem dL_law_207 : decode cL_law 207 = .ok (.ldc 120, 2) := by decide +kernel
theorem dL_law_209 : decode cL_law 209 = .ok (.invokestatic 100, 3) := by decide +kernel
theorem dL_law_212 : decode cL_law 212 = .ok (.aload_n 1, 1) := by decide +kernel
theorem dL_law_213 : decode cL_law 213 = .ok (.invokestatic 115, 3) := by decide +kernel
theorem dL_law_216 : decode cL_law 216 = .ok (.iconst (-1), 1) := by decide +kernel
theorem dL_law_217 : decode cL_law 217 = .ok (.if_icmp .ne 11, 3) := by decide +kernel
theorem dL_law_220 : decode cL_law 220 = .ok (.aload_n 1, 1) := by decide +kernel
theorem dL_law_221 : decode cL_law 221 = .ok (.invokevirtual 107, 3) := by decide +kernel
theorem dL_law_224 : decode cL_law 224 = .ok (.iconst 4, 1) := by decide +kernel
theorem dL_law_225 : decode cL_law 225 = .ok (.if_icmp .eq 5, 3) := by decide +kernel
theorem dL_law_228 : decode cL_law 228 = .ok (.iconst 0, 1) := by decide +kernel
theorem dL_law_229 : decode cL_law 229 = .ok (.ireturn, 1) := by decide +kernel
theorem dL_law_230 : decode cL_law 230 = .ok (.aload_n 1, 1) := by decide +kernel
theorem dL_law_231 : decode cL_law 231 = .ok (.ldc 122, 2) := by decide +kernel
theorem dL_law_233 : decode cL_law 233 = .ok (.invokestatic 100, 3) := by decide +kernel
theorem dL_law_236 : decode cL_law 236 = .ok (.aload_n 1, 1) := by decide +kernel
theorem dL_law_237 : decode cL_law 237 = .ok (.invokestatic 115, 3) := by decide +kernel
theorem dL_law_240 : decode cL_law 240 = .ok (.iconst (-1), 1) := by decide +kernel
theorem dL_law_241 : decode cL_law 241 = .ok (.if_icmp .ne 11, 3) := by decide +kernel
theorem dL_law_244 : decode cL_law 244 = .ok (.aload_n 1, 1) := by decide +kernel
theorem dL_law_245 : decode cL_law 245 = .ok (.invokevirtual 107, 3) := by decide +kernel
theorem dL_law_248 : decode cL_law 248 = .ok (.iconst 5, 1) := by decide +kernel
theorem dL_law_249 : decode cL_law 249 = .ok (.if_icmp .eq 5, 3) := by decide +kernel
theorem dL_law_252 : decode cL_law 252 = .ok (.iconst 0, 1) := by decide +kernel
theorem dL_law_253 : decode cL_law 253 = .ok (.ireturn, 1) := by decide +kernel
theorem dL_law_254 : decode cL_law 254 = .ok (.aload_n 1, 1) := by decide +kernel
theorem dL_law_255 : decode cL_law 255 = .ok (.ldc 124, 2) := by decide +kernel
theorem dL_law_257 : decode cL_law 257 = .ok (.invokestatic 100, 3) := by decide +kernel
theorem dL_law_260 : decode cL_law 260 = .ok (.aload_n 1, 1) := by decide +kernel
theorem dL_law_261 : decode cL_law 261 = .ok (.invokestatic 115, 3) := by decide +kernel
theorem dL_law_264 : decode cL_law 264 = .ok (.iconst (-1), 1) := by decide +kernel
theorem dL_law_265 : decode cL_law 265 = .ok (.if_icmp .ne 35, 3) := by decide +kernel
theorem dL_law_268 : decode cL_law 268 = .ok (.aload_n 1, 1) := by decide +kernel
theorem dL_law_269 : decode cL_law 269 = .ok (.invokevirtual 107, 3) := by decide +kernel
theorem dL_law_272 : decode cL_law 272 = .ok (.iconst 2, 1) := by decide +kernel
theorem dL_law_273 : decode cL_law 273 = .ok (.if_icmp .ne 27, 3) := by decide +kernel
theorem dL_law_276 : decode cL_law 276 = .ok (.aload_n 1, 1) := by decide +kernel
theorem dL_law_277 : decode cL_law 277 = .ok (.invokestatic 115, 3) := by decide +kernel
theorem dL_law_280 : decode cL_law 280 = .ok (.iconst (-1), 1) := by decide +kernel
theorem dL_law_281 : decode cL_law 281 = .ok (.if_icmp .ne 19, 3) := by decide +kernel
theorem dL_law_284 : decode cL_law 284 = .ok (.aload_n 1, 1) := by decide +kernel
theorem dL_law_285 : decode cL_law 285 = .ok (.invokevirtual 107, 3) := by decide +kernel
theorem dL_law_288 : decode cL_law 288 = .ok (.ifCond .ne 12, 3) := by decide +kernel
theorem dL_law_291 : decode cL_law 291 = .ok (.aload_n 1, 1) := by decide +kernel
theorem dL_law_292 : decode cL_law 292 = .ok (.invokestatic 94, 3) := by decide +kernel
theorem dL_law_295 : decode cL_law 295 = .ok (.iload 4, 2) := by decide +kernel
theorem dL_law_297 : decode cL_law 297 = .ok (.if_icmp .eq 5, 3) := by decide +kernel
theorem dL_law_300 : decode cL_law 300 = .ok (.iconst 0, 1) := by decide +kernel
theorem dL_law_301 : decode cL_law 301 = .ok (.ireturn, 1) := by decide +kernel
theorem dL_law_302 : decode cL_law 302 = .ok (.aload_n 0, 1) := by decide +kernel
theorem dL_law_303 : decode cL_law 303 = .ok (.bipush 13, 2) := by decide +kernel
theorem dL_law_305 : decode cL_law 305 = .ok (.invokestatic 24, 3) := by decide +kernel
theorem dL_law_308 : decode cL_law 308 = .ok (.iconst 4, 1) := by decide +kernel
theorem dL_law_309 : decode cL_law 309 = .ok (.ishr, 1) := by decide +kernel
theorem dL_law_310 : decode cL_law 310 = .ok (.istore 6, 2) := by decide +kernel
theorem dL_law_312 : decode cL_law 312 = .ok (.iload 6, 2) := by decide +kernel
theorem dL_law_314 : decode cL_law 314 = .ok (.iconst 3, 1) := by decide +kernel
theorem dL_law_315 : decode cL_law 315 = .ok (.iand, 1) := by decide +kernel
theorem dL_law_316 : decode cL_law 316 = .ok (.iload_n 3, 1) := by decide +kernel
theorem dL_law_317 : decode cL_law 317 = .ok (.irem, 1) := by decide +kernel
theorem dL_law_318 : decode cL_law 318 = .ok (.istore 7, 2) := by decide +kernel
theorem dL_law_320 : decode cL_law 320 = .ok (.iload 6, 2) := by decide +kernel
theorem dL_law_322 : decode cL_law 322 = .ok (.iconst 2, 1) := by decide +kernel
theorem dL_law_323 : decode cL_law 323 = .ok (.ishr, 1) := by decide +kernel
theorem dL_law_324 : decode cL_law 324 = .ok (.iconst 1, 1) := by decide +kernel
theorem dL_law_325 : decode cL_law 325 = .ok (.iand, 1) := by decide +kernel
theorem dL_law_326 : decode cL_law 326 = .ok (.istore 8, 2) := by decide +kernel
theorem dL_law_328 : decode cL_law 328 = .ok (.iload 6, 2) := by decide +kernel
theorem dL_law_330 : decode cL_law 330 = .ok (.iconst 3, 1) := by decide +kernel
theorem dL_law_331 : decode cL_law 331 = .ok (.ishr, 1) := by decide +kernel
theorem dL_law_332 : decode cL_law 332 = .ok (.iconst 3, 1) := by decide +kernel
theorem dL_law_333 : decode cL_law 333 = .ok (.iand, 1) := by decide +kernel
theorem dL_law_334 : decode cL_law 334 = .ok (.iconst 3, 1) := by decide +kernel
theorem dL_law_335 : decode cL_law 335 = .ok (.irem, 1) := by decide +kernel
theorem dL_law_336 : decode cL_law 336 = .ok (.istore 9, 2) := by decide +kernel
theorem dL_law_338 : decode cL_law 338 = .ok (.iconst 1, 1) := by decide +kernel
theorem dL_law_339 : decode cL_law 339 = .ok (.iload 6, 2) := by decide +kernel
theorem dL_law_341 : decode cL_law 341 = .ok (.iconst 5, 1) := by decide +kernel
theorem dL_law_342 : decode cL_law 342 = .ok (.ishr, 1) := by decide +kernel
theorem dL_law_343 : decode cL_law 343 = .ok (.bipush 15, 2) := by decide +kernel
theorem dL_law_345 : decode cL_law 345 = .ok (.iand, 1) := by decide +kernel
theorem dL_law_346 : decode cL_law 346 = .ok (.iadd, 1) := by decide +kernel
theorem dL_law_347 : decode cL_law 347 = .ok (.istore 10, 2) := by decide +kernel
theorem dL_law_349 : decode cL_law 349 = .ok (.aload_n 1, 1) := by decide +kernel
theorem dL_law_350 : decode cL_law 350 = .ok (.iload 7, 2) := by decide +kernel
theorem dL_law_352 : decode cL_law 352 = .ok (.iconst 0, 1) := by decide +kernel
theorem dL_law_353 : decode cL_law 353 = .ok (.invokevirtual 76, 3) := by decide +kernel
theorem dL_law_356 : decode cL_law 356 = .ok (.istore 11, 2) := by decide +kernel
theorem dL_law_358 : decode cL_law 358 = .ok (.iload 11, 2) := by decide +kernel
theorem dL_law_360 : decode cL_law 360 = .ok (.ifCond .ne 8, 3) := by decide +kernel
theorem dL_law_363 : decode cL_law 363 = .ok (.bipush 20, 2) := by decide +kernel
theorem dL_law_365 : decode cL_law 365 = .ok (.goto 14, 3) := by decide +kernel
theorem dL_law_368 : decode cL_law 368 = .ok (.aload_n 1, 1) := by decide +kernel
theorem dL_law_369 : decode cL_law 369 = .ok (.iload 7, 2) := by decide +kernel
theorem dL_law_371 : decode cL_law 371 = .ok (.iload 11, 2) := by decide +kernel
theorem dL_law_373 : decode cL_law 373 = .ok (.iconst 1, 1) := by decide +kernel
theorem dL_law_374 : decode cL_law 374 = .ok (.isub, 1) := by decide +kernel
theorem dL_law_375 : decode cL_law 375 = .ok (.iconst 1, 1) := by decide +kernel
theorem dL_law_376 : decode cL_law 376 = .ok (.invokevirtual 79, 3) := by decide +kernel
theorem dL_law_379 : decode cL_law 379 = .ok (.istore 12, 2) := by decide +kernel
theorem dL_law_381 : decode cL_law 381 = .ok (.aload_n 1, 1) := by decide +kernel
theorem dL_law_382 : decode cL_law 382 = .ok (.iload 9, 2) := by decide +kernel
theorem dL_law_384 : decode cL_law 384 = .ok (.invokevirtual 70, 3) := by decide +kernel
theorem dL_law_387 : decode cL_law 387 = .ok (.istore 13, 2) := by decide +kernel
theorem dL_law_389 : decode cL_law 389 = .ok (.aload_n 1, 1) := by decide +kernel
theorem dL_law_390 : decode cL_law 390 = .ok (.iload 7, 2) := by decide +kernel
theorem dL_law_392 : decode cL_law 392 = .ok (.invokevirtual 126, 3) := by decide +kernel
theorem dL_law_395 : decode cL_law 395 = .ok (.istore 14, 2) := by decide +kernel
theorem dL_law_397 : decode cL_law 397 = .ok (.aload_n 1, 1) := by decide +kernel
theorem dL_law_398 : decode cL_law 398 = .ok (.iload 8, 2) := by decide +kernel
theorem dL_law_400 : decode cL_law 400 = .ok (.iconst 1, 1) := by decide +kernel
theorem dL_law_401 : decode cL_law 401 = .ok (.invokevirtual 73, 3) := by decide +kernel
theorem dL_law_404 : decode cL_law 404 = .ok (.istore 15, 2) := by decide +kernel
theorem dL_law_406 : decode cL_law 406 = .ok (.aload_n 1, 1) := by decide +kernel
theorem dL_law_407 : decode cL_law 407 = .ok (.iload 8, 2) := by decide +kernel
theorem dL_law_409 : decode cL_law 409 = .ok (.iconst 0, 1) := by decide +kernel
theorem dL_law_410 : decode cL_law 410 = .ok (.invokevirtual 73, 3) := by decide +kernel
theorem dL_law_413 : decode cL_law 413 = .ok (.istore 16, 2) := by decide +kernel
theorem dL_law_415 : decode cL_law 415 = .ok (.iload 11, 2) := by decide +kernel
theorem dL_law_417 : decode cL_law 417 = .ok (.bipush 10, 2) := by decide +kernel
theorem dL_law_419 : decode cL_law 419 = .ok (.if_icmp .ne 7, 3) := by decide +kernel
theorem dL_law_422 : decode cL_law 422 = .ok (.iconst 1, 1) := by decide +kernel
theorem dL_law_423 : decode cL_law 423 = .ok (.goto 60, 3) := by decide +kernel
theorem dL_law_426 : decode cL_law 426 = .ok (.iload 15, 2) := by decide +kernel
theorem dL_law_428 : decode cL_law 428 = .ok (.ifCond .le 7, 3) := by decide +kernel
theorem dL_law_431 : decode cL_law 431 = .ok (.iconst 4, 1) := by decide +kernel
theorem dL_law_432 : decode cL_law 432 = .ok (.goto 51, 3) := by decide +kernel
theorem dL_law_435 : decode cL_law 435 = .ok (.iload 16, 2) := by decide +kernel
theorem dL_law_437 : decode cL_law 437 = .ok (.iload 11, 2) := by decide +kernel
theorem dL_law_439 : decode cL_law 439 = .ok (.if_icmp .gt 7, 3) := by decide +kernel
theorem dL_law_442 : decode cL_law 442 = .ok (.iconst 5, 1) := by decide +kernel
theorem dL_law_443 : decode cL_law 443 = .ok (.goto 40, 3) := by decide +kernel
theorem dL_law_446 : decode cL_law 446 = .ok (.iload 13, 2) := by decide +kernel
theorem dL_law_448 : decode cL_law 448 = .ok (.iload 10, 2) := by decide +kernel
theorem dL_law_450 : decode cL_law 450 = .ok (.if_icmp .ge 8, 3) := by decide +kernel
theorem dL_law_453 : decode cL_law 453 = .ok (.bipush 6, 2) := by decide +kernel
theorem dL_law_455 : decode cL_law 455 = .ok (.goto 28, 3) := by decide +kernel
theorem dL_law_458 : decode cL_law 458 = .ok (.iload 10, 2) := by decide +kernel
theorem dL_law_460 : decode cL_law 460 = .ok (.iload 12, 2) := by decide +kernel
theorem dL_law_462 : decode cL_law 462 = .ok (.if_icmp .le 8, 3) := by decide +kernel
theorem dL_law_465 : decode cL_law 465 = .ok (.bipush 7, 2) := by decide +kernel
theorem dL_law_467 : decode cL_law 467 = .ok (.goto 16, 3) := by decide +kernel
theorem dL_law_470 : decode cL_law 470 = .ok (.iload 14, 2) := by decide +kernel
theorem dL_law_472 : decode cL_law 472 = .ok (.iload 10, 2) := by decide +kernel
theorem dL_law_474 : decode cL_law 474 = .ok (.if_icmp .ge 8, 3) := by decide +kernel
theorem dL_law_477 : decode cL_law 477 = .ok (.bipush 8, 2) := by decide +kernel
theorem dL_law_479 : decode cL_law 479 = .ok (.goto 4, 3) := by decide +kernel
theorem dL_law_482 : decode cL_law 482 = .ok (.iconst 0, 1) := by decide +kernel
theorem dL_law_483 : decode cL_law 483 = .ok (.istore 17, 2) := by decide +kernel
theorem dL_law_485 : decode cL_law 485 = .ok (.aload_n 1, 1) := by decide +kernel
theorem dL_law_486 : decode cL_law 486 = .ok (.iload 7, 2) := by decide +kernel
theorem dL_law_488 : decode cL_law 488 = .ok (.iload 8, 2) := by decide +kernel
theorem dL_law_490 : decode cL_law 490 = .ok (.iload 9, 2) := by decide +kernel
theorem dL_law_492 : decode cL_law 492 = .ok (.iload 10, 2) := by decide +kernel
theorem dL_law_494 : decode cL_law 494 = .ok (.invokevirtual 129, 3) := by decide +kernel
theorem dL_law_497 : decode cL_law 497 = .ok (.iload 17, 2) := by decide +kernel
theorem dL_law_499 : decode cL_law 499 = .ok (.if_icmp .ne 12, 3) := by decide +kernel
theorem dL_law_502 : decode cL_law 502 = .ok (.aload_n 1, 1) := by decide +kernel
theorem dL_law_503 : decode cL_law 503 = .ok (.invokestatic 94, 3) := by decide +kernel
theorem dL_law_506 : decode cL_law 506 = .ok (.iload 4, 2) := by decide +kernel
theorem dL_law_508 : decode cL_law 508 = .ok (.if_icmp .eq 5, 3) := by decide +kernel
theorem dL_law_511 : decode cL_law 511 = .ok (.iconst 0, 1) := by decide +kernel
theorem dL_law_512 : decode cL_law 512 = .ok (.ireturn, 1) := by decide +kernel
theorem dL_law_513 : decode cL_law 513 = .ok (.aload_n 1, 1) := by decide +kernel
theorem dL_law_514 : decode cL_law 514 = .ok (.iconst 0, 1) := by decide +kernel
theorem dL_law_515 : decode cL_law 515 = .ok (.iload 7, 2) := by decide +kernel
theorem dL_law_517 : decode cL_law 517 = .ok (.iload 8, 2) := by decide +kernel
theorem dL_law_519 : decode cL_law 519 = .ok (.iload 9, 2) := by decide +kernel
theorem dL_law_521 : decode cL_law 521 = .ok (.iload 10, 2) := by decide +kernel
theorem dL_law_523 : decode cL_law 523 = .ok (.invokestatic 44, 3) := by decide +kernel
theorem dL_law_526 : decode cL_law 526 = .ok (.istore 18, 2) := by decide +kernel
theorem dL_law_528 : decode cL_law 528 = .ok (.iload 17, 2) := by decide +kernel
theorem dL_law_530 : decode cL_law 530 = .ok (.ifCond .eq 142, 3) := by decide +kernel
theorem dL_law_533 : decode cL_law 533 = .ok (.aload_n 1, 1) := by decide +kernel
theorem dL_law_534 : decode cL_law 534 = .ok (.iconst 1, 1) := by decide +kernel
theorem dL_law_535 : decode cL_law 535 = .ok (.invokevirtual 132, 3) := by decide +kernel
theorem dL_law_538 : decode cL_law 538 = .ok (.istore 19, 2) := by decide +kernel
theorem dL_law_540 : decode cL_law 540 = .ok (.iload 18, 2) := by decide +kernel
theorem dL_law_542 : decode cL_law 542 = .ok (.iconst (-1), 1) := by decide +kernel
theorem dL_law_543 : decode cL_law 543 = .ok (.if_icmp .ne 22, 3) := by decide +kernel
theorem dL_law_546 : decode cL_law 546 = .ok (.aload_n 1, 1) := by decide +kernel
theorem dL_law_547 : decode cL_law 547 = .ok (.iconst 0, 1) := by decide +kernel
theorem dL_law_548 : decode cL_law 548 = .ok (.invokevirtual 132, 3) := by decide +kernel
theorem dL_law_551 : decode cL_law 551 = .ok (.iload 17, 2) := by decide +kernel
theorem dL_law_553 : decode cL_law 553 = .ok (.if_icmp .ne 12, 3) := by decide +kernel
theorem dL_law_556 : decode cL_law 556 = .ok (.aload_n 1, 1) := by decide +kernel
theorem dL_law_557 : decode cL_law 557 = .ok (.invokestatic 94, 3) := by decide +kernel
theorem dL_law_560 : decode cL_law 560 = .ok (.iload 4, 2) := by decide +kernel
theorem dL_law_562 : decode cL_law 562 = .ok (.if_icmp .eq 5, 3) := by decide +kernel
theorem dL_law_565 : decode cL_law 565 = .ok (.iconst 0, 1) := by decide +kernel
theorem dL_law_566 : decode cL_law 566 = .ok (.ireturn, 1) := by decide +kernel
theorem dL_law_567 : decode cL_law 567 = .ok (.iload 17, 2) := by decide +kernel
theorem dL_law_569 : decode cL_law 569 = .ok (.iconst 1, 1) := by decide +kernel
theorem dL_law_570 : decode cL_law 570 = .ok (.if_icmp .ne 10, 3) := by decide +kernel
theorem dL_law_573 : decode cL_law 573 = .ok (.iload 19, 2) := by decide +kernel
theorem dL_law_575 : decode cL_law 575 = .ok (.bipush 10, 2) := by decide +kernel
theorem dL_law_577 : decode cL_law 577 = .ok (.if_icmp .ne 57, 3) := by decide +kernel
theorem dL_law_580 : decode cL_law 580 = .ok (.iload 17, 2) := by decide +kernel
theorem dL_law_582 : decode cL_law 582 = .ok (.iconst 4, 1) := by decide +kernel
theorem dL_law_583 : decode cL_law 583 = .ok (.if_icmp .ne 10, 3) := by decide +kernel
theorem dL_law_586 : decode cL_law 586 = .ok (.iload 19, 2) := by decide +kernel
theorem dL_law_588 : decode cL_law 588 = .ok (.iload 15, 2) := by decide +kernel
theorem dL_law_590 : decode cL_law 590 = .ok (.if_icmp .ne 44, 3) := by decide +kernel
theorem dL_law_593 : decode cL_law 593 = .ok (.iload 17, 2) := by decide +kernel
theorem dL_law_595 : decode cL_law 595 = .ok (.iconst 5, 1) := by decide +kernel
theorem dL_law_596 : decode cL_law 596 = .ok (.if_icmp .ne 10, 3) := by decide +kernel
theorem dL_law_599 : decode cL_law 599 = .ok (.iload 19, 2) := by decide +kernel
theorem dL_law_601 : decode cL_law 601 = .ok (.iload 16, 2) := by decide +kernel
theorem dL_law_603 : decode cL_law 603 = .ok (.if_icmp .ne 31, 3) := by decide +kernel
theorem dL_law_606 : decode cL_law 606 = .ok (.iload 17, 2) := by decide +kernel
theorem dL_law_608 : decode cL_law 608 = .ok (.bipush 6, 2) := by decide +kernel
theorem dL_law_610 : decode cL_law 610 = .ok (.if_icmp .ne 10, 3) := by decide +kernel
theorem dL_law_613 : decode cL_law 613 = .ok (.iload 19, 2) := by decide +kernel
theorem dL_law_615 : decode cL_law 615 = .ok (.iload 13, 2) := by decide +kernel
theorem dL_law_617 : decode cL_law 617 = .ok (.if_icmp .ne 17, 3) := by decide +kernel
theorem dL_law_620 : decode cL_law 620 = .ok (.iload 17, 2) := by decide +kernel
theorem dL_law_622 : decode cL_law 622 = .ok (.bipush 7, 2) := by decide +kernel
theorem dL_law_624 : decode cL_law 624 = .ok (.if_icmp .ne 12, 3) := by decide +kernel
theorem dL_law_627 : decode cL_law 627 = .ok (.iload 19, 2) := by decide +kernel
theorem dL_law_629 : decode cL_law 629 = .ok (.iload 12, 2) := by decide +kernel
theorem dL_law_631 : decode cL_law 631 = .ok (.if_icmp .eq 5, 3) := by decide +kernel
theorem dL_law_634 : decode cL_law 634 = .ok (.iconst 0, 1) := by decide +kernel
theorem dL_law_635 : decode cL_law 635 = .ok (.ireturn, 1) := by decide +kernel
theorem dL_law_636 : decode cL_law 636 = .ok (.iload 17, 2) := by decide +kernel
theorem dL_law_638 : decode cL_law 638 = .ok (.bipush 8, 2) := by decide +kernel
theorem dL_law_640 : decode cL_law 640 = .ok (.if_icmp .ne 29, 3) := by decide +kernel
theorem dL_law_643 : decode cL_law 643 = .ok (.aload_n 1, 1) := by decide +kernel
theorem dL_law_644 : decode cL_law 644 = .ok (.iload 7, 2) := by decide +kernel
theorem dL_law_646 : decode cL_law 646 = .ok (.iload 19, 2) := by decide +kernel
theorem dL_law_648 : decode cL_law 648 = .ok (.iconst 3, 1) := by decide +kernel
theorem dL_law_649 : decode cL_law 649 = .ok (.invokevirtual 79, 3) := by decide +kernel
theorem dL_law_652 : decode cL_law 652 = .ok (.aload_n 1, 1) := by decide +kernel
theorem dL_law_653 : decode cL_law 653 = .ok (.iload 7, 2) := by decide +kernel
theorem dL_law_655 : decode cL_law 655 = .ok (.iload 19, 2) := by decide +kernel
theorem dL_law_657 : decode cL_law 657 = .ok (.iconst 2, 1) := by decide +kernel
theorem dL_law_658 : decode cL_law 658 = .ok (.invokevirtual 79, 3) := by decide +kernel
theorem dL_law_661 : decode cL_law 661 = .ok (.iload 10, 2) := by decide +kernel
theorem dL_law_663 : decode cL_law 663 = .ok (.iadd, 1) := by decide +kernel
theorem dL_law_664 : decode cL_law 664 = .ok (.if_icmp .lt 5, 3) := by decide +kernel
theorem dL_law_667 : decode cL_law 667 = .ok (.iconst 0, 1) := by decide +kernel
theorem dL_law_668 : decode cL_law 668 = .ok (.ireturn, 1) := by decide +kernel
theorem dL_law_669 : decode cL_law 669 = .ok (.goto 115, 3) := by decide +kernel
theorem dL_law_672 : decode cL_law 672 = .ok (.iload 18, 2) := by decide +kernel
theorem dL_law_674 : decode cL_law 674 = .ok (.iload 11, 2) := by decide +kernel
theorem dL_law_676 : decode cL_law 676 = .ok (.if_icmp .ne 61, 3) := by decide +kernel
theorem dL_law_679 : decode cL_law 679 = .ok (.aload_n 1, 1) := by decide +kernel
theorem dL_law_680 : decode cL_law 680 = .ok (.iload 7, 2) := by decide +kernel
theorem dL_law_682 : decode cL_law 682 = .ok (.iload 11, 2) := by decide +kernel
theorem dL_law_684 : decode cL_law 684 = .ok (.iconst 0, 1) := by decide +kernel
theorem dL_law_685 : decode cL_law 685 = .ok (.invokevirtual 79, 3) := by decide +kernel
theorem dL_law_688 : decode cL_law 688 = .ok (.iload 9, 2) := by decide +kernel
theorem dL_law_690 : decode cL_law 690 = .ok (.if_icmp .ne 47, 3) := by decide +kernel
theorem dL_law_693 : decode cL_law 693 = .ok (.aload_n 1, 1) := by decide +kernel
theorem dL_law_694 : decode cL_law 694 = .ok (.iload 7, 2) := by decide +kernel
theorem dL_law_696 : decode cL_law 696 = .ok (.iload 11, 2) := by decide +kernel
theorem dL_law_698 : decode cL_law 698 = .ok (.iconst 1, 1) := by decide +kernel
theorem dL_law_699 : decode cL_law 699 = .ok (.invokevirtual 79, 3) := by decide +kernel
theorem dL_law_702 : decode cL_law 702 = .ok (.iload 10, 2) := by decide +kernel
theorem dL_law_704 : decode cL_law 704 = .ok (.if_icmp .ne 33, 3) := by decide +kernel
theorem dL_law_707 : decode cL_law 707 = .ok (.aload_n 1, 1) := by decide +kernel
theorem dL_law_708 : decode cL_law 708 = .ok (.iload 9, 2) := by decide +kernel
theorem dL_law_710 : decode cL_law 710 = .ok (.invokevirtual 70, 3) := by decide +kernel
theorem dL_law_713 : decode cL_law 713 = .ok (.iload 13, 2) := by decide +kernel
theorem dL_law_715 : decode cL_law 715 = .ok (.iload 10, 2) := by decide +kernel
theorem dL_law_717 : decode cL_law 717 = .ok (.isub, 1) := by decide +kernel
theorem dL_law_718 : decode cL_law 718 = .ok (.if_icmp .ne 19, 3) := by decide +kernel
theorem dL_law_721 : decode cL_law 721 = .ok (.aload_n 1, 1) := by decide +kernel
theorem dL_law_722 : decode cL_law 722 = .ok (.iload 8, 2) := by decide +kernel
theorem dL_law_724 : decode cL_law 724 = .ok (.iconst 1, 1) := by decide +kernel
theorem dL_law_725 : decode cL_law 725 = .ok (.invokevirtual 73, 3) := by decide +kernel
theorem dL_law_728 : decode cL_law 728 = .ok (.iload 10, 2) := by decide +kernel
theorem dL_law_730 : decode cL_law 730 = .ok (.iconst 5, 1) := by decide +kernel
theorem dL_law_731 : decode cL_law 731 = .ok (.idiv, 1) := by decide +kernel
theorem dL_law_732 : decode cL_law 732 = .ok (.iconst 1, 1) := by decide +kernel
theorem dL_law_733 : decode cL_law 733 = .ok (.iadd, 1) := by decide +kernel
theorem dL_law_734 : decode cL_law 734 = .ok (.if_icmp .eq 5, 3) := by decide +kernel
theorem dL_law_737 : decode cL_law 737 = .ok (.iconst 0, 1) := by decide +kernel
theorem dL_law_738 : decode cL_law 738 = .ok (.ireturn, 1) := by decide +kernel
theorem dL_law_739 : decode cL_law 739 = .ok (.aload_n 1, 1) := by decide +kernel
theorem dL_law_740 : decode cL_law 740 = .ok (.iconst 1, 1) := by decide +kernel
theorem dL_law_741 : decode cL_law 741 = .ok (.iload 7, 2) := by decide +kernel
theorem dL_law_743 : decode cL_law 743 = .ok (.iconst 0, 1) := by decide +kernel
theorem dL_law_744 : decode cL_law 744 = .ok (.iconst 0, 1) := by decide +kernel
theorem dL_law_745 : decode cL_law 745 = .ok (.iconst 0, 1) := by decide +kernel
theorem dL_law_746 : decode cL_law 746 = .ok (.invokestatic 44, 3) := by decide +kernel
theorem dL_law_749 : decode cL_law 749 = .ok (.iload 10, 2) := by decide +kernel
theorem dL_law_751 : decode cL_law 751 = .ok (.if_icmp .ne 26, 3) := by decide +kernel
theorem dL_law_754 : decode cL_law 754 = .ok (.aload_n 1, 1) := by decide +kernel
theorem dL_law_755 : decode cL_law 755 = .ok (.iload 9, 2) := by decide +kernel
theorem dL_law_757 : decode cL_law 757 = .ok (.invokevirtual 70, 3) := by decide +kernel
theorem dL_law_760 : decode cL_law 760 = .ok (.iload 13, 2) := by decide +kernel
theorem dL_law_762 : decode cL_law 762 = .ok (.if_icmp .ne 15, 3) := by decide +kernel
theorem dL_law_765 : decode cL_law 765 = .ok (.aload_n 1, 1) := by decide +kernel
theorem dL_law_766 : decode cL_law 766 = .ok (.iload 7, 2) := by decide +kernel
theorem dL_law_768 : decode cL_law 768 = .ok (.iconst 0, 1) := by decide +kernel
theorem dL_law_769 : decode cL_law 769 = .ok (.invokevirtual 76, 3) := by decide +kernel
theorem dL_law_772 : decode cL_law 772 = .ok (.iload 11, 2) := by decide +kernel
theorem dL_law_774 : decode cL_law 774 = .ok (.if_icmp .eq 5, 3) := by decide +kernel
theorem dL_law_777 : decode cL_law 777 = .ok (.iconst 0, 1) := by decide +kernel
theorem dL_law_778 : decode cL_law 778 = .ok (.ireturn, 1) := by decide +kernel
theorem dL_law_779 : decode cL_law 779 = .ok (.aload_n 1, 1) := by decide +kernel
theorem dL_law_780 : decode cL_law 780 = .ok (.invokevirtual 136, 3) := by decide +kernel
theorem dL_law_783 : decode cL_law 783 = .ok (.pop, 1) := by decide +kernel
theorem dL_law_784 : decode cL_law 784 = .ok (.aload_n 1, 1) := by decide +kernel
theorem dL_law_785 : decode cL_law 785 = .ok (.iconst 1, 1) := by decide +kernel
theorem dL_law_786 : decode cL_law 786 = .ok (.invokevirtual 48, 3) := by decide +kernel
theorem dL_law_789 : decode cL_law 789 = .ok (.istore 19, 2) := by decide +kernel
theorem dL_law_791 : decode cL_law 791 = .ok (.iconst 1, 1) := by decide +kernel
theorem dL_law_792 : decode cL_law 792 = .ok (.iload 6, 2) := by decide +kernel
theorem dL_law_794 : decode cL_law 794 = .ok (.bipush 9, 2) := by decide +kernel
theorem dL_law_796 : decode cL_law 796 = .ok (.ishr, 1) := by decide +kernel
theorem dL_law_797 : decode cL_law 797 = .ok (.bipush 31, 2) := by decide +kernel
theorem dL_law_799 : decode cL_law 799 = .ok (.iand, 1) := by decide +kernel
theorem dL_law_800 : decode cL_law 800 = .ok (.iadd, 1) := by decide +kernel
theorem dL_law_801 : decode cL_law 801 = .ok (.istore 20, 2) := by decide +kernel
theorem dL_law_803 : decode cL_law 803 = .ok (.iload 20, 2) := by decide +kernel
theorem dL_law_805 : decode cL_law 805 = .ok (.iload 9, 2) := by decide +kernel
theorem dL_law_807 : decode cL_law 807 = .ok (.iconst 1, 1) := by decide +kernel
theorem dL_law_808 : decode cL_law 808 = .ok (.iadd, 1) := by decide +kernel
theorem dL_law_809 : decode cL_law 809 = .ok (.imul, 1) := by decide +kernel
theorem dL_law_810 : decode cL_law 810 = .ok (.istore 21, 2) := by decide +kernel
theorem dL_law_812 : decode cL_law 812 = .ok (.aload_n 1, 1) := by decide +kernel
theorem dL_law_813 : decode cL_law 813 = .ok (.iconst 2, 1) := by decide +kernel
theorem dL_law_814 : decode cL_law 814 = .ok (.iload 9, 2) := by decide +kernel
theorem dL_law_816 : decode cL_law 816 = .ok (.iload 20, 2) := by decide +kernel
theorem dL_law_818 : decode cL_law 818 = .ok (.iconst 0, 1) := by decide +kernel
theorem dL_law_819 : decode cL_law 819 = .ok (.iconst 0, 1) := by decide +kernel
theorem dL_law_820 : decode cL_law 820 = .ok (.invokestatic 44, 3) := by decide +kernel
theorem dL_law_823 : decode cL_law 823 = .ok (.istore 22, 2) := by decide +kernel
theorem dL_law_825 : decode cL_law 825 = .ok (.iload 13, 2) := by decide +kernel
theorem dL_law_827 : decode cL_law 827 = .ok (.iload 20, 2) := by decide +kernel
theorem dL_law_829 : decode cL_law 829 = .ok (.iadd, 1) := by decide +kernel
theorem dL_law_830 : decode cL_law 830 = .ok (.sipush 300, 3) := by decide +kernel
theorem dL_law_833 : decode cL_law 833 = .ok (.if_icmp .le 31, 3) := by decide +kernel
theorem dL_law_836 : decode cL_law 836 = .ok (.iload 22, 2) := by decide +kernel
theorem dL_law_838 : decode cL_law 838 = .ok (.iconst (-1), 1) := by decide +kernel
theorem dL_law_839 : decode cL_law 839 = .ok (.if_icmp .ne 86, 3) := by decide +kernel
theorem dL_law_842 : decode cL_law 842 = .ok (.aload_n 1, 1) := by decide +kernel
theorem dL_law_843 : decode cL_law 843 = .ok (.iconst 0, 1) := by decide +kernel
theorem dL_law_844 : decode cL_law 844 = .ok (.invokevirtual 132, 3) := by decide +kernel
theorem dL_law_847 : decode cL_law 847 = .ok (.iconst 3, 1) := by decide +kernel
theorem dL_law_848 : decode cL_law 848 = .ok (.if_icmp .ne 77, 3) := by decide +kernel
theorem dL_law_851 : decode cL_law 851 = .ok (.aload_n 1, 1) := by decide +kernel
theorem dL_law_852 : decode cL_law 852 = .ok (.iconst 1, 1) := by decide +kernel
theorem dL_law_853 : decode cL_law 853 = .ok (.invokevirtual 132, 3) := by decide +kernel
theorem dL_law_856 : decode cL_law 856 = .ok (.iload 13, 2) := by decide +kernel
theorem dL_law_858 : decode cL_law 858 = .ok (.if_icmp .eq 69, 3) := by decide +kernel
theorem dL_law_861 : decode cL_law 861 = .ok (.goto 64, 3) := by decide +kernel
theorem dL_law_864 : decode cL_law 864 = .ok (.iload 19, 2) := by decide +kernel
theorem dL_law_866 : decode cL_law 866 = .ok (.iload 21, 2) := by decide +kernel
theorem dL_law_868 : decode cL_law 868 = .ok (.if_icmp .ge 34, 3) := by decide +kernel
theorem dL_law_871 : decode cL_law 871 = .ok (.iload 22, 2) := by decide +kernel
theorem dL_law_873 : decode cL_law 873 = .ok (.iconst (-1), 1) := by decide +kernel
theorem dL_law_874 : decode cL_law 874 = .ok (.if_icmp .ne 51, 3) := by decide +kernel
theorem dL_law_877 : decode cL_law 877 = .ok (.aload_n 1, 1) := by decide +kernel
theorem dL_law_878 : decode cL_law 878 = .ok (.iconst 0, 1) := by decide +kernel
theorem dL_law_879 : decode cL_law 879 = .ok (.invokevirtual 132, 3) := by decide +kernel
theorem dL_law_882 : decode cL_law 882 = .ok (.iconst 2, 1) := by decide +kernel
theorem dL_law_883 : decode cL_law 883 = .ok (.if_icmp .ne 42, 3) := by decide +kernel
theorem dL_law_886 : decode cL_law 886 = .ok (.aload_n 1, 1) := by decide +kernel
theorem dL_law_887 : decode cL_law 887 = .ok (.iconst 1, 1) := by decide +kernel
theorem dL_law_888 : decode cL_law 888 = .ok (.invokevirtual 132, 3) := by decide +kernel
theorem dL_law_891 : decode cL_law 891 = .ok (.iload 21, 2) := by decide +kernel
theorem dL_law_893 : decode cL_law 893 = .ok (.iload 19, 2) := by decide +kernel
theorem dL_law_895 : decode cL_law 895 = .ok (.isub, 1) := by decide +kernel
theorem dL_law_896 : decode cL_law 896 = .ok (.if_icmp .eq 31, 3) := by decide +kernel
theorem dL_law_899 : decode cL_law 899 = .ok (.goto 26, 3) := by decide +kernel
theorem dL_law_902 : decode cL_law 902 = .ok (.iload 22, 2) := by decide +kernel
theorem dL_law_904 : decode cL_law 904 = .ok (.iload 13, 2) := by decide +kernel
theorem dL_law_906 : decode cL_law 906 = .ok (.iload 20, 2) := by decide +kernel
theorem dL_law_908 : decode cL_law 908 = .ok (.iadd, 1) := by decide +kernel
theorem dL_law_909 : decode cL_law 909 = .ok (.if_icmp .ne 16, 3) := by decide +kernel
theorem dL_law_912 : decode cL_law 912 = .ok (.aload_n 1, 1) := by decide +kernel
theorem dL_law_913 : decode cL_law 913 = .ok (.iconst 1, 1) := by decide +kernel
theorem dL_law_914 : decode cL_law 914 = .ok (.invokevirtual 48, 3) := by decide +kernel
theorem dL_law_917 : decode cL_law 917 = .ok (.iload 19, 2) := by decide +kernel
theorem dL_law_919 : decode cL_law 919 = .ok (.iload 21, 2) := by decide +kernel
theorem dL_law_921 : decode cL_law 921 = .ok (.isub, 1) := by decide +kernel
theorem dL_law_922 : decode cL_law 922 = .ok (.if_icmp .eq 5, 3) := by decide +kernel
theorem dL_law_925 : decode cL_law 925 = .ok (.iconst 0, 1) := by decide +kernel
theorem dL_law_926 : decode cL_law 926 = .ok (.ireturn, 1) := by decide +kernel
theorem dL_law_927 : decode cL_law 927 = .ok (.aload_n 1, 1) := by decide +kernel
theorem dL_law_928 : decode cL_law 928 = .ok (.invokevirtual 136, 3) := by decide +kernel
theorem dL_law_931 : decode cL_law 931 = .ok (.pop, 1) := by decide +kernel
theorem dL_law_932 : decode cL_law 932 = .ok (.aload_n 1, 1) := by decide +kernel
theorem dL_law_933 : decode cL_law 933 = .ok (.iconst 0, 1) := by decide +kernel
theorem dL_law_934 : decode cL_law 934 = .ok (.invokevirtual 48, 3) := by decide +kernel
theorem dL_law_937 : decode cL_law 937 = .ok (.istore 23, 2) := by decide +kernel
theorem dL_law_939 : decode cL_law 939 = .ok (.aload_n 1, 1) := by decide +kernel
theorem dL_law_940 : decode cL_law 940 = .ok (.iconst 5, 1) := by decide +kernel
theorem dL_law_941 : decode cL_law 941 = .ok (.invokevirtual 48, 3) := by decide +kernel
theorem dL_law_944 : decode cL_law 944 = .ok (.istore 24, 2) := by decide +kernel
theorem dL_law_946 : decode cL_law 946 = .ok (.iload 24, 2) := by decide +kernel
theorem dL_law_948 : decode cL_law 948 = .ok (.bipush 6, 2) := by decide +kernel
theorem dL_law_950 : decode cL_law 950 = .ok (.if_icmp .ge 143, 3) := by decide +kernel
theorem dL_law_953 : decode cL_law 953 = .ok (.aload_n 1, 1) := by decide +kernel
theorem dL_law_954 : decode cL_law 954 = .ok (.iconst 3, 1) := by decide +kernel
theorem dL_law_955 : decode cL_law 955 = .ok (.iload 23, 2) := by decide +kernel
theorem dL_law_957 : decode cL_law 957 = .ok (.iconst 1, 1) := by decide +kernel
theorem dL_law_958 : decode cL_law 958 = .ok (.iconst 1, 1) := by decide +kernel
theorem dL_law_959 : decode cL_law 959 = .ok (.iconst 0, 1) := by decide +kernel
theorem dL_law_960 : decode cL_law 960 = .ok (.invokestatic 44, 3) := by decide +kernel
theorem dL_law_963 : decode cL_law 963 = .ok (.iconst (-1), 1) := by decide +kernel
theorem dL_law_964 : decode cL_law 964 = .ok (.if_icmp .ne 23, 3) := by decide +kernel
theorem dL_law_967 : decode cL_law 967 = .ok (.aload_n 1, 1) := by decide +kernel
theorem dL_law_968 : decode cL_law 968 = .ok (.iconst 0, 1) := by decide +kernel
theorem dL_law_969 : decode cL_law 969 = .ok (.invokevirtual 132, 3) := by decide +kernel
theorem dL_law_972 : decode cL_law 972 = .ok (.bipush 10, 2) := by decide +kernel
theorem dL_law_974 : decode cL_law 974 = .ok (.if_icmp .ne 13, 3) := by decide +kernel
theorem dL_law_977 : decode cL_law 977 = .ok (.aload_n 1, 1) := by decide +kernel
theorem dL_law_978 : decode cL_law 978 = .ok (.iconst 1, 1) := by decide +kernel
theorem dL_law_979 : decode cL_law 979 = .ok (.invokevirtual 132, 3) := by decide +kernel
theorem dL_law_982 : decode cL_law 982 = .ok (.iload 23, 2) := by decide +kernel
theorem dL_law_984 : decode cL_law 984 = .ok (.if_icmp .eq 5, 3) := by decide +kernel
theorem dL_law_987 : decode cL_law 987 = .ok (.iconst 0, 1) := by decide +kernel
theorem dL_law_988 : decode cL_law 988 = .ok (.ireturn, 1) := by decide +kernel
theorem dL_law_989 : decode cL_law 989 = .ok (.aload_n 1, 1) := by decide +kernel
theorem dL_law_990 : decode cL_law 990 = .ok (.iconst 3, 1) := by decide +kernel
theorem dL_law_991 : decode cL_law 991 = .ok (.iload 23, 2) := by decide +kernel
theorem dL_law_993 : decode cL_law 993 = .ok (.bipush 9, 2) := by decide +kernel
theorem dL_law_995 : decode cL_law 995 = .ok (.iadd, 1) := by decide +kernel
theorem dL_law_996 : decode cL_law 996 = .ok (.iconst 2, 1) := by decide +kernel
theorem dL_law_997 : decode cL_law 997 = .ok (.bipush 7, 2) := by decide +kernel
theorem dL_law_999 : decode cL_law 999 = .ok (.iconst 0, 1) := by decide +kernel
theorem dL_law_1000 : decode cL_law 1000 = .ok (.invokestatic 44, 3) := by decide +kernel
theorem dL_law_1003 : decode cL_law 1003 = .ok (.istore 25, 2) := by decide +kernel
theorem dL_law_1005 : decode cL_law 1005 = .ok (.iload 25, 2) := by decide +kernel
theorem dL_law_1007 : decode cL_law 1007 = .ok (.ifCond .lt 37, 3) := by decide +kernel
theorem dL_law_1010 : decode cL_law 1010 = .ok (.aload_n 1, 1) := by decide +kernel
theorem dL_law_1011 : decode cL_law 1011 = .ok (.iconst 5, 1) := by decide +kernel
theorem dL_law_1012 : decode cL_law 1012 = .ok (.invokevirtual 48, 3) := by decide +kernel
theorem dL_law_1015 : decode cL_law 1015 = .ok (.iload 24, 2) := by decide +kernel
theorem dL_law_1017 : decode cL_law 1017 = .ok (.iconst 1, 1) := by decide +kernel
theorem dL_law_1018 : decode cL_law 1018 = .ok (.iadd, 1) := by decide +kernel
theorem dL_law_1019 : decode cL_law 1019 = .ok (.if_icmp .ne 25, 3) := by decide +kernel
theorem dL_law_1022 : decode cL_law 1022 = .ok (.aload_n 1, 1) := by decide +kernel
theorem dL_law_1023 : decode cL_law 1023 = .ok (.iload 25, 2) := by decide +kernel
theorem dL_law_1025 : decode cL_law 1025 = .ok (.iconst 3, 1) := by decide +kernel
theorem dL_law_1026 : decode cL_law 1026 = .ok (.invokevirtual 139, 3) := by decide +kernel
theorem dL_law_1029 : decode cL_law 1029 = .ok (.iconst (-1), 1) := by decide +kernel
theorem dL_law_1030 : decode cL_law 1030 = .ok (.if_icmp .ne 14, 3) := by decide +kernel
theorem dL_law_1033 : decode cL_law 1033 = .ok (.aload_n 1, 1) := by decide +kernel
theorem dL_law_1034 : decode cL_law 1034 = .ok (.iload 25, 2) := by decide +kernel
theorem dL_law_1036 : decode cL_law 1036 = .ok (.iconst 4, 1) := by decide +kernel
theorem dL_law_1037 : decode cL_law 1037 = .ok (.invokevirtual 139, 3) := by decide +kernel
theorem dL_law_1040 : decode cL_law 1040 = .ok (.iconst 2, 1) := by decide +kernel
theorem dL_law_1041 : decode cL_law 1041 = .ok (.if_icmp .eq 5, 3) := by decide +kernel
theorem dL_law_1044 : decode cL_law 1044 = .ok (.iconst 0, 1) := by decide +kernel
theorem dL_law_1045 : decode cL_law 1045 = .ok (.ireturn, 1) := by decide +kernel
theorem dL_law_1046 : decode cL_law 1046 = .ok (.aload_n 1, 1) := by decide +kernel
theorem dL_law_1047 : decode cL_law 1047 = .ok (.iload 25, 2) := by decide +kernel
theorem dL_law_1049 : decode cL_law 1049 = .ok (.iload 7, 2) := by decide +kernel
theorem dL_law_1051 : decode cL_law 1051 = .ok (.invokevirtual 51, 3) := by decide +kernel
theorem dL_law_1054 : decode cL_law 1054 = .ok (.iconst 0, 1) := by decide +kernel
theorem dL_law_1055 : decode cL_law 1055 = .ok (.iconst 2, 1) := by decide +kernel
theorem dL_law_1056 : decode cL_law 1056 = .ok (.iload 11, 2) := by decide +kernel
theorem dL_law_1058 : decode cL_law 1058 = .ok (.isub, 1) := by decide +kernel
theorem dL_law_1059 : decode cL_law 1059 = .ok (.invokestatic 82, 3) := by decide +kernel
theorem dL_law_1062 : decode cL_law 1062 = .ok (.if_icmp .ne 26, 3) := by decide +kernel
theorem dL_law_1065 : decode cL_law 1065 = .ok (.aload_n 1, 1) := by decide +kernel
theorem dL_law_1066 : decode cL_law 1066 = .ok (.iload 25, 2) := by decide +kernel
theorem dL_law_1068 : decode cL_law 1068 = .ok (.iconst 3, 1) := by decide +kernel
theorem dL_law_1069 : decode cL_law 1069 = .ok (.invokevirtual 139, 3) := by decide +kernel
theorem dL_law_1072 : decode cL_law 1072 = .ok (.iload 7, 2) := by decide +kernel
theorem dL_law_1074 : decode cL_law 1074 = .ok (.if_icmp .ne 14, 3) := by decide +kernel
theorem dL_law_1077 : decode cL_law 1077 = .ok (.aload_n 1, 1) := by decide +kernel
theorem dL_law_1078 : decode cL_law 1078 = .ok (.iload 25, 2) := by decide +kernel
theorem dL_law_1080 : decode cL_law 1080 = .ok (.invokevirtual 142, 3) := by decide +kernel
theorem dL_law_1083 : decode cL_law 1083 = .ok (.iload 24, 2) := by decide +kernel
theorem dL_law_1085 : decode cL_law 1085 = .ok (.if_icmp .eq 5, 3) := by decide +kernel
theorem dL_law_1088 : decode cL_law 1088 = .ok (.iconst 0, 1) := by decide +kernel
theorem dL_law_1089 : decode cL_law 1089 = .ok (.ireturn, 1) := by decide +kernel
theorem dL_law_1090 : decode cL_law 1090 = .ok (.goto 42, 3) := by decide +kernel
theorem dL_law_1093 : decode cL_law 1093 = .ok (.aload_n 1, 1) := by decide +kernel
theorem dL_law_1094 : decode cL_law 1094 = .ok (.iconst 3, 1) := by decide +kernel
theorem dL_law_1095 : decode cL_law 1095 = .ok (.iload 23, 2) := by decide +kernel
theorem dL_law_1097 : decode cL_law 1097 = .ok (.bipush 9, 2) := by decide +kernel
theorem dL_law_1099 : decode cL_law 1099 = .ok (.iadd, 1) := by decide +kernel
theorem dL_law_1100 : decode cL_law 1100 = .ok (.iconst 2, 1) := by decide +kernel
theorem dL_law_1101 : decode cL_law 1101 = .ok (.bipush 7, 2) := by decide +kernel
theorem dL_law_1103 : decode cL_law 1103 = .ok (.iconst 0, 1) := by decide +kernel
theorem dL_law_1104 : decode cL_law 1104 = .ok (.invokestatic 44, 3) := by decide +kernel
theorem dL_law_1107 : decode cL_law 1107 = .ok (.iconst (-1), 1) := by decide +kernel
theorem dL_law_1108 : decode cL_law 1108 = .ok (.if_icmp .ne 22, 3) := by decide +kernel
theorem dL_law_1111 : decode cL_law 1111 = .ok (.aload_n 1, 1) := by decide +kernel
theorem dL_law_1112 : decode cL_law 1112 = .ok (.iconst 0, 1) := by decide +kernel
theorem dL_law_1113 : decode cL_law 1113 = .ok (.invokevirtual 132, 3) := by decide +kernel
theorem dL_law_1116 : decode cL_law 1116 = .ok (.iconst 1, 1) := by decide +kernel
theorem dL_law_1117 : decode cL_law 1117 = .ok (.if_icmp .ne 13, 3) := by decide +kernel
theorem dL_law_1120 : decode cL_law 1120 = .ok (.aload_n 1, 1) := by decide +kernel
theorem dL_law_1121 : decode cL_law 1121 = .ok (.iconst 1, 1) := by decide +kernel
theorem dL_law_1122 : decode cL_law 1122 = .ok (.invokevirtual 132, 3) := by decide +kernel
theorem dL_law_1125 : decode cL_law 1125 = .ok (.bipush 6, 2) := by decide +kernel
theorem dL_law_1127 : decode cL_law 1127 = .ok (.if_icmp .eq 5, 3) := by decide +kernel
theorem dL_law_1130 : decode cL_law 1130 = .ok (.iconst 0, 1) := by decide +kernel
theorem dL_law_1131 : decode cL_law 1131 = .ok (.ireturn, 1) := by decide +kernel
theorem dL_law_1132 : decode cL_law 1132 = .ok (.aload_n 1, 1) := by decide +kernel
theorem dL_law_1133 : decode cL_law 1133 = .ok (.invokevirtual 136, 3) := by decide +kernel
theorem dL_law_1136 : decode cL_law 1136 = .ok (.iload_n 3, 1) := by decide +kernel
theorem dL_law_1137 : decode cL_law 1137 = .ok (.if_icmp .ne 25, 3) := by decide +kernel
theorem dL_law_1140 : decode cL_law 1140 = .ok (.aload_n 1, 1) := by decide +kernel
theorem dL_law_1141 : decode cL_law 1141 = .ok (.bipush 16, 2) := by decide +kernel
theorem dL_law_1143 : decode cL_law 1143 = .ok (.invokevirtual 48, 3) := by decide +kernel
theorem dL_law_1146 : decode cL_law 1146 = .ok (.ifCond .ne 16, 3) := by decide +kernel
theorem dL_law_1149 : decode cL_law 1149 = .ok (.aload_n 1, 1) := by decide +kernel
theorem dL_law_1150 : decode cL_law 1150 = .ok (.invokestatic 94, 3) := by decide +kernel
theorem dL_law_1153 : decode cL_law 1153 = .ok (.iload 4, 2) := by decide +kernel
theorem dL_law_1155 : decode cL_law 1155 = .ok (.if_icmp .ne 7, 3) := by decide +kernel
theorem dL_law_1158 : decode cL_law 1158 = .ok (.iconst 1, 1) := by decide +kernel
theorem dL_law_1159 : decode cL_law 1159 = .ok (.goto 4, 3) := by decide +kernel
theorem dL_law_1162 : decode cL_law 1162 = .ok (.iconst 0, 1) := by decide +kernel
theorem dL_law_1163 : decode cL_law 1163 = .ok (.ireturn, 1) := by decide +kernel
theorem dL_reads_0 : decode cL_reads 0 = .ok (.aload_n 0, 1) := by decide +kernel
theorem dL_reads_1 : decode cL_reads 1 = .ok (.invokevirtual 104, 3) := by decide +kernel
theorem dL_reads_4 : decode cL_reads 4 = .ok (.ireturn, 1) := by decide +kernel
theorem dL_reads_5 : decode cL_reads 5 = .ok (.astore_n 1, 1) := by decide +kernel
theorem dL_reads_6 : decode cL_reads 6 = .ok (.iconst (-1), 1) := by decide +kernel
theorem dL_reads_7 : decode cL_reads 7 = .ok (.ireturn, 1) := by decide +kernel
theorem dL_reads_8 : decode cL_reads 8 = .ok (.astore_n 1, 1) := by decide +kernel
theorem dL_reads_9 : decode cL_reads 9 = .ok (.bipush (-2), 2) := by decide +kernel
theorem dL_reads_11 : decode cL_reads 11 = .ok (.ireturn, 1) := by decide +kernel
