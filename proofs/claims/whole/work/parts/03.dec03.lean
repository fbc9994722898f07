theorem dX9_takeClause_131 : decode cX9_takeClause 131 = .ok (.getfield 180, 3) := by decide +kernel
theorem dX9_takeClause_134 : decode cX9_takeClause 134 = .ok (.bipush 110, 2) := by decide +kernel
theorem dX9_takeClause_136 : decode cX9_takeClause 136 = .ok (.bipush 105, 2) := by decide +kernel
theorem dX9_takeClause_138 : decode cX9_takeClause 138 = .ok (.bipush 103, 2) := by decide +kernel
theorem dX9_takeClause_140 : decode cX9_takeClause 140 = .ok (.invokestatic 222, 3) := by decide +kernel
theorem dX9_takeClause_143 : decode cX9_takeClause 143 = .ok (.bipush 104, 2) := by decide +kernel
theorem dX9_takeClause_145 : decode cX9_takeClause 145 = .ok (.bipush 116, 2) := by decide +kernel
theorem dX9_takeClause_147 : decode cX9_takeClause 147 = .ok (.invokestatic 226, 3) := by decide +kernel
theorem dX9_takeClause_150 : decode cX9_takeClause 150 = .ok (.lcmp, 1) := by decide +kernel
theorem dX9_takeClause_151 : decode cX9_takeClause 151 = .ok (.ifCond .ne 7, 3) := by decide +kernel
theorem dX9_takeClause_154 : decode cX9_takeClause 154 = .ok (.iconst 4, 1) := by decide +kernel
theorem dX9_takeClause_155 : decode cX9_takeClause 155 = .ok (.goto 31, 3) := by decide +kernel
theorem dX9_takeClause_158 : decode cX9_takeClause 158 = .ok (.aload_n 0, 1) := by decide +kernel
theorem dX9_takeClause_159 : decode cX9_takeClause 159 = .ok (.getfield 180, 3) := by decide +kernel
theorem dX9_takeClause_162 : decode cX9_takeClause 162 = .ok (.bipush 111, 2) := by decide +kernel
theorem dX9_takeClause_164 : decode cX9_takeClause 164 = .ok (.bipush 100, 2) := by decide +kernel
theorem dX9_takeClause_166 : decode cX9_takeClause 166 = .ok (.bipush 100, 2) := by decide +kernel
theorem dX9_takeClause_168 : decode cX9_takeClause 168 = .ok (.invokestatic 222, 3) := by decide +kernel
theorem dX9_takeClause_171 : decode cX9_takeClause 171 = .ok (.bipush 115, 2) := by decide +kernel
theorem dX9_takeClause_173 : decode cX9_takeClause 173 = .ok (.iconst 0, 1) := by decide +kernel
theorem dX9_takeClause_174 : decode cX9_takeClause 174 = .ok (.invokestatic 226, 3) := by decide +kernel
theorem dX9_takeClause_177 : decode cX9_takeClause 177 = .ok (.lcmp, 1) := by decide +kernel
theorem dX9_takeClause_178 : decode cX9_takeClause 178 = .ok (.ifCond .ne 7, 3) := by decide +kernel
theorem dX9_takeClause_181 : decode cX9_takeClause 181 = .ok (.iconst 5, 1) := by decide +kernel
theorem dX9_takeClause_182 : decode cX9_takeClause 182 = .ok (.goto 4, 3) := by decide +kernel
theorem dX9_takeClause_185 : decode cX9_takeClause 185 = .ok (.iconst (-1), 1) := by decide +kernel
theorem dX9_takeClause_186 : decode cX9_takeClause 186 = .ok (.istore_n 2, 1) := by decide +kernel
theorem dX9_takeClause_187 : decode cX9_takeClause 187 = .ok (.iload_n 2, 1) := by decide +kernel
theorem dX9_takeClause_188 : decode cX9_takeClause 188 = .ok (.ifCond .lt 30, 3) := by decide +kernel
theorem dX9_takeClause_191 : decode cX9_takeClause 191 = .ok (.iload_n 2, 1) := by decide +kernel
theorem dX9_takeClause_192 : decode cX9_takeClause 192 = .ok (.ifCond .ne 15, 3) := by decide +kernel
theorem dX9_takeClause_195 : decode cX9_takeClause 195 = .ok (.aload_n 0, 1) := by decide +kernel
theorem dX9_takeClause_196 : decode cX9_takeClause 196 = .ok (.getfield 216, 3) := by decide +kernel
theorem dX9_takeClause_199 : decode cX9_takeClause 199 = .ok (.bipush 9, 2) := by decide +kernel
theorem dX9_takeClause_201 : decode cX9_takeClause 201 = .ok (.if_icmp .ne 35, 3) := by decide +kernel
theorem dX9_takeClause_204 : decode cX9_takeClause 204 = .ok (.goto 14, 3) := by decide +kernel
theorem dX9_takeClause_207 : decode cX9_takeClause 207 = .ok (.aload_n 0, 1) := by decide +kernel
theorem dX9_takeClause_208 : decode cX9_takeClause 208 = .ok (.getfield 237, 3) := by decide +kernel
theorem dX9_takeClause_211 : decode cX9_takeClause 211 = .ok (.iload_n 2, 1) := by decide +kernel
theorem dX9_takeClause_212 : decode cX9_takeClause 212 = .ok (.invokestatic 240, 3) := by decide +kernel
theorem dX9_takeClause_215 : decode cX9_takeClause 215 = .ok (.ifCond .eq 21, 3) := by decide +kernel
theorem dX9_takeClause_218 : decode cX9_takeClause 218 = .ok (.aload_n 0, 1) := by decide +kernel
theorem dX9_takeClause_219 : decode cX9_takeClause 219 = .ok (.iload_n 2, 1) := by decide +kernel
theorem dX9_takeClause_220 : decode cX9_takeClause 220 = .ok (.ifCond .ge 7, 3) := by decide +kernel
theorem dX9_takeClause_223 : decode cX9_takeClause 223 = .ok (.iconst 1, 1) := by decide +kernel
theorem dX9_takeClause_224 : decode cX9_takeClause 224 = .ok (.goto 4, 3) := by decide +kernel
theorem dX9_takeClause_227 : decode cX9_takeClause 227 = .ok (.iconst 3, 1) := by decide +kernel
theorem dX9_takeClause_228 : decode cX9_takeClause 228 = .ok (.aload_n 0, 1) := by decide +kernel
theorem dX9_takeClause_229 : decode cX9_takeClause 229 = .ok (.getfield 173, 3) := by decide +kernel
theorem dX9_takeClause_232 : decode cX9_takeClause 232 = .ok (.invokevirtual 202, 3) := by decide +kernel
theorem dX9_takeClause_235 : decode cX9_takeClause 235 = .ok (.ireturn, 1) := by decide +kernel
theorem dX9_takeClause_236 : decode cX9_takeClause 236 = .ok (.aload_n 0, 1) := by decide +kernel
theorem dX9_takeClause_237 : decode cX9_takeClause 237 = .ok (.aload_n 0, 1) := by decide +kernel
theorem dX9_takeClause_238 : decode cX9_takeClause 238 = .ok (.getfield 183, 3) := by decide +kernel
theorem dX9_takeClause_241 : decode cX9_takeClause 241 = .ok (.putfield 173, 3) := by decide +kernel
theorem dX9_takeClause_244 : decode cX9_takeClause 244 = .ok (.aload_n 0, 1) := by decide +kernel
theorem dX9_takeClause_245 : decode cX9_takeClause 245 = .ok (.dup, 1) := by decide +kernel
theorem dX9_takeClause_246 : decode cX9_takeClause 246 = .ok (.getfield 237, 3) := by decide +kernel
theorem dX9_takeClause_249 : decode cX9_takeClause 249 = .ok (.iconst 1, 1) := by decide +kernel
theorem dX9_takeClause_250 : decode cX9_takeClause 250 = .ok (.iload_n 2, 1) := by decide +kernel
theorem dX9_takeClause_251 : decode cX9_takeClause 251 = .ok (.ishl, 1) := by decide +kernel
theorem dX9_takeClause_252 : decode cX9_takeClause 252 = .ok (.ior, 1) := by decide +kernel
theorem dX9_takeClause_253 : decode cX9_takeClause 253 = .ok (.putfield 237, 3) := by decide +kernel
theorem dX9_takeClause_256 : decode cX9_takeClause 256 = .ok (.iload_n 2, 1) := by decide +kernel
theorem dX9_takeClause_257 : decode cX9_takeClause 257 = .ok (.ifCond .ne 10, 3) := by decide +kernel
theorem dX9_takeClause_260 : decode cX9_takeClause 260 = .ok (.aload_n 0, 1) := by decide +kernel
theorem dX9_takeClause_261 : decode cX9_takeClause 261 = .ok (.invokevirtual 244, 3) := by decide +kernel
theorem dX9_takeClause_264 : decode cX9_takeClause 264 = .ok (.goto 32, 3) := by decide +kernel
theorem dX9_takeClause_267 : decode cX9_takeClause 267 = .ok (.iload_n 2, 1) := by decide +kernel
theorem dX9_takeClause_268 : decode cX9_takeClause 268 = .ok (.iconst 4, 1) := by decide +kernel
theorem dX9_takeClause_269 : decode cX9_takeClause 269 = .ok (.if_icmp .ge 11, 3) := by decide +kernel
theorem dX9_takeClause_272 : decode cX9_takeClause 272 = .ok (.aload_n 0, 1) := by decide +kernel
theorem dX9_takeClause_273 : decode cX9_takeClause 273 = .ok (.iload_n 2, 1) := by decide +kernel
theorem dX9_takeClause_274 : decode cX9_takeClause 274 = .ok (.invokevirtual 247, 3) := by decide +kernel
theorem dX9_takeClause_277 : decode cX9_takeClause 277 = .ok (.goto 19, 3) := by decide +kernel
theorem dX9_takeClause_280 : decode cX9_takeClause 280 = .ok (.iload_n 2, 1) := by decide +kernel
theorem dX9_takeClause_281 : decode cX9_takeClause 281 = .ok (.iconst 4, 1) := by decide +kernel
theorem dX9_takeClause_282 : decode cX9_takeClause 282 = .ok (.if_icmp .ne 10, 3) := by decide +kernel
theorem dX9_takeClause_285 : decode cX9_takeClause 285 = .ok (.aload_n 0, 1) := by decide +kernel
theorem dX9_takeClause_286 : decode cX9_takeClause 286 = .ok (.invokevirtual 251, 3) := by decide +kernel
theorem dX9_takeClause_289 : decode cX9_takeClause 289 = .ok (.goto 7, 3) := by decide +kernel
theorem dX9_takeClause_292 : decode cX9_takeClause 292 = .ok (.aload_n 0, 1) := by decide +kernel
theorem dX9_takeClause_293 : decode cX9_takeClause 293 = .ok (.invokevirtual 254, 3) := by decide +kernel
theorem dX9_takeClause_296 : decode cX9_takeClause 296 = .ok (.istore_n 3, 1) := by decide +kernel
theorem dX9_takeClause_297 : decode cX9_takeClause 297 = .ok (.iload_n 3, 1) := by decide +kernel
theorem dX9_takeClause_298 : decode cX9_takeClause 298 = .ok (.ifCond .ne 22, 3) := by decide +kernel
theorem dX9_takeClause_301 : decode cX9_takeClause 301 = .ok (.aload_n 0, 1) := by decide +kernel
theorem dX9_takeClause_302 : decode cX9_takeClause 302 = .ok (.invokevirtual 176, 3) := by decide +kernel
theorem dX9_takeClause_305 : decode cX9_takeClause 305 = .ok (.bipush 59, 2) := by decide +kernel
theorem dX9_takeClause_307 : decode cX9_takeClause 307 = .ok (.if_icmp .eq 13, 3) := by decide +kernel
theorem dX9_takeClause_310 : decode cX9_takeClause 310 = .ok (.aload_n 0, 1) := by decide +kernel
theorem dX9_takeClause_311 : decode cX9_takeClause 311 = .ok (.iconst 1, 1) := by decide +kernel
theorem dX9_takeClause_312 : decode cX9_takeClause 312 = .ok (.aload_n 0, 1) := by decide +kernel
theorem dX9_takeClause_313 : decode cX9_takeClause 313 = .ok (.getfield 173, 3) := by decide +kernel
theorem dX9_takeClause_316 : decode cX9_takeClause 316 = .ok (.invokevirtual 202, 3) := by decide +kernel
theorem dX9_takeClause_319 : decode cX9_takeClause 319 = .ok (.ireturn, 1) := by decide +kernel
theorem dX9_takeClause_320 : decode cX9_takeClause 320 = .ok (.aload_n 0, 1) := by decide +kernel
theorem dX9_takeClause_321 : decode cX9_takeClause 321 = .ok (.dup, 1) := by decide +kernel
theorem dX9_takeClause_322 : decode cX9_takeClause 322 = .ok (.getfield 173, 3) := by decide +kernel
theorem dX9_takeClause_325 : decode cX9_takeClause 325 = .ok (.iconst 1, 1) := by decide +kernel
theorem dX9_takeClause_326 : decode cX9_takeClause 326 = .ok (.iadd, 1) := by decide +kernel
theorem dX9_takeClause_327 : decode cX9_takeClause 327 = .ok (.putfield 173, 3) := by decide +kernel
theorem dX9_takeClause_330 : decode cX9_takeClause 330 = .ok (.iload_n 3, 1) := by decide +kernel
theorem dX9_takeClause_331 : decode cX9_takeClause 331 = .ok (.ireturn, 1) := by decide +kernel
theorem dX9_reef_0 : decode cX9_reef 0 = .ok (.aload_n 0, 1) := by decide +kernel
theorem dX9_reef_1 : decode cX9_reef 1 = .ok (.iconst (-1), 1) := by decide +kernel
theorem dX9_reef_2 : decode cX9_reef 2 = .ok (.putfield 63, 3) := by decide +kernel
theorem dX9_reef_5 : decode cX9_reef 5 = .ok (.aload_n 0, 1) := by decide +kernel
theorem dX9_reef_6 : decode cX9_reef 6 = .ok (.iconst 0, 1) := by decide +kernel
theorem dX9_reef_7 : decode cX9_reef 7 = .ok (.putfield 173, 3) := by decide +kernel
theorem dX9_reef_10 : decode cX9_reef 10 = .ok (.aload_n 0, 1) := by decide +kernel
theorem dX9_reef_11 : decode cX9_reef 11 = .ok (.iconst 0, 1) := by decide +kernel
theorem dX9_reef_12 : decode cX9_reef 12 = .ok (.putfield 216, 3) := by decide +kernel
theorem dX9_reef_15 : decode cX9_reef 15 = .ok (.aload_n 0, 1) := by decide +kernel
theorem dX9_reef_16 : decode cX9_reef 16 = .ok (.iconst 0, 1) := by decide +kernel
theorem dX9_reef_17 : decode cX9_reef 17 = .ok (.putfield 237, 3) := by decide +kernel
theorem dX9_reef_20 : decode cX9_reef 20 = .ok (.aload_n 0, 1) := by decide +kernel
theorem dX9_reef_21 : decode cX9_reef 21 = .ok (.getfield 69, 3) := by decide +kernel
theorem dX9_reef_24 : decode cX9_reef 24 = .ok (.iconst 0, 1) := by decide +kernel
theorem dX9_reef_25 : decode cX9_reef 25 = .ok (.bipush 20, 2) := by decide +kernel
theorem dX9_reef_27 : decode cX9_reef 27 = .ok (.iastore, 1) := by decide +kernel
theorem dX9_reef_28 : decode cX9_reef 28 = .ok (.aload_n 0, 1) := by decide +kernel
theorem dX9_reef_29 : decode cX9_reef 29 = .ok (.getfield 69, 3) := by decide +kernel
theorem dX9_reef_32 : decode cX9_reef 32 = .ok (.iconst 1, 1) := by decide +kernel
theorem dX9_reef_33 : decode cX9_reef 33 = .ok (.bipush 50, 2) := by decide +kernel
theorem dX9_reef_35 : decode cX9_reef 35 = .ok (.iastore, 1) := by decide +kernel
theorem dX9_reef_36 : decode cX9_reef 36 = .ok (.aload_n 0, 1) := by decide +kernel
theorem dX9_reef_37 : decode cX9_reef 37 = .ok (.getfield 69, 3) := by decide +kernel
theorem dX9_reef_40 : decode cX9_reef 40 = .ok (.iconst 2, 1) := by decide +kernel
theorem dX9_reef_41 : decode cX9_reef 41 = .ok (.sipush 500, 3) := by decide +kernel
theorem dX9_reef_44 : decode cX9_reef 44 = .ok (.iastore, 1) := by decide +kernel
theorem dX9_reef_45 : decode cX9_reef 45 = .ok (.aload_n 0, 1) := by decide +kernel
theorem dX9_reef_46 : decode cX9_reef 46 = .ok (.getfield 69, 3) := by decide +kernel
theorem dX9_reef_49 : decode cX9_reef 49 = .ok (.iconst 3, 1) := by decide +kernel
theorem dX9_reef_50 : decode cX9_reef 50 = .ok (.iconst 0, 1) := by decide +kernel
theorem dX9_reef_51 : decode cX9_reef 51 = .ok (.iastore, 1) := by decide +kernel
theorem dX9_reef_52 : decode cX9_reef 52 = .ok (.aload_n 0, 1) := by decide +kernel
theorem dX9_reef_53 : decode cX9_reef 53 = .ok (.getfield 69, 3) := by decide +kernel
theorem dX9_reef_56 : decode cX9_reef 56 = .ok (.iconst 4, 1) := by decide +kernel
theorem dX9_reef_57 : decode cX9_reef 57 = .ok (.bipush 10, 2) := by decide +kernel
theorem dX9_reef_59 : decode cX9_reef 59 = .ok (.iastore, 1) := by decide +kernel
theorem dX9_reef_60 : decode cX9_reef 60 = .ok (.aload_n 0, 1) := by decide +kernel
theorem dX9_reef_61 : decode cX9_reef 61 = .ok (.iconst 1, 1) := by decide +kernel
theorem dX9_reef_62 : decode cX9_reef 62 = .ok (.putfield 234, 3) := by decide +kernel
theorem dX9_reef_65 : decode cX9_reef 65 = .ok (.aload_n 0, 1) := by decide +kernel
theorem dX9_reef_66 : decode cX9_reef 66 = .ok (.getfield 72, 3) := by decide +kernel
theorem dX9_reef_69 : decode cX9_reef 69 = .ok (.iconst 0, 1) := by decide +kernel
theorem dX9_reef_70 : decode cX9_reef 70 = .ok (.bipush 12, 2) := by decide +kernel
theorem dX9_reef_72 : decode cX9_reef 72 = .ok (.iastore, 1) := by decide +kernel
theorem dX9_reef_73 : decode cX9_reef 73 = .ok (.iconst 0, 1) := by decide +kernel
theorem dX9_reef_74 : decode cX9_reef 74 = .ok (.istore_n 1, 1) := by decide +kernel
theorem dX9_reef_75 : decode cX9_reef 75 = .ok (.iload_n 1, 1) := by decide +kernel
theorem dX9_reef_76 : decode cX9_reef 76 = .ok (.bipush 9, 2) := by decide +kernel
theorem dX9_reef_78 : decode cX9_reef 78 = .ok (.if_icmp .ge 27, 3) := by decide +kernel
theorem dX9_reef_81 : decode cX9_reef 81 = .ok (.aload_n 0, 1) := by decide +kernel
theorem dX9_reef_82 : decode cX9_reef 82 = .ok (.getfield 75, 3) := by decide +kernel
theorem dX9_reef_85 : decode cX9_reef 85 = .ok (.iload_n 1, 1) := by decide +kernel
theorem dX9_reef_86 : decode cX9_reef 86 = .ok (.iload_n 1, 1) := by decide +kernel
theorem dX9_reef_87 : decode cX9_reef 87 = .ok (.iconst 4, 1) := by decide +kernel
theorem dX9_reef_88 : decode cX9_reef 88 = .ok (.irem, 1) := by decide +kernel
theorem dX9_reef_89 : decode cX9_reef 89 = .ok (.ifCond .ne 8, 3) := by decide +kernel
theorem dX9_reef_92 : decode cX9_reef 92 = .ok (.bipush 100, 2) := by decide +kernel
theorem dX9_reef_94 : decode cX9_reef 94 = .ok (.goto 4, 3) := by decide +kernel
theorem dX9_reef_97 : decode cX9_reef 97 = .ok (.iconst 0, 1) := by decide +kernel
theorem dX9_reef_98 : decode cX9_reef 98 = .ok (.iastore, 1) := by decide +kernel
theorem dX9_reef_99 : decode cX9_reef 99 = .ok (.iinc 1 1, 3) := by decide +kernel
theorem dX9_reef_102 : decode cX9_reef 102 = .ok (.goto (-27), 3) := by decide +kernel
theorem dX9_reef_105 : decode cX9_reef 105 = .ok (.iconst 0, 1) := by decide +kernel
theorem dX9_reef_106 : decode cX9_reef 106 = .ok (.istore_n 1, 1) := by decide +kernel
theorem dX9_reef_107 : decode cX9_reef 107 = .ok (.iload_n 1, 1) := by decide +kernel
theorem dX9_reef_108 : decode cX9_reef 108 = .ok (.ifCond .ne 18, 3) := by decide +kernel
theorem dX9_reef_111 : decode cX9_reef 111 = .ok (.aload_n 0, 1) := by decide +kernel
theorem dX9_reef_112 : decode cX9_reef 112 = .ok (.invokevirtual 176, 3) := by decide +kernel
theorem dX9_reef_115 : decode cX9_reef 115 = .ok (.ifCond .lt 11, 3) := by decide +kernel
theorem dX9_reef_118 : decode cX9_reef 118 = .ok (.aload_n 0, 1) := by decide +kernel
theorem dX9_reef_119 : decode cX9_reef 119 = .ok (.invokevirtual 257, 3) := by decide +kernel
theorem dX9_reef_122 : decode cX9_reef 122 = .ok (.istore_n 1, 1) := by decide +kernel
theorem dX9_reef_123 : decode cX9_reef 123 = .ok (.goto (-16), 3) := by decide +kernel
theorem dX9_reef_126 : decode cX9_reef 126 = .ok (.aload_n 0, 1) := by decide +kernel
theorem dX9_reef_127 : decode cX9_reef 127 = .ok (.iconst 0, 1) := by decide +kernel
theorem dX9_reef_128 : decode cX9_reef 128 = .ok (.putfield 167, 3) := by decide +kernel
theorem dX9_reef_131 : decode cX9_reef 131 = .ok (.iload_n 1, 1) := by decide +kernel
theorem dX9_reef_132 : decode cX9_reef 132 = .ok (.ifCond .le 8, 3) := by decide +kernel
theorem dX9_reef_135 : decode cX9_reef 135 = .ok (.bipush (-10), 2) := by decide +kernel
theorem dX9_reef_137 : decode cX9_reef 137 = .ok (.iload_n 1, 1) := by decide +kernel
theorem dX9_reef_138 : decode cX9_reef 138 = .ok (.isub, 1) := by decide +kernel
theorem dX9_reef_139 : decode cX9_reef 139 = .ok (.ireturn, 1) := by decide +kernel
theorem dX9_reef_140 : decode cX9_reef 140 = .ok (.aload_n 0, 1) := by decide +kernel
theorem dX9_reef_141 : decode cX9_reef 141 = .ok (.invokevirtual 260, 3) := by decide +kernel
theorem dX9_reef_144 : decode cX9_reef 144 = .ok (.aload_n 0, 1) := by decide +kernel
theorem dX9_reef_145 : decode cX9_reef 145 = .ok (.getfield 121, 3) := by decide +kernel
theorem dX9_reef_148 : decode cX9_reef 148 = .ok (.ireturn, 1) := by decide +kernel
theorem dX9_takeReef_0 : decode cX9_takeReef 0 = .ok (.aload_n 0, 1) := by decide +kernel
theorem dX9_takeReef_1 : decode cX9_takeReef 1 = .ok (.aload_n 0, 1) := by decide +kernel
theorem dX9_takeReef_2 : decode cX9_takeReef 2 = .ok (.getfield 216, 3) := by decide +kernel
theorem dX9_takeReef_5 : decode cX9_takeReef 5 = .ok (.putfield 121, 3) := by decide +kernel
theorem dX9_takeReef_8 : decode cX9_takeReef 8 = .ok (.iconst 0, 1) := by decide +kernel
theorem dX9_takeReef_9 : decode cX9_takeReef 9 = .ok (.istore_n 1, 1) := by decide +kernel
theorem dX9_takeReef_10 : decode cX9_takeReef 10 = .ok (.iload_n 1, 1) := by decide +kernel
theorem dX9_takeReef_11 : decode cX9_takeReef 11 = .ok (.bipush 45, 2) := by decide +kernel
theorem dX9_takeReef_13 : decode cX9_takeReef 13 = .ok (.if_icmp .ge 21, 3) := by decide +kernel
theorem dX9_takeReef_16 : decode cX9_takeReef 16 = .ok (.aload_n 0, 1) := by decide +kernel
theorem dX9_takeReef_17 : decode cX9_takeReef 17 = .ok (.getfield 7, 3) := by decide +kernel
theorem dX9_takeReef_20 : decode cX9_takeReef 20 = .ok (.iload_n 1, 1) := by decide +kernel
theorem dX9_takeReef_21 : decode cX9_takeReef 21 = .ok (.aload_n 0, 1) := by decide +kernel
theorem dX9_takeReef_22 : decode cX9_takeReef 22 = .ok (.getfield 66, 3) := by decide +kernel
theorem dX9_takeReef_25 : decode cX9_takeReef 25 = .ok (.iload_n 1, 1) := by decide +kernel
theorem dX9_takeReef_26 : decode cX9_takeReef 26 = .ok (.iaload, 1) := by decide +kernel
theorem dX9_takeReef_27 : decode cX9_takeReef 27 = .ok (.iastore, 1) := by decide +kernel
theorem dX9_takeReef_28 : decode cX9_takeReef 28 = .ok (.iinc 1 1, 3) := by decide +kernel
theorem dX9_takeReef_31 : decode cX9_takeReef 31 = .ok (.goto (-21), 3) := by decide +kernel
theorem dX9_takeReef_34 : decode cX9_takeReef 34 = .ok (.aload_n 0, 1) := by decide +kernel
theorem dX9_takeReef_35 : decode cX9_takeReef 35 = .ok (.aload_n 0, 1) := by decide +kernel
theorem dX9_takeReef_36 : decode cX9_takeReef 36 = .ok (.getfield 69, 3) := by decide +kernel
theorem dX9_takeReef_39 : decode cX9_takeReef 39 = .ok (.iconst 0, 1) := by decide +kernel
theorem dX9_takeReef_40 : decode cX9_takeReef 40 = .ok (.iaload, 1) := by decide +kernel
theorem dX9_takeReef_41 : decode cX9_takeReef 41 = .ok (.putfield 13, 3) := by decide +kernel
theorem dX9_takeReef_44 : decode cX9_takeReef 44 = .ok (.aload_n 0, 1) := by decide +kernel
theorem dX9_takeReef_45 : decode cX9_takeReef 45 = .ok (.aload_n 0, 1) := by decide +kernel
theorem dX9_takeReef_46 : decode cX9_takeReef 46 = .ok (.getfield 69, 3) := by decide +kernel
theorem dX9_takeReef_49 : decode cX9_takeReef 49 = .ok (.iconst 1, 1) := by decide +kernel
theorem dX9_takeReef_50 : decode cX9_takeReef 50 = .ok (.iaload, 1) := by decide +kernel
theorem dX9_takeReef_51 : decode cX9_takeReef 51 = .ok (.putfield 17, 3) := by decide +kernel
theorem dX9_takeReef_54 : decode cX9_takeReef 54 = .ok (.aload_n 0, 1) := by decide +kernel
theorem dX9_takeReef_55 : decode cX9_takeReef 55 = .ok (.aload_n 0, 1) := by decide +kernel
theorem dX9_takeReef_56 : decode cX9_takeReef 56 = .ok (.getfield 69, 3) := by decide +kernel
theorem dX9_takeReef_59 : decode cX9_takeReef 59 = .ok (.iconst 2, 1) := by decide +kernel
theorem dX9_takeReef_60 : decode cX9_takeReef 60 = .ok (.iaload, 1) := by decide +kernel
theorem dX9_takeReef_61 : decode cX9_takeReef 61 = .ok (.putfield 20, 3) := by decide +kernel
theorem dX9_takeReef_64 : decode cX9_takeReef 64 = .ok (.aload_n 0, 1) := by decide +kernel
theorem dX9_takeReef_65 : decode cX9_takeReef 65 = .ok (.aload_n 0, 1) := by decide +kernel
theorem dX9_takeReef_66 : decode cX9_takeReef 66 = .ok (.getfield 69, 3) := by decide +kernel
theorem dX9_takeReef_69 : decode cX9_takeReef 69 = .ok (.iconst 3, 1) := by decide +kernel
theorem dX9_takeReef_70 : decode cX9_takeReef 70 = .ok (.iaload, 1) := by decide +kernel
theorem dX9_takeReef_71 : decode cX9_takeReef 71 = .ok (.putfield 263, 3) := by decide +kernel
theorem dX9_takeReef_74 : decode cX9_takeReef 74 = .ok (.aload_n 0, 1) := by decide +kernel
theorem dX9_takeReef_75 : decode cX9_takeReef 75 = .ok (.aload_n 0, 1) := by decide +kernel
theorem dX9_takeReef_76 : decode cX9_takeReef 76 = .ok (.getfield 69, 3) := by decide +kernel
theorem dX9_takeReef_79 : decode cX9_takeReef 79 = .ok (.iconst 4, 1) := by decide +kernel
theorem dX9_takeReef_80 : decode cX9_takeReef 80 = .ok (.iaload, 1) := by decide +kernel
theorem dX9_takeReef_81 : decode cX9_takeReef 81 = .ok (.putfield 23, 3) := by decide +kernel
theorem dX9_takeReef_84 : decode cX9_takeReef 84 = .ok (.aload_n 0, 1) := by decide +kernel
theorem dX9_takeReef_85 : decode cX9_takeReef 85 = .ok (.aload_n 0, 1) := by decide +kernel
theorem dX9_takeReef_86 : decode cX9_takeReef 86 = .ok (.getfield 234, 3) := by decide +kernel
theorem dX9_takeReef_89 : decode cX9_takeReef 89 = .ok (.putfield 26, 3) := by decide +kernel
theorem dX9_takeReef_92 : decode cX9_takeReef 92 = .ok (.iconst 0, 1) := by decide +kernel
theorem dX9_takeReef_93 : decode cX9_takeReef 93 = .ok (.istore_n 1, 1) := by decide +kernel
theorem dX9_takeReef_94 : decode cX9_takeReef 94 = .ok (.iload_n 1, 1) := by decide +kernel
theorem dX9_takeReef_95 : decode cX9_takeReef 95 = .ok (.bipush 12, 2) := by decide +kernel
theorem dX9_takeReef_97 : decode cX9_takeReef 97 = .ok (.if_icmp .ge 21, 3) := by decide +kernel
theorem dX9_takeReef_100 : decode cX9_takeReef 100 = .ok (.aload_n 0, 1) := by decide +kernel
theorem dX9_takeReef_101 : decode cX9_takeReef 101 = .ok (.getfield 29, 3) := by decide +kernel
theorem dX9_takeReef_104 : decode cX9_takeReef 104 = .ok (.iload_n 1, 1) := by decide +kernel
theorem dX9_takeReef_105 : decode cX9_takeReef 105 = .ok (.aload_n 0, 1) := by decide +kernel
theorem dX9_takeReef_106 : decode cX9_takeReef 106 = .ok (.getfield 72, 3) := by decide +kernel
theorem dX9_takeReef_109 : decode cX9_takeReef 109 = .ok (.iload_n 1, 1) := by decide +kernel
theorem dX9_takeReef_110 : decode cX9_takeReef 110 = .ok (.iaload, 1) := by decide +kernel
theorem dX9_takeReef_111 : decode cX9_takeReef 111 = .ok (.iastore, 1) := by decide +kernel
theorem dX9_takeReef_112 : decode cX9_takeReef 112 = .ok (.iinc 1 1, 3) := by decide +kernel
theorem dX9_takeReef_115 : decode cX9_takeReef 115 = .ok (.goto (-21), 3) := by decide +kernel
theorem dX9_takeReef_118 : decode cX9_takeReef 118 = .ok (.iconst 0, 1) := by decide +kernel
theorem dX9_takeReef_119 : decode cX9_takeReef 119 = .ok (.istore_n 1, 1) := by decide +kernel
theorem dX9_takeReef_120 : decode cX9_takeReef 120 = .ok (.iload_n 1, 1) := by decide +kernel
theorem dX9_takeReef_121 : decode cX9_takeReef 121 = .ok (.bipush 9, 2) := by decide +kernel
theorem dX9_takeReef_123 : decode cX9_takeReef 123 = .ok (.if_icmp .ge 28, 3) := by decide +kernel
theorem dX9_takeReef_126 : decode cX9_takeReef 126 = .ok (.aload_n 0, 1) := by decide +kernel
theorem dX9_takeReef_127 : decode cX9_takeReef 127 = .ok (.getfield 32, 3) := by decide +kernel
theorem dX9_takeReef_130 : decode cX9_takeReef 130 = .ok (.iload_n 1, 1) := by decide +kernel
theorem dX9_takeReef_131 : decode cX9_takeReef 131 = .ok (.aload_n 0, 1) := by decide +kernel
theorem dX9_takeReef_132 : decode cX9_takeReef 132 = .ok (.getfield 75, 3) := by decide +kernel
theorem dX9_takeReef_135 : decode cX9_takeReef 135 = .ok (.iload_n 1, 1) := by decide +kernel
theorem dX9_takeReef_136 : decode cX9_takeReef 136 = .ok (.iaload, 1) := by decide +kernel
theorem dX9_takeReef_137 : decode cX9_takeReef 137 = .ok (.iastore, 1) := by decide +kernel
theorem dX9_takeReef_138 : decode cX9_takeReef 138 = .ok (.aload_n 0, 1) := by decide +kernel
theorem dX9_takeReef_139 : decode cX9_takeReef 139 = .ok (.getfield 112, 3) := by decide +kernel
theorem dX9_takeReef_142 : decode cX9_takeReef 142 = .ok (.iload_n 1, 1) := by decide +kernel
theorem dX9_takeReef_143 : decode cX9_takeReef 143 = .ok (.iconst 0, 1) := by decide +kernel
theorem dX9_takeReef_144 : decode cX9_takeReef 144 = .ok (.iastore, 1) := by decide +kernel
theorem dX9_takeReef_145 : decode cX9_takeReef 145 = .ok (.iinc 1 1, 3) := by decide +kernel
theorem dX9_takeReef_148 : decode cX9_takeReef 148 = .ok (.goto (-28), 3) := by decide +kernel
theorem dX9_takeReef_151 : decode cX9_takeReef 151 = .ok (.aload_n 0, 1) := by decide +kernel
theorem dX9_takeReef_152 : decode cX9_takeReef 152 = .ok (.iconst 0, 1) := by decide +kernel
theorem dX9_takeReef_153 : decode cX9_takeReef 153 = .ok (.putfield 266, 3) := by decide +kernel
theorem dX9_takeReef_156 : decode cX9_takeReef 156 = .ok (.aload_n 0, 1) := by decide +kernel
theorem dX9_takeReef_157 : decode cX9_takeReef 157 = .ok (.getfield 88, 3) := by decide +kernel
theorem dX9_takeReef_160 : decode cX9_takeReef 160 = .ok (.iconst 0, 1) := by decide +kernel
theorem dX9_takeReef_161 : decode cX9_takeReef 161 = .ok (.iconst 0, 1) := by decide +kernel
theorem dX9_takeReef_162 : decode cX9_takeReef 162 = .ok (.bastore, 1) := by decide +kernel
theorem dX9_takeReef_163 : decode cX9_takeReef 163 = .ok (.aload_n 0, 1) := by decide +kernel
theorem dX9_takeReef_164 : decode cX9_takeReef 164 = .ok (.getfield 88, 3) := by decide +kernel
theorem dX9_takeReef_167 : decode cX9_takeReef 167 = .ok (.iconst 1, 1) := by decide +kernel
theorem dX9_takeReef_168 : decode cX9_takeReef 168 = .ok (.iconst 0, 1) := by decide +kernel
theorem dX9_takeReef_169 : decode cX9_takeReef 169 = .ok (.bastore, 1) := by decide +kernel
theorem dX9_takeReef_170 : decode cX9_takeReef 170 = .ok (.aload_n 0, 1) := by decide +kernel
theorem dX9_takeReef_171 : decode cX9_takeReef 171 = .ok (.invokevirtual 118, 3) := by decide +kernel
theorem dX9_takeReef_174 : decode cX9_takeReef 174 = .ok (.return_, 1) := by decide +kernel
theorem dX9_takeSky_0 : decode cX9_takeSky 0 = .ok (.aload_n 0, 1) := by decide +kernel
theorem dX9_takeSky_1 : decode cX9_takeSky 1 = .ok (.invokevirtual 219, 3) := by decide +kernel
theorem dX9_takeSky_4 : decode cX9_takeSky 4 = .ok (.aload_n 0, 1) := by decide +kernel
theorem dX9_takeSky_5 : decode cX9_takeSky 5 = .ok (.getfield 180, 3) := by decide +kernel
theorem dX9_takeSky_8 : decode cX9_takeSky 8 = .ok (.bipush 102, 2) := by decide +kernel
theorem dX9_takeSky_10 : decode cX9_takeSky 10 = .ok (.bipush 105, 2) := by decide +kernel
theorem dX9_takeSky_12 : decode cX9_takeSky 12 = .ok (.bipush 110, 2) := by decide +kernel
theorem dX9_takeSky_14 : decode cX9_takeSky 14 = .ok (.invokestatic 222, 3) := by decide +kernel
theorem dX9_takeSky_17 : decode cX9_takeSky 17 = .ok (.bipush 101, 2) := by decide +kernel
theorem dX9_takeSky_19 : decode cX9_takeSky 19 = .ok (.iconst 0, 1) := by decide +kernel
theorem dX9_takeSky_20 : decode cX9_takeSky 20 = .ok (.invokestatic 226, 3) := by decide +kernel
theorem dX9_takeSky_23 : decode cX9_takeSky 23 = .ok (.lcmp, 1) := by decide +kernel
theorem dX9_takeSky_24 : decode cX9_takeSky 24 = .ok (.ifCond .ne 7, 3) := by decide +kernel
theorem dX9_takeSky_27 : decode cX9_takeSky 27 = .ok (.iconst 0, 1) := by decide +kernel
theorem dX9_takeSky_28 : decode cX9_takeSky 28 = .ok (.goto 53, 3) := by decide +kernel
theorem dX9_takeSky_31 : decode cX9_takeSky 31 = .ok (.aload_n 0, 1) := by decide +kernel
theorem dX9_takeSky_32 : decode cX9_takeSky 32 = .ok (.getfield 180, 3) := by decide +kernel
theorem dX9_takeSky_35 : decode cX9_takeSky 35 = .ok (.bipush 114, 2) := by decide +kernel
theorem dX9_takeSky_37 : decode cX9_takeSky 37 = .ok (.bipush 111, 2) := by decide +kernel
theorem dX9_takeSky_39 : decode cX9_takeSky 39 = .ok (.bipush 117, 2) := by decide +kernel
theorem dX9_takeSky_41 : decode cX9_takeSky 41 = .ok (.invokestatic 222, 3) := by decide +kernel
theorem dX9_takeSky_44 : decode cX9_takeSky 44 = .ok (.bipush 103, 2) := by decide +kernel
theorem dX9_takeSky_46 : decode cX9_takeSky 46 = .ok (.bipush 104, 2) := by decide +kernel
theorem dX9_takeSky_48 : decode cX9_takeSky 48 = .ok (.invokestatic 226, 3) := by decide +kernel
theorem dX9_takeSky_51 : decode cX9_takeSky 51 = .ok (.lcmp, 1) := by decide +kernel
theorem dX9_takeSky_52 : decode cX9_takeSky 52 = .ok (.ifCond .ne 7, 3) := by decide +kernel
theorem dX9_takeSky_55 : decode cX9_takeSky 55 = .ok (.iconst 1, 1) := by decide +kernel
theorem dX9_takeSky_56 : decode cX9_takeSky 56 = .ok (.goto 25, 3) := by decide +kernel
theorem dX9_takeSky_59 : decode cX9_takeSky 59 = .ok (.aload_n 0, 1) := by decide +kernel
theorem dX9_takeSky_60 : decode cX9_takeSky 60 = .ok (.getfield 180, 3) := by decide +kernel
theorem dX9_takeSky_63 : decode cX9_takeSky 63 = .ok (.bipush 105, 2) := by decide +kernel
theorem dX9_takeSky_65 : decode cX9_takeSky 65 = .ok (.bipush 99, 2) := by decide +kernel
theorem dX9_takeSky_67 : decode cX9_takeSky 67 = .ok (.bipush 101, 2) := by decide +kernel
theorem dX9_takeSky_69 : decode cX9_takeSky 69 = .ok (.invokestatic 222, 3) := by decide +kernel
theorem dX9_takeSky_72 : decode cX9_takeSky 72 = .ok (.lcmp, 1) := by decide +kernel
theorem dX9_takeSky_73 : decode cX9_takeSky 73 = .ok (.ifCond .ne 7, 3) := by decide +kernel
theorem dX9_takeSky_76 : decode cX9_takeSky 76 = .ok (.iconst 2, 1) := by decide +kernel
theorem dX9_takeSky_77 : decode cX9_takeSky 77 = .ok (.goto 4, 3) := by decide +kernel
theorem dX9_takeSky_80 : decode cX9_takeSky 80 = .ok (.iconst (-1), 1) := by decide +kernel
theorem dX9_takeSky_81 : decode cX9_takeSky 81 = .ok (.istore_n 1, 1) := by decide +kernel
theorem dX9_takeSky_82 : decode cX9_takeSky 82 = .ok (.iload_n 1, 1) := by decide +kernel
theorem dX9_takeSky_83 : decode cX9_takeSky 83 = .ok (.ifCond .lt 12, 3) := by decide +kernel
theorem dX9_takeSky_86 : decode cX9_takeSky 86 = .ok (.aload_n 0, 1) := by decide +kernel
theorem dX9_takeSky_87 : decode cX9_takeSky 87 = .ok (.getfield 269, 3) := by decide +kernel
theorem dX9_takeSky_90 : decode cX9_takeSky 90 = .ok (.bipush 30, 2) := by decide +kernel
theorem dX9_takeSky_92 : decode cX9_takeSky 92 = .ok (.if_icmp .ne 21, 3) := by decide +kernel
theorem dX9_takeSky_95 : decode cX9_takeSky 95 = .ok (.aload_n 0, 1) := by decide +kernel
theorem dX9_takeSky_96 : decode cX9_takeSky 96 = .ok (.iload_n 1, 1) := by decide +kernel
theorem dX9_takeSky_97 : decode cX9_takeSky 97 = .ok (.ifCond .ge 7, 3) := by decide +kernel
theorem dX9_takeSky_100 : decode cX9_takeSky 100 = .ok (.iconst 1, 1) := by decide +kernel
theorem dX9_takeSky_101 : decode cX9_takeSky 101 = .ok (.goto 4, 3) := by decide +kernel
theorem dX9_takeSky_104 : decode cX9_takeSky 104 = .ok (.iconst 3, 1) := by decide +kernel
theorem dX9_takeSky_105 : decode cX9_takeSky 105 = .ok (.aload_n 0, 1) := by decide +kernel
theorem dX9_takeSky_106 : decode cX9_takeSky 106 = .ok (.getfield 173, 3) := by decide +kernel
theorem dX9_takeSky_109 : decode cX9_takeSky 109 = .ok (.invokevirtual 202, 3) := by decide +kernel
theorem dX9_takeSky_112 : decode cX9_takeSky 112 = .ok (.ireturn, 1) := by decide +kernel
theorem dX9_takeSky_113 : decode cX9_takeSky 113 = .ok (.aload_n 0, 1) := by decide +kernel
theorem dX9_takeSky_114 : decode cX9_takeSky 114 = .ok (.aload_n 0, 1) := by decide +kernel
theorem dX9_takeSky_115 : decode cX9_takeSky 115 = .ok (.getfield 183, 3) := by decide +kernel
theorem dX9_takeSky_118 : decode cX9_takeSky 118 = .ok (.putfield 173, 3) := by decide +kernel
theorem dX9_takeSky_121 : decode cX9_takeSky 121 = .ok (.aload_n 0, 1) := by decide +kernel
theorem dX9_takeSky_122 : decode cX9_takeSky 122 = .ok (.getfield 78, 3) := by decide +kernel
theorem dX9_takeSky_125 : decode cX9_takeSky 125 = .ok (.aload_n 0, 1) := by decide +kernel
theorem dX9_takeSky_126 : decode cX9_takeSky 126 = .ok (.getfield 269, 3) := by decide +kernel
theorem dX9_takeSky_129 : decode cX9_takeSky 129 = .ok (.iload_n 1, 1) := by decide +kernel
theorem dX9_takeSky_130 : decode cX9_takeSky 130 = .ok (.iastore, 1) := by decide +kernel
theorem dX9_takeSky_131 : decode cX9_takeSky 131 = .ok (.aload_n 0, 1) := by decide +kernel
theorem dX9_takeSky_132 : decode cX9_takeSky 132 = .ok (.aload_n 0, 1) := by decide +kernel
theorem dX9_takeSky_133 : decode cX9_takeSky 133 = .ok (.getfield 81, 3) := by decide +kernel
theorem dX9_takeSky_136 : decode cX9_takeSky 136 = .ok (.aload_n 0, 1) := by decide +kernel
theorem dX9_takeSky_137 : decode cX9_takeSky 137 = .ok (.getfield 269, 3) := by decide +kernel
theorem dX9_takeSky_140 : decode cX9_takeSky 140 = .ok (.iconst 1, 1) := by decide +kernel
theorem dX9_takeSky_141 : decode cX9_takeSky 141 = .ok (.bipush 99, 2) := by decide +kernel
theorem dX9_takeSky_143 : decode cX9_takeSky 143 = .ok (.invokevirtual 230, 3) := by decide +kernel
theorem dX9_takeSky_146 : decode cX9_takeSky 146 = .ok (.istore_n 2, 1) := by decide +kernel
theorem dX9_takeSky_147 : decode cX9_takeSky 147 = .ok (.aload_n 0, 1) := by decide +kernel
theorem dX9_takeSky_148 : decode cX9_takeSky 148 = .ok (.dup, 1) := by decide +kernel
theorem dX9_takeSky_149 : decode cX9_takeSky 149 = .ok (.getfield 269, 3) := by decide +kernel
theorem dX9_takeSky_152 : decode cX9_takeSky 152 = .ok (.iconst 1, 1) := by decide +kernel
theorem dX9_takeSky_153 : decode cX9_takeSky 153 = .ok (.iadd, 1) := by decide +kernel
theorem dX9_takeSky_154 : decode cX9_takeSky 154 = .ok (.putfield 269, 3) := by decide +kernel
theorem dX9_takeSky_157 : decode cX9_takeSky 157 = .ok (.iload_n 2, 1) := by decide +kernel
theorem dX9_takeSky_158 : decode cX9_takeSky 158 = .ok (.ifCond .ne 22, 3) := by decide +kernel
theorem dX9_takeSky_161 : decode cX9_takeSky 161 = .ok (.aload_n 0, 1) := by decide +kernel
theorem dX9_takeSky_162 : decode cX9_takeSky 162 = .ok (.invokevirtual 176, 3) := by decide +kernel
theorem dX9_takeSky_165 : decode cX9_takeSky 165 = .ok (.bipush 59, 2) := by decide +kernel
theorem dX9_takeSky_167 : decode cX9_takeSky 167 = .ok (.if_icmp .eq 13, 3) := by decide +kernel
theorem dX9_takeSky_170 : decode cX9_takeSky 170 = .ok (.aload_n 0, 1) := by decide +kernel
theorem dX9_takeSky_171 : decode cX9_takeSky 171 = .ok (.iconst 1, 1) := by decide +kernel
theorem dX9_takeSky_172 : decode cX9_takeSky 172 = .ok (.aload_n 0, 1) := by decide +kernel
theorem dX9_takeSky_173 : decode cX9_takeSky 173 = .ok (.getfield 173, 3) := by decide +kernel
theorem dX9_takeSky_176 : decode cX9_takeSky 176 = .ok (.invokevirtual 202, 3) := by decide +kernel
theorem dX9_takeSky_179 : decode cX9_takeSky 179 = .ok (.ireturn, 1) := by decide +kernel
theorem dX9_takeSky_180 : decode cX9_takeSky 180 = .ok (.aload_n 0, 1) := by decide +kernel
theorem dX9_takeSky_181 : decode cX9_takeSky 181 = .ok (.dup, 1) := by decide +kernel
theorem dX9_takeSky_182 : decode cX9_takeSky 182 = .ok (.getfield 173, 3) := by decide +kernel
theorem dX9_takeSky_185 : decode cX9_takeSky 185 = .ok (.iconst 1, 1) := by decide +kernel
theorem dX9_takeSky_186 : decode cX9_takeSky 186 = .ok (.iadd, 1) := by decide +kernel
theorem dX9_takeSky_187 : decode cX9_takeSky 187 = .ok (.putfield 173, 3) := by decide +kernel
theorem dX9_takeSky_190 : decode cX9_takeSky 190 = .ok (.iload_n 2, 1) := by decide +kernel
theorem dX9_takeSky_191 : decode cX9_takeSky 191 = .ok (.ireturn, 1) := by decide +kernel
theorem dX9_skies_0 : decode cX9_skies 0 = .ok (.aload_n 0, 1) := by decide +kernel
theorem dX9_skies_1 : decode cX9_skies 1 = .ok (.getfield 167, 3) := by decide +kernel
theorem dX9_skies_4 : decode cX9_skies 4 = .ok (.sipush 200, 3) := by decide +kernel
theorem dX9_skies_7 : decode cX9_skies 7 = .ok (.if_icmp .le 7, 3) := by decide +kernel
theorem dX9_skies_10 : decode cX9_skies 10 = .ok (.ldc_w 272, 3) := by decide +kernel
theorem dX9_skies_13 : decode cX9_skies 13 = .ok (.ireturn, 1) := by decide +kernel
theorem dX9_skies_14 : decode cX9_skies 14 = .ok (.aload_n 0, 1) := by decide +kernel
theorem dX9_skies_15 : decode cX9_skies 15 = .ok (.iconst (-1), 1) := by decide +kernel
theorem dX9_skies_16 : decode cX9_skies 16 = .ok (.putfield 63, 3) := by decide +kernel
theorem dX9_skies_19 : decode cX9_skies 19 = .ok (.aload_n 0, 1) := by decide +kernel
theorem dX9_skies_20 : decode cX9_skies 20 = .ok (.iconst 0, 1) := by decide +kernel
theorem dX9_skies_21 : decode cX9_skies 21 = .ok (.putfield 173, 3) := by decide +kernel
theorem dX9_skies_24 : decode cX9_skies 24 = .ok (.aload_n 0, 1) := by decide +kernel
theorem dX9_skies_25 : decode cX9_skies 25 = .ok (.iconst 0, 1) := by decide +kernel
theorem dX9_skies_26 : decode cX9_skies 26 = .ok (.putfield 269, 3) := by decide +kernel
theorem dX9_skies_29 : decode cX9_skies 29 = .ok (.iconst 0, 1) := by decide +kernel
theorem dX9_skies_30 : decode cX9_skies 30 = .ok (.istore_n 1, 1) := by decide +kernel
theorem dX9_skies_31 : decode cX9_skies 31 = .ok (.iload_n 1, 1) := by decide +kernel
theorem dX9_skies_32 : decode cX9_skies 32 = .ok (.ifCond .ne 18, 3) := by decide +kernel
theorem dX9_skies_35 : decode cX9_skies 35 = .ok (.aload_n 0, 1) := by decide +kernel
theorem dX9_skies_36 : decode cX9_skies 36 = .ok (.invokevirtual 176, 3) := by decide +kernel
theorem dX9_skies_39 : decode cX9_skies 39 = .ok (.ifCond .lt 11, 3) := by decide +kernel
theorem dX9_skies_42 : decode cX9_skies 42 = .ok (.aload_n 0, 1) := by decide +kernel
theorem dX9_skies_43 : decode cX9_skies 43 = .ok (.invokevirtual 273, 3) := by decide +kernel
theorem dX9_skies_46 : decode cX9_skies 46 = .ok (.istore_n 1, 1) := by decide +kernel
theorem dX9_skies_47 : decode cX9_skies 47 = .ok (.goto (-16), 3) := by decide +kernel
theorem dX9_skies_50 : decode cX9_skies 50 = .ok (.aload_n 0, 1) := by decide +kernel
theorem dX9_skies_51 : decode cX9_skies 51 = .ok (.iconst 0, 1) := by decide +kernel
theorem dX9_skies_52 : decode cX9_skies 52 = .ok (.putfield 167, 3) := by decide +kernel
theorem dX9_skies_55 : decode cX9_skies 55 = .ok (.iload_n 1, 1) := by decide +kernel
theorem dX9_skies_56 : decode cX9_skies 56 = .ok (.ifCond .le 8, 3) := by decide +kernel
theorem dX9_skies_59 : decode cX9_skies 59 = .ok (.bipush (-10), 2) := by decide +kernel
theorem dX9_skies_61 : decode cX9_skies 61 = .ok (.iload_n 1, 1) := by decide +kernel
theorem dX9_skies_62 : decode cX9_skies 62 = .ok (.isub, 1) := by decide +kernel
theorem dX9_skies_63 : decode cX9_skies 63 = .ok (.ireturn, 1) := by decide +kernel
theorem dX9_skies_64 : decode cX9_skies 64 = .ok (.aload_n 0, 1) := by decide +kernel
theorem dX9_skies_65 : decode cX9_skies 65 = .ok (.aload_n 0, 1) := by decide +kernel
theorem dX9_skies_66 : decode cX9_skies 66 = .ok (.getfield 269, 3) := by decide +kernel
theorem dX9_skies_69 : decode cX9_skies 69 = .ok (.putfield 276, 3) := by decide +kernel
theorem dX9_skies_72 : decode cX9_skies 72 = .ok (.iconst 0, 1) := by decide +kernel
theorem dX9_skies_73 : decode cX9_skies 73 = .ok (.istore_n 2, 1) := by decide +kernel
theorem dX9_skies_74 : decode cX9_skies 74 = .ok (.iload_n 2, 1) := by decide +kernel
theorem dX9_skies_75 : decode cX9_skies 75 = .ok (.bipush 30, 2) := by decide +kernel
theorem dX9_skies_77 : decode cX9_skies 77 = .ok (.if_icmp .ge 33, 3) := by decide +kernel
theorem dX9_skies_80 : decode cX9_skies 80 = .ok (.aload_n 0, 1) := by decide +kernel
theorem dX9_skies_81 : decode cX9_skies 81 = .ok (.getfield 35, 3) := by decide +kernel
theorem dX9_skies_84 : decode cX9_skies 84 = .ok (.iload_n 2, 1) := by decide +kernel
theorem dX9_skies_85 : decode cX9_skies 85 = .ok (.aload_n 0, 1) := by decide +kernel
theorem dX9_skies_86 : decode cX9_skies 86 = .ok (.getfield 78, 3) := by decide +kernel
theorem dX9_skies_89 : decode cX9_skies 89 = .ok (.iload_n 2, 1) := by decide +kernel
theorem dX9_skies_90 : decode cX9_skies 90 = .ok (.iaload, 1) := by decide +kernel
theorem dX9_skies_91 : decode cX9_skies 91 = .ok (.iastore, 1) := by decide +kernel
theorem dX9_skies_92 : decode cX9_skies 92 = .ok (.aload_n 0, 1) := by decide +kernel
theorem dX9_skies_93 : decode cX9_skies 93 = .ok (.getfield 38, 3) := by decide +kernel
theorem dX9_skies_96 : decode cX9_skies 96 = .ok (.iload_n 2, 1) := by decide +kernel
theorem dX9_skies_97 : decode cX9_skies 97 = .ok (.aload_n 0, 1) := by decide +kernel
theorem dX9_skies_98 : decode cX9_skies 98 = .ok (.getfield 81, 3) := by decide +kernel
theorem dX9_skies_101 : decode cX9_skies 101 = .ok (.iload_n 2, 1) := by decide +kernel
theorem dX9_skies_102 : decode cX9_skies 102 = .ok (.iaload, 1) := by decide +kernel
theorem dX9_skies_103 : decode cX9_skies 103 = .ok (.iastore, 1) := by decide +kernel
theorem dX9_skies_104 : decode cX9_skies 104 = .ok (.iinc 2 1, 3) := by decide +kernel
theorem dX9_skies_107 : decode cX9_skies 107 = .ok (.goto (-33), 3) := by decide +kernel
theorem dX9_skies_110 : decode cX9_skies 110 = .ok (.aload_n 0, 1) := by decide +kernel
theorem dX9_skies_111 : decode cX9_skies 111 = .ok (.invokevirtual 279, 3) := by decide +kernel
theorem dX9_skies_114 : decode cX9_skies 114 = .ok (.ireturn, 1) := by decide +kernel
theorem dX9_skyAll_0 : decode cX9_skyAll 0 = .ok (.iconst 0, 1) := by decide +kernel
theorem dX9_skyAll_1 : decode cX9_skyAll 1 = .ok (.istore_n 1, 1) := by decide +kernel
theorem dX9_skyAll_2 : decode cX9_skyAll 2 = .ok (.iconst 0, 1) := by decide +kernel
theorem dX9_skyAll_3 : decode cX9_skyAll 3 = .ok (.istore_n 2, 1) := by decide +kernel
theorem dX9_skyAll_4 : decode cX9_skyAll 4 = .ok (.iload_n 2, 1) := by decide +kernel
theorem dX9_skyAll_5 : decode cX9_skyAll 5 = .ok (.aload_n 0, 1) := by decide +kernel
theorem dX9_skyAll_6 : decode cX9_skyAll 6 = .ok (.getfield 276, 3) := by decide +kernel
theorem dX9_skyAll_9 : decode cX9_skyAll 9 = .ok (.if_icmp .ge 18, 3) := by decide +kernel
theorem dX9_skyAll_12 : decode cX9_skyAll 12 = .ok (.iload_n 1, 1) := by decide +kernel
theorem dX9_skyAll_13 : decode cX9_skyAll 13 = .ok (.aload_n 0, 1) := by decide +kernel
theorem dX9_skyAll_14 : decode cX9_skyAll 14 = .ok (.getfield 38, 3) := by decide +kernel
theorem dX9_skyAll_17 : decode cX9_skyAll 17 = .ok (.iload_n 2, 1) := by decide +kernel
theorem dX9_skyAll_18 : decode cX9_skyAll 18 = .ok (.iaload, 1) := by decide +kernel
theorem dX9_skyAll_19 : decode cX9_skyAll 19 = .ok (.iadd, 1) := by decide +kernel
theorem dX9_skyAll_20 : decode cX9_skyAll 20 = .ok (.istore_n 1, 1) := by decide +kernel
theorem dX9_skyAll_21 : decode cX9_skyAll 21 = .ok (.iinc 2 1, 3) := by decide +kernel
theorem dX9_skyAll_24 : decode cX9_skyAll 24 = .ok (.goto (-20), 3) := by decide +kernel
theorem dX9_skyAll_27 : decode cX9_skyAll 27 = .ok (.iload_n 1, 1) := by decide +kernel
theorem dX9_skyAll_28 : decode cX9_skyAll 28 = .ok (.ireturn, 1) := by decide +kernel
theorem dX9_fault_0 : decode cX9_fault 0 = .ok (.aload_n 0, 1) := by decide +kernel
theorem dX9_fault_1 : decode cX9_fault 1 = .ok (.getfield 63, 3) := by decide +kernel
theorem dX9_fault_4 : decode cX9_fault 4 = .ok (.ireturn, 1) := by decide +kernel
theorem dX9_told_0 : decode cX9_told 0 = .ok (.iload_n 1, 1) := by decide +kernel
theorem dX9_told_1 : decode cX9_told 1 = .ok (.tableswitch 170 0 15 #[79, 85, 91, 97, 102, 108, 114, 119, 124, 130, 136, 142, 147, 153, 159, 165], 79) := by decide +kernel
theorem dX9_told_80 : decode cX9_told 80 = .ok (.aload_n 0, 1) := by decide +kernel
theorem dX9_told_81 : decode cX9_told 81 = .ok (.getfield 121, 3) := by decide +kernel
theorem dX9_told_84 : decode cX9_told 84 = .ok (.i2l, 1) := by decide +kernel
theorem dX9_told_85 : decode cX9_told 85 = .ok (.lreturn, 1) := by decide +kernel
theorem dX9_told_86 : decode cX9_told 86 = .ok (.aload_n 0, 1) := by decide +kernel
theorem dX9_told_87 : decode cX9_told 87 = .ok (.getfield 13, 3) := by decide +kernel
theorem dX9_told_90 : decode cX9_told 90 = .ok (.i2l, 1) := by decide +kernel
theorem dX9_told_91 : decode cX9_told 91 = .ok (.lreturn, 1) := by decide +kernel
theorem dX9_told_92 : decode cX9_told 92 = .ok (.aload_n 0, 1) := by decide +kernel
theorem dX9_told_93 : decode cX9_told 93 = .ok (.getfield 17, 3) := by decide +kernel
theorem dX9_told_96 : decode cX9_told 96 = .ok (.i2l, 1) := by decide +kernel
theorem dX9_told_97 : decode cX9_told 97 = .ok (.lreturn, 1) := by decide +kernel
theorem dX9_told_98 : decode cX9_told 98 = .ok (.aload_n 0, 1) := by decide +kernel
theorem dX9_told_99 : decode cX9_told 99 = .ok (.getfield 130, 3) := by decide +kernel
theorem dX9_told_102 : decode cX9_told 102 = .ok (.lreturn, 1) := by decide +kernel
theorem dX9_told_103 : decode cX9_told 103 = .ok (.aload_n 0, 1) := by decide +kernel
theorem dX9_told_104 : decode cX9_told 104 = .ok (.getfield 134, 3) := by decide +kernel
theorem dX9_told_107 : decode cX9_told 107 = .ok (.i2l, 1) := by decide +kernel
theorem dX9_told_108 : decode cX9_told 108 = .ok (.lreturn, 1) := by decide +kernel
theorem dX9_told_109 : decode cX9_told 109 = .ok (.aload_n 0, 1) := by decide +kernel
theorem dX9_told_110 : decode cX9_told 110 = .ok (.getfield 149, 3) := by decide +kernel
theorem dX9_told_113 : decode cX9_told 113 = .ok (.i2l, 1) := by decide +kernel
theorem dX9_told_114 : decode cX9_told 114 = .ok (.lreturn, 1) := by decide +kernel
theorem dX9_told_115 : decode cX9_told 115 = .ok (.aload_n 0, 1) := by decide +kernel
theorem dX9_told_116 : decode cX9_told 116 = .ok (.getfield 152, 3) := by decide +kernel
theorem dX9_told_119 : decode cX9_told 119 = .ok (.lreturn, 1) := by decide +kernel
theorem dX9_told_120 : decode cX9_told 120 = .ok (.aload_n 0, 1) := by decide +kernel
theorem dX9_told_121 : decode cX9_told 121 = .ok (.getfield 155, 3) := by decide +kernel
theorem dX9_told_124 : decode cX9_told 124 = .ok (.lreturn, 1) := by decide +kernel
theorem dX9_told_125 : decode cX9_told 125 = .ok (.aload_n 0, 1) := by decide +kernel
theorem dX9_told_126 : decode cX9_told 126 = .ok (.getfield 167, 3) := by decide +kernel
theorem dX9_told_129 : decode cX9_told 129 = .ok (.i2l, 1) := by decide +kernel
theorem dX9_told_130 : decode cX9_told 130 = .ok (.lreturn, 1) := by decide +kernel
theorem dX9_told_131 : decode cX9_told 131 = .ok (.aload_n 0, 1) := by decide +kernel
theorem dX9_told_132 : decode cX9_told 132 = .ok (.getfield 266, 3) := by decide +kernel
theorem dX9_told_135 : decode cX9_told 135 = .ok (.i2l, 1) := by decide +kernel
theorem dX9_told_136 : decode cX9_told 136 = .ok (.lreturn, 1) := by decide +kernel
theorem dX9_told_137 : decode cX9_told 137 = .ok (.aload_n 0, 1) := by decide +kernel
theorem dX9_told_138 : decode cX9_told 138 = .ok (.invokevirtual 279, 3) := by decide +kernel
theorem dX9_told_141 : decode cX9_told 141 = .ok (.i2l, 1) := by decide +kernel
theorem dX9_told_142 : decode cX9_told 142 = .ok (.lreturn, 1) := by decide +kernel
theorem dX9_told_143 : decode cX9_told 143 = .ok (.aload_n 0, 1) := by decide +kernel
theorem dX9_told_144 : decode cX9_told 144 = .ok (.getfield 137, 3) := by decide +kernel
theorem dX9_told_147 : decode cX9_told 147 = .ok (.lreturn, 1) := by decide +kernel
theorem dX9_told_148 : decode cX9_told 148 = .ok (.aload_n 0, 1) := by decide +kernel
theorem dX9_told_149 : decode cX9_told 149 = .ok (.getfield 143, 3) := by decide +kernel
theorem dX9_told_152 : decode cX9_told 152 = .ok (.i2l, 1) := by decide +kernel
theorem dX9_told_153 : decode cX9_told 153 = .ok (.lreturn, 1) := by decide +kernel
theorem dX9_told_154 : decode cX9_told 154 = .ok (.aload_n 0, 1) := by decide +kernel
theorem dX9_told_155 : decode cX9_told 155 = .ok (.getfield 146, 3) := by decide +kernel
theorem dX9_told_158 : decode cX9_told 158 = .ok (.i2l, 1) := by decide +kernel
theorem dX9_told_159 : decode cX9_told 159 = .ok (.lreturn, 1) := by decide +kernel
theorem dX9_told_160 : decode cX9_told 160 = .ok (.aload_n 0, 1) := by decide +kernel
theorem dX9_told_161 : decode cX9_told 161 = .ok (.getfield 54, 3) := by decide +kernel
theorem dX9_told_164 : decode cX9_told 164 = .ok (.i2l, 1) := by decide +kernel
theorem dX9_told_165 : decode cX9_told 165 = .ok (.lreturn, 1) := by decide +kernel
theorem dX9_told_166 : decode cX9_told 166 = .ok (.aload_n 0, 1) := by decide +kernel
theorem dX9_told_167 : decode cX9_told 167 = .ok (.getfield 140, 3) := by decide +kernel
theorem dX9_told_170 : decode cX9_told 170 = .ok (.lreturn, 1) := by decide +kernel
theorem dX9_told_171 : decode cX9_told 171 = .ok (.ldc2_w 282, 3) := by decide +kernel
theorem dX9_told_174 : decode cX9_told 174 = .ok (.lreturn, 1) := by decide +kernel
theorem dX9_light_0 : decode cX9_light 0 = .ok (.aload_n 0, 1) := by decide +kernel
theorem dX9_light_1 : decode cX9_light 1 = .ok (.iload_n 1, 1) := by decide +kernel
theorem dX9_light_2 : decode cX9_light 2 = .ok (.invokevirtual 284, 3) := by decide +kernel
theorem dX9_light_5 : decode cX9_light 5 = .ok (.ifCond .ne 7, 3) := by decide +kernel
theorem dX9_light_8 : decode cX9_light 8 = .ok (.ldc_w 288, 3) := by decide +kernel
theorem dX9_light_11 : decode cX9_light 11 = .ok (.ireturn, 1) := by decide +kernel
theorem dX9_light_12 : decode cX9_light 12 = .ok (.iload_n 2, 1) := by decide +kernel
theorem dX9_light_13 : decode cX9_light 13 = .ok (.tableswitch 98 0 8 #[51, 51, 51, 51, 51, 62, 69, 84, 91], 51) := by decide +kernel
theorem dX9_light_64 : decode cX9_light 64 = .ok (.aload_n 0, 1) := by decide +kernel
theorem dX9_light_65 : decode cX9_light 65 = .ok (.getfield 7, 3) := by decide +kernel
theorem dX9_light_68 : decode cX9_light 68 = .ok (.iconst 5, 1) := by decide +kernel
theorem dX9_light_69 : decode cX9_light 69 = .ok (.iload_n 1, 1) := by decide +kernel
theorem dX9_light_70 : decode cX9_light 70 = .ok (.imul, 1) := by decide +kernel
theorem dX9_light_71 : decode cX9_light 71 = .ok (.iload_n 2, 1) := by decide +kernel
theorem dX9_light_72 : decode cX9_light 72 = .ok (.iadd, 1) := by decide +kernel
theorem dX9_light_73 : decode cX9_light 73 = .ok (.iaload, 1) := by decide +kernel
theorem dX9_light_74 : decode cX9_light 74 = .ok (.ireturn, 1) := by decide +kernel
theorem dX9_light_75 : decode cX9_light 75 = .ok (.aload_n 0, 1) := by decide +kernel
theorem dX9_light_76 : decode cX9_light 76 = .ok (.getfield 41, 3) := by decide +kernel
theorem dX9_light_79 : decode cX9_light 79 = .ok (.iload_n 1, 1) := by decide +kernel
theorem dX9_light_80 : decode cX9_light 80 = .ok (.iaload, 1) := by decide +kernel
theorem dX9_light_81 : decode cX9_light 81 = .ok (.ireturn, 1) := by decide +kernel
theorem dX9_light_82 : decode cX9_light 82 = .ok (.aload_n 0, 1) := by decide +kernel
theorem dX9_light_83 : decode cX9_light 83 = .ok (.getfield 44, 3) := by decide +kernel
theorem dX9_light_86 : decode cX9_light 86 = .ok (.iload_n 1, 1) := by decide +kernel
theorem dX9_light_87 : decode cX9_light 87 = .ok (.baload, 1) := by decide +kernel
theorem dX9_light_88 : decode cX9_light 88 = .ok (.ifCond .eq 7, 3) := by decide +kernel
theorem dX9_light_91 : decode cX9_light 91 = .ok (.iconst 1, 1) := by decide +kernel
theorem dX9_light_92 : decode cX9_light 92 = .ok (.goto 4, 3) := by decide +kernel
theorem dX9_light_95 : decode cX9_light 95 = .ok (.iconst 0, 1) := by decide +kernel
theorem dX9_light_96 : decode cX9_light 96 = .ok (.ireturn, 1) := by decide +kernel
theorem dX9_light_97 : decode cX9_light 97 = .ok (.aload_n 0, 1) := by decide +kernel
theorem dX9_light_98 : decode cX9_light 98 = .ok (.getfield 48, 3) := by decide +kernel
theorem dX9_light_101 : decode cX9_light 101 = .ok (.iload_n 1, 1) := by decide +kernel
theorem dX9_light_102 : decode cX9_light 102 = .ok (.iaload, 1) := by decide +kernel
theorem dX9_light_103 : decode cX9_light 103 = .ok (.ireturn, 1) := by decide +kernel
theorem dX9_light_104 : decode cX9_light 104 = .ok (.aload_n 0, 1) := by decide +kernel
theorem dX9_light_105 : decode cX9_light 105 = .ok (.getfield 51, 3) := by decide +kernel
theorem dX9_light_108 : decode cX9_light 108 = .ok (.iload_n 1, 1) := by decide +kernel
theorem dX9_light_109 : decode cX9_light 109 = .ok (.iaload, 1) := by decide +kernel
theorem dX9_light_110 : decode cX9_light 110 = .ok (.ireturn, 1) := by decide +kernel
theorem dX9_light_111 : decode cX9_light 111 = .ok (.ldc 166, 2) := by decide +kernel
theorem dX9_light_113 : decode cX9_light 113 = .ok (.ireturn, 1) := by decide +kernel
theorem dX9_skyOf_0 : decode cX9_skyOf 0 = .ok (.iload_n 1, 1) := by decide +kernel
theorem dX9_skyOf_1 : decode cX9_skyOf 1 = .ok (.istore_n 2, 1) := by decide +kernel
theorem dX9_skyOf_2 : decode cX9_skyOf 2 = .ok (.iconst 0, 1) := by decide +kernel
theorem dX9_skyOf_3 : decode cX9_skyOf 3 = .ok (.istore_n 3, 1) := by decide +kernel
theorem dX9_skyOf_4 : decode cX9_skyOf 4 = .ok (.iload_n 3, 1) := by decide +kernel
theorem dX9_skyOf_5 : decode cX9_skyOf 5 = .ok (.aload_n 0, 1) := by decide +kernel
theorem dX9_skyOf_6 : decode cX9_skyOf 6 = .ok (.getfield 276, 3) := by decide +kernel
theorem dX9_skyOf_9 : decode cX9_skyOf 9 = .ok (.if_icmp .ge 35, 3) := by decide +kernel
theorem dX9_skyOf_12 : decode cX9_skyOf 12 = .ok (.iload_n 2, 1) := by decide +kernel
theorem dX9_skyOf_13 : decode cX9_skyOf 13 = .ok (.aload_n 0, 1) := by decide +kernel
theorem dX9_skyOf_14 : decode cX9_skyOf 14 = .ok (.getfield 38, 3) := by decide +kernel
theorem dX9_skyOf_17 : decode cX9_skyOf 17 = .ok (.iload_n 3, 1) := by decide +kernel
theorem dX9_skyOf_18 : decode cX9_skyOf 18 = .ok (.iaload, 1) := by decide +kernel
theorem dX9_skyOf_19 : decode cX9_skyOf 19 = .ok (.if_icmp .ge 10, 3) := by decide +kernel
theorem dX9_skyOf_22 : decode cX9_skyOf 22 = .ok (.aload_n 0, 1) := by decide +kernel
theorem dX9_skyOf_23 : decode cX9_skyOf 23 = .ok (.getfield 35, 3) := by decide +kernel
theorem dX9_skyOf_26 : decode cX9_skyOf 26 = .ok (.iload_n 3, 1) := by decide +kernel
theorem dX9_skyOf_27 : decode cX9_skyOf 27 = .ok (.iaload, 1) := by decide +kernel
theorem dX9_skyOf_28 : decode cX9_skyOf 28 = .ok (.ireturn, 1) := by decide +kernel
theorem dX9_skyOf_29 : decode cX9_skyOf 29 = .ok (.iload_n 2, 1) := by decide +kernel
theorem dX9_skyOf_30 : decode cX9_skyOf 30 = .ok (.aload_n 0, 1) := by decide +kernel
theorem dX9_skyOf_31 : decode cX9_skyOf 31 = .ok (.getfield 38, 3) := by decide +kernel
theorem dX9_skyOf_34 : decode cX9_skyOf 34 = .ok (.iload_n 3, 1) := by decide +kernel
theorem dX9_skyOf_35 : decode cX9_skyOf 35 = .ok (.iaload, 1) := by decide +kernel
theorem dX9_skyOf_36 : decode cX9_skyOf 36 = .ok (.isub, 1) := by decide +kernel
theorem dX9_skyOf_37 : decode cX9_skyOf 37 = .ok (.istore_n 2, 1) := by decide +kernel
theorem dX9_skyOf_38 : decode cX9_skyOf 38 = .ok (.iinc 3 1, 3) := by decide +kernel
theorem dX9_skyOf_41 : decode cX9_skyOf 41 = .ok (.goto (-37), 3) := by decide +kernel
theorem dX9_skyOf_44 : decode cX9_skyOf 44 = .ok (.iconst 0, 1) := by decide +kernel
theorem dX9_skyOf_45 : decode cX9_skyOf 45 = .ok (.ireturn, 1) := by decide +kernel
theorem dX9_sky_0 : decode cX9_sky 0 = .ok (.iload_n 1, 1) := by decide +kernel
theorem dX9_sky_1 : decode cX9_sky 1 = .ok (.i2l, 1) := by decide +kernel
theorem dX9_sky_2 : decode cX9_sky 2 = .ok (.lconst 0, 1) := by decide +kernel
theorem dX9_sky_3 : decode cX9_sky 3 = .ok (.ldc2_w 289, 3) := by decide +kernel
theorem dX9_sky_6 : decode cX9_sky 6 = .ok (.invokestatic 124, 3) := by decide +kernel
theorem dX9_sky_9 : decode cX9_sky 9 = .ok (.ifCond .eq 11, 3) := by decide +kernel
theorem dX9_sky_12 : decode cX9_sky 12 = .ok (.aload_n 0, 1) := by decide +kernel
theorem dX9_sky_13 : decode cX9_sky 13 = .ok (.iload_n 1, 1) := by decide +kernel
theorem dX9_sky_14 : decode cX9_sky 14 = .ok (.invokevirtual 291, 3) := by decide +kernel
theorem dX9_sky_17 : decode cX9_sky 17 = .ok (.goto 5, 3) := by decide +kernel
theorem dX9_sky_20 : decode cX9_sky 20 = .ok (.ldc 166, 2) := by decide +kernel
theorem dX9_sky_22 : decode cX9_sky 22 = .ok (.ireturn, 1) := by decide +kernel
theorem dX9_odds_0 : decode cX9_odds 0 = .ok (.iload_n 1, 1) := by decide +kernel
theorem dX9_odds_1 : decode cX9_odds 1 = .ok (.invokestatic 294, 3) := by decide +kernel
theorem dX9_odds_4 : decode cX9_odds 4 = .ok (.ifCond .eq 23, 3) := by decide +kernel
theorem dX9_odds_7 : decode cX9_odds 7 = .ok (.iload_n 2, 1) := by decide +kernel
theorem dX9_odds_8 : decode cX9_odds 8 = .ok (.invokestatic 294, 3) := by decide +kernel
theorem dX9_odds_11 : decode cX9_odds 11 = .ok (.ifCond .eq 16, 3) := by decide +kernel
theorem dX9_odds_14 : decode cX9_odds 14 = .ok (.aload_n 0, 1) := by decide +kernel
theorem dX9_odds_15 : decode cX9_odds 15 = .ok (.getfield 32, 3) := by decide +kernel
theorem dX9_odds_18 : decode cX9_odds 18 = .ok (.iconst 3, 1) := by decide +kernel
theorem dX9_odds_19 : decode cX9_odds 19 = .ok (.iload_n 1, 1) := by decide +kernel
theorem dX9_odds_20 : decode cX9_odds 20 = .ok (.imul, 1) := by decide +kernel
theorem dX9_odds_21 : decode cX9_odds 21 = .ok (.iload_n 2, 1) := by decide +kernel
theorem dX9_odds_22 : decode cX9_odds 22 = .ok (.iadd, 1) := by decide +kernel
theorem dX9_odds_23 : decode cX9_odds 23 = .ok (.iaload, 1) := by decide +kernel
theorem dX9_odds_24 : decode cX9_odds 24 = .ok (.goto 6, 3) := by decide +kernel
theorem dX9_odds_27 : decode cX9_odds 27 = .ok (.ldc_w 288, 3) := by decide +kernel
theorem dX9_odds_30 : decode cX9_odds 30 = .ok (.ireturn, 1) := by decide +kernel
theorem dX9_goal_0 : decode cX9_goal 0 = .ok (.iload_n 1, 1) := by decide +kernel
theorem dX9_goal_1 : decode cX9_goal 1 = .ok (.iconst (-1), 1) := by decide +kernel
theorem dX9_goal_2 : decode cX9_goal 2 = .ok (.if_icmp .eq 15, 3) := by decide +kernel
theorem dX9_goal_5 : decode cX9_goal 5 = .ok (.aload_n 0, 1) := by decide +kernel
theorem dX9_goal_6 : decode cX9_goal 6 = .ok (.iload_n 1, 1) := by decide +kernel
theorem dX9_goal_7 : decode cX9_goal 7 = .ok (.invokevirtual 284, 3) := by decide +kernel
theorem dX9_goal_10 : decode cX9_goal 10 = .ok (.ifCond .ne 7, 3) := by decide +kernel
theorem dX9_goal_13 : decode cX9_goal 13 = .ok (.ldc_w 288, 3) := by decide +kernel
theorem dX9_goal_16 : decode cX9_goal 16 = .ok (.ireturn, 1) := by decide +kernel
theorem dX9_goal_17 : decode cX9_goal 17 = .ok (.aload_n 0, 1) := by decide +kernel
theorem dX9_goal_18 : decode cX9_goal 18 = .ok (.getfield 54, 3) := by decide +kernel
theorem dX9_goal_21 : decode cX9_goal 21 = .ok (.istore_n 2, 1) := by decide +kernel
theorem dX9_goal_22 : decode cX9_goal 22 = .ok (.aload_n 0, 1) := by decide +kernel
theorem dX9_goal_23 : decode cX9_goal 23 = .ok (.iload_n 1, 1) := by decide +kernel
theorem dX9_goal_24 : decode cX9_goal 24 = .ok (.putfield 54, 3) := by decide +kernel
theorem dX9_goal_27 : decode cX9_goal 27 = .ok (.iload_n 2, 1) := by decide +kernel
theorem dX9_goal_28 : decode cX9_goal 28 = .ok (.ireturn, 1) := by decide +kernel
theorem dX9_wick_0 : decode cX9_wick 0 = .ok (.aload_n 0, 1) := by decide +kernel
theorem dX9_wick_1 : decode cX9_wick 1 = .ok (.iload_n 1, 1) := by decide +kernel
theorem dX9_wick_2 : decode cX9_wick 2 = .ok (.invokevirtual 284, 3) := by decide +kernel
theorem dX9_wick_5 : decode cX9_wick 5 = .ok (.ifCond .ne 7, 3) := by decide +kernel
theorem dX9_wick_8 : decode cX9_wick 8 = .ok (.ldc_w 288, 3) := by decide +kernel
theorem dX9_wick_11 : decode cX9_wick 11 = .ok (.ireturn, 1) := by decide +kernel
theorem dX9_wick_12 : decode cX9_wick 12 = .ok (.aload_n 0, 1) := by decide +kernel
theorem dX9_wick_13 : decode cX9_wick 13 = .ok (.getfield 44, 3) := by decide +kernel
theorem dX9_wick_16 : decode cX9_wick 16 = .ok (.iload_n 1, 1) := by decide +kernel
theorem dX9_wick_17 : decode cX9_wick 17 = .ok (.baload, 1) := by decide +kernel
theorem dX9_wick_18 : decode cX9_wick 18 = .ok (.ifCond .eq 7, 3) := by decide +kernel
theorem dX9_wick_21 : decode cX9_wick 21 = .ok (.iconst 1, 1) := by decide +kernel
theorem dX9_wick_22 : decode cX9_wick 22 = .ok (.goto 4, 3) := by decide +kernel
theorem dX9_wick_25 : decode cX9_wick 25 = .ok (.iconst 0, 1) := by decide +kernel
theorem dX9_wick_26 : decode cX9_wick 26 = .ok (.istore_n 3, 1) := by decide +kernel
theorem dX9_wick_27 : decode cX9_wick 27 = .ok (.aload_n 0, 1) := by decide +kernel
theorem dX9_wick_28 : decode cX9_wick 28 = .ok (.getfield 44, 3) := by decide +kernel
theorem dX9_wick_31 : decode cX9_wick 31 = .ok (.iload_n 1, 1) := by decide +kernel
theorem dX9_wick_32 : decode cX9_wick 32 = .ok (.iload_n 2, 1) := by decide +kernel
theorem dX9_wick_33 : decode cX9_wick 33 = .ok (.bastore, 1) := by decide +kernel
theorem dX9_wick_34 : decode cX9_wick 34 = .ok (.iload_n 3, 1) := by decide +kernel
theorem dX9_wick_35 : decode cX9_wick 35 = .ok (.ireturn, 1) := by decide +kernel
theorem dX9_needs_0 : decode cX9_needs 0 = .ok (.aload_n 0, 1) := by decide +kernel
theorem dX9_needs_1 : decode cX9_needs 1 = .ok (.getfield 7, 3) := by decide +kernel
theorem dX9_needs_4 : decode cX9_needs 4 = .ok (.iconst 5, 1) := by decide +kernel
theorem dX9_needs_5 : decode cX9_needs 5 = .ok (.iload_n 1, 1) := by decide +kernel
theorem dX9_needs_6 : decode cX9_needs 6 = .ok (.imul, 1) := by decide +kernel
theorem dX9_needs_7 : decode cX9_needs 7 = .ok (.iaload, 1) := by decide +kernel
theorem dX9_needs_8 : decode cX9_needs 8 = .ok (.istore 4, 2) := by decide +kernel
theorem dX9_needs_10 : decode cX9_needs 10 = .ok (.aload_n 0, 1) := by decide +kernel
theorem dX9_needs_11 : decode cX9_needs 11 = .ok (.getfield 7, 3) := by decide +kernel
theorem dX9_needs_14 : decode cX9_needs 14 = .ok (.iconst 5, 1) := by decide +kernel
theorem dX9_needs_15 : decode cX9_needs 15 = .ok (.iload_n 1, 1) := by decide +kernel
theorem dX9_needs_16 : decode cX9_needs 16 = .ok (.imul, 1) := by decide +kernel
theorem dX9_needs_17 : decode cX9_needs 17 = .ok (.iconst 2, 1) := by decide +kernel
theorem dX9_needs_18 : decode cX9_needs 18 = .ok (.iadd, 1) := by decide +kernel
theorem dX9_needs_19 : decode cX9_needs 19 = .ok (.iaload, 1) := by decide +kernel
theorem dX9_needs_20 : decode cX9_needs 20 = .ok (.aload_n 0, 1) := by decide +kernel
theorem dX9_needs_21 : decode cX9_needs 21 = .ok (.getfield 29, 3) := by decide +kernel
theorem dX9_needs_24 : decode cX9_needs 24 = .ok (.iload_n 2, 1) := by decide +kernel
theorem dX9_needs_25 : decode cX9_needs 25 = .ok (.bipush 10, 2) := by decide +kernel
theorem dX9_needs_27 : decode cX9_needs 27 = .ok (.idiv, 1) := by decide +kernel
theorem dX9_needs_28 : decode cX9_needs 28 = .ok (.aload_n 0, 1) := by decide +kernel
theorem dX9_needs_29 : decode cX9_needs 29 = .ok (.getfield 26, 3) := by decide +kernel
theorem dX9_needs_32 : decode cX9_needs 32 = .ok (.irem, 1) := by decide +kernel
theorem dX9_needs_33 : decode cX9_needs 33 = .ok (.iaload, 1) := by decide +kernel
theorem dX9_needs_34 : decode cX9_needs 34 = .ok (.imul, 1) := by decide +kernel
theorem dX9_needs_35 : decode cX9_needs 35 = .ok (.bipush 10, 2) := by decide +kernel
theorem dX9_needs_37 : decode cX9_needs 37 = .ok (.idiv, 1) := by decide +kernel
theorem dX9_needs_38 : decode cX9_needs 38 = .ok (.istore 5, 2) := by decide +kernel
theorem dX9_needs_40 : decode cX9_needs 40 = .ok (.iload 4, 2) := by decide +kernel
theorem dX9_needs_42 : decode cX9_needs 42 = .ok (.iconst 1, 1) := by decide +kernel
theorem dX9_needs_43 : decode cX9_needs 43 = .ok (.if_icmp .ne 10, 3) := by decide +kernel
theorem dX9_needs_46 : decode cX9_needs 46 = .ok (.iconst 2, 1) := by decide +kernel
theorem dX9_needs_47 : decode cX9_needs 47 = .ok (.iload 5, 2) := by decide +kernel
theorem dX9_needs_49 : decode cX9_needs 49 = .ok (.imul, 1) := by decide +kernel
theorem dX9_needs_50 : decode cX9_needs 50 = .ok (.goto 5, 3) := by decide +kernel
theorem dX9_needs_53 : decode cX9_needs 53 = .ok (.iload 5, 2) := by decide +kernel
theorem dX9_needs_55 : decode cX9_needs 55 = .ok (.istore 5, 2) := by decide +kernel
theorem dX9_needs_57 : decode cX9_needs 57 = .ok (.aload_n 0, 1) := by decide +kernel
theorem dX9_needs_58 : decode cX9_needs 58 = .ok (.getfield 44, 3) := by decide +kernel
theorem dX9_needs_61 : decode cX9_needs 61 = .ok (.iload_n 1, 1) := by decide +kernel
theorem dX9_needs_62 : decode cX9_needs 62 = .ok (.baload, 1) := by decide +kernel
theorem dX9_needs_63 : decode cX9_needs 63 = .ok (.ifCond .eq 14, 3) := by decide +kernel
theorem dX9_needs_66 : decode cX9_needs 66 = .ok (.iload_n 3, 1) := by decide +kernel
theorem dX9_needs_67 : decode cX9_needs 67 = .ok (.ifCond .ne 10, 3) := by decide +kernel
theorem dX9_needs_70 : decode cX9_needs 70 = .ok (.iload 5, 2) := by decide +kernel
theorem dX9_needs_72 : decode cX9_needs 72 = .ok (.iconst 2, 1) := by decide +kernel
theorem dX9_needs_73 : decode cX9_needs 73 = .ok (.idiv, 1) := by decide +kernel
theorem dX9_needs_74 : decode cX9_needs 74 = .ok (.goto 5, 3) := by decide +kernel
theorem dX9_needs_77 : decode cX9_needs 77 = .ok (.iload 5, 2) := by decide +kernel
theorem dX9_needs_79 : decode cX9_needs 79 = .ok (.istore 5, 2) := by decide +kernel
theorem dX9_needs_81 : decode cX9_needs 81 = .ok (.iload 4, 2) := by decide +kernel
theorem dX9_needs_83 : decode cX9_needs 83 = .ok (.iconst 4, 1) := by decide +kernel
theorem dX9_needs_84 : decode cX9_needs 84 = .ok (.if_icmp .eq 14, 3) := by decide +kernel
theorem dX9_needs_87 : decode cX9_needs 87 = .ok (.iload 4, 2) := by decide +kernel
theorem dX9_needs_89 : decode cX9_needs 89 = .ok (.iconst 3, 1) := by decide +kernel
theorem dX9_needs_90 : decode cX9_needs 90 = .ok (.if_icmp .ne 12, 3) := by decide +kernel
theorem dX9_needs_93 : decode cX9_needs 93 = .ok (.iload_n 3, 1) := by decide +kernel
theorem dX9_needs_94 : decode cX9_needs 94 = .ok (.iconst 2, 1) := by decide +kernel
theorem dX9_needs_95 : decode cX9_needs 95 = .ok (.if_icmp .ne 7, 3) := by decide +kernel
theorem dX9_needs_98 : decode cX9_needs 98 = .ok (.iconst 0, 1) := by decide +kernel
theorem dX9_needs_99 : decode cX9_needs 99 = .ok (.goto 5, 3) := by decide +kernel
theorem dX9_needs_102 : decode cX9_needs 102 = .ok (.iload 5, 2) := by decide +kernel
theorem dX9_needs_104 : decode cX9_needs 104 = .ok (.ireturn, 1) := by decide +kernel
theorem dX9_isOut_0 : decode cX9_isOut 0 = .ok (.aload_n 0, 1) := by decide +kernel
theorem dX9_isOut_1 : decode cX9_isOut 1 = .ok (.getfield 7, 3) := by decide +kernel
theorem dX9_isOut_4 : decode cX9_isOut 4 = .ok (.iconst 5, 1) := by decide +kernel
theorem dX9_isOut_5 : decode cX9_isOut 5 = .ok (.iload_n 1, 1) := by decide +kernel
theorem dX9_isOut_6 : decode cX9_isOut 6 = .ok (.imul, 1) := by decide +kernel
theorem dX9_isOut_7 : decode cX9_isOut 7 = .ok (.iaload, 1) := by decide +kernel
theorem dX9_isOut_8 : decode cX9_isOut 8 = .ok (.iconst 4, 1) := by decide +kernel
theorem dX9_isOut_9 : decode cX9_isOut 9 = .ok (.if_icmp .ne 8, 3) := by decide +kernel
theorem dX9_isOut_12 : decode cX9_isOut 12 = .ok (.iload_n 2, 1) := by decide +kernel
theorem dX9_isOut_13 : decode cX9_isOut 13 = .ok (.iconst 1, 1) := by decide +kernel
theorem dX9_isOut_14 : decode cX9_isOut 14 = .ok (.if_icmp .eq 20, 3) := by decide +kernel
theorem dX9_isOut_17 : decode cX9_isOut 17 = .ok (.aload_n 0, 1) := by decide +kernel
theorem dX9_isOut_18 : decode cX9_isOut 18 = .ok (.getfield 7, 3) := by decide +kernel
theorem dX9_isOut_21 : decode cX9_isOut 21 = .ok (.iconst 5, 1) := by decide +kernel
theorem dX9_isOut_22 : decode cX9_isOut 22 = .ok (.iload_n 1, 1) := by decide +kernel
theorem dX9_isOut_23 : decode cX9_isOut 23 = .ok (.imul, 1) := by decide +kernel
theorem dX9_isOut_24 : decode cX9_isOut 24 = .ok (.iaload, 1) := by decide +kernel
theorem dX9_isOut_25 : decode cX9_isOut 25 = .ok (.iconst 3, 1) := by decide +kernel
theorem dX9_isOut_26 : decode cX9_isOut 26 = .ok (.if_icmp .ne 12, 3) := by decide +kernel
theorem dX9_isOut_29 : decode cX9_isOut 29 = .ok (.iload_n 2, 1) := by decide +kernel
theorem dX9_isOut_30 : decode cX9_isOut 30 = .ok (.iconst 2, 1) := by decide +kernel
theorem dX9_isOut_31 : decode cX9_isOut 31 = .ok (.if_icmp .ne 7, 3) := by decide +kernel
theorem dX9_isOut_34 : decode cX9_isOut 34 = .ok (.iconst 1, 1) := by decide +kernel
theorem dX9_isOut_35 : decode cX9_isOut 35 = .ok (.goto 4, 3) := by decide +kernel
theorem dX9_isOut_38 : decode cX9_isOut 38 = .ok (.iconst 0, 1) := by decide +kernel
theorem dX9_isOut_39 : decode cX9_isOut 39 = .ok (.ireturn, 1) := by decide +kernel
theorem dX9_leak_0 : decode cX9_leak 0 = .ok (.iload_n 0, 1) := by decide +kernel
theorem dX9_leak_1 : decode cX9_leak 1 = .ok (.ifCond .ne 7, 3) := by decide +kernel
theorem dX9_leak_4 : decode cX9_leak 4 = .ok (.iconst 0, 1) := by decide +kernel
theorem dX9_leak_5 : decode cX9_leak 5 = .ok (.goto 17, 3) := by decide +kernel
theorem dX9_leak_8 : decode cX9_leak 8 = .ok (.iload_n 0, 1) := by decide +kernel
theorem dX9_leak_9 : decode cX9_leak 9 = .ok (.bipush 10, 2) := by decide +kernel
theorem dX9_leak_11 : decode cX9_leak 11 = .ok (.if_icmp .ge 7, 3) := by decide +kernel
theorem dX9_leak_14 : decode cX9_leak 14 = .ok (.iconst 1, 1) := by decide +kernel
theorem dX9_leak_15 : decode cX9_leak 15 = .ok (.goto 7, 3) := by decide +kernel
theorem dX9_leak_18 : decode cX9_leak 18 = .ok (.iload_n 0, 1) := by decide +kernel
theorem dX9_leak_19 : decode cX9_leak 19 = .ok (.bipush 10, 2) := by decide +kernel
theorem dX9_leak_21 : decode cX9_leak 21 = .ok (.idiv, 1) := by decide +kernel
theorem dX9_leak_22 : decode cX9_leak 22 = .ok (.ireturn, 1) := by decide +kernel
theorem dX9_burn_0 : decode cX9_burn 0 = .ok (.aload_n 0, 1) := by decide +kernel
theorem dX9_burn_1 : decode cX9_burn 1 = .ok (.iload_n 1, 1) := by decide +kernel
theorem dX9_burn_2 : decode cX9_burn 2 = .ok (.aload_n 0, 1) := by decide +kernel
theorem dX9_burn_3 : decode cX9_burn 3 = .ok (.getfield 149, 3) := by decide +kernel
theorem dX9_burn_6 : decode cX9_burn 6 = .ok (.iload_n 2, 1) := by decide +kernel
theorem dX9_burn_7 : decode cX9_burn 7 = .ok (.invokevirtual 297, 3) := by decide +kernel
theorem dX9_burn_10 : decode cX9_burn 10 = .ok (.istore_n 3, 1) := by decide +kernel
theorem dX9_burn_11 : decode cX9_burn 11 = .ok (.aload_n 0, 1) := by decide +kernel
theorem dX9_burn_12 : decode cX9_burn 12 = .ok (.getfield 41, 3) := by decide +kernel
theorem dX9_burn_15 : decode cX9_burn 15 = .ok (.iload_n 1, 1) := by decide +kernel
theorem dX9_burn_16 : decode cX9_burn 16 = .ok (.iaload, 1) := by decide +kernel
theorem dX9_burn_17 : decode cX9_burn 17 = .ok (.iload_n 3, 1) := by decide +kernel
theorem dX9_burn_18 : decode cX9_burn 18 = .ok (.if_icmp .lt 12, 3) := by decide +kernel
theorem dX9_burn_21 : decode cX9_burn 21 = .ok (.aload_n 0, 1) := by decide +kernel
theorem dX9_burn_22 : decode cX9_burn 22 = .ok (.iload_n 1, 1) := by decide +kernel
theorem dX9_burn_23 : decode cX9_burn 23 = .ok (.iload_n 2, 1) := by decide +kernel
theorem dX9_burn_24 : decode cX9_burn 24 = .ok (.invokevirtual 301, 3) := by decide +kernel
theorem dX9_burn_27 : decode cX9_burn 27 = .ok (.ifCond .eq 7, 3) := by decide +kernel
theorem dX9_burn_30 : decode cX9_burn 30 = .ok (.iconst 1, 1) := by decide +kernel
theorem dX9_burn_31 : decode cX9_burn 31 = .ok (.goto 4, 3) := by decide +kernel
theorem dX9_burn_34 : decode cX9_burn 34 = .ok (.iconst 0, 1) := by decide +kernel
theorem dX9_burn_35 : decode cX9_burn 35 = .ok (.istore 4, 2) := by decide +kernel
theorem dX9_burn_37 : decode cX9_burn 37 = .ok (.aload_n 0, 1) := by decide +kernel
theorem dX9_burn_38 : decode cX9_burn 38 = .ok (.getfield 41, 3) := by decide +kernel
theorem dX9_burn_41 : decode cX9_burn 41 = .ok (.iload_n 1, 1) := by decide +kernel
theorem dX9_burn_42 : decode cX9_burn 42 = .ok (.iaload, 1) := by decide +kernel
theorem dX9_burn_43 : decode cX9_burn 43 = .ok (.iload_n 3, 1) := by decide +kernel
theorem dX9_burn_44 : decode cX9_burn 44 = .ok (.if_icmp .ge 12, 3) := by decide +kernel
theorem dX9_burn_47 : decode cX9_burn 47 = .ok (.aload_n 0, 1) := by decide +kernel
theorem dX9_burn_48 : decode cX9_burn 48 = .ok (.getfield 41, 3) := by decide +kernel
theorem dX9_burn_51 : decode cX9_burn 51 = .ok (.iload_n 1, 1) := by decide +kernel
theorem dX9_burn_52 : decode cX9_burn 52 = .ok (.iaload, 1) := by decide +kernel
theorem dX9_burn_53 : decode cX9_burn 53 = .ok (.goto 4, 3) := by decide +kernel
theorem dX9_burn_56 : decode cX9_burn 56 = .ok (.iload_n 3, 1) := by decide +kernel
theorem dX9_burn_57 : decode cX9_burn 57 = .ok (.istore 5, 2) := by decide +kernel
theorem dX9_burn_59 : decode cX9_burn 59 = .ok (.aload_n 0, 1) := by decide +kernel
theorem dX9_burn_60 : decode cX9_burn 60 = .ok (.getfield 41, 3) := by decide +kernel
theorem dX9_burn_63 : decode cX9_burn 63 = .ok (.iload_n 1, 1) := by decide +kernel
theorem dX9_burn_64 : decode cX9_burn 64 = .ok (.dup2, 1) := by decide +kernel
theorem dX9_burn_65 : decode cX9_burn 65 = .ok (.iaload, 1) := by decide +kernel
theorem dX9_burn_66 : decode cX9_burn 66 = .ok (.iload 5, 2) := by decide +kernel
theorem dX9_burn_68 : decode cX9_burn 68 = .ok (.isub, 1) := by decide +kernel
theorem dX9_burn_69 : decode cX9_burn 69 = .ok (.iastore, 1) := by decide +kernel
theorem dX9_burn_70 : decode cX9_burn 70 = .ok (.aload_n 0, 1) := by decide +kernel
theorem dX9_burn_71 : decode cX9_burn 71 = .ok (.getfield 7, 3) := by decide +kernel
theorem dX9_burn_74 : decode cX9_burn 74 = .ok (.iconst 5, 1) := by decide +kernel
theorem dX9_burn_75 : decode cX9_burn 75 = .ok (.iload_n 1, 1) := by decide +kernel
theorem dX9_burn_76 : decode cX9_burn 76 = .ok (.imul, 1) := by decide +kernel
theorem dX9_burn_77 : decode cX9_burn 77 = .ok (.iaload, 1) := by decide +kernel
theorem dX9_burn_78 : decode cX9_burn 78 = .ok (.iconst 2, 1) := by decide +kernel
theorem dX9_burn_79 : decode cX9_burn 79 = .ok (.if_icmp .ne 15, 3) := by decide +kernel
theorem dX9_burn_82 : decode cX9_burn 82 = .ok (.aload_n 0, 1) := by decide +kernel
theorem dX9_burn_83 : decode cX9_burn 83 = .ok (.getfield 41, 3) := by decide +kernel
theorem dX9_burn_86 : decode cX9_burn 86 = .ok (.iload_n 1, 1) := by decide +kernel
theorem dX9_burn_87 : decode cX9_burn 87 = .ok (.iaload, 1) := by decide +kernel
theorem dX9_burn_88 : decode cX9_burn 88 = .ok (.invokestatic 304, 3) := by decide +kernel
theorem dX9_burn_91 : decode cX9_burn 91 = .ok (.goto 4, 3) := by decide +kernel
theorem dX9_burn_94 : decode cX9_burn 94 = .ok (.iconst 0, 1) := by decide +kernel
theorem dX9_burn_95 : decode cX9_burn 95 = .ok (.istore 6, 2) := by decide +kernel
theorem dX9_burn_97 : decode cX9_burn 97 = .ok (.aload_n 0, 1) := by decide +kernel
theorem dX9_burn_98 : decode cX9_burn 98 = .ok (.getfield 41, 3) := by decide +kernel
theorem dX9_burn_101 : decode cX9_burn 101 = .ok (.iload_n 1, 1) := by decide +kernel
theorem dX9_burn_102 : decode cX9_burn 102 = .ok (.dup2, 1) := by decide +kernel
theorem dX9_burn_103 : decode cX9_burn 103 = .ok (.iaload, 1) := by decide +kernel
theorem dX9_burn_104 : decode cX9_burn 104 = .ok (.iload 6, 2) := by decide +kernel
theorem dX9_burn_106 : decode cX9_burn 106 = .ok (.isub, 1) := by decide +kernel
theorem dX9_burn_107 : decode cX9_burn 107 = .ok (.iastore, 1) := by decide +kernel
theorem dX9_burn_108 : decode cX9_burn 108 = .ok (.aload_n 0, 1) := by decide +kernel
theorem dX9_burn_109 : decode cX9_burn 109 = .ok (.dup, 1) := by decide +kernel
theorem dX9_burn_110 : decode cX9_burn 110 = .ok (.getfield 137, 3) := by decide +kernel
theorem dX9_burn_113 : decode cX9_burn 113 = .ok (.iload 5, 2) := by decide +kernel
theorem dX9_burn_115 : decode cX9_burn 115 = .ok (.iload 6, 2) := by decide +kernel
theorem dX9_burn_117 : decode cX9_burn 117 = .ok (.iadd, 1) := by decide +kernel
theorem dX9_burn_118 : decode cX9_burn 118 = .ok (.i2l, 1) := by decide +kernel
theorem dX9_burn_119 : decode cX9_burn 119 = .ok (.ladd, 1) := by decide +kernel
theorem dX9_burn_120 : decode cX9_burn 120 = .ok (.putfield 137, 3) := by decide +kernel
theorem dX9_burn_123 : decode cX9_burn 123 = .ok (.aload_n 0, 1) := by decide +kernel
theorem dX9_burn_124 : decode cX9_burn 124 = .ok (.getfield 48, 3) := by decide +kernel
theorem dX9_burn_127 : decode cX9_burn 127 = .ok (.iload_n 1, 1) := by decide +kernel
theorem dX9_burn_128 : decode cX9_burn 128 = .ok (.iload 4, 2) := by decide +kernel
theorem dX9_burn_130 : decode cX9_burn 130 = .ok (.ifCond .eq 14, 3) := by decide +kernel
theorem dX9_burn_133 : decode cX9_burn 133 = .ok (.aload_n 0, 1) := by decide +kernel
theorem dX9_burn_134 : decode cX9_burn 134 = .ok (.getfield 48, 3) := by decide +kernel
theorem dX9_burn_137 : decode cX9_burn 137 = .ok (.iload_n 1, 1) := by decide +kernel
theorem dX9_burn_138 : decode cX9_burn 138 = .ok (.iaload, 1) := by decide +kernel
theorem dX9_burn_139 : decode cX9_burn 139 = .ok (.iconst 1, 1) := by decide +kernel
theorem dX9_burn_140 : decode cX9_burn 140 = .ok (.iadd, 1) := by decide +kernel
theorem dX9_burn_141 : decode cX9_burn 141 = .ok (.goto 4, 3) := by decide +kernel
theorem dX9_burn_144 : decode cX9_burn 144 = .ok (.iconst 0, 1) := by decide +kernel
theorem dX9_burn_145 : decode cX9_burn 145 = .ok (.iastore, 1) := by decide +kernel
theorem dX9_burn_146 : decode cX9_burn 146 = .ok (.aload_n 0, 1) := by decide +kernel
theorem dX9_burn_147 : decode cX9_burn 147 = .ok (.getfield 51, 3) := by decide +kernel
theorem dX9_burn_150 : decode cX9_burn 150 = .ok (.iload_n 1, 1) := by decide +kernel
theorem dX9_burn_151 : decode cX9_burn 151 = .ok (.dup2, 1) := by decide +kernel
theorem dX9_burn_152 : decode cX9_burn 152 = .ok (.iaload, 1) := by decide +kernel
theorem dX9_burn_153 : decode cX9_burn 153 = .ok (.iload 4, 2) := by decide +kernel
theorem dX9_burn_155 : decode cX9_burn 155 = .ok (.ifCond .eq 7, 3) := by decide +kernel
theorem dX9_burn_158 : decode cX9_burn 158 = .ok (.iconst 1, 1) := by decide +kernel
theorem dX9_burn_159 : decode cX9_burn 159 = .ok (.goto 4, 3) := by decide +kernel
theorem dX9_burn_162 : decode cX9_burn 162 = .ok (.iconst 0, 1) := by decide +kernel
theorem dX9_burn_163 : decode cX9_burn 163 = .ok (.iadd, 1) := by decide +kernel
theorem dX9_burn_164 : decode cX9_burn 164 = .ok (.iastore, 1) := by decide +kernel
theorem dX9_burn_165 : decode cX9_burn 165 = .ok (.aload_n 0, 1) := by decide +kernel
theorem dX9_burn_166 : decode cX9_burn 166 = .ok (.dup, 1) := by decide +kernel
theorem dX9_burn_167 : decode cX9_burn 167 = .ok (.getfield 155, 3) := by decide +kernel
theorem dX9_burn_170 : decode cX9_burn 170 = .ok (.aload_n 0, 1) := by decide +kernel
theorem dX9_burn_171 : decode cX9_burn 171 = .ok (.getfield 48, 3) := by decide +kernel
theorem dX9_burn_174 : decode cX9_burn 174 = .ok (.iload_n 1, 1) := by decide +kernel
theorem dX9_burn_175 : decode cX9_burn 175 = .ok (.iaload, 1) := by decide +kernel
theorem dX9_burn_176 : decode cX9_burn 176 = .ok (.iconst 1, 1) := by decide +kernel
theorem dX9_burn_177 : decode cX9_burn 177 = .ok (.if_icmp .le 7, 3) := by decide +kernel
theorem dX9_burn_180 : decode cX9_burn 180 = .ok (.lconst 1, 1) := by decide +kernel
theorem dX9_burn_181 : decode cX9_burn 181 = .ok (.goto 4, 3) := by decide +kernel
theorem dX9_burn_184 : decode cX9_burn 184 = .ok (.lconst 0, 1) := by decide +kernel
theorem dX9_burn_185 : decode cX9_burn 185 = .ok (.ladd, 1) := by decide +kernel
theorem dX9_burn_186 : decode cX9_burn 186 = .ok (.putfield 155, 3) := by decide +kernel
theorem dX9_burn_189 : decode cX9_burn 189 = .ok (.aload_n 0, 1) := by decide +kernel
theorem dX9_burn_190 : decode cX9_burn 190 = .ok (.dup, 1) := by decide +kernel
theorem dX9_burn_191 : decode cX9_burn 191 = .ok (.getfield 152, 3) := by decide +kernel
theorem dX9_burn_194 : decode cX9_burn 194 = .ok (.iload 4, 2) := by decide +kernel
theorem dX9_burn_196 : decode cX9_burn 196 = .ok (.ifCond .eq 28, 3) := by decide +kernel
theorem dX9_burn_199 : decode cX9_burn 199 = .ok (.aload_n 0, 1) := by decide +kernel
theorem dX9_burn_200 : decode cX9_burn 200 = .ok (.getfield 7, 3) := by decide +kernel
theorem dX9_burn_203 : decode cX9_burn 203 = .ok (.iconst 5, 1) := by decide +kernel
theorem dX9_burn_204 : decode cX9_burn 204 = .ok (.iload_n 1, 1) := by decide +kernel
theorem dX9_burn_205 : decode cX9_burn 205 = .ok (.imul, 1) := by decide +kernel
theorem dX9_burn_206 : decode cX9_burn 206 = .ok (.iconst 4, 1) := by decide +kernel
theorem dX9_burn_207 : decode cX9_burn 207 = .ok (.iadd, 1) := by decide +kernel
theorem dX9_burn_208 : decode cX9_burn 208 = .ok (.iaload, 1) := by decide +kernel
theorem dX9_burn_209 : decode cX9_burn 209 = .ok (.iload_n 2, 1) := by decide +kernel
theorem dX9_burn_210 : decode cX9_burn 210 = .ok (.iconst 1, 1) := by decide +kernel
theorem dX9_burn_211 : decode cX9_burn 211 = .ok (.if_icmp .ne 7, 3) := by decide +kernel
theorem dX9_burn_214 : decode cX9_burn 214 = .ok (.iconst 2, 1) := by decide +kernel
theorem dX9_burn_215 : decode cX9_burn 215 = .ok (.goto 4, 3) := by decide +kernel
theorem dX9_burn_218 : decode cX9_burn 218 = .ok (.iconst 1, 1) := by decide +kernel
theorem dX9_burn_219 : decode cX9_burn 219 = .ok (.imul, 1) := by decide +kernel
theorem dX9_burn_220 : decode cX9_burn 220 = .ok (.i2l, 1) := by decide +kernel
theorem dX9_burn_221 : decode cX9_burn 221 = .ok (.goto 4, 3) := by decide +kernel
theorem dX9_burn_224 : decode cX9_burn 224 = .ok (.lconst 0, 1) := by decide +kernel
theorem dX9_burn_225 : decode cX9_burn 225 = .ok (.ladd, 1) := by decide +kernel
theorem dX9_burn_226 : decode cX9_burn 226 = .ok (.putfield 152, 3) := by decide +kernel
theorem dX9_burn_229 : decode cX9_burn 229 = .ok (.aload_n 0, 1) := by decide +kernel
theorem dX9_burn_230 : decode cX9_burn 230 = .ok (.dup, 1) := by decide +kernel
theorem dX9_burn_231 : decode cX9_burn 231 = .ok (.getfield 161, 3) := by decide +kernel
theorem dX9_burn_234 : decode cX9_burn 234 = .ok (.iload 4, 2) := by decide +kernel
theorem dX9_burn_236 : decode cX9_burn 236 = .ok (.ifCond .eq 9, 3) := by decide +kernel
theorem dX9_burn_239 : decode cX9_burn 239 = .ok (.iconst 1, 1) := by decide +kernel
theorem dX9_burn_240 : decode cX9_burn 240 = .ok (.iload_n 1, 1) := by decide +kernel
theorem dX9_burn_241 : decode cX9_burn 241 = .ok (.ishl, 1) := by decide +kernel
theorem dX9_burn_242 : decode cX9_burn 242 = .ok (.goto 4, 3) := by decide +kernel
theorem dX9_burn_245 : decode cX9_burn 245 = .ok (.iconst 0, 1) := by decide +kernel
theorem dX9_burn_246 : decode cX9_burn 246 = .ok (.ior, 1) := by decide +kernel
theorem dX9_burn_247 : decode cX9_burn 247 = .ok (.putfield 161, 3) := by decide +kernel
theorem dX9_burn_250 : decode cX9_burn 250 = .ok (.aload_n 0, 1) := by decide +kernel
theorem dX9_burn_251 : decode cX9_burn 251 = .ok (.getfield 149, 3) := by decide +kernel
theorem dX9_burn_254 : decode cX9_burn 254 = .ok (.bipush 40, 2) := by decide +kernel
theorem dX9_burn_256 : decode cX9_burn 256 = .ok (.if_icmp .ge 23, 3) := by decide +kernel
theorem dX9_burn_259 : decode cX9_burn 259 = .ok (.aload_n 0, 1) := by decide +kernel
theorem dX9_burn_260 : decode cX9_burn 260 = .ok (.getfield 57, 3) := by decide +kernel
theorem dX9_burn_263 : decode cX9_burn 263 = .ok (.bipush 40, 2) := by decide +kernel
theorem dX9_burn_265 : decode cX9_burn 265 = .ok (.iload_n 1, 1) := by decide +kernel
theorem dX9_burn_266 : decode cX9_burn 266 = .ok (.imul, 1) := by decide +kernel
theorem dX9_burn_267 : decode cX9_burn 267 = .ok (.aload_n 0, 1) := by decide +kernel
theorem dX9_burn_268 : decode cX9_burn 268 = .ok (.getfield 149, 3) := by decide +kernel
theorem dX9_burn_271 : decode cX9_burn 271 = .ok (.iadd, 1) := by decide +kernel
theorem dX9_burn_272 : decode cX9_burn 272 = .ok (.aload_n 0, 1) := by decide +kernel
theorem dX9_burn_273 : decode cX9_burn 273 = .ok (.getfield 41, 3) := by decide +kernel
theorem dX9_burn_276 : decode cX9_burn 276 = .ok (.iload_n 1, 1) := by decide +kernel
theorem dX9_burn_277 : decode cX9_burn 277 = .ok (.iaload, 1) := by decide +kernel
theorem dX9_burn_278 : decode cX9_burn 278 = .ok (.iastore, 1) := by decide +kernel
theorem dX9_burn_279 : decode cX9_burn 279 = .ok (.return_, 1) := by decide +kernel
theorem dX9_lesser_0 : decode cX9_lesser 0 = .ok (.lload_n 0, 1) := by decide +kernel
theorem dX9_lesser_1 : decode cX9_lesser 1 = .ok (.lload_n 2, 1) := by decide +kernel
theorem dX9_lesser_2 : decode cX9_lesser 2 = .ok (.lcmp, 1) := by decide +kernel
theorem dX9_lesser_3 : decode cX9_lesser 3 = .ok (.ifCond .ge 7, 3) := by decide +kernel
theorem dX9_lesser_6 : decode cX9_lesser 6 = .ok (.lload_n 0, 1) := by decide +kernel
theorem dX9_lesser_7 : decode cX9_lesser 7 = .ok (.goto 4, 3) := by decide +kernel
theorem dX9_lesser_10 : decode cX9_lesser 10 = .ok (.lload_n 2, 1) := by decide +kernel
theorem dX9_lesser_11 : decode cX9_lesser 11 = .ok (.lreturn, 1) := by decide +kernel
theorem dX9_pace_0 : decode cX9_pace 0 = .ok (.iload_n 1, 1) := by decide +kernel
theorem dX9_pace_1 : decode cX9_pace 1 = .ok (.ifCond .ne 10, 3) := by decide +kernel
theorem dX9_pace_4 : decode cX9_pace 4 = .ok (.aload_n 0, 1) := by decide +kernel
theorem dX9_pace_5 : decode cX9_pace 5 = .ok (.getfield 13, 3) := by decide +kernel
theorem dX9_pace_8 : decode cX9_pace 8 = .ok (.goto 18, 3) := by decide +kernel
theorem dX9_pace_11 : decode cX9_pace 11 = .ok (.iload_n 1, 1) := by decide +kernel
theorem dX9_pace_12 : decode cX9_pace 12 = .ok (.iconst 1, 1) := by decide +kernel
theorem dX9_pace_13 : decode cX9_pace 13 = .ok (.if_icmp .ne 12, 3) := by decide +kernel
theorem dX9_pace_16 : decode cX9_pace 16 = .ok (.aload_n 0, 1) := by decide +kernel
theorem dX9_pace_17 : decode cX9_pace 17 = .ok (.getfield 13, 3) := by decide +kernel
theorem dX9_pace_20 : decode cX9_pace 20 = .ok (.iconst 2, 1) := by decide +kernel
theorem dX9_pace_21 : decode cX9_pace 21 = .ok (.idiv, 1) := by decide +kernel
theorem dX9_pace_22 : decode cX9_pace 22 = .ok (.goto 4, 3) := by decide +kernel
theorem dX9_pace_25 : decode cX9_pace 25 = .ok (.iconst 0, 1) := by decide +kernel
theorem dX9_pace_26 : decode cX9_pace 26 = .ok (.ireturn, 1) := by decide +kernel
theorem dX9_sail_0 : decode cX9_sail 0 = .ok (.aload_n 0, 1) := by decide +kernel
theorem dX9_sail_1 : decode cX9_sail 1 = .ok (.getfield 54, 3) := by decide +kernel
theorem dX9_sail_4 : decode cX9_sail 4 = .ok (.ifCond .ge 7, 3) := by decide +kernel
theorem dX9_sail_7 : decode cX9_sail 7 = .ok (.iconst 0, 1) := by decide +kernel
theorem dX9_sail_8 : decode cX9_sail 8 = .ok (.goto 16, 3) := by decide +kernel
theorem dX9_sail_11 : decode cX9_sail 11 = .ok (.aload_n 0, 1) := by decide +kernel
theorem dX9_sail_12 : decode cX9_sail 12 = .ok (.getfield 7, 3) := by decide +kernel
theorem dX9_sail_15 : decode cX9_sail 15 = .ok (.iconst 5, 1) := by decide +kernel
theorem dX9_sail_16 : decode cX9_sail 16 = .ok (.aload_n 0, 1) := by decide +kernel
theorem dX9_sail_17 : decode cX9_sail 17 = .ok (.getfield 54, 3) := by decide +kernel
theorem dX9_sail_20 : decode cX9_sail 20 = .ok (.imul, 1) := by decide +kernel
theorem dX9_sail_21 : decode cX9_sail 21 = .ok (.iconst 1, 1) := by decide +kernel
theorem dX9_sail_22 : decode cX9_sail 22 = .ok (.iadd, 1) := by decide +kernel
theorem dX9_sail_23 : decode cX9_sail 23 = .ok (.iaload, 1) := by decide +kernel
theorem dX9_sail_24 : decode cX9_sail 24 = .ok (.istore_n 2, 1) := by decide +kernel
theorem dX9_sail_25 : decode cX9_sail 25 = .ok (.iload_n 2, 1) := by decide +kernel
theorem dX9_sail_26 : decode cX9_sail 26 = .ok (.aload_n 0, 1) := by decide +kernel
theorem dX9_sail_27 : decode cX9_sail 27 = .ok (.getfield 143, 3) := by decide +kernel
theorem dX9_sail_30 : decode cX9_sail 30 = .ok (.if_icmp .le 12, 3) := by decide +kernel
theorem dX9_sail_33 : decode cX9_sail 33 = .ok (.iload_n 2, 1) := by decide +kernel
theorem dX9_sail_34 : decode cX9_sail 34 = .ok (.aload_n 0, 1) := by decide +kernel
theorem dX9_sail_35 : decode cX9_sail 35 = .ok (.getfield 143, 3) := by decide +kernel
theorem dX9_sail_38 : decode cX9_sail 38 = .ok (.isub, 1) := by decide +kernel
theorem dX9_sail_39 : decode cX9_sail 39 = .ok (.goto 9, 3) := by decide +kernel
theorem dX9_sail_42 : decode cX9_sail 42 = .ok (.aload_n 0, 1) := by decide +kernel
theorem dX9_sail_43 : decode cX9_sail 43 = .ok (.getfield 143, 3) := by decide +kernel
theorem dX9_sail_46 : decode cX9_sail 46 = .ok (.iload_n 2, 1) := by decide +kernel
theorem dX9_sail_47 : decode cX9_sail 47 = .ok (.isub, 1) := by decide +kernel
theorem dX9_sail_48 : decode cX9_sail 48 = .ok (.istore_n 3, 1) := by decide +kernel
theorem dX9_sail_49 : decode cX9_sail 49 = .ok (.aload_n 0, 1) := by decide +kernel
theorem dX9_sail_50 : decode cX9_sail 50 = .ok (.iload_n 1, 1) := by decide +kernel
theorem dX9_sail_51 : decode cX9_sail 51 = .ok (.invokevirtual 307, 3) := by decide +kernel
theorem dX9_sail_54 : decode cX9_sail 54 = .ok (.iload_n 3, 1) := by decide +kernel
theorem dX9_sail_55 : decode cX9_sail 55 = .ok (.if_icmp .ge 11, 3) := by decide +kernel
theorem dX9_sail_58 : decode cX9_sail 58 = .ok (.aload_n 0, 1) := by decide +kernel
theorem dX9_sail_59 : decode cX9_sail 59 = .ok (.iload_n 1, 1) := by decide +kernel
theorem dX9_sail_60 : decode cX9_sail 60 = .ok (.invokevirtual 307, 3) := by decide +kernel
theorem dX9_sail_63 : decode cX9_sail 63 = .ok (.goto 4, 3) := by decide +kernel
theorem dX9_sail_66 : decode cX9_sail 66 = .ok (.iload_n 3, 1) := by decide +kernel
theorem dX9_sail_67 : decode cX9_sail 67 = .ok (.istore 4, 2) := by decide +kernel
theorem dX9_sail_69 : decode cX9_sail 69 = .ok (.aload_n 0, 1) := by decide +kernel
theorem dX9_sail_70 : decode cX9_sail 70 = .ok (.dup, 1) := by decide +kernel
theorem dX9_sail_71 : decode cX9_sail 71 = .ok (.getfield 143, 3) := by decide +kernel
theorem dX9_sail_74 : decode cX9_sail 74 = .ok (.iload_n 2, 1) := by decide +kernel
theorem dX9_sail_75 : decode cX9_sail 75 = .ok (.aload_n 0, 1) := by decide +kernel
theorem dX9_sail_76 : decode cX9_sail 76 = .ok (.getfield 143, 3) := by decide +kernel
theorem dX9_sail_79 : decode cX9_sail 79 = .ok (.if_icmp .le 8, 3) := by decide +kernel
theorem dX9_sail_82 : decode cX9_sail 82 = .ok (.iload 4, 2) := by decide +kernel
theorem dX9_sail_84 : decode cX9_sail 84 = .ok (.goto 6, 3) := by decide +kernel
theorem dX9_sail_87 : decode cX9_sail 87 = .ok (.iload 4, 2) := by decide +kernel
theorem dX9_sail_89 : decode cX9_sail 89 = .ok (.ineg, 1) := by decide +kernel
theorem dX9_sail_90 : decode cX9_sail 90 = .ok (.iadd, 1) := by decide +kernel
theorem dX9_sail_91 : decode cX9_sail 91 = .ok (.putfield 143, 3) := by decide +kernel
theorem dX9_sail_94 : decode cX9_sail 94 = .ok (.aload_n 0, 1) := by decide +kernel
theorem dX9_sail_95 : decode cX9_sail 95 = .ok (.getfield 143, 3) := by decide +kernel
theorem dX9_sail_98 : decode cX9_sail 98 = .ok (.iload_n 2, 1) := by decide +kernel
theorem dX9_sail_99 : decode cX9_sail 99 = .ok (.if_icmp .eq 4, 3) := by decide +kernel
theorem dX9_sail_102 : decode cX9_sail 102 = .ok (.return_, 1) := by decide +kernel
theorem dX9_sail_103 : decode cX9_sail 103 = .ok (.aload_n 0, 1) := by decide +kernel
theorem dX9_sail_104 : decode cX9_sail 104 = .ok (.getfield 54, 3) := by decide +kernel
theorem dX9_sail_107 : decode cX9_sail 107 = .ok (.ifCond .ge 49, 3) := by decide +kernel
theorem dX9_sail_110 : decode cX9_sail 110 = .ok (.aload_n 0, 1) := by decide +kernel
theorem dX9_sail_111 : decode cX9_sail 111 = .ok (.getfield 130, 3) := by decide +kernel
theorem dX9_sail_114 : decode cX9_sail 114 = .ok (.aload_n 0, 1) := by decide +kernel
theorem dX9_sail_115 : decode cX9_sail 115 = .ok (.getfield 17, 3) := by decide +kernel
theorem dX9_sail_118 : decode cX9_sail 118 = .ok (.aload_n 0, 1) := by decide +kernel
theorem dX9_sail_119 : decode cX9_sail 119 = .ok (.getfield 146, 3) := by decide +kernel
theorem dX9_sail_122 : decode cX9_sail 122 = .ok (.isub, 1) := by decide +kernel
theorem dX9_sail_123 : decode cX9_sail 123 = .ok (.i2l, 1) := by decide +kernel
theorem dX9_sail_124 : decode cX9_sail 124 = .ok (.invokestatic 310, 3) := by decide +kernel
theorem dX9_sail_127 : decode cX9_sail 127 = .ok (.l2i, 1) := by decide +kernel
theorem dX9_sail_128 : decode cX9_sail 128 = .ok (.istore 5, 2) := by decide +kernel
theorem dX9_sail_130 : decode cX9_sail 130 = .ok (.aload_n 0, 1) := by decide +kernel
theorem dX9_sail_131 : decode cX9_sail 131 = .ok (.dup, 1) := by decide +kernel
theorem dX9_sail_132 : decode cX9_sail 132 = .ok (.getfield 130, 3) := by decide +kernel
theorem dX9_sail_135 : decode cX9_sail 135 = .ok (.iload 5, 2) := by decide +kernel
theorem dX9_sail_137 : decode cX9_sail 137 = .ok (.i2l, 1) := by decide +kernel
theorem dX9_sail_138 : decode cX9_sail 138 = .ok (.lsub, 1) := by decide +kernel
theorem dX9_sail_139 : decode cX9_sail 139 = .ok (.putfield 130, 3) := by decide +kernel
theorem dX9_sail_142 : decode cX9_sail 142 = .ok (.aload_n 0, 1) := by decide +kernel
theorem dX9_sail_143 : decode cX9_sail 143 = .ok (.dup, 1) := by decide +kernel
theorem dX9_sail_144 : decode cX9_sail 144 = .ok (.getfield 146, 3) := by decide +kernel
theorem dX9_sail_147 : decode cX9_sail 147 = .ok (.iload 5, 2) := by decide +kernel
theorem dX9_sail_149 : decode cX9_sail 149 = .ok (.iadd, 1) := by decide +kernel
theorem dX9_sail_150 : decode cX9_sail 150 = .ok (.putfield 146, 3) := by decide +kernel
theorem dX9_sail_153 : decode cX9_sail 153 = .ok (.goto 76, 3) := by decide +kernel
theorem dX9_sail_156 : decode cX9_sail 156 = .ok (.aload_n 0, 1) := by decide +kernel
theorem dX9_sail_157 : decode cX9_sail 157 = .ok (.getfield 146, 3) := by decide +kernel
theorem dX9_sail_160 : decode cX9_sail 160 = .ok (.i2l, 1) := by decide +kernel
theorem dX9_sail_161 : decode cX9_sail 161 = .ok (.aload_n 0, 1) := by decide +kernel
theorem dX9_sail_162 : decode cX9_sail 162 = .ok (.getfield 7, 3) := by decide +kernel
theorem dX9_sail_165 : decode cX9_sail 165 = .ok (.iconst 5, 1) := by decide +kernel
theorem dX9_sail_166 : decode cX9_sail 166 = .ok (.aload_n 0, 1) := by decide +kernel
theorem dX9_sail_167 : decode cX9_sail 167 = .ok (.getfield 54, 3) := by decide +kernel
theorem dX9_sail_170 : decode cX9_sail 170 = .ok (.imul, 1) := by decide +kernel
theorem dX9_sail_171 : decode cX9_sail 171 = .ok (.iconst 3, 1) := by decide +kernel
theorem dX9_sail_172 : decode cX9_sail 172 = .ok (.iadd, 1) := by decide +kernel
theorem dX9_sail_173 : decode cX9_sail 173 = .ok (.iaload, 1) := by decide +kernel
theorem dX9_sail_174 : decode cX9_sail 174 = .ok (.aload_n 0, 1) := by decide +kernel
theorem dX9_sail_175 : decode cX9_sail 175 = .ok (.getfield 41, 3) := by decide +kernel
theorem dX9_sail_178 : decode cX9_sail 178 = .ok (.aload_n 0, 1) := by decide +kernel
theorem dX9_sail_179 : decode cX9_sail 179 = .ok (.getfield 54, 3) := by decide +kernel
theorem dX9_sail_182 : decode cX9_sail 182 = .ok (.iaload, 1) := by decide +kernel
theorem dX9_sail_183 : decode cX9_sail 183 = .ok (.isub, 1) := by decide +kernel
theorem dX9_sail_184 : decode cX9_sail 184 = .ok (.i2l, 1) := by decide +kernel
theorem dX9_sail_185 : decode cX9_sail 185 = .ok (.invokestatic 310, 3) := by decide +kernel
theorem dX9_sail_188 : decode cX9_sail 188 = .ok (.l2i, 1) := by decide +kernel
theorem dX9_sail_189 : decode cX9_sail 189 = .ok (.istore 5, 2) := by decide +kernel
theorem dX9_sail_191 : decode cX9_sail 191 = .ok (.iload 5, 2) := by decide +kernel
theorem dX9_sail_193 : decode cX9_sail 193 = .ok (.ifCond .ge 7, 3) := by decide +kernel
theorem dX9_sail_196 : decode cX9_sail 196 = .ok (.iconst 0, 1) := by decide +kernel
theorem dX9_sail_197 : decode cX9_sail 197 = .ok (.goto 5, 3) := by decide +kernel
theorem dX9_sail_200 : decode cX9_sail 200 = .ok (.iload 5, 2) := by decide +kernel
theorem dX9_sail_202 : decode cX9_sail 202 = .ok (.istore 5, 2) := by decide +kernel
theorem dX9_sail_204 : decode cX9_sail 204 = .ok (.aload_n 0, 1) := by decide +kernel
theorem dX9_sail_205 : decode cX9_sail 205 = .ok (.dup, 1) := by decide +kernel
theorem dX9_sail_206 : decode cX9_sail 206 = .ok (.getfield 146, 3) := by decide +kernel
theorem dX9_sail_209 : decode cX9_sail 209 = .ok (.iload 5, 2) := by decide +kernel
theorem dX9_sail_211 : decode cX9_sail 211 = .ok (.isub, 1) := by decide +kernel
theorem dX9_sail_212 : decode cX9_sail 212 = .ok (.putfield 146, 3) := by decide +kernel
theorem dX9_sail_215 : decode cX9_sail 215 = .ok (.aload_n 0, 1) := by decide +kernel
theorem dX9_sail_216 : decode cX9_sail 216 = .ok (.getfield 41, 3) := by decide +kernel
theorem dX9_sail_219 : decode cX9_sail 219 = .ok (.aload_n 0, 1) := by decide +kernel
theorem dX9_sail_220 : decode cX9_sail 220 = .ok (.getfield 54, 3) := by decide +kernel
theorem dX9_sail_223 : decode cX9_sail 223 = .ok (.dup2, 1) := by decide +kernel
theorem dX9_sail_224 : decode cX9_sail 224 = .ok (.iaload, 1) := by decide +kernel
theorem dX9_sail_225 : decode cX9_sail 225 = .ok (.iload 5, 2) := by decide +kernel
theorem dX9_sail_227 : decode cX9_sail 227 = .ok (.iadd, 1) := by decide +kernel
theorem dX9_sail_228 : decode cX9_sail 228 = .ok (.iastore, 1) := by decide +kernel
theorem dX9_sail_229 : decode cX9_sail 229 = .ok (.return_, 1) := by decide +kernel
theorem dX9_dayOf_0 : decode cX9_dayOf 0 = .ok (.aload_n 0, 1) := by decide +kernel
theorem dX9_dayOf_1 : decode cX9_dayOf 1 = .ok (.dup, 1) := by decide +kernel
theorem dX9_dayOf_2 : decode cX9_dayOf 2 = .ok (.getfield 134, 3) := by decide +kernel
theorem dX9_dayOf_5 : decode cX9_dayOf 5 = .ok (.aload_n 0, 1) := by decide +kernel
theorem dX9_dayOf_6 : decode cX9_dayOf 6 = .ok (.getfield 263, 3) := by decide +kernel
theorem dX9_dayOf_9 : decode cX9_dayOf 9 = .ok (.iadd, 1) := by decide +kernel
theorem dX9_dayOf_10 : decode cX9_dayOf 10 = .ok (.putfield 134, 3) := by decide +kernel
theorem dX9_dayOf_13 : decode cX9_dayOf 13 = .ok (.aload_n 0, 1) := by decide +kernel
theorem dX9_dayOf_14 : decode cX9_dayOf 14 = .ok (.dup, 1) := by decide +kernel
theorem dX9_dayOf_15 : decode cX9_dayOf 15 = .ok (.getfield 130, 3) := by decide +kernel
theorem dX9_dayOf_18 : decode cX9_dayOf 18 = .ok (.aload_n 0, 1) := by decide +kernel
theorem dX9_dayOf_19 : decode cX9_dayOf 19 = .ok (.getfield 134, 3) := by decide +kernel
theorem dX9_dayOf_22 : decode cX9_dayOf 22 = .ok (.aload_n 0, 1) := by decide +kernel
theorem dX9_dayOf_23 : decode cX9_dayOf 23 = .ok (.getfield 23, 3) := by decide +kernel
theorem dX9_dayOf_26 : decode cX9_dayOf 26 = .ok (.idiv, 1) := by decide +kernel
theorem dX9_dayOf_27 : decode cX9_dayOf 27 = .ok (.i2l, 1) := by decide +kernel
theorem dX9_dayOf_28 : decode cX9_dayOf 28 = .ok (.ladd, 1) := by decide +kernel
theorem dX9_dayOf_29 : decode cX9_dayOf 29 = .ok (.putfield 130, 3) := by decide +kernel
theorem dX9_dayOf_32 : decode cX9_dayOf 32 = .ok (.aload_n 0, 1) := by decide +kernel
theorem dX9_dayOf_33 : decode cX9_dayOf 33 = .ok (.dup, 1) := by decide +kernel
theorem dX9_dayOf_34 : decode cX9_dayOf 34 = .ok (.getfield 140, 3) := by decide +kernel
theorem dX9_dayOf_37 : decode cX9_dayOf 37 = .ok (.aload_n 0, 1) := by decide +kernel
theorem dX9_dayOf_38 : decode cX9_dayOf 38 = .ok (.getfield 134, 3) := by decide +kernel
theorem dX9_dayOf_41 : decode cX9_dayOf 41 = .ok (.aload_n 0, 1) := by decide +kernel
theorem dX9_dayOf_42 : decode cX9_dayOf 42 = .ok (.getfield 23, 3) := by decide +kernel
theorem dX9_dayOf_45 : decode cX9_dayOf 45 = .ok (.idiv, 1) := by decide +kernel
theorem dX9_dayOf_46 : decode cX9_dayOf 46 = .ok (.i2l, 1) := by decide +kernel
theorem dX9_dayOf_47 : decode cX9_dayOf 47 = .ok (.ladd, 1) := by decide +kernel
theorem dX9_dayOf_48 : decode cX9_dayOf 48 = .ok (.putfield 140, 3) := by decide +kernel
theorem dX9_dayOf_51 : decode cX9_dayOf 51 = .ok (.aload_n 0, 1) := by decide +kernel
theorem dX9_dayOf_52 : decode cX9_dayOf 52 = .ok (.dup, 1) := by decide +kernel
theorem dX9_dayOf_53 : decode cX9_dayOf 53 = .ok (.getfield 134, 3) := by decide +kernel
theorem dX9_dayOf_56 : decode cX9_dayOf 56 = .ok (.aload_n 0, 1) := by decide +kernel
theorem dX9_dayOf_57 : decode cX9_dayOf 57 = .ok (.getfield 23, 3) := by decide +kernel
theorem dX9_dayOf_60 : decode cX9_dayOf 60 = .ok (.irem, 1) := by decide +kernel
theorem dX9_dayOf_61 : decode cX9_dayOf 61 = .ok (.putfield 134, 3) := by decide +kernel
theorem dX9_dayOf_64 : decode cX9_dayOf 64 = .ok (.aload_n 0, 1) := by decide +kernel
theorem dX9_dayOf_65 : decode cX9_dayOf 65 = .ok (.iload_n 1, 1) := by decide +kernel
theorem dX9_dayOf_66 : decode cX9_dayOf 66 = .ok (.invokevirtual 314, 3) := by decide +kernel
theorem dX9_dayOf_69 : decode cX9_dayOf 69 = .ok (.aload_n 0, 1) := by decide +kernel
theorem dX9_dayOf_70 : decode cX9_dayOf 70 = .ok (.iconst 0, 1) := by decide +kernel
theorem dX9_dayOf_71 : decode cX9_dayOf 71 = .ok (.putfield 161, 3) := by decide +kernel
theorem dX9_dayOf_74 : decode cX9_dayOf 74 = .ok (.iconst 0, 1) := by decide +kernel
theorem dX9_dayOf_75 : decode cX9_dayOf 75 = .ok (.istore_n 2, 1) := by decide +kernel
theorem dX9_dayOf_76 : decode cX9_dayOf 76 = .ok (.iload_n 2, 1) := by decide +kernel
theorem dX9_dayOf_77 : decode cX9_dayOf 77 = .ok (.aload_n 0, 1) := by decide +kernel
theorem dX9_dayOf_78 : decode cX9_dayOf 78 = .ok (.getfield 121, 3) := by decide +kernel
theorem dX9_dayOf_81 : decode cX9_dayOf 81 = .ok (.if_icmp .ge 15, 3) := by decide +kernel
theorem dX9_dayOf_84 : decode cX9_dayOf 84 = .ok (.aload_n 0, 1) := by decide +kernel
theorem dX9_dayOf_85 : decode cX9_dayOf 85 = .ok (.iload_n 2, 1) := by decide +kernel
theorem dX9_dayOf_86 : decode cX9_dayOf 86 = .ok (.iload_n 1, 1) := by decide +kernel
theorem dX9_dayOf_87 : decode cX9_dayOf 87 = .ok (.invokevirtual 318, 3) := by decide +kernel
theorem dX9_dayOf_90 : decode cX9_dayOf 90 = .ok (.iinc 2 1, 3) := by decide +kernel
theorem dX9_dayOf_93 : decode cX9_dayOf 93 = .ok (.goto (-17), 3) := by decide +kernel
theorem dX9_dayOf_96 : decode cX9_dayOf 96 = .ok (.aload_n 0, 1) := by decide +kernel
theorem dX9_dayOf_97 : decode cX9_dayOf 97 = .ok (.iload_n 1, 1) := by decide +kernel
theorem dX9_dayOf_98 : decode cX9_dayOf 98 = .ok (.putfield 158, 3) := by decide +kernel
theorem dX9_dayOf_101 : decode cX9_dayOf 101 = .ok (.aload_n 0, 1) := by decide +kernel
theorem dX9_dayOf_102 : decode cX9_dayOf 102 = .ok (.dup, 1) := by decide +kernel
theorem dX9_dayOf_103 : decode cX9_dayOf 103 = .ok (.getfield 149, 3) := by decide +kernel
theorem dX9_dayOf_106 : decode cX9_dayOf 106 = .ok (.iconst 1, 1) := by decide +kernel
theorem dX9_dayOf_107 : decode cX9_dayOf 107 = .ok (.iadd, 1) := by decide +kernel
theorem dX9_dayOf_108 : decode cX9_dayOf 108 = .ok (.putfield 149, 3) := by decide +kernel
theorem dX9_dayOf_111 : decode cX9_dayOf 111 = .ok (.return_, 1) := by decide +kernel
theorem dX9_isDays_0 : decode cX9_isDays 0 = .ok (.iload_n 0, 1) := by decide +kernel
theorem dX9_isDays_1 : decode cX9_isDays 1 = .ok (.i2l, 1) := by decide +kernel
theorem dX9_isDays_2 : decode cX9_isDays 2 = .ok (.lconst 1, 1) := by decide +kernel
theorem dX9_isDays_3 : decode cX9_isDays 3 = .ok (.ldc2_w 322, 3) := by decide +kernel
theorem dX9_isDays_6 : decode cX9_isDays 6 = .ok (.invokestatic 124, 3) := by decide +kernel
theorem dX9_isDays_9 : decode cX9_isDays 9 = .ok (.ireturn, 1) := by decide +kernel
theorem dX9_go_0 : decode cX9_go 0 = .ok (.iload_n 1, 1) := by decide +kernel
theorem dX9_go_1 : decode cX9_go 1 = .ok (.invokestatic 324, 3) := by decide +kernel
theorem dX9_go_4 : decode cX9_go 4 = .ok (.ifCond .ne 6, 3) := by decide +kernel
theorem dX9_go_7 : decode cX9_go 7 = .ok (.ldc 166, 2) := by decide +kernel
theorem dX9_go_9 : decode cX9_go 9 = .ok (.ireturn, 1) := by decide +kernel
theorem dX9_go_10 : decode cX9_go 10 = .ok (.iconst 0, 1) := by decide +kernel
theorem dX9_go_11 : decode cX9_go 11 = .ok (.istore_n 2, 1) := by decide +kernel
theorem dX9_go_12 : decode cX9_go 12 = .ok (.iload_n 2, 1) := by decide +kernel
theorem dX9_go_13 : decode cX9_go 13 = .ok (.iload_n 1, 1) := by decide +kernel
theorem dX9_go_14 : decode cX9_go 14 = .ok (.if_icmp .ge 21, 3) := by decide +kernel
theorem dX9_go_17 : decode cX9_go 17 = .ok (.aload_n 0, 1) := by decide +kernel
theorem dX9_go_18 : decode cX9_go 18 = .ok (.aload_n 0, 1) := by decide +kernel
theorem dX9_go_19 : decode cX9_go 19 = .ok (.aload_n 0, 1) := by decide +kernel
theorem dX9_go_20 : decode cX9_go 20 = .ok (.getfield 149, 3) := by decide +kernel
theorem dX9_go_23 : decode cX9_go 23 = .ok (.invokevirtual 291, 3) := by decide +kernel
theorem dX9_go_26 : decode cX9_go 26 = .ok (.invokevirtual 327, 3) := by decide +kernel
theorem dX9_go_29 : decode cX9_go 29 = .ok (.iinc 2 1, 3) := by decide +kernel
theorem dX9_go_32 : decode cX9_go 32 = .ok (.goto (-20), 3) := by decide +kernel
theorem dX9_go_35 : decode cX9_go 35 = .ok (.aload_n 0, 1) := by decide +kernel
theorem dX9_go_36 : decode cX9_go 36 = .ok (.getfield 161, 3) := by decide +kernel
theorem dX9_go_39 : decode cX9_go 39 = .ok (.ireturn, 1) := by decide +kernel
theorem dX9_draw_0 : decode cX9_draw 0 = .ok (.aload_n 0, 1) := by decide +kernel
theorem dX9_draw_1 : decode cX9_draw 1 = .ok (.aload_n 0, 1) := by decide +kernel
theorem dX9_draw_2 : decode cX9_draw 2 = .ok (.getfield 330, 3) := by decide +kernel
theorem dX9_draw_5 : decode cX9_draw 5 = .ok (.i2l, 1) := by decide +kernel
theorem dX9_draw_6 : decode cX9_draw 6 = .ok (.ldc2_w 333, 3) := by decide +kernel
theorem dX9_draw_9 : decode cX9_draw 9 = .ok (.lmul, 1) := by decide +kernel
theorem dX9_draw_10 : decode cX9_draw 10 = .ok (.ldc2_w 335, 3) := by decide +kernel
theorem dX9_draw_13 : decode cX9_draw 13 = .ok (.ladd, 1) := by decide +kernel
theorem dX9_draw_14 : decode cX9_draw 14 = .ok (.ldc2_w 337, 3) := by decide +kernel
theorem dX9_draw_17 : decode cX9_draw 17 = .ok (.lrem, 1) := by decide +kernel
theorem dX9_draw_18 : decode cX9_draw 18 = .ok (.l2i, 1) := by decide +kernel
theorem dX9_draw_19 : decode cX9_draw 19 = .ok (.putfield 330, 3) := by decide +kernel
theorem dX9_draw_22 : decode cX9_draw 22 = .ok (.aload_n 0, 1) := by decide +kernel
theorem dX9_draw_23 : decode cX9_draw 23 = .ok (.getfield 330, 3) := by decide +kernel
theorem dX9_draw_26 : decode cX9_draw 26 = .ok (.ldc_w 339, 3) := by decide +kernel
theorem dX9_draw_29 : decode cX9_draw 29 = .ok (.idiv, 1) := by decide +kernel
theorem dX9_draw_30 : decode cX9_draw 30 = .ok (.iload_n 1, 1) := by decide +kernel
theorem dX9_draw_31 : decode cX9_draw 31 = .ok (.irem, 1) := by decide +kernel
theorem dX9_draw_32 : decode cX9_draw 32 = .ok (.ireturn, 1) := by decide +kernel
theorem dX9_drift_0 : decode cX9_drift 0 = .ok (.iload_n 1, 1) := by decide +kernel
theorem dX9_drift_1 : decode cX9_drift 1 = .ok (.invokestatic 324, 3) := by decide +kernel
theorem dX9_drift_4 : decode cX9_drift 4 = .ok (.ifCond .ne 6, 3) := by decide +kernel
theorem dX9_drift_7 : decode cX9_drift 7 = .ok (.ldc 166, 2) := by decide +kernel
theorem dX9_drift_9 : decode cX9_drift 9 = .ok (.ireturn, 1) := by decide +kernel
theorem dX9_drift_10 : decode cX9_drift 10 = .ok (.iconst 0, 1) := by decide +kernel
theorem dX9_drift_11 : decode cX9_drift 11 = .ok (.istore_n 2, 1) := by decide +kernel
theorem dX9_drift_12 : decode cX9_drift 12 = .ok (.iload_n 2, 1) := by decide +kernel
theorem dX9_drift_13 : decode cX9_drift 13 = .ok (.iload_n 1, 1) := by decide +kernel
theorem dX9_drift_14 : decode cX9_drift 14 = .ok (.if_icmp .ge 69, 3) := by decide +kernel
theorem dX9_drift_17 : decode cX9_drift 17 = .ok (.aload_n 0, 1) := by decide +kernel
theorem dX9_drift_18 : decode cX9_drift 18 = .ok (.bipush 100, 2) := by decide +kernel
theorem dX9_drift_20 : decode cX9_drift 20 = .ok (.invokevirtual 340, 3) := by decide +kernel
theorem dX9_drift_23 : decode cX9_drift 23 = .ok (.istore_n 3, 1) := by decide +kernel
theorem dX9_drift_24 : decode cX9_drift 24 = .ok (.iconst 3, 1) := by decide +kernel
theorem dX9_drift_25 : decode cX9_drift 25 = .ok (.aload_n 0, 1) := by decide +kernel
theorem dX9_drift_26 : decode cX9_drift 26 = .ok (.getfield 158, 3) := by decide +kernel
theorem dX9_drift_29 : decode cX9_drift 29 = .ok (.imul, 1) := by decide +kernel
theorem dX9_drift_30 : decode cX9_drift 30 = .ok (.istore 4, 2) := by decide +kernel
theorem dX9_drift_32 : decode cX9_drift 32 = .ok (.aload_n 0, 1) := by decide +kernel
theorem dX9_drift_33 : decode cX9_drift 33 = .ok (.iload_n 3, 1) := by decide +kernel
theorem dX9_drift_34 : decode cX9_drift 34 = .ok (.aload_n 0, 1) := by decide +kernel
theorem dX9_drift_35 : decode cX9_drift 35 = .ok (.getfield 32, 3) := by decide +kernel
theorem dX9_drift_38 : decode cX9_drift 38 = .ok (.iload 4, 2) := by decide +kernel
theorem dX9_drift_40 : decode cX9_drift 40 = .ok (.iaload, 1) := by decide +kernel
theorem dX9_drift_41 : decode cX9_drift 41 = .ok (.if_icmp .ge 7, 3) := by decide +kernel
theorem dX9_drift_44 : decode cX9_drift 44 = .ok (.iconst 0, 1) := by decide +kernel
theorem dX9_drift_45 : decode cX9_drift 45 = .ok (.goto 29, 3) := by decide +kernel
theorem dX9_drift_48 : decode cX9_drift 48 = .ok (.iload_n 3, 1) := by decide +kernel
theorem dX9_drift_49 : decode cX9_drift 49 = .ok (.aload_n 0, 1) := by decide +kernel
theorem dX9_drift_50 : decode cX9_drift 50 = .ok (.getfield 32, 3) := by decide +kernel
theorem dX9_drift_53 : decode cX9_drift 53 = .ok (.iload 4, 2) := by decide +kernel
theorem dX9_drift_55 : decode cX9_drift 55 = .ok (.iaload, 1) := by decide +kernel
theorem dX9_drift_56 : decode cX9_drift 56 = .ok (.aload_n 0, 1) := by decide +kernel
theorem dX9_drift_57 : decode cX9_drift 57 = .ok (.getfield 32, 3) := by decide +kernel
theorem dX9_drift_60 : decode cX9_drift 60 = .ok (.iload 4, 2) := by decide +kernel
theorem dX9_drift_62 : decode cX9_drift 62 = .ok (.iconst 1, 1) := by decide +kernel
theorem dX9_drift_63 : decode cX9_drift 63 = .ok (.iadd, 1) := by decide +kernel
theorem dX9_drift_64 : decode cX9_drift 64 = .ok (.iaload, 1) := by decide +kernel
theorem dX9_drift_65 : decode cX9_drift 65 = .ok (.iadd, 1) := by decide +kernel
theorem dX9_drift_66 : decode cX9_drift 66 = .ok (.if_icmp .ge 7, 3) := by decide +kernel
theorem dX9_drift_69 : decode cX9_drift 69 = .ok (.iconst 1, 1) := by decide +kernel
theorem dX9_drift_70 : decode cX9_drift 70 = .ok (.goto 4, 3) := by decide +kernel
theorem dX9_drift_73 : decode cX9_drift 73 = .ok (.iconst 2, 1) := by decide +kernel
theorem dX9_drift_74 : decode cX9_drift 74 = .ok (.invokevirtual 327, 3) := by decide +kernel
theorem dX9_drift_77 : decode cX9_drift 77 = .ok (.iinc 2 1, 3) := by decide +kernel
theorem dX9_drift_80 : decode cX9_drift 80 = .ok (.goto (-68), 3) := by decide +kernel
theorem dX9_drift_83 : decode cX9_drift 83 = .ok (.aload_n 0, 1) := by decide +kernel
theorem dX9_drift_84 : decode cX9_drift 84 = .ok (.getfield 161, 3) := by decide +kernel
theorem dX9_drift_87 : decode cX9_drift 87 = .ok (.ireturn, 1) := by decide +kernel
theorem dX9_pour_0 : decode cX9_pour 0 = .ok (.iload_n 1, 1) := by decide +kernel
theorem dX9_pour_1 : decode cX9_pour 1 = .ok (.i2l, 1) := by decide +kernel
theorem dX9_pour_2 : decode cX9_pour 2 = .ok (.lconst 0, 1) := by decide +kernel
theorem dX9_pour_3 : decode cX9_pour 3 = .ok (.ldc2_w 343, 3) := by decide +kernel
theorem dX9_pour_6 : decode cX9_pour 6 = .ok (.invokestatic 124, 3) := by decide +kernel
theorem dX9_pour_9 : decode cX9_pour 9 = .ok (.ifCond .ne 6, 3) := by decide +kernel
theorem dX9_pour_12 : decode cX9_pour 12 = .ok (.ldc 166, 2) := by decide +kernel
theorem dX9_pour_14 : decode cX9_pour 14 = .ok (.ireturn, 1) := by decide +kernel
theorem dX9_pour_15 : decode cX9_pour 15 = .ok (.aload_n 0, 1) := by decide +kernel
theorem dX9_pour_16 : decode cX9_pour 16 = .ok (.getfield 143, 3) := by decide +kernel
theorem dX9_pour_19 : decode cX9_pour 19 = .ok (.ifCond .eq 7, 3) := by decide +kernel
theorem dX9_pour_22 : decode cX9_pour 22 = .ok (.ldc_w 272, 3) := by decide +kernel
theorem dX9_pour_25 : decode cX9_pour 25 = .ok (.ireturn, 1) := by decide +kernel
theorem dX9_pour_26 : decode cX9_pour 26 = .ok (.iload_n 1, 1) := by decide +kernel
theorem dX9_pour_27 : decode cX9_pour 27 = .ok (.i2l, 1) := by decide +kernel
theorem dX9_pour_28 : decode cX9_pour 28 = .ok (.aload_n 0, 1) := by decide +kernel
theorem dX9_pour_29 : decode cX9_pour 29 = .ok (.getfield 130, 3) := by decide +kernel
theorem dX9_pour_32 : decode cX9_pour 32 = .ok (.invokestatic 310, 3) := by decide +kernel
theorem dX9_pour_35 : decode cX9_pour 35 = .ok (.aload_n 0, 1) := by decide +kernel
theorem dX9_pour_36 : decode cX9_pour 36 = .ok (.getfield 17, 3) := by decide +kernel
theorem dX9_pour_39 : decode cX9_pour 39 = .ok (.aload_n 0, 1) := by decide +kernel
theorem dX9_pour_40 : decode cX9_pour 40 = .ok (.getfield 146, 3) := by decide +kernel
theorem dX9_pour_43 : decode cX9_pour 43 = .ok (.isub, 1) := by decide +kernel
theorem dX9_pour_44 : decode cX9_pour 44 = .ok (.i2l, 1) := by decide +kernel
theorem dX9_pour_45 : decode cX9_pour 45 = .ok (.invokestatic 310, 3) := by decide +kernel
theorem dX9_pour_48 : decode cX9_pour 48 = .ok (.l2i, 1) := by decide +kernel
theorem dX9_pour_49 : decode cX9_pour 49 = .ok (.istore_n 2, 1) := by decide +kernel
theorem dX9_pour_50 : decode cX9_pour 50 = .ok (.aload_n 0, 1) := by decide +kernel
theorem dX9_pour_51 : decode cX9_pour 51 = .ok (.dup, 1) := by decide +kernel
theorem dX9_pour_52 : decode cX9_pour 52 = .ok (.getfield 130, 3) := by decide +kernel
theorem dX9_pour_55 : decode cX9_pour 55 = .ok (.iload_n 2, 1) := by decide +kernel
theorem dX9_pour_56 : decode cX9_pour 56 = .ok (.i2l, 1) := by decide +kernel
theorem dX9_pour_57 : decode cX9_pour 57 = .ok (.lsub, 1) := by decide +kernel
theorem dX9_pour_58 : decode cX9_pour 58 = .ok (.putfield 130, 3) := by decide +kernel
theorem dX9_pour_61 : decode cX9_pour 61 = .ok (.aload_n 0, 1) := by decide +kernel
theorem dX9_pour_62 : decode cX9_pour 62 = .ok (.dup, 1) := by decide +kernel
theorem dX9_pour_63 : decode cX9_pour 63 = .ok (.getfield 146, 3) := by decide +kernel
theorem dX9_pour_66 : decode cX9_pour 66 = .ok (.iload_n 2, 1) := by decide +kernel
theorem dX9_pour_67 : decode cX9_pour 67 = .ok (.iadd, 1) := by decide +kernel
theorem dX9_pour_68 : decode cX9_pour 68 = .ok (.putfield 146, 3) := by decide +kernel
theorem dX9_pour_71 : decode cX9_pour 71 = .ok (.iload_n 2, 1) := by decide +kernel
theorem dX9_pour_72 : decode cX9_pour 72 = .ok (.ireturn, 1) := by decide +kernel
theorem dX9_begin_0 : decode cX9_begin 0 = .ok (.aload_n 0, 1) := by decide +kernel
theorem dX9_begin_1 : decode cX9_begin 1 = .ok (.getfield 149, 3) := by decide +kernel
theorem dX9_begin_4 : decode cX9_begin 4 = .ok (.istore_n 1, 1) := by decide +kernel
theorem dX9_begin_5 : decode cX9_begin 5 = .ok (.aload_n 0, 1) := by decide +kernel
theorem dX9_begin_6 : decode cX9_begin 6 = .ok (.invokevirtual 118, 3) := by decide +kernel
theorem dX9_begin_9 : decode cX9_begin 9 = .ok (.iload_n 1, 1) := by decide +kernel
theorem dX9_begin_10 : decode cX9_begin 10 = .ok (.ireturn, 1) := by decide +kernel
theorem dX9_save_0 : decode cX9_save 0 = .ok (.sipush 410, 3) := by decide +kernel
theorem dX9_save_3 : decode cX9_save 3 = .ok (.iload_n 1, 1) := by decide +kernel
theorem dX9_save_4 : decode cX9_save 4 = .ok (.imul, 1) := by decide +kernel
theorem dX9_save_5 : decode cX9_save 5 = .ok (.istore_n 2, 1) := by decide +kernel
theorem dX9_save_6 : decode cX9_save 6 = .ok (.iconst 0, 1) := by decide +kernel
theorem dX9_save_7 : decode cX9_save 7 = .ok (.istore_n 3, 1) := by decide +kernel
theorem dX9_save_8 : decode cX9_save 8 = .ok (.iload_n 3, 1) := by decide +kernel
theorem dX9_save_9 : decode cX9_save 9 = .ok (.bipush 9, 2) := by decide +kernel
theorem dX9_save_11 : decode cX9_save 11 = .ok (.if_icmp .ge 85, 3) := by decide +kernel
theorem dX9_save_14 : decode cX9_save 14 = .ok (.aload_n 0, 1) := by decide +kernel
theorem dX9_save_15 : decode cX9_save 15 = .ok (.getfield 84, 3) := by decide +kernel
theorem dX9_save_18 : decode cX9_save 18 = .ok (.iload_n 2, 1) := by decide +kernel
theorem dX9_save_19 : decode cX9_save 19 = .ok (.iload_n 3, 1) := by decide +kernel
theorem dX9_save_20 : decode cX9_save 20 = .ok (.iadd, 1) := by decide +kernel
theorem dX9_save_21 : decode cX9_save 21 = .ok (.aload_n 0, 1) := by decide +kernel
theorem dX9_save_22 : decode cX9_save 22 = .ok (.getfield 41, 3) := by decide +kernel
theorem dX9_save_25 : decode cX9_save 25 = .ok (.iload_n 3, 1) := by decide +kernel
theorem dX9_save_26 : decode cX9_save 26 = .ok (.iaload, 1) := by decide +kernel
theorem dX9_save_27 : decode cX9_save 27 = .ok (.i2l, 1) := by decide +kernel
theorem dX9_save_28 : decode cX9_save 28 = .ok (.lastore, 1) := by decide +kernel
theorem dX9_save_29 : decode cX9_save 29 = .ok (.aload_n 0, 1) := by decide +kernel
theorem dX9_save_30 : decode cX9_save 30 = .ok (.getfield 84, 3) := by decide +kernel
theorem dX9_save_33 : decode cX9_save 33 = .ok (.iload_n 2, 1) := by decide +kernel
theorem dX9_save_34 : decode cX9_save 34 = .ok (.bipush 9, 2) := by decide +kernel
theorem dX9_save_36 : decode cX9_save 36 = .ok (.iadd, 1) := by decide +kernel
theorem dX9_save_37 : decode cX9_save 37 = .ok (.iload_n 3, 1) := by decide +kernel
theorem dX9_save_38 : decode cX9_save 38 = .ok (.iadd, 1) := by decide +kernel
theorem dX9_save_39 : decode cX9_save 39 = .ok (.aload_n 0, 1) := by decide +kernel
theorem dX9_save_40 : decode cX9_save 40 = .ok (.getfield 44, 3) := by decide +kernel
theorem dX9_save_43 : decode cX9_save 43 = .ok (.iload_n 3, 1) := by decide +kernel
theorem dX9_save_44 : decode cX9_save 44 = .ok (.baload, 1) := by decide +kernel
theorem dX9_save_45 : decode cX9_save 45 = .ok (.ifCond .eq 7, 3) := by decide +kernel
theorem dX9_save_48 : decode cX9_save 48 = .ok (.lconst 1, 1) := by decide +kernel
theorem dX9_save_49 : decode cX9_save 49 = .ok (.goto 4, 3) := by decide +kernel
theorem dX9_save_52 : decode cX9_save 52 = .ok (.lconst 0, 1) := by decide +kernel
theorem dX9_save_53 : decode cX9_save 53 = .ok (.lastore, 1) := by decide +kernel
theorem dX9_save_54 : decode cX9_save 54 = .ok (.aload_n 0, 1) := by decide +kernel
theorem dX9_save_55 : decode cX9_save 55 = .ok (.getfield 84, 3) := by decide +kernel
theorem dX9_save_58 : decode cX9_save 58 = .ok (.iload_n 2, 1) := by decide +kernel
theorem dX9_save_59 : decode cX9_save 59 = .ok (.bipush 18, 2) := by decide +kernel
theorem dX9_save_61 : decode cX9_save 61 = .ok (.iadd, 1) := by decide +kernel
theorem dX9_save_62 : decode cX9_save 62 = .ok (.iload_n 3, 1) := by decide +kernel
theorem dX9_save_63 : decode cX9_save 63 = .ok (.iadd, 1) := by decide +kernel
theorem dX9_save_64 : decode cX9_save 64 = .ok (.aload_n 0, 1) := by decide +kernel
theorem dX9_save_65 : decode cX9_save 65 = .ok (.getfield 48, 3) := by decide +kernel
theorem dX9_save_68 : decode cX9_save 68 = .ok (.iload_n 3, 1) := by decide +kernel
theorem dX9_save_69 : decode cX9_save 69 = .ok (.iaload, 1) := by decide +kernel
theorem dX9_save_70 : decode cX9_save 70 = .ok (.i2l, 1) := by decide +kernel
theorem dX9_save_71 : decode cX9_save 71 = .ok (.lastore, 1) := by decide +kernel
theorem dX9_save_72 : decode cX9_save 72 = .ok (.aload_n 0, 1) := by decide +kernel
theorem dX9_save_73 : decode cX9_save 73 = .ok (.getfield 84, 3) := by decide +kernel
theorem dX9_save_76 : decode cX9_save 76 = .ok (.iload_n 2, 1) := by decide +kernel
theorem dX9_save_77 : decode cX9_save 77 = .ok (.bipush 27, 2) := by decide +kernel
theorem dX9_save_79 : decode cX9_save 79 = .ok (.iadd, 1) := by decide +kernel
theorem dX9_save_80 : decode cX9_save 80 = .ok (.iload_n 3, 1) := by decide +kernel
theorem dX9_save_81 : decode cX9_save 81 = .ok (.iadd, 1) := by decide +kernel
theorem dX9_save_82 : decode cX9_save 82 = .ok (.aload_n 0, 1) := by decide +kernel
theorem dX9_save_83 : decode cX9_save 83 = .ok (.getfield 51, 3) := by decide +kernel
theorem dX9_save_86 : decode cX9_save 86 = .ok (.iload_n 3, 1) := by decide +kernel
theorem dX9_save_87 : decode cX9_save 87 = .ok (.iaload, 1) := by decide +kernel
theorem dX9_save_88 : decode cX9_save 88 = .ok (.i2l, 1) := by decide +kernel
theorem dX9_save_89 : decode cX9_save 89 = .ok (.lastore, 1) := by decide +kernel
theorem dX9_save_90 : decode cX9_save 90 = .ok (.iinc 3 1, 3) := by decide +kernel
theorem dX9_save_93 : decode cX9_save 93 = .ok (.goto (-85), 3) := by decide +kernel
theorem dX9_save_96 : decode cX9_save 96 = .ok (.aload_n 0, 1) := by decide +kernel
theorem dX9_save_97 : decode cX9_save 97 = .ok (.getfield 84, 3) := by decide +kernel
theorem dX9_save_100 : decode cX9_save 100 = .ok (.iload_n 2, 1) := by decide +kernel
theorem dX9_save_101 : decode cX9_save 101 = .ok (.bipush 36, 2) := by decide +kernel
theorem dX9_save_103 : decode cX9_save 103 = .ok (.iadd, 1) := by decide +kernel
theorem dX9_save_104 : decode cX9_save 104 = .ok (.aload_n 0, 1) := by decide +kernel
theorem dX9_save_105 : decode cX9_save 105 = .ok (.getfield 130, 3) := by decide +kernel
theorem dX9_save_108 : decode cX9_save 108 = .ok (.lastore, 1) := by decide +kernel
theorem dX9_save_109 : decode cX9_save 109 = .ok (.aload_n 0, 1) := by decide +kernel
theorem dX9_save_110 : decode cX9_save 110 = .ok (.getfield 84, 3) := by decide +kernel
theorem dX9_save_113 : decode cX9_save 113 = .ok (.iload_n 2, 1) := by decide +kernel
theorem dX9_save_114 : decode cX9_save 114 = .ok (.bipush 37, 2) := by decide +kernel
theorem dX9_save_116 : decode cX9_save 116 = .ok (.iadd, 1) := by decide +kernel
theorem dX9_save_117 : decode cX9_save 117 = .ok (.aload_n 0, 1) := by decide +kernel
theorem dX9_save_118 : decode cX9_save 118 = .ok (.getfield 134, 3) := by decide +kernel
theorem dX9_save_121 : decode cX9_save 121 = .ok (.i2l, 1) := by decide +kernel
theorem dX9_save_122 : decode cX9_save 122 = .ok (.lastore, 1) := by decide +kernel
theorem dX9_save_123 : decode cX9_save 123 = .ok (.aload_n 0, 1) := by decide +kernel
theorem dX9_save_124 : decode cX9_save 124 = .ok (.getfield 84, 3) := by decide +kernel
theorem dX9_save_127 : decode cX9_save 127 = .ok (.iload_n 2, 1) := by decide +kernel
theorem dX9_save_128 : decode cX9_save 128 = .ok (.bipush 38, 2) := by decide +kernel
theorem dX9_save_130 : decode cX9_save 130 = .ok (.iadd, 1) := by decide +kernel
theorem dX9_save_131 : decode cX9_save 131 = .ok (.aload_n 0, 1) := by decide +kernel
theorem dX9_save_132 : decode cX9_save 132 = .ok (.getfield 137, 3) := by decide +kernel
theorem dX9_save_135 : decode cX9_save 135 = .ok (.lastore, 1) := by decide +kernel
theorem dX9_save_136 : decode cX9_save 136 = .ok (.aload_n 0, 1) := by decide +kernel
theorem dX9_save_137 : decode cX9_save 137 = .ok (.getfield 84, 3) := by decide +kernel
theorem dX9_save_140 : decode cX9_save 140 = .ok (.iload_n 2, 1) := by decide +kernel
theorem dX9_save_141 : decode cX9_save 141 = .ok (.bipush 39, 2) := by decide +kernel
theorem dX9_save_143 : decode cX9_save 143 = .ok (.iadd, 1) := by decide +kernel
theorem dX9_save_144 : decode cX9_save 144 = .ok (.aload_n 0, 1) := by decide +kernel
theorem dX9_save_145 : decode cX9_save 145 = .ok (.getfield 140, 3) := by decide +kernel
theorem dX9_save_148 : decode cX9_save 148 = .ok (.lastore, 1) := by decide +kernel
theorem dX9_save_149 : decode cX9_save 149 = .ok (.aload_n 0, 1) := by decide +kernel
theorem dX9_save_150 : decode cX9_save 150 = .ok (.getfield 84, 3) := by decide +kernel
theorem dX9_save_153 : decode cX9_save 153 = .ok (.iload_n 2, 1) := by decide +kernel
theorem dX9_save_154 : decode cX9_save 154 = .ok (.bipush 40, 2) := by decide +kernel
theorem dX9_save_156 : decode cX9_save 156 = .ok (.iadd, 1) := by decide +kernel
theorem dX9_save_157 : decode cX9_save 157 = .ok (.aload_n 0, 1) := by decide +kernel
theorem dX9_save_158 : decode cX9_save 158 = .ok (.getfield 143, 3) := by decide +kernel
theorem dX9_save_161 : decode cX9_save 161 = .ok (.i2l, 1) := by decide +kernel
theorem dX9_save_162 : decode cX9_save 162 = .ok (.lastore, 1) := by decide +kernel
theorem dX9_save_163 : decode cX9_save 163 = .ok (.aload_n 0, 1) := by decide +kernel
theorem dX9_save_164 : decode cX9_save 164 = .ok (.getfield 84, 3) := by decide +kernel
theorem dX9_save_167 : decode cX9_save 167 = .ok (.iload_n 2, 1) := by decide +kernel
theorem dX9_save_168 : decode cX9_save 168 = .ok (.bipush 41, 2) := by decide +kernel
theorem dX9_save_170 : decode cX9_save 170 = .ok (.iadd, 1) := by decide +kernel
theorem dX9_save_171 : decode cX9_save 171 = .ok (.aload_n 0, 1) := by decide +kernel
theorem dX9_save_172 : decode cX9_save 172 = .ok (.getfield 146, 3) := by decide +kernel
theorem dX9_save_175 : decode cX9_save 175 = .ok (.i2l, 1) := by decide +kernel
theorem dX9_save_176 : decode cX9_save 176 = .ok (.lastore, 1) := by decide +kernel
theorem dX9_save_177 : decode cX9_save 177 = .ok (.aload_n 0, 1) := by decide +kernel
theorem dX9_save_178 : decode cX9_save 178 = .ok (.getfield 84, 3) := by decide +kernel
theorem dX9_save_181 : decode cX9_save 181 = .ok (.iload_n 2, 1) := by decide +kernel
theorem dX9_save_182 : decode cX9_save 182 = .ok (.bipush 42, 2) := by decide +kernel
theorem dX9_save_184 : decode cX9_save 184 = .ok (.iadd, 1) := by decide +kernel
theorem dX9_save_185 : decode cX9_save 185 = .ok (.aload_n 0, 1) := by decide +kernel
theorem dX9_save_186 : decode cX9_save 186 = .ok (.getfield 54, 3) := by decide +kernel
theorem dX9_save_189 : decode cX9_save 189 = .ok (.i2l, 1) := by decide +kernel
theorem dX9_save_190 : decode cX9_save 190 = .ok (.lastore, 1) := by decide +kernel
theorem dX9_save_191 : decode cX9_save 191 = .ok (.aload_n 0, 1) := by decide +kernel
theorem dX9_save_192 : decode cX9_save 192 = .ok (.getfield 84, 3) := by decide +kernel
theorem dX9_save_195 : decode cX9_save 195 = .ok (.iload_n 2, 1) := by decide +kernel
theorem dX9_save_196 : decode cX9_save 196 = .ok (.bipush 43, 2) := by decide +kernel
theorem dX9_save_198 : decode cX9_save 198 = .ok (.iadd, 1) := by decide +kernel
theorem dX9_save_199 : decode cX9_save 199 = .ok (.aload_n 0, 1) := by decide +kernel
theorem dX9_save_200 : decode cX9_save 200 = .ok (.getfield 149, 3) := by decide +kernel
theorem dX9_save_203 : decode cX9_save 203 = .ok (.i2l, 1) := by decide +kernel
theorem dX9_save_204 : decode cX9_save 204 = .ok (.lastore, 1) := by decide +kernel
theorem dX9_save_205 : decode cX9_save 205 = .ok (.aload_n 0, 1) := by decide +kernel
theorem dX9_save_206 : decode cX9_save 206 = .ok (.getfield 84, 3) := by decide +kernel
theorem dX9_save_209 : decode cX9_save 209 = .ok (.iload_n 2, 1) := by decide +kernel
theorem dX9_save_210 : decode cX9_save 210 = .ok (.bipush 44, 2) := by decide +kernel
theorem dX9_save_212 : decode cX9_save 212 = .ok (.iadd, 1) := by decide +kernel
theorem dX9_save_213 : decode cX9_save 213 = .ok (.aload_n 0, 1) := by decide +kernel
theorem dX9_save_214 : decode cX9_save 214 = .ok (.getfield 152, 3) := by decide +kernel
theorem dX9_save_217 : decode cX9_save 217 = .ok (.lastore, 1) := by decide +kernel
theorem dX9_save_218 : decode cX9_save 218 = .ok (.aload_n 0, 1) := by decide +kernel
theorem dX9_save_219 : decode cX9_save 219 = .ok (.getfield 84, 3) := by decide +kernel
theorem dX9_save_222 : decode cX9_save 222 = .ok (.iload_n 2, 1) := by decide +kernel
theorem dX9_save_223 : decode cX9_save 223 = .ok (.bipush 45, 2) := by decide +kernel
theorem dX9_save_225 : decode cX9_save 225 = .ok (.iadd, 1) := by decide +kernel
theorem dX9_save_226 : decode cX9_save 226 = .ok (.aload_n 0, 1) := by decide +kernel
theorem dX9_save_227 : decode cX9_save 227 = .ok (.getfield 155, 3) := by decide +kernel
theorem dX9_save_230 : decode cX9_save 230 = .ok (.lastore, 1) := by decide +kernel
theorem dX9_save_231 : decode cX9_save 231 = .ok (.aload_n 0, 1) := by decide +kernel
theorem dX9_save_232 : decode cX9_save 232 = .ok (.getfield 84, 3) := by decide +kernel
theorem dX9_save_235 : decode cX9_save 235 = .ok (.iload_n 2, 1) := by decide +kernel
theorem dX9_save_236 : decode cX9_save 236 = .ok (.bipush 46, 2) := by decide +kernel
theorem dX9_save_238 : decode cX9_save 238 = .ok (.iadd, 1) := by decide +kernel
theorem dX9_save_239 : decode cX9_save 239 = .ok (.aload_n 0, 1) := by decide +kernel
theorem dX9_save_240 : decode cX9_save 240 = .ok (.getfield 158, 3) := by decide +kernel
theorem dX9_save_243 : decode cX9_save 243 = .ok (.i2l, 1) := by decide +kernel
theorem dX9_save_244 : decode cX9_save 244 = .ok (.lastore, 1) := by decide +kernel
theorem dX9_save_245 : decode cX9_save 245 = .ok (.aload_n 0, 1) := by decide +kernel
theorem dX9_save_246 : decode cX9_save 246 = .ok (.getfield 84, 3) := by decide +kernel
theorem dX9_save_249 : decode cX9_save 249 = .ok (.iload_n 2, 1) := by decide +kernel
theorem dX9_save_250 : decode cX9_save 250 = .ok (.bipush 47, 2) := by decide +kernel
theorem dX9_save_252 : decode cX9_save 252 = .ok (.iadd, 1) := by decide +kernel
theorem dX9_save_253 : decode cX9_save 253 = .ok (.aload_n 0, 1) := by decide +kernel
theorem dX9_save_254 : decode cX9_save 254 = .ok (.getfield 161, 3) := by decide +kernel
theorem dX9_save_257 : decode cX9_save 257 = .ok (.i2l, 1) := by decide +kernel
theorem dX9_save_258 : decode cX9_save 258 = .ok (.lastore, 1) := by decide +kernel
theorem dX9_save_259 : decode cX9_save 259 = .ok (.aload_n 0, 1) := by decide +kernel
theorem dX9_save_260 : decode cX9_save 260 = .ok (.getfield 84, 3) := by decide +kernel
theorem dX9_save_263 : decode cX9_save 263 = .ok (.iload_n 2, 1) := by decide +kernel
theorem dX9_save_264 : decode cX9_save 264 = .ok (.bipush 48, 2) := by decide +kernel
theorem dX9_save_266 : decode cX9_save 266 = .ok (.iadd, 1) := by decide +kernel
theorem dX9_save_267 : decode cX9_save 267 = .ok (.aload_n 0, 1) := by decide +kernel
theorem dX9_save_268 : decode cX9_save 268 = .ok (.getfield 330, 3) := by decide +kernel
theorem dX9_save_271 : decode cX9_save 271 = .ok (.i2l, 1) := by decide +kernel
theorem dX9_save_272 : decode cX9_save 272 = .ok (.lastore, 1) := by decide +kernel
theorem dX9_save_273 : decode cX9_save 273 = .ok (.iconst 0, 1) := by decide +kernel
