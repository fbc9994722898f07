theorem dX9_save_274 : decode cX9_save 274 = .ok (.istore_n 3, 1) := by decide +kernel
theorem dX9_save_275 : decode cX9_save 275 = .ok (.iload_n 3, 1) := by decide +kernel
theorem dX9_save_276 : decode cX9_save 276 = .ok (.sipush 360, 3) := by decide +kernel
theorem dX9_save_279 : decode cX9_save 279 = .ok (.if_icmp .ge 27, 3) := by decide +kernel
theorem dX9_save_282 : decode cX9_save 282 = .ok (.aload_n 0, 1) := by decide +kernel
theorem dX9_save_283 : decode cX9_save 283 = .ok (.getfield 84, 3) := by decide +kernel
theorem dX9_save_286 : decode cX9_save 286 = .ok (.iload_n 2, 1) := by decide +kernel
theorem dX9_save_287 : decode cX9_save 287 = .ok (.bipush 50, 2) := by decide +kernel
theorem dX9_save_289 : decode cX9_save 289 = .ok (.iadd, 1) := by decide +kernel
theorem dX9_save_290 : decode cX9_save 290 = .ok (.iload_n 3, 1) := by decide +kernel
theorem dX9_save_291 : decode cX9_save 291 = .ok (.iadd, 1) := by decide +kernel
theorem dX9_save_292 : decode cX9_save 292 = .ok (.aload_n 0, 1) := by decide +kernel
theorem dX9_save_293 : decode cX9_save 293 = .ok (.getfield 57, 3) := by decide +kernel
theorem dX9_save_296 : decode cX9_save 296 = .ok (.iload_n 3, 1) := by decide +kernel
theorem dX9_save_297 : decode cX9_save 297 = .ok (.iaload, 1) := by decide +kernel
theorem dX9_save_298 : decode cX9_save 298 = .ok (.i2l, 1) := by decide +kernel
theorem dX9_save_299 : decode cX9_save 299 = .ok (.lastore, 1) := by decide +kernel
theorem dX9_save_300 : decode cX9_save 300 = .ok (.iinc 3 1, 3) := by decide +kernel
theorem dX9_save_303 : decode cX9_save 303 = .ok (.goto (-28), 3) := by decide +kernel
theorem dX9_save_306 : decode cX9_save 306 = .ok (.return_, 1) := by decide +kernel
theorem dX9_load_0 : decode cX9_load 0 = .ok (.sipush 410, 3) := by decide +kernel
theorem dX9_load_3 : decode cX9_load 3 = .ok (.iload_n 1, 1) := by decide +kernel
theorem dX9_load_4 : decode cX9_load 4 = .ok (.imul, 1) := by decide +kernel
theorem dX9_load_5 : decode cX9_load 5 = .ok (.istore_n 2, 1) := by decide +kernel
theorem dX9_load_6 : decode cX9_load 6 = .ok (.iconst 0, 1) := by decide +kernel
theorem dX9_load_7 : decode cX9_load 7 = .ok (.istore_n 3, 1) := by decide +kernel
theorem dX9_load_8 : decode cX9_load 8 = .ok (.iload_n 3, 1) := by decide +kernel
theorem dX9_load_9 : decode cX9_load 9 = .ok (.bipush 9, 2) := by decide +kernel
theorem dX9_load_11 : decode cX9_load 11 = .ok (.if_icmp .ge 87, 3) := by decide +kernel
theorem dX9_load_14 : decode cX9_load 14 = .ok (.aload_n 0, 1) := by decide +kernel
theorem dX9_load_15 : decode cX9_load 15 = .ok (.getfield 41, 3) := by decide +kernel
theorem dX9_load_18 : decode cX9_load 18 = .ok (.iload_n 3, 1) := by decide +kernel
theorem dX9_load_19 : decode cX9_load 19 = .ok (.aload_n 0, 1) := by decide +kernel
theorem dX9_load_20 : decode cX9_load 20 = .ok (.getfield 84, 3) := by decide +kernel
theorem dX9_load_23 : decode cX9_load 23 = .ok (.iload_n 2, 1) := by decide +kernel
theorem dX9_load_24 : decode cX9_load 24 = .ok (.iload_n 3, 1) := by decide +kernel
theorem dX9_load_25 : decode cX9_load 25 = .ok (.iadd, 1) := by decide +kernel
theorem dX9_load_26 : decode cX9_load 26 = .ok (.laload, 1) := by decide +kernel
theorem dX9_load_27 : decode cX9_load 27 = .ok (.l2i, 1) := by decide +kernel
theorem dX9_load_28 : decode cX9_load 28 = .ok (.iastore, 1) := by decide +kernel
theorem dX9_load_29 : decode cX9_load 29 = .ok (.aload_n 0, 1) := by decide +kernel
theorem dX9_load_30 : decode cX9_load 30 = .ok (.getfield 44, 3) := by decide +kernel
theorem dX9_load_33 : decode cX9_load 33 = .ok (.iload_n 3, 1) := by decide +kernel
theorem dX9_load_34 : decode cX9_load 34 = .ok (.aload_n 0, 1) := by decide +kernel
theorem dX9_load_35 : decode cX9_load 35 = .ok (.getfield 84, 3) := by decide +kernel
theorem dX9_load_38 : decode cX9_load 38 = .ok (.iload_n 2, 1) := by decide +kernel
theorem dX9_load_39 : decode cX9_load 39 = .ok (.bipush 9, 2) := by decide +kernel
theorem dX9_load_41 : decode cX9_load 41 = .ok (.iadd, 1) := by decide +kernel
theorem dX9_load_42 : decode cX9_load 42 = .ok (.iload_n 3, 1) := by decide +kernel
theorem dX9_load_43 : decode cX9_load 43 = .ok (.iadd, 1) := by decide +kernel
theorem dX9_load_44 : decode cX9_load 44 = .ok (.laload, 1) := by decide +kernel
theorem dX9_load_45 : decode cX9_load 45 = .ok (.lconst 1, 1) := by decide +kernel
theorem dX9_load_46 : decode cX9_load 46 = .ok (.lcmp, 1) := by decide +kernel
theorem dX9_load_47 : decode cX9_load 47 = .ok (.ifCond .ne 7, 3) := by decide +kernel
theorem dX9_load_50 : decode cX9_load 50 = .ok (.iconst 1, 1) := by decide +kernel
theorem dX9_load_51 : decode cX9_load 51 = .ok (.goto 4, 3) := by decide +kernel
theorem dX9_load_54 : decode cX9_load 54 = .ok (.iconst 0, 1) := by decide +kernel
theorem dX9_load_55 : decode cX9_load 55 = .ok (.bastore, 1) := by decide +kernel
theorem dX9_load_56 : decode cX9_load 56 = .ok (.aload_n 0, 1) := by decide +kernel
theorem dX9_load_57 : decode cX9_load 57 = .ok (.getfield 48, 3) := by decide +kernel
theorem dX9_load_60 : decode cX9_load 60 = .ok (.iload_n 3, 1) := by decide +kernel
theorem dX9_load_61 : decode cX9_load 61 = .ok (.aload_n 0, 1) := by decide +kernel
theorem dX9_load_62 : decode cX9_load 62 = .ok (.getfield 84, 3) := by decide +kernel
theorem dX9_load_65 : decode cX9_load 65 = .ok (.iload_n 2, 1) := by decide +kernel
theorem dX9_load_66 : decode cX9_load 66 = .ok (.bipush 18, 2) := by decide +kernel
theorem dX9_load_68 : decode cX9_load 68 = .ok (.iadd, 1) := by decide +kernel
theorem dX9_load_69 : decode cX9_load 69 = .ok (.iload_n 3, 1) := by decide +kernel
theorem dX9_load_70 : decode cX9_load 70 = .ok (.iadd, 1) := by decide +kernel
theorem dX9_load_71 : decode cX9_load 71 = .ok (.laload, 1) := by decide +kernel
theorem dX9_load_72 : decode cX9_load 72 = .ok (.l2i, 1) := by decide +kernel
theorem dX9_load_73 : decode cX9_load 73 = .ok (.iastore, 1) := by decide +kernel
theorem dX9_load_74 : decode cX9_load 74 = .ok (.aload_n 0, 1) := by decide +kernel
theorem dX9_load_75 : decode cX9_load 75 = .ok (.getfield 51, 3) := by decide +kernel
theorem dX9_load_78 : decode cX9_load 78 = .ok (.iload_n 3, 1) := by decide +kernel
theorem dX9_load_79 : decode cX9_load 79 = .ok (.aload_n 0, 1) := by decide +kernel
theorem dX9_load_80 : decode cX9_load 80 = .ok (.getfield 84, 3) := by decide +kernel
theorem dX9_load_83 : decode cX9_load 83 = .ok (.iload_n 2, 1) := by decide +kernel
theorem dX9_load_84 : decode cX9_load 84 = .ok (.bipush 27, 2) := by decide +kernel
theorem dX9_load_86 : decode cX9_load 86 = .ok (.iadd, 1) := by decide +kernel
theorem dX9_load_87 : decode cX9_load 87 = .ok (.iload_n 3, 1) := by decide +kernel
theorem dX9_load_88 : decode cX9_load 88 = .ok (.iadd, 1) := by decide +kernel
theorem dX9_load_89 : decode cX9_load 89 = .ok (.laload, 1) := by decide +kernel
theorem dX9_load_90 : decode cX9_load 90 = .ok (.l2i, 1) := by decide +kernel
theorem dX9_load_91 : decode cX9_load 91 = .ok (.iastore, 1) := by decide +kernel
theorem dX9_load_92 : decode cX9_load 92 = .ok (.iinc 3 1, 3) := by decide +kernel
theorem dX9_load_95 : decode cX9_load 95 = .ok (.goto (-87), 3) := by decide +kernel
theorem dX9_load_98 : decode cX9_load 98 = .ok (.aload_n 0, 1) := by decide +kernel
theorem dX9_load_99 : decode cX9_load 99 = .ok (.aload_n 0, 1) := by decide +kernel
theorem dX9_load_100 : decode cX9_load 100 = .ok (.getfield 84, 3) := by decide +kernel
theorem dX9_load_103 : decode cX9_load 103 = .ok (.iload_n 2, 1) := by decide +kernel
theorem dX9_load_104 : decode cX9_load 104 = .ok (.bipush 36, 2) := by decide +kernel
theorem dX9_load_106 : decode cX9_load 106 = .ok (.iadd, 1) := by decide +kernel
theorem dX9_load_107 : decode cX9_load 107 = .ok (.laload, 1) := by decide +kernel
theorem dX9_load_108 : decode cX9_load 108 = .ok (.putfield 130, 3) := by decide +kernel
theorem dX9_load_111 : decode cX9_load 111 = .ok (.aload_n 0, 1) := by decide +kernel
theorem dX9_load_112 : decode cX9_load 112 = .ok (.aload_n 0, 1) := by decide +kernel
theorem dX9_load_113 : decode cX9_load 113 = .ok (.getfield 84, 3) := by decide +kernel
theorem dX9_load_116 : decode cX9_load 116 = .ok (.iload_n 2, 1) := by decide +kernel
theorem dX9_load_117 : decode cX9_load 117 = .ok (.bipush 37, 2) := by decide +kernel
theorem dX9_load_119 : decode cX9_load 119 = .ok (.iadd, 1) := by decide +kernel
theorem dX9_load_120 : decode cX9_load 120 = .ok (.laload, 1) := by decide +kernel
theorem dX9_load_121 : decode cX9_load 121 = .ok (.l2i, 1) := by decide +kernel
theorem dX9_load_122 : decode cX9_load 122 = .ok (.putfield 134, 3) := by decide +kernel
theorem dX9_load_125 : decode cX9_load 125 = .ok (.aload_n 0, 1) := by decide +kernel
theorem dX9_load_126 : decode cX9_load 126 = .ok (.aload_n 0, 1) := by decide +kernel
theorem dX9_load_127 : decode cX9_load 127 = .ok (.getfield 84, 3) := by decide +kernel
theorem dX9_load_130 : decode cX9_load 130 = .ok (.iload_n 2, 1) := by decide +kernel
theorem dX9_load_131 : decode cX9_load 131 = .ok (.bipush 38, 2) := by decide +kernel
theorem dX9_load_133 : decode cX9_load 133 = .ok (.iadd, 1) := by decide +kernel
theorem dX9_load_134 : decode cX9_load 134 = .ok (.laload, 1) := by decide +kernel
theorem dX9_load_135 : decode cX9_load 135 = .ok (.putfield 137, 3) := by decide +kernel
theorem dX9_load_138 : decode cX9_load 138 = .ok (.aload_n 0, 1) := by decide +kernel
theorem dX9_load_139 : decode cX9_load 139 = .ok (.aload_n 0, 1) := by decide +kernel
theorem dX9_load_140 : decode cX9_load 140 = .ok (.getfield 84, 3) := by decide +kernel
theorem dX9_load_143 : decode cX9_load 143 = .ok (.iload_n 2, 1) := by decide +kernel
theorem dX9_load_144 : decode cX9_load 144 = .ok (.bipush 39, 2) := by decide +kernel
theorem dX9_load_146 : decode cX9_load 146 = .ok (.iadd, 1) := by decide +kernel
theorem dX9_load_147 : decode cX9_load 147 = .ok (.laload, 1) := by decide +kernel
theorem dX9_load_148 : decode cX9_load 148 = .ok (.putfield 140, 3) := by decide +kernel
theorem dX9_load_151 : decode cX9_load 151 = .ok (.aload_n 0, 1) := by decide +kernel
theorem dX9_load_152 : decode cX9_load 152 = .ok (.aload_n 0, 1) := by decide +kernel
theorem dX9_load_153 : decode cX9_load 153 = .ok (.getfield 84, 3) := by decide +kernel
theorem dX9_load_156 : decode cX9_load 156 = .ok (.iload_n 2, 1) := by decide +kernel
theorem dX9_load_157 : decode cX9_load 157 = .ok (.bipush 40, 2) := by decide +kernel
theorem dX9_load_159 : decode cX9_load 159 = .ok (.iadd, 1) := by decide +kernel
theorem dX9_load_160 : decode cX9_load 160 = .ok (.laload, 1) := by decide +kernel
theorem dX9_load_161 : decode cX9_load 161 = .ok (.l2i, 1) := by decide +kernel
theorem dX9_load_162 : decode cX9_load 162 = .ok (.putfield 143, 3) := by decide +kernel
theorem dX9_load_165 : decode cX9_load 165 = .ok (.aload_n 0, 1) := by decide +kernel
theorem dX9_load_166 : decode cX9_load 166 = .ok (.aload_n 0, 1) := by decide +kernel
theorem dX9_load_167 : decode cX9_load 167 = .ok (.getfield 84, 3) := by decide +kernel
theorem dX9_load_170 : decode cX9_load 170 = .ok (.iload_n 2, 1) := by decide +kernel
theorem dX9_load_171 : decode cX9_load 171 = .ok (.bipush 41, 2) := by decide +kernel
theorem dX9_load_173 : decode cX9_load 173 = .ok (.iadd, 1) := by decide +kernel
theorem dX9_load_174 : decode cX9_load 174 = .ok (.laload, 1) := by decide +kernel
theorem dX9_load_175 : decode cX9_load 175 = .ok (.l2i, 1) := by decide +kernel
theorem dX9_load_176 : decode cX9_load 176 = .ok (.putfield 146, 3) := by decide +kernel
theorem dX9_load_179 : decode cX9_load 179 = .ok (.aload_n 0, 1) := by decide +kernel
theorem dX9_load_180 : decode cX9_load 180 = .ok (.aload_n 0, 1) := by decide +kernel
theorem dX9_load_181 : decode cX9_load 181 = .ok (.getfield 84, 3) := by decide +kernel
theorem dX9_load_184 : decode cX9_load 184 = .ok (.iload_n 2, 1) := by decide +kernel
theorem dX9_load_185 : decode cX9_load 185 = .ok (.bipush 42, 2) := by decide +kernel
theorem dX9_load_187 : decode cX9_load 187 = .ok (.iadd, 1) := by decide +kernel
theorem dX9_load_188 : decode cX9_load 188 = .ok (.laload, 1) := by decide +kernel
theorem dX9_load_189 : decode cX9_load 189 = .ok (.l2i, 1) := by decide +kernel
theorem dX9_load_190 : decode cX9_load 190 = .ok (.putfield 54, 3) := by decide +kernel
theorem dX9_load_193 : decode cX9_load 193 = .ok (.aload_n 0, 1) := by decide +kernel
theorem dX9_load_194 : decode cX9_load 194 = .ok (.aload_n 0, 1) := by decide +kernel
theorem dX9_load_195 : decode cX9_load 195 = .ok (.getfield 84, 3) := by decide +kernel
theorem dX9_load_198 : decode cX9_load 198 = .ok (.iload_n 2, 1) := by decide +kernel
theorem dX9_load_199 : decode cX9_load 199 = .ok (.bipush 43, 2) := by decide +kernel
theorem dX9_load_201 : decode cX9_load 201 = .ok (.iadd, 1) := by decide +kernel
theorem dX9_load_202 : decode cX9_load 202 = .ok (.laload, 1) := by decide +kernel
theorem dX9_load_203 : decode cX9_load 203 = .ok (.l2i, 1) := by decide +kernel
theorem dX9_load_204 : decode cX9_load 204 = .ok (.putfield 149, 3) := by decide +kernel
theorem dX9_load_207 : decode cX9_load 207 = .ok (.aload_n 0, 1) := by decide +kernel
theorem dX9_load_208 : decode cX9_load 208 = .ok (.aload_n 0, 1) := by decide +kernel
theorem dX9_load_209 : decode cX9_load 209 = .ok (.getfield 84, 3) := by decide +kernel
theorem dX9_load_212 : decode cX9_load 212 = .ok (.iload_n 2, 1) := by decide +kernel
theorem dX9_load_213 : decode cX9_load 213 = .ok (.bipush 44, 2) := by decide +kernel
theorem dX9_load_215 : decode cX9_load 215 = .ok (.iadd, 1) := by decide +kernel
theorem dX9_load_216 : decode cX9_load 216 = .ok (.laload, 1) := by decide +kernel
theorem dX9_load_217 : decode cX9_load 217 = .ok (.putfield 152, 3) := by decide +kernel
theorem dX9_load_220 : decode cX9_load 220 = .ok (.aload_n 0, 1) := by decide +kernel
theorem dX9_load_221 : decode cX9_load 221 = .ok (.aload_n 0, 1) := by decide +kernel
theorem dX9_load_222 : decode cX9_load 222 = .ok (.getfield 84, 3) := by decide +kernel
theorem dX9_load_225 : decode cX9_load 225 = .ok (.iload_n 2, 1) := by decide +kernel
theorem dX9_load_226 : decode cX9_load 226 = .ok (.bipush 45, 2) := by decide +kernel
theorem dX9_load_228 : decode cX9_load 228 = .ok (.iadd, 1) := by decide +kernel
theorem dX9_load_229 : decode cX9_load 229 = .ok (.laload, 1) := by decide +kernel
theorem dX9_load_230 : decode cX9_load 230 = .ok (.putfield 155, 3) := by decide +kernel
theorem dX9_load_233 : decode cX9_load 233 = .ok (.aload_n 0, 1) := by decide +kernel
theorem dX9_load_234 : decode cX9_load 234 = .ok (.aload_n 0, 1) := by decide +kernel
theorem dX9_load_235 : decode cX9_load 235 = .ok (.getfield 84, 3) := by decide +kernel
theorem dX9_load_238 : decode cX9_load 238 = .ok (.iload_n 2, 1) := by decide +kernel
theorem dX9_load_239 : decode cX9_load 239 = .ok (.bipush 46, 2) := by decide +kernel
theorem dX9_load_241 : decode cX9_load 241 = .ok (.iadd, 1) := by decide +kernel
theorem dX9_load_242 : decode cX9_load 242 = .ok (.laload, 1) := by decide +kernel
theorem dX9_load_243 : decode cX9_load 243 = .ok (.l2i, 1) := by decide +kernel
theorem dX9_load_244 : decode cX9_load 244 = .ok (.putfield 158, 3) := by decide +kernel
theorem dX9_load_247 : decode cX9_load 247 = .ok (.aload_n 0, 1) := by decide +kernel
theorem dX9_load_248 : decode cX9_load 248 = .ok (.aload_n 0, 1) := by decide +kernel
theorem dX9_load_249 : decode cX9_load 249 = .ok (.getfield 84, 3) := by decide +kernel
theorem dX9_load_252 : decode cX9_load 252 = .ok (.iload_n 2, 1) := by decide +kernel
theorem dX9_load_253 : decode cX9_load 253 = .ok (.bipush 47, 2) := by decide +kernel
theorem dX9_load_255 : decode cX9_load 255 = .ok (.iadd, 1) := by decide +kernel
theorem dX9_load_256 : decode cX9_load 256 = .ok (.laload, 1) := by decide +kernel
theorem dX9_load_257 : decode cX9_load 257 = .ok (.l2i, 1) := by decide +kernel
theorem dX9_load_258 : decode cX9_load 258 = .ok (.putfield 161, 3) := by decide +kernel
theorem dX9_load_261 : decode cX9_load 261 = .ok (.aload_n 0, 1) := by decide +kernel
theorem dX9_load_262 : decode cX9_load 262 = .ok (.aload_n 0, 1) := by decide +kernel
theorem dX9_load_263 : decode cX9_load 263 = .ok (.getfield 84, 3) := by decide +kernel
theorem dX9_load_266 : decode cX9_load 266 = .ok (.iload_n 2, 1) := by decide +kernel
theorem dX9_load_267 : decode cX9_load 267 = .ok (.bipush 48, 2) := by decide +kernel
theorem dX9_load_269 : decode cX9_load 269 = .ok (.iadd, 1) := by decide +kernel
theorem dX9_load_270 : decode cX9_load 270 = .ok (.laload, 1) := by decide +kernel
theorem dX9_load_271 : decode cX9_load 271 = .ok (.l2i, 1) := by decide +kernel
theorem dX9_load_272 : decode cX9_load 272 = .ok (.putfield 330, 3) := by decide +kernel
theorem dX9_load_275 : decode cX9_load 275 = .ok (.iconst 0, 1) := by decide +kernel
theorem dX9_load_276 : decode cX9_load 276 = .ok (.istore_n 3, 1) := by decide +kernel
theorem dX9_load_277 : decode cX9_load 277 = .ok (.iload_n 3, 1) := by decide +kernel
theorem dX9_load_278 : decode cX9_load 278 = .ok (.sipush 360, 3) := by decide +kernel
theorem dX9_load_281 : decode cX9_load 281 = .ok (.if_icmp .ge 27, 3) := by decide +kernel
theorem dX9_load_284 : decode cX9_load 284 = .ok (.aload_n 0, 1) := by decide +kernel
theorem dX9_load_285 : decode cX9_load 285 = .ok (.getfield 57, 3) := by decide +kernel
theorem dX9_load_288 : decode cX9_load 288 = .ok (.iload_n 3, 1) := by decide +kernel
theorem dX9_load_289 : decode cX9_load 289 = .ok (.aload_n 0, 1) := by decide +kernel
theorem dX9_load_290 : decode cX9_load 290 = .ok (.getfield 84, 3) := by decide +kernel
theorem dX9_load_293 : decode cX9_load 293 = .ok (.iload_n 2, 1) := by decide +kernel
theorem dX9_load_294 : decode cX9_load 294 = .ok (.bipush 50, 2) := by decide +kernel
theorem dX9_load_296 : decode cX9_load 296 = .ok (.iadd, 1) := by decide +kernel
theorem dX9_load_297 : decode cX9_load 297 = .ok (.iload_n 3, 1) := by decide +kernel
theorem dX9_load_298 : decode cX9_load 298 = .ok (.iadd, 1) := by decide +kernel
theorem dX9_load_299 : decode cX9_load 299 = .ok (.laload, 1) := by decide +kernel
theorem dX9_load_300 : decode cX9_load 300 = .ok (.l2i, 1) := by decide +kernel
theorem dX9_load_301 : decode cX9_load 301 = .ok (.iastore, 1) := by decide +kernel
theorem dX9_load_302 : decode cX9_load 302 = .ok (.iinc 3 1, 3) := by decide +kernel
theorem dX9_load_305 : decode cX9_load 305 = .ok (.goto (-28), 3) := by decide +kernel
theorem dX9_load_308 : decode cX9_load 308 = .ok (.return_, 1) := by decide +kernel
theorem dX9_power_0 : decode cX9_power 0 = .ok (.iconst 1, 1) := by decide +kernel
theorem dX9_power_1 : decode cX9_power 1 = .ok (.istore_n 2, 1) := by decide +kernel
theorem dX9_power_2 : decode cX9_power 2 = .ok (.iconst 0, 1) := by decide +kernel
theorem dX9_power_3 : decode cX9_power 3 = .ok (.istore_n 3, 1) := by decide +kernel
theorem dX9_power_4 : decode cX9_power 4 = .ok (.iload_n 3, 1) := by decide +kernel
theorem dX9_power_5 : decode cX9_power 5 = .ok (.iload_n 1, 1) := by decide +kernel
theorem dX9_power_6 : decode cX9_power 6 = .ok (.if_icmp .ge 18, 3) := by decide +kernel
theorem dX9_power_9 : decode cX9_power 9 = .ok (.iload_n 2, 1) := by decide +kernel
theorem dX9_power_10 : decode cX9_power 10 = .ok (.aload_n 0, 1) := by decide +kernel
theorem dX9_power_11 : decode cX9_power 11 = .ok (.getfield 121, 3) := by decide +kernel
theorem dX9_power_14 : decode cX9_power 14 = .ok (.iconst 1, 1) := by decide +kernel
theorem dX9_power_15 : decode cX9_power 15 = .ok (.iadd, 1) := by decide +kernel
theorem dX9_power_16 : decode cX9_power 16 = .ok (.imul, 1) := by decide +kernel
theorem dX9_power_17 : decode cX9_power 17 = .ok (.istore_n 2, 1) := by decide +kernel
theorem dX9_power_18 : decode cX9_power 18 = .ok (.iinc 3 1, 3) := by decide +kernel
theorem dX9_power_21 : decode cX9_power 21 = .ok (.goto (-17), 3) := by decide +kernel
theorem dX9_power_24 : decode cX9_power 24 = .ok (.iload_n 2, 1) := by decide +kernel
theorem dX9_power_25 : decode cX9_power 25 = .ok (.ireturn, 1) := by decide +kernel
theorem dX9_goalOf_0 : decode cX9_goalOf 0 = .ok (.iload_n 1, 1) := by decide +kernel
theorem dX9_goalOf_1 : decode cX9_goalOf 1 = .ok (.aload_n 0, 1) := by decide +kernel
theorem dX9_goalOf_2 : decode cX9_goalOf 2 = .ok (.iload_n 2, 1) := by decide +kernel
theorem dX9_goalOf_3 : decode cX9_goalOf 3 = .ok (.iconst 1, 1) := by decide +kernel
theorem dX9_goalOf_4 : decode cX9_goalOf 4 = .ok (.isub, 1) := by decide +kernel
theorem dX9_goalOf_5 : decode cX9_goalOf 5 = .ok (.iload_n 3, 1) := by decide +kernel
theorem dX9_goalOf_6 : decode cX9_goalOf 6 = .ok (.isub, 1) := by decide +kernel
theorem dX9_goalOf_7 : decode cX9_goalOf 7 = .ok (.invokevirtual 345, 3) := by decide +kernel
theorem dX9_goalOf_10 : decode cX9_goalOf 10 = .ok (.idiv, 1) := by decide +kernel
theorem dX9_goalOf_11 : decode cX9_goalOf 11 = .ok (.aload_n 0, 1) := by decide +kernel
theorem dX9_goalOf_12 : decode cX9_goalOf 12 = .ok (.getfield 121, 3) := by decide +kernel
theorem dX9_goalOf_15 : decode cX9_goalOf 15 = .ok (.iconst 1, 1) := by decide +kernel
theorem dX9_goalOf_16 : decode cX9_goalOf 16 = .ok (.iadd, 1) := by decide +kernel
theorem dX9_goalOf_17 : decode cX9_goalOf 17 = .ok (.irem, 1) := by decide +kernel
theorem dX9_goalOf_18 : decode cX9_goalOf 18 = .ok (.iconst 1, 1) := by decide +kernel
theorem dX9_goalOf_19 : decode cX9_goalOf 19 = .ok (.isub, 1) := by decide +kernel
theorem dX9_goalOf_20 : decode cX9_goalOf 20 = .ok (.ireturn, 1) := by decide +kernel
theorem dX9_round_0 : decode cX9_round 0 = .ok (.iload_n 1, 1) := by decide +kernel
theorem dX9_round_1 : decode cX9_round 1 = .ok (.i2l, 1) := by decide +kernel
theorem dX9_round_2 : decode cX9_round 2 = .ok (.lconst 1, 1) := by decide +kernel
theorem dX9_round_3 : decode cX9_round 3 = .ok (.ldc2_w 348, 3) := by decide +kernel
theorem dX9_round_6 : decode cX9_round 6 = .ok (.invokestatic 124, 3) := by decide +kernel
theorem dX9_round_9 : decode cX9_round 9 = .ok (.ifCond .eq 16, 3) := by decide +kernel
theorem dX9_round_12 : decode cX9_round 12 = .ok (.iload_n 2, 1) := by decide +kernel
theorem dX9_round_13 : decode cX9_round 13 = .ok (.i2l, 1) := by decide +kernel
theorem dX9_round_14 : decode cX9_round 14 = .ok (.lconst 0, 1) := by decide +kernel
theorem dX9_round_15 : decode cX9_round 15 = .ok (.iconst 1, 1) := by decide +kernel
theorem dX9_round_16 : decode cX9_round 16 = .ok (.iload_n 1, 1) := by decide +kernel
theorem dX9_round_17 : decode cX9_round 17 = .ok (.iadd, 1) := by decide +kernel
theorem dX9_round_18 : decode cX9_round 18 = .ok (.i2l, 1) := by decide +kernel
theorem dX9_round_19 : decode cX9_round 19 = .ok (.invokestatic 124, 3) := by decide +kernel
theorem dX9_round_22 : decode cX9_round 22 = .ok (.ifCond .ne 6, 3) := by decide +kernel
theorem dX9_round_25 : decode cX9_round 25 = .ok (.ldc 166, 2) := by decide +kernel
theorem dX9_round_27 : decode cX9_round 27 = .ok (.ireturn, 1) := by decide +kernel
theorem dX9_round_28 : decode cX9_round 28 = .ok (.iconst (-1), 1) := by decide +kernel
theorem dX9_round_29 : decode cX9_round 29 = .ok (.istore_n 3, 1) := by decide +kernel
theorem dX9_round_30 : decode cX9_round 30 = .ok (.lconst 0, 1) := by decide +kernel
theorem dX9_round_31 : decode cX9_round 31 = .ok (.lstore 4, 2) := by decide +kernel
theorem dX9_round_33 : decode cX9_round 33 = .ok (.lconst 0, 1) := by decide +kernel
theorem dX9_round_34 : decode cX9_round 34 = .ok (.lstore 6, 2) := by decide +kernel
theorem dX9_round_36 : decode cX9_round 36 = .ok (.aload_n 0, 1) := by decide +kernel
theorem dX9_round_37 : decode cX9_round 37 = .ok (.iconst 2, 1) := by decide +kernel
theorem dX9_round_38 : decode cX9_round 38 = .ok (.invokevirtual 350, 3) := by decide +kernel
theorem dX9_round_41 : decode cX9_round 41 = .ok (.aload_n 0, 1) := by decide +kernel
theorem dX9_round_42 : decode cX9_round 42 = .ok (.getfield 152, 3) := by decide +kernel
theorem dX9_round_45 : decode cX9_round 45 = .ok (.lstore 8, 2) := by decide +kernel
theorem dX9_round_47 : decode cX9_round 47 = .ok (.aload_n 0, 1) := by decide +kernel
theorem dX9_round_48 : decode cX9_round 48 = .ok (.getfield 155, 3) := by decide +kernel
theorem dX9_round_51 : decode cX9_round 51 = .ok (.lstore 10, 2) := by decide +kernel
theorem dX9_round_53 : decode cX9_round 53 = .ok (.iconst 0, 1) := by decide +kernel
theorem dX9_round_54 : decode cX9_round 54 = .ok (.istore 12, 2) := by decide +kernel
theorem dX9_round_56 : decode cX9_round 56 = .ok (.iload 12, 2) := by decide +kernel
theorem dX9_round_58 : decode cX9_round 58 = .ok (.aload_n 0, 1) := by decide +kernel
theorem dX9_round_59 : decode cX9_round 59 = .ok (.iload_n 1, 1) := by decide +kernel
theorem dX9_round_60 : decode cX9_round 60 = .ok (.invokevirtual 345, 3) := by decide +kernel
theorem dX9_round_63 : decode cX9_round 63 = .ok (.if_icmp .ge 139, 3) := by decide +kernel
theorem dX9_round_66 : decode cX9_round 66 = .ok (.iconst 0, 1) := by decide +kernel
theorem dX9_round_67 : decode cX9_round 67 = .ok (.istore 13, 2) := by decide +kernel
theorem dX9_round_69 : decode cX9_round 69 = .ok (.iload 13, 2) := by decide +kernel
theorem dX9_round_71 : decode cX9_round 71 = .ok (.iload_n 1, 1) := by decide +kernel
theorem dX9_round_72 : decode cX9_round 72 = .ok (.if_icmp .ge 34, 3) := by decide +kernel
theorem dX9_round_75 : decode cX9_round 75 = .ok (.aload_n 0, 1) := by decide +kernel
theorem dX9_round_76 : decode cX9_round 76 = .ok (.aload_n 0, 1) := by decide +kernel
theorem dX9_round_77 : decode cX9_round 77 = .ok (.iload 12, 2) := by decide +kernel
theorem dX9_round_79 : decode cX9_round 79 = .ok (.iload_n 1, 1) := by decide +kernel
theorem dX9_round_80 : decode cX9_round 80 = .ok (.iload 13, 2) := by decide +kernel
theorem dX9_round_82 : decode cX9_round 82 = .ok (.invokevirtual 353, 3) := by decide +kernel
theorem dX9_round_85 : decode cX9_round 85 = .ok (.putfield 54, 3) := by decide +kernel
theorem dX9_round_88 : decode cX9_round 88 = .ok (.aload_n 0, 1) := by decide +kernel
theorem dX9_round_89 : decode cX9_round 89 = .ok (.aload_n 0, 1) := by decide +kernel
theorem dX9_round_90 : decode cX9_round 90 = .ok (.aload_n 0, 1) := by decide +kernel
theorem dX9_round_91 : decode cX9_round 91 = .ok (.getfield 149, 3) := by decide +kernel
theorem dX9_round_94 : decode cX9_round 94 = .ok (.invokevirtual 291, 3) := by decide +kernel
theorem dX9_round_97 : decode cX9_round 97 = .ok (.invokevirtual 327, 3) := by decide +kernel
theorem dX9_round_100 : decode cX9_round 100 = .ok (.iinc 13 1, 3) := by decide +kernel
theorem dX9_round_103 : decode cX9_round 103 = .ok (.goto (-34), 3) := by decide +kernel
theorem dX9_round_106 : decode cX9_round 106 = .ok (.iload_n 3, 1) := by decide +kernel
theorem dX9_round_107 : decode cX9_round 107 = .ok (.ifCond .lt 33, 3) := by decide +kernel
theorem dX9_round_110 : decode cX9_round 110 = .ok (.aload_n 0, 1) := by decide +kernel
theorem dX9_round_111 : decode cX9_round 111 = .ok (.getfield 152, 3) := by decide +kernel
theorem dX9_round_114 : decode cX9_round 114 = .ok (.lload 4, 2) := by decide +kernel
theorem dX9_round_116 : decode cX9_round 116 = .ok (.lcmp, 1) := by decide +kernel
theorem dX9_round_117 : decode cX9_round 117 = .ok (.ifCond .lt 23, 3) := by decide +kernel
theorem dX9_round_120 : decode cX9_round 120 = .ok (.aload_n 0, 1) := by decide +kernel
theorem dX9_round_121 : decode cX9_round 121 = .ok (.getfield 152, 3) := by decide +kernel
theorem dX9_round_124 : decode cX9_round 124 = .ok (.lload 4, 2) := by decide +kernel
theorem dX9_round_126 : decode cX9_round 126 = .ok (.lcmp, 1) := by decide +kernel
theorem dX9_round_127 : decode cX9_round 127 = .ok (.ifCond .ne 17, 3) := by decide +kernel
theorem dX9_round_130 : decode cX9_round 130 = .ok (.aload_n 0, 1) := by decide +kernel
theorem dX9_round_131 : decode cX9_round 131 = .ok (.getfield 155, 3) := by decide +kernel
theorem dX9_round_134 : decode cX9_round 134 = .ok (.lload 6, 2) := by decide +kernel
theorem dX9_round_136 : decode cX9_round 136 = .ok (.lcmp, 1) := by decide +kernel
theorem dX9_round_137 : decode cX9_round 137 = .ok (.ifCond .ge 7, 3) := by decide +kernel
theorem dX9_round_140 : decode cX9_round 140 = .ok (.iconst 1, 1) := by decide +kernel
theorem dX9_round_141 : decode cX9_round 141 = .ok (.goto 4, 3) := by decide +kernel
theorem dX9_round_144 : decode cX9_round 144 = .ok (.iconst 0, 1) := by decide +kernel
theorem dX9_round_145 : decode cX9_round 145 = .ok (.istore 13, 2) := by decide +kernel
theorem dX9_round_147 : decode cX9_round 147 = .ok (.iload 13, 2) := by decide +kernel
theorem dX9_round_149 : decode cX9_round 149 = .ok (.ifCond .eq 8, 3) := by decide +kernel
theorem dX9_round_152 : decode cX9_round 152 = .ok (.iload 12, 2) := by decide +kernel
theorem dX9_round_154 : decode cX9_round 154 = .ok (.goto 4, 3) := by decide +kernel
theorem dX9_round_157 : decode cX9_round 157 = .ok (.iload_n 3, 1) := by decide +kernel
theorem dX9_round_158 : decode cX9_round 158 = .ok (.istore_n 3, 1) := by decide +kernel
theorem dX9_round_159 : decode cX9_round 159 = .ok (.iload 13, 2) := by decide +kernel
theorem dX9_round_161 : decode cX9_round 161 = .ok (.ifCond .eq 10, 3) := by decide +kernel
theorem dX9_round_164 : decode cX9_round 164 = .ok (.aload_n 0, 1) := by decide +kernel
theorem dX9_round_165 : decode cX9_round 165 = .ok (.getfield 152, 3) := by decide +kernel
theorem dX9_round_168 : decode cX9_round 168 = .ok (.goto 5, 3) := by decide +kernel
theorem dX9_round_171 : decode cX9_round 171 = .ok (.lload 4, 2) := by decide +kernel
theorem dX9_round_173 : decode cX9_round 173 = .ok (.lstore 4, 2) := by decide +kernel
theorem dX9_round_175 : decode cX9_round 175 = .ok (.iload 13, 2) := by decide +kernel
theorem dX9_round_177 : decode cX9_round 177 = .ok (.ifCond .eq 10, 3) := by decide +kernel
theorem dX9_round_180 : decode cX9_round 180 = .ok (.aload_n 0, 1) := by decide +kernel
theorem dX9_round_181 : decode cX9_round 181 = .ok (.getfield 155, 3) := by decide +kernel
theorem dX9_round_184 : decode cX9_round 184 = .ok (.goto 5, 3) := by decide +kernel
theorem dX9_round_187 : decode cX9_round 187 = .ok (.lload 6, 2) := by decide +kernel
theorem dX9_round_189 : decode cX9_round 189 = .ok (.lstore 6, 2) := by decide +kernel
theorem dX9_round_191 : decode cX9_round 191 = .ok (.aload_n 0, 1) := by decide +kernel
theorem dX9_round_192 : decode cX9_round 192 = .ok (.iconst 2, 1) := by decide +kernel
theorem dX9_round_193 : decode cX9_round 193 = .ok (.invokevirtual 356, 3) := by decide +kernel
theorem dX9_round_196 : decode cX9_round 196 = .ok (.iinc 12 1, 3) := by decide +kernel
theorem dX9_round_199 : decode cX9_round 199 = .ok (.goto (-143), 3) := by decide +kernel
theorem dX9_round_202 : decode cX9_round 202 = .ok (.iload_n 2, 1) := by decide +kernel
theorem dX9_round_203 : decode cX9_round 203 = .ok (.ifCond .ne 11, 3) := by decide +kernel
theorem dX9_round_206 : decode cX9_round 206 = .ok (.lload 4, 2) := by decide +kernel
theorem dX9_round_208 : decode cX9_round 208 = .ok (.lload 8, 2) := by decide +kernel
theorem dX9_round_210 : decode cX9_round 210 = .ok (.lsub, 1) := by decide +kernel
theorem dX9_round_211 : decode cX9_round 211 = .ok (.goto 26, 3) := by decide +kernel
theorem dX9_round_214 : decode cX9_round 214 = .ok (.iload_n 2, 1) := by decide +kernel
theorem dX9_round_215 : decode cX9_round 215 = .ok (.iconst 1, 1) := by decide +kernel
theorem dX9_round_216 : decode cX9_round 216 = .ok (.if_icmp .ne 11, 3) := by decide +kernel
theorem dX9_round_219 : decode cX9_round 219 = .ok (.lload 6, 2) := by decide +kernel
theorem dX9_round_221 : decode cX9_round 221 = .ok (.lload 10, 2) := by decide +kernel
theorem dX9_round_223 : decode cX9_round 223 = .ok (.lsub, 1) := by decide +kernel
theorem dX9_round_224 : decode cX9_round 224 = .ok (.goto 13, 3) := by decide +kernel
theorem dX9_round_227 : decode cX9_round 227 = .ok (.aload_n 0, 1) := by decide +kernel
theorem dX9_round_228 : decode cX9_round 228 = .ok (.iload_n 3, 1) := by decide +kernel
theorem dX9_round_229 : decode cX9_round 229 = .ok (.iload_n 1, 1) := by decide +kernel
theorem dX9_round_230 : decode cX9_round 230 = .ok (.iload_n 2, 1) := by decide +kernel
theorem dX9_round_231 : decode cX9_round 231 = .ok (.iconst 2, 1) := by decide +kernel
theorem dX9_round_232 : decode cX9_round 232 = .ok (.isub, 1) := by decide +kernel
theorem dX9_round_233 : decode cX9_round 233 = .ok (.invokevirtual 353, 3) := by decide +kernel
theorem dX9_round_236 : decode cX9_round 236 = .ok (.i2l, 1) := by decide +kernel
theorem dX9_round_237 : decode cX9_round 237 = .ok (.l2i, 1) := by decide +kernel
theorem dX9_round_238 : decode cX9_round 238 = .ok (.ireturn, 1) := by decide +kernel
theorem dX9_needsOn_0 : decode cX9_needsOn 0 = .ok (.iconst 0, 1) := by decide +kernel
theorem dX9_needsOn_1 : decode cX9_needsOn 1 = .ok (.istore_n 3, 1) := by decide +kernel
theorem dX9_needsOn_2 : decode cX9_needsOn 2 = .ok (.iconst 0, 1) := by decide +kernel
theorem dX9_needsOn_3 : decode cX9_needsOn 3 = .ok (.istore 4, 2) := by decide +kernel
theorem dX9_needsOn_5 : decode cX9_needsOn 5 = .ok (.iload 4, 2) := by decide +kernel
theorem dX9_needsOn_7 : decode cX9_needsOn 7 = .ok (.iload_n 2, 1) := by decide +kernel
theorem dX9_needsOn_8 : decode cX9_needsOn 8 = .ok (.if_icmp .ge 52, 3) := by decide +kernel
theorem dX9_needsOn_11 : decode cX9_needsOn 11 = .ok (.aload_n 0, 1) := by decide +kernel
theorem dX9_needsOn_12 : decode cX9_needsOn 12 = .ok (.iload_n 1, 1) := by decide +kernel
theorem dX9_needsOn_13 : decode cX9_needsOn 13 = .ok (.aload_n 0, 1) := by decide +kernel
theorem dX9_needsOn_14 : decode cX9_needsOn 14 = .ok (.getfield 149, 3) := by decide +kernel
theorem dX9_needsOn_17 : decode cX9_needsOn 17 = .ok (.iload 4, 2) := by decide +kernel
theorem dX9_needsOn_19 : decode cX9_needsOn 19 = .ok (.iadd, 1) := by decide +kernel
theorem dX9_needsOn_20 : decode cX9_needsOn 20 = .ok (.iconst 0, 1) := by decide +kernel
theorem dX9_needsOn_21 : decode cX9_needsOn 21 = .ok (.invokevirtual 297, 3) := by decide +kernel
theorem dX9_needsOn_24 : decode cX9_needsOn 24 = .ok (.istore 5, 2) := by decide +kernel
theorem dX9_needsOn_26 : decode cX9_needsOn 26 = .ok (.iload_n 3, 1) := by decide +kernel
theorem dX9_needsOn_27 : decode cX9_needsOn 27 = .ok (.aload_n 0, 1) := by decide +kernel
theorem dX9_needsOn_28 : decode cX9_needsOn 28 = .ok (.getfield 7, 3) := by decide +kernel
theorem dX9_needsOn_31 : decode cX9_needsOn 31 = .ok (.iconst 5, 1) := by decide +kernel
theorem dX9_needsOn_32 : decode cX9_needsOn 32 = .ok (.iload_n 1, 1) := by decide +kernel
theorem dX9_needsOn_33 : decode cX9_needsOn 33 = .ok (.imul, 1) := by decide +kernel
theorem dX9_needsOn_34 : decode cX9_needsOn 34 = .ok (.iaload, 1) := by decide +kernel
theorem dX9_needsOn_35 : decode cX9_needsOn 35 = .ok (.iconst 2, 1) := by decide +kernel
theorem dX9_needsOn_36 : decode cX9_needsOn 36 = .ok (.if_icmp .ne 14, 3) := by decide +kernel
theorem dX9_needsOn_39 : decode cX9_needsOn 39 = .ok (.iload 5, 2) := by decide +kernel
theorem dX9_needsOn_41 : decode cX9_needsOn 41 = .ok (.iload 5, 2) := by decide +kernel
theorem dX9_needsOn_43 : decode cX9_needsOn 43 = .ok (.bipush 10, 2) := by decide +kernel
theorem dX9_needsOn_45 : decode cX9_needsOn 45 = .ok (.idiv, 1) := by decide +kernel
theorem dX9_needsOn_46 : decode cX9_needsOn 46 = .ok (.iadd, 1) := by decide +kernel
theorem dX9_needsOn_47 : decode cX9_needsOn 47 = .ok (.goto 5, 3) := by decide +kernel
theorem dX9_needsOn_50 : decode cX9_needsOn 50 = .ok (.iload 5, 2) := by decide +kernel
theorem dX9_needsOn_52 : decode cX9_needsOn 52 = .ok (.iadd, 1) := by decide +kernel
theorem dX9_needsOn_53 : decode cX9_needsOn 53 = .ok (.istore_n 3, 1) := by decide +kernel
theorem dX9_needsOn_54 : decode cX9_needsOn 54 = .ok (.iinc 4 1, 3) := by decide +kernel
theorem dX9_needsOn_57 : decode cX9_needsOn 57 = .ok (.goto (-52), 3) := by decide +kernel
theorem dX9_needsOn_60 : decode cX9_needsOn 60 = .ok (.iload_n 3, 1) := by decide +kernel
theorem dX9_needsOn_61 : decode cX9_needsOn 61 = .ok (.ireturn, 1) := by decide +kernel
theorem dX9_darken_0 : decode cX9_darken 0 = .ok (.iload_n 1, 1) := by decide +kernel
theorem dX9_darken_1 : decode cX9_darken 1 = .ok (.i2l, 1) := by decide +kernel
theorem dX9_darken_2 : decode cX9_darken 2 = .ok (.lconst 0, 1) := by decide +kernel
theorem dX9_darken_3 : decode cX9_darken 3 = .ok (.ldc2_w 359, 3) := by decide +kernel
theorem dX9_darken_6 : decode cX9_darken 6 = .ok (.invokestatic 124, 3) := by decide +kernel
theorem dX9_darken_9 : decode cX9_darken 9 = .ok (.ifCond .eq 15, 3) := by decide +kernel
theorem dX9_darken_12 : decode cX9_darken 12 = .ok (.iload_n 2, 1) := by decide +kernel
theorem dX9_darken_13 : decode cX9_darken 13 = .ok (.i2l, 1) := by decide +kernel
theorem dX9_darken_14 : decode cX9_darken 14 = .ok (.lconst 1, 1) := by decide +kernel
theorem dX9_darken_15 : decode cX9_darken 15 = .ok (.ldc2_w 361, 3) := by decide +kernel
theorem dX9_darken_18 : decode cX9_darken 18 = .ok (.invokestatic 124, 3) := by decide +kernel
theorem dX9_darken_21 : decode cX9_darken 21 = .ok (.ifCond .ne 6, 3) := by decide +kernel
theorem dX9_darken_24 : decode cX9_darken 24 = .ok (.ldc 166, 2) := by decide +kernel
theorem dX9_darken_26 : decode cX9_darken 26 = .ok (.ireturn, 1) := by decide +kernel
theorem dX9_darken_27 : decode cX9_darken 27 = .ok (.iconst 0, 1) := by decide +kernel
theorem dX9_darken_28 : decode cX9_darken 28 = .ok (.istore_n 3, 1) := by decide +kernel
theorem dX9_darken_29 : decode cX9_darken 29 = .ok (.iload_n 3, 1) := by decide +kernel
theorem dX9_darken_30 : decode cX9_darken 30 = .ok (.aload_n 0, 1) := by decide +kernel
theorem dX9_darken_31 : decode cX9_darken 31 = .ok (.getfield 121, 3) := by decide +kernel
theorem dX9_darken_34 : decode cX9_darken 34 = .ok (.if_icmp .ge 21, 3) := by decide +kernel
theorem dX9_darken_37 : decode cX9_darken 37 = .ok (.aload_n 0, 1) := by decide +kernel
theorem dX9_darken_38 : decode cX9_darken 38 = .ok (.getfield 91, 3) := by decide +kernel
theorem dX9_darken_41 : decode cX9_darken 41 = .ok (.iload_n 3, 1) := by decide +kernel
theorem dX9_darken_42 : decode cX9_darken 42 = .ok (.aload_n 0, 1) := by decide +kernel
theorem dX9_darken_43 : decode cX9_darken 43 = .ok (.iload_n 3, 1) := by decide +kernel
theorem dX9_darken_44 : decode cX9_darken 44 = .ok (.iload_n 2, 1) := by decide +kernel
theorem dX9_darken_45 : decode cX9_darken 45 = .ok (.invokevirtual 363, 3) := by decide +kernel
theorem dX9_darken_48 : decode cX9_darken 48 = .ok (.iastore, 1) := by decide +kernel
theorem dX9_darken_49 : decode cX9_darken 49 = .ok (.iinc 3 1, 3) := by decide +kernel
theorem dX9_darken_52 : decode cX9_darken 52 = .ok (.goto (-23), 3) := by decide +kernel
theorem dX9_darken_55 : decode cX9_darken 55 = .ok (.iconst (-1), 1) := by decide +kernel
theorem dX9_darken_56 : decode cX9_darken 56 = .ok (.istore_n 3, 1) := by decide +kernel
theorem dX9_darken_57 : decode cX9_darken 57 = .ok (.iconst 0, 1) := by decide +kernel
theorem dX9_darken_58 : decode cX9_darken 58 = .ok (.istore 4, 2) := by decide +kernel
theorem dX9_darken_60 : decode cX9_darken 60 = .ok (.iconst 0, 1) := by decide +kernel
theorem dX9_darken_61 : decode cX9_darken 61 = .ok (.istore 5, 2) := by decide +kernel
theorem dX9_darken_63 : decode cX9_darken 63 = .ok (.iload 5, 2) := by decide +kernel
theorem dX9_darken_65 : decode cX9_darken 65 = .ok (.iconst 1, 1) := by decide +kernel
theorem dX9_darken_66 : decode cX9_darken 66 = .ok (.aload_n 0, 1) := by decide +kernel
theorem dX9_darken_67 : decode cX9_darken 67 = .ok (.getfield 121, 3) := by decide +kernel
theorem dX9_darken_70 : decode cX9_darken 70 = .ok (.ishl, 1) := by decide +kernel
theorem dX9_darken_71 : decode cX9_darken 71 = .ok (.if_icmp .ge 139, 3) := by decide +kernel
theorem dX9_darken_74 : decode cX9_darken 74 = .ok (.iconst 0, 1) := by decide +kernel
theorem dX9_darken_75 : decode cX9_darken 75 = .ok (.istore 6, 2) := by decide +kernel
theorem dX9_darken_77 : decode cX9_darken 77 = .ok (.iconst 0, 1) := by decide +kernel
theorem dX9_darken_78 : decode cX9_darken 78 = .ok (.istore 7, 2) := by decide +kernel
theorem dX9_darken_80 : decode cX9_darken 80 = .ok (.iconst 0, 1) := by decide +kernel
theorem dX9_darken_81 : decode cX9_darken 81 = .ok (.istore 8, 2) := by decide +kernel
theorem dX9_darken_83 : decode cX9_darken 83 = .ok (.iload 8, 2) := by decide +kernel
theorem dX9_darken_85 : decode cX9_darken 85 = .ok (.aload_n 0, 1) := by decide +kernel
theorem dX9_darken_86 : decode cX9_darken 86 = .ok (.getfield 121, 3) := by decide +kernel
theorem dX9_darken_89 : decode cX9_darken 89 = .ok (.if_icmp .ge 65, 3) := by decide +kernel
theorem dX9_darken_92 : decode cX9_darken 92 = .ok (.iload 6, 2) := by decide +kernel
theorem dX9_darken_94 : decode cX9_darken 94 = .ok (.iload 5, 2) := by decide +kernel
theorem dX9_darken_96 : decode cX9_darken 96 = .ok (.iload 8, 2) := by decide +kernel
theorem dX9_darken_98 : decode cX9_darken 98 = .ok (.invokestatic 240, 3) := by decide +kernel
theorem dX9_darken_101 : decode cX9_darken 101 = .ok (.ifCond .eq 7, 3) := by decide +kernel
theorem dX9_darken_104 : decode cX9_darken 104 = .ok (.iconst 0, 1) := by decide +kernel
theorem dX9_darken_105 : decode cX9_darken 105 = .ok (.goto 10, 3) := by decide +kernel
theorem dX9_darken_108 : decode cX9_darken 108 = .ok (.aload_n 0, 1) := by decide +kernel
theorem dX9_darken_109 : decode cX9_darken 109 = .ok (.getfield 91, 3) := by decide +kernel
theorem dX9_darken_112 : decode cX9_darken 112 = .ok (.iload 8, 2) := by decide +kernel
theorem dX9_darken_114 : decode cX9_darken 114 = .ok (.iaload, 1) := by decide +kernel
theorem dX9_darken_115 : decode cX9_darken 115 = .ok (.iadd, 1) := by decide +kernel
theorem dX9_darken_116 : decode cX9_darken 116 = .ok (.istore 6, 2) := by decide +kernel
theorem dX9_darken_118 : decode cX9_darken 118 = .ok (.iload 7, 2) := by decide +kernel
theorem dX9_darken_120 : decode cX9_darken 120 = .ok (.iload 5, 2) := by decide +kernel
theorem dX9_darken_122 : decode cX9_darken 122 = .ok (.iload 8, 2) := by decide +kernel
theorem dX9_darken_124 : decode cX9_darken 124 = .ok (.invokestatic 240, 3) := by decide +kernel
theorem dX9_darken_127 : decode cX9_darken 127 = .ok (.ifCond .eq 17, 3) := by decide +kernel
theorem dX9_darken_130 : decode cX9_darken 130 = .ok (.aload_n 0, 1) := by decide +kernel
theorem dX9_darken_131 : decode cX9_darken 131 = .ok (.getfield 7, 3) := by decide +kernel
theorem dX9_darken_134 : decode cX9_darken 134 = .ok (.iconst 5, 1) := by decide +kernel
theorem dX9_darken_135 : decode cX9_darken 135 = .ok (.iload 8, 2) := by decide +kernel
theorem dX9_darken_137 : decode cX9_darken 137 = .ok (.imul, 1) := by decide +kernel
theorem dX9_darken_138 : decode cX9_darken 138 = .ok (.iconst 4, 1) := by decide +kernel
theorem dX9_darken_139 : decode cX9_darken 139 = .ok (.iadd, 1) := by decide +kernel
theorem dX9_darken_140 : decode cX9_darken 140 = .ok (.iaload, 1) := by decide +kernel
theorem dX9_darken_141 : decode cX9_darken 141 = .ok (.goto 4, 3) := by decide +kernel
theorem dX9_darken_144 : decode cX9_darken 144 = .ok (.iconst 0, 1) := by decide +kernel
theorem dX9_darken_145 : decode cX9_darken 145 = .ok (.iadd, 1) := by decide +kernel
theorem dX9_darken_146 : decode cX9_darken 146 = .ok (.istore 7, 2) := by decide +kernel
theorem dX9_darken_148 : decode cX9_darken 148 = .ok (.iinc 8 1, 3) := by decide +kernel
theorem dX9_darken_151 : decode cX9_darken 151 = .ok (.goto (-68), 3) := by decide +kernel
theorem dX9_darken_154 : decode cX9_darken 154 = .ok (.iload 6, 2) := by decide +kernel
theorem dX9_darken_156 : decode cX9_darken 156 = .ok (.iload_n 1, 1) := by decide +kernel
theorem dX9_darken_157 : decode cX9_darken 157 = .ok (.if_icmp .gt 18, 3) := by decide +kernel
theorem dX9_darken_160 : decode cX9_darken 160 = .ok (.iload_n 3, 1) := by decide +kernel
theorem dX9_darken_161 : decode cX9_darken 161 = .ok (.ifCond .lt 10, 3) := by decide +kernel
theorem dX9_darken_164 : decode cX9_darken 164 = .ok (.iload 7, 2) := by decide +kernel
theorem dX9_darken_166 : decode cX9_darken 166 = .ok (.iload 4, 2) := by decide +kernel
theorem dX9_darken_168 : decode cX9_darken 168 = .ok (.if_icmp .ge 7, 3) := by decide +kernel
theorem dX9_darken_171 : decode cX9_darken 171 = .ok (.iconst 1, 1) := by decide +kernel
theorem dX9_darken_172 : decode cX9_darken 172 = .ok (.goto 4, 3) := by decide +kernel
theorem dX9_darken_175 : decode cX9_darken 175 = .ok (.iconst 0, 1) := by decide +kernel
theorem dX9_darken_176 : decode cX9_darken 176 = .ok (.istore 8, 2) := by decide +kernel
theorem dX9_darken_178 : decode cX9_darken 178 = .ok (.iload 8, 2) := by decide +kernel
theorem dX9_darken_180 : decode cX9_darken 180 = .ok (.ifCond .eq 8, 3) := by decide +kernel
theorem dX9_darken_183 : decode cX9_darken 183 = .ok (.iload 5, 2) := by decide +kernel
theorem dX9_darken_185 : decode cX9_darken 185 = .ok (.goto 4, 3) := by decide +kernel
theorem dX9_darken_188 : decode cX9_darken 188 = .ok (.iload_n 3, 1) := by decide +kernel
theorem dX9_darken_189 : decode cX9_darken 189 = .ok (.istore_n 3, 1) := by decide +kernel
theorem dX9_darken_190 : decode cX9_darken 190 = .ok (.iload 8, 2) := by decide +kernel
theorem dX9_darken_192 : decode cX9_darken 192 = .ok (.ifCond .eq 8, 3) := by decide +kernel
theorem dX9_darken_195 : decode cX9_darken 195 = .ok (.iload 7, 2) := by decide +kernel
theorem dX9_darken_197 : decode cX9_darken 197 = .ok (.goto 5, 3) := by decide +kernel
theorem dX9_darken_200 : decode cX9_darken 200 = .ok (.iload 4, 2) := by decide +kernel
theorem dX9_darken_202 : decode cX9_darken 202 = .ok (.istore 4, 2) := by decide +kernel
theorem dX9_darken_204 : decode cX9_darken 204 = .ok (.iinc 5 1, 3) := by decide +kernel
theorem dX9_darken_207 : decode cX9_darken 207 = .ok (.goto (-144), 3) := by decide +kernel
theorem dX9_darken_210 : decode cX9_darken 210 = .ok (.iload_n 3, 1) := by decide +kernel
theorem dX9_darken_211 : decode cX9_darken 211 = .ok (.ireturn, 1) := by decide +kernel
theorem dX9_lastsWith_0 : decode cX9_lastsWith 0 = .ok (.aload_n 0, 1) := by decide +kernel
theorem dX9_lastsWith_1 : decode cX9_lastsWith 1 = .ok (.getfield 41, 3) := by decide +kernel
theorem dX9_lastsWith_4 : decode cX9_lastsWith 4 = .ok (.iload_n 1, 1) := by decide +kernel
theorem dX9_lastsWith_5 : decode cX9_lastsWith 5 = .ok (.iaload, 1) := by decide +kernel
theorem dX9_lastsWith_6 : decode cX9_lastsWith 6 = .ok (.iload_n 2, 1) := by decide +kernel
theorem dX9_lastsWith_7 : decode cX9_lastsWith 7 = .ok (.iadd, 1) := by decide +kernel
theorem dX9_lastsWith_8 : decode cX9_lastsWith 8 = .ok (.istore_n 3, 1) := by decide +kernel
theorem dX9_lastsWith_9 : decode cX9_lastsWith 9 = .ok (.iconst 0, 1) := by decide +kernel
theorem dX9_lastsWith_10 : decode cX9_lastsWith 10 = .ok (.istore 4, 2) := by decide +kernel
theorem dX9_lastsWith_12 : decode cX9_lastsWith 12 = .ok (.iload 4, 2) := by decide +kernel
theorem dX9_lastsWith_14 : decode cX9_lastsWith 14 = .ok (.sipush 400, 3) := by decide +kernel
theorem dX9_lastsWith_17 : decode cX9_lastsWith 17 = .ok (.if_icmp .ge 85, 3) := by decide +kernel
theorem dX9_lastsWith_20 : decode cX9_lastsWith 20 = .ok (.aload_n 0, 1) := by decide +kernel
theorem dX9_lastsWith_21 : decode cX9_lastsWith 21 = .ok (.aload_n 0, 1) := by decide +kernel
theorem dX9_lastsWith_22 : decode cX9_lastsWith 22 = .ok (.getfield 149, 3) := by decide +kernel
theorem dX9_lastsWith_25 : decode cX9_lastsWith 25 = .ok (.iload 4, 2) := by decide +kernel
theorem dX9_lastsWith_27 : decode cX9_lastsWith 27 = .ok (.iadd, 1) := by decide +kernel
theorem dX9_lastsWith_28 : decode cX9_lastsWith 28 = .ok (.invokevirtual 291, 3) := by decide +kernel
theorem dX9_lastsWith_31 : decode cX9_lastsWith 31 = .ok (.istore 5, 2) := by decide +kernel
theorem dX9_lastsWith_33 : decode cX9_lastsWith 33 = .ok (.aload_n 0, 1) := by decide +kernel
theorem dX9_lastsWith_34 : decode cX9_lastsWith 34 = .ok (.iload_n 1, 1) := by decide +kernel
theorem dX9_lastsWith_35 : decode cX9_lastsWith 35 = .ok (.aload_n 0, 1) := by decide +kernel
theorem dX9_lastsWith_36 : decode cX9_lastsWith 36 = .ok (.getfield 149, 3) := by decide +kernel
theorem dX9_lastsWith_39 : decode cX9_lastsWith 39 = .ok (.iload 4, 2) := by decide +kernel
theorem dX9_lastsWith_41 : decode cX9_lastsWith 41 = .ok (.iadd, 1) := by decide +kernel
theorem dX9_lastsWith_42 : decode cX9_lastsWith 42 = .ok (.iload 5, 2) := by decide +kernel
theorem dX9_lastsWith_44 : decode cX9_lastsWith 44 = .ok (.invokevirtual 297, 3) := by decide +kernel
theorem dX9_lastsWith_47 : decode cX9_lastsWith 47 = .ok (.istore 6, 2) := by decide +kernel
theorem dX9_lastsWith_49 : decode cX9_lastsWith 49 = .ok (.iload_n 3, 1) := by decide +kernel
theorem dX9_lastsWith_50 : decode cX9_lastsWith 50 = .ok (.iload 6, 2) := by decide +kernel
theorem dX9_lastsWith_52 : decode cX9_lastsWith 52 = .ok (.if_icmp .lt 13, 3) := by decide +kernel
theorem dX9_lastsWith_55 : decode cX9_lastsWith 55 = .ok (.aload_n 0, 1) := by decide +kernel
theorem dX9_lastsWith_56 : decode cX9_lastsWith 56 = .ok (.iload_n 1, 1) := by decide +kernel
theorem dX9_lastsWith_57 : decode cX9_lastsWith 57 = .ok (.iload 5, 2) := by decide +kernel
theorem dX9_lastsWith_59 : decode cX9_lastsWith 59 = .ok (.invokevirtual 301, 3) := by decide +kernel
theorem dX9_lastsWith_62 : decode cX9_lastsWith 62 = .ok (.ifCond .eq 6, 3) := by decide +kernel
theorem dX9_lastsWith_65 : decode cX9_lastsWith 65 = .ok (.iload 4, 2) := by decide +kernel
theorem dX9_lastsWith_67 : decode cX9_lastsWith 67 = .ok (.ireturn, 1) := by decide +kernel
theorem dX9_lastsWith_68 : decode cX9_lastsWith 68 = .ok (.iload_n 3, 1) := by decide +kernel
theorem dX9_lastsWith_69 : decode cX9_lastsWith 69 = .ok (.iload 6, 2) := by decide +kernel
theorem dX9_lastsWith_71 : decode cX9_lastsWith 71 = .ok (.isub, 1) := by decide +kernel
theorem dX9_lastsWith_72 : decode cX9_lastsWith 72 = .ok (.istore_n 3, 1) := by decide +kernel
theorem dX9_lastsWith_73 : decode cX9_lastsWith 73 = .ok (.iload_n 3, 1) := by decide +kernel
theorem dX9_lastsWith_74 : decode cX9_lastsWith 74 = .ok (.aload_n 0, 1) := by decide +kernel
theorem dX9_lastsWith_75 : decode cX9_lastsWith 75 = .ok (.getfield 7, 3) := by decide +kernel
theorem dX9_lastsWith_78 : decode cX9_lastsWith 78 = .ok (.iconst 5, 1) := by decide +kernel
theorem dX9_lastsWith_79 : decode cX9_lastsWith 79 = .ok (.iload_n 1, 1) := by decide +kernel
theorem dX9_lastsWith_80 : decode cX9_lastsWith 80 = .ok (.imul, 1) := by decide +kernel
theorem dX9_lastsWith_81 : decode cX9_lastsWith 81 = .ok (.iaload, 1) := by decide +kernel
theorem dX9_lastsWith_82 : decode cX9_lastsWith 82 = .ok (.iconst 2, 1) := by decide +kernel
theorem dX9_lastsWith_83 : decode cX9_lastsWith 83 = .ok (.if_icmp .ne 10, 3) := by decide +kernel
theorem dX9_lastsWith_86 : decode cX9_lastsWith 86 = .ok (.iload_n 3, 1) := by decide +kernel
theorem dX9_lastsWith_87 : decode cX9_lastsWith 87 = .ok (.invokestatic 304, 3) := by decide +kernel
theorem dX9_lastsWith_90 : decode cX9_lastsWith 90 = .ok (.goto 4, 3) := by decide +kernel
theorem dX9_lastsWith_93 : decode cX9_lastsWith 93 = .ok (.iconst 0, 1) := by decide +kernel
theorem dX9_lastsWith_94 : decode cX9_lastsWith 94 = .ok (.isub, 1) := by decide +kernel
theorem dX9_lastsWith_95 : decode cX9_lastsWith 95 = .ok (.istore_n 3, 1) := by decide +kernel
theorem dX9_lastsWith_96 : decode cX9_lastsWith 96 = .ok (.iinc 4 1, 3) := by decide +kernel
theorem dX9_lastsWith_99 : decode cX9_lastsWith 99 = .ok (.goto (-87), 3) := by decide +kernel
theorem dX9_lastsWith_102 : decode cX9_lastsWith 102 = .ok (.sipush 400, 3) := by decide +kernel
theorem dX9_lastsWith_105 : decode cX9_lastsWith 105 = .ok (.ireturn, 1) := by decide +kernel
theorem dX9_lasts_0 : decode cX9_lasts 0 = .ok (.aload_n 0, 1) := by decide +kernel
theorem dX9_lasts_1 : decode cX9_lasts 1 = .ok (.iload_n 1, 1) := by decide +kernel
theorem dX9_lasts_2 : decode cX9_lasts 2 = .ok (.invokevirtual 284, 3) := by decide +kernel
theorem dX9_lasts_5 : decode cX9_lasts 5 = .ok (.ifCond .eq 12, 3) := by decide +kernel
theorem dX9_lasts_8 : decode cX9_lasts 8 = .ok (.aload_n 0, 1) := by decide +kernel
theorem dX9_lasts_9 : decode cX9_lasts 9 = .ok (.iload_n 1, 1) := by decide +kernel
theorem dX9_lasts_10 : decode cX9_lasts 10 = .ok (.iconst 0, 1) := by decide +kernel
theorem dX9_lasts_11 : decode cX9_lasts 11 = .ok (.invokevirtual 366, 3) := by decide +kernel
theorem dX9_lasts_14 : decode cX9_lasts 14 = .ok (.goto 6, 3) := by decide +kernel
theorem dX9_lasts_17 : decode cX9_lasts 17 = .ok (.ldc_w 288, 3) := by decide +kernel
theorem dX9_lasts_20 : decode cX9_lasts 20 = .ok (.ireturn, 1) := by decide +kernel
theorem dX9_add_0 : decode cX9_add 0 = .ok (.iload_n 2, 1) := by decide +kernel
theorem dX9_add_1 : decode cX9_add 1 = .ok (.aload_n 0, 1) := by decide +kernel
theorem dX9_add_2 : decode cX9_add 2 = .ok (.iload_n 1, 1) := by decide +kernel
theorem dX9_add_3 : decode cX9_add 3 = .ok (.invokevirtual 307, 3) := by decide +kernel
theorem dX9_add_6 : decode cX9_add 6 = .ok (.isub, 1) := by decide +kernel
theorem dX9_add_7 : decode cX9_add 7 = .ok (.istore 5, 2) := by decide +kernel
theorem dX9_add_9 : decode cX9_add 9 = .ok (.iload 5, 2) := by decide +kernel
theorem dX9_add_11 : decode cX9_add 11 = .ok (.ifCond .le 19, 3) := by decide +kernel
theorem dX9_add_14 : decode cX9_add 14 = .ok (.aload_n 0, 1) := by decide +kernel
theorem dX9_add_15 : decode cX9_add 15 = .ok (.getfield 97, 3) := by decide +kernel
theorem dX9_add_18 : decode cX9_add 18 = .ok (.bipush 100, 2) := by decide +kernel
theorem dX9_add_20 : decode cX9_add 20 = .ok (.iload_n 1, 1) := by decide +kernel
theorem dX9_add_21 : decode cX9_add 21 = .ok (.imul, 1) := by decide +kernel
theorem dX9_add_22 : decode cX9_add 22 = .ok (.iload 5, 2) := by decide +kernel
theorem dX9_add_24 : decode cX9_add 24 = .ok (.iadd, 1) := by decide +kernel
theorem dX9_add_25 : decode cX9_add 25 = .ok (.dup2, 1) := by decide +kernel
theorem dX9_add_26 : decode cX9_add 26 = .ok (.laload, 1) := by decide +kernel
theorem dX9_add_27 : decode cX9_add 27 = .ok (.lload_n 3, 1) := by decide +kernel
theorem dX9_add_28 : decode cX9_add 28 = .ok (.ladd, 1) := by decide +kernel
theorem dX9_add_29 : decode cX9_add 29 = .ok (.lastore, 1) := by decide +kernel
theorem dX9_add_30 : decode cX9_add 30 = .ok (.return_, 1) := by decide +kernel
theorem dX9_lateWith_0 : decode cX9_lateWith 0 = .ok (.aload_n 0, 1) := by decide +kernel
theorem dX9_lateWith_1 : decode cX9_lateWith 1 = .ok (.getfield 7, 3) := by decide +kernel
theorem dX9_lateWith_4 : decode cX9_lateWith 4 = .ok (.iconst 5, 1) := by decide +kernel
theorem dX9_lateWith_5 : decode cX9_lateWith 5 = .ok (.iload_n 1, 1) := by decide +kernel
theorem dX9_lateWith_6 : decode cX9_lateWith 6 = .ok (.imul, 1) := by decide +kernel
theorem dX9_lateWith_7 : decode cX9_lateWith 7 = .ok (.iconst 1, 1) := by decide +kernel
theorem dX9_lateWith_8 : decode cX9_lateWith 8 = .ok (.iadd, 1) := by decide +kernel
theorem dX9_lateWith_9 : decode cX9_lateWith 9 = .ok (.iaload, 1) := by decide +kernel
theorem dX9_lateWith_10 : decode cX9_lateWith 10 = .ok (.istore_n 3, 1) := by decide +kernel
theorem dX9_lateWith_11 : decode cX9_lateWith 11 = .ok (.iload_n 3, 1) := by decide +kernel
theorem dX9_lateWith_12 : decode cX9_lateWith 12 = .ok (.aload_n 0, 1) := by decide +kernel
theorem dX9_lateWith_13 : decode cX9_lateWith 13 = .ok (.getfield 143, 3) := by decide +kernel
theorem dX9_lateWith_16 : decode cX9_lateWith 16 = .ok (.if_icmp .le 12, 3) := by decide +kernel
theorem dX9_lateWith_19 : decode cX9_lateWith 19 = .ok (.iload_n 3, 1) := by decide +kernel
theorem dX9_lateWith_20 : decode cX9_lateWith 20 = .ok (.aload_n 0, 1) := by decide +kernel
theorem dX9_lateWith_21 : decode cX9_lateWith 21 = .ok (.getfield 143, 3) := by decide +kernel
theorem dX9_lateWith_24 : decode cX9_lateWith 24 = .ok (.isub, 1) := by decide +kernel
theorem dX9_lateWith_25 : decode cX9_lateWith 25 = .ok (.goto 9, 3) := by decide +kernel
theorem dX9_lateWith_28 : decode cX9_lateWith 28 = .ok (.aload_n 0, 1) := by decide +kernel
theorem dX9_lateWith_29 : decode cX9_lateWith 29 = .ok (.getfield 143, 3) := by decide +kernel
theorem dX9_lateWith_32 : decode cX9_lateWith 32 = .ok (.iload_n 3, 1) := by decide +kernel
theorem dX9_lateWith_33 : decode cX9_lateWith 33 = .ok (.isub, 1) := by decide +kernel
theorem dX9_lateWith_34 : decode cX9_lateWith 34 = .ok (.istore 4, 2) := by decide +kernel
theorem dX9_lateWith_36 : decode cX9_lateWith 36 = .ok (.iload 4, 2) := by decide +kernel
theorem dX9_lateWith_38 : decode cX9_lateWith 38 = .ok (.ifCond .ne 5, 3) := by decide +kernel
theorem dX9_lateWith_41 : decode cX9_lateWith 41 = .ok (.iconst 0, 1) := by decide +kernel
theorem dX9_lateWith_42 : decode cX9_lateWith 42 = .ok (.ireturn, 1) := by decide +kernel
theorem dX9_lateWith_43 : decode cX9_lateWith 43 = .ok (.aload_n 0, 1) := by decide +kernel
theorem dX9_lateWith_44 : decode cX9_lateWith 44 = .ok (.iload_n 1, 1) := by decide +kernel
theorem dX9_lateWith_45 : decode cX9_lateWith 45 = .ok (.iload_n 2, 1) := by decide +kernel
theorem dX9_lateWith_46 : decode cX9_lateWith 46 = .ok (.invokevirtual 366, 3) := by decide +kernel
theorem dX9_lateWith_49 : decode cX9_lateWith 49 = .ok (.istore 5, 2) := by decide +kernel
theorem dX9_lateWith_51 : decode cX9_lateWith 51 = .ok (.iconst 0, 1) := by decide +kernel
theorem dX9_lateWith_52 : decode cX9_lateWith 52 = .ok (.istore 6, 2) := by decide +kernel
theorem dX9_lateWith_54 : decode cX9_lateWith 54 = .ok (.iload 6, 2) := by decide +kernel
theorem dX9_lateWith_56 : decode cX9_lateWith 56 = .ok (.sipush 300, 3) := by decide +kernel
theorem dX9_lateWith_59 : decode cX9_lateWith 59 = .ok (.if_icmp .ge 38, 3) := by decide +kernel
theorem dX9_lateWith_62 : decode cX9_lateWith 62 = .ok (.aload_n 0, 1) := by decide +kernel
theorem dX9_lateWith_63 : decode cX9_lateWith 63 = .ok (.getfield 94, 3) := by decide +kernel
theorem dX9_lateWith_66 : decode cX9_lateWith 66 = .ok (.iload 6, 2) := by decide +kernel
theorem dX9_lateWith_68 : decode cX9_lateWith 68 = .ok (.iload 6, 2) := by decide +kernel
theorem dX9_lateWith_70 : decode cX9_lateWith 70 = .ok (.bipush 100, 2) := by decide +kernel
theorem dX9_lateWith_72 : decode cX9_lateWith 72 = .ok (.aload_n 0, 1) := by decide +kernel
theorem dX9_lateWith_73 : decode cX9_lateWith 73 = .ok (.getfield 158, 3) := by decide +kernel
theorem dX9_lateWith_76 : decode cX9_lateWith 76 = .ok (.imul, 1) := by decide +kernel
theorem dX9_lateWith_77 : decode cX9_lateWith 77 = .ok (.iload 4, 2) := by decide +kernel
theorem dX9_lateWith_79 : decode cX9_lateWith 79 = .ok (.iadd, 1) := by decide +kernel
theorem dX9_lateWith_80 : decode cX9_lateWith 80 = .ok (.if_icmp .ne 9, 3) := by decide +kernel
theorem dX9_lateWith_83 : decode cX9_lateWith 83 = .ok (.ldc2_w 369, 3) := by decide +kernel
theorem dX9_lateWith_86 : decode cX9_lateWith 86 = .ok (.goto 4, 3) := by decide +kernel
theorem dX9_lateWith_89 : decode cX9_lateWith 89 = .ok (.lconst 0, 1) := by decide +kernel
theorem dX9_lateWith_90 : decode cX9_lateWith 90 = .ok (.lastore, 1) := by decide +kernel
theorem dX9_lateWith_91 : decode cX9_lateWith 91 = .ok (.iinc 6 1, 3) := by decide +kernel
theorem dX9_lateWith_94 : decode cX9_lateWith 94 = .ok (.goto (-40), 3) := by decide +kernel
theorem dX9_lateWith_97 : decode cX9_lateWith 97 = .ok (.iconst 0, 1) := by decide +kernel
theorem dX9_lateWith_98 : decode cX9_lateWith 98 = .ok (.istore 6, 2) := by decide +kernel
theorem dX9_lateWith_100 : decode cX9_lateWith 100 = .ok (.iload 6, 2) := by decide +kernel
theorem dX9_lateWith_102 : decode cX9_lateWith 102 = .ok (.iload 5, 2) := by decide +kernel
theorem dX9_lateWith_104 : decode cX9_lateWith 104 = .ok (.if_icmp .ge 186, 3) := by decide +kernel
theorem dX9_lateWith_107 : decode cX9_lateWith 107 = .ok (.iconst 0, 1) := by decide +kernel
theorem dX9_lateWith_108 : decode cX9_lateWith 108 = .ok (.istore 7, 2) := by decide +kernel
theorem dX9_lateWith_110 : decode cX9_lateWith 110 = .ok (.iload 7, 2) := by decide +kernel
theorem dX9_lateWith_112 : decode cX9_lateWith 112 = .ok (.sipush 300, 3) := by decide +kernel
theorem dX9_lateWith_115 : decode cX9_lateWith 115 = .ok (.if_icmp .ge 17, 3) := by decide +kernel
theorem dX9_lateWith_118 : decode cX9_lateWith 118 = .ok (.aload_n 0, 1) := by decide +kernel
theorem dX9_lateWith_119 : decode cX9_lateWith 119 = .ok (.getfield 97, 3) := by decide +kernel
theorem dX9_lateWith_122 : decode cX9_lateWith 122 = .ok (.iload 7, 2) := by decide +kernel
theorem dX9_lateWith_124 : decode cX9_lateWith 124 = .ok (.lconst 0, 1) := by decide +kernel
theorem dX9_lateWith_125 : decode cX9_lateWith 125 = .ok (.lastore, 1) := by decide +kernel
theorem dX9_lateWith_126 : decode cX9_lateWith 126 = .ok (.iinc 7 1, 3) := by decide +kernel
theorem dX9_lateWith_129 : decode cX9_lateWith 129 = .ok (.goto (-19), 3) := by decide +kernel
theorem dX9_lateWith_132 : decode cX9_lateWith 132 = .ok (.iconst 0, 1) := by decide +kernel
theorem dX9_lateWith_133 : decode cX9_lateWith 133 = .ok (.istore 7, 2) := by decide +kernel
theorem dX9_lateWith_135 : decode cX9_lateWith 135 = .ok (.iload 7, 2) := by decide +kernel
theorem dX9_lateWith_137 : decode cX9_lateWith 137 = .ok (.sipush 300, 3) := by decide +kernel
theorem dX9_lateWith_140 : decode cX9_lateWith 140 = .ok (.if_icmp .ge 113, 3) := by decide +kernel
theorem dX9_lateWith_143 : decode cX9_lateWith 143 = .ok (.iload 7, 2) := by decide +kernel
theorem dX9_lateWith_145 : decode cX9_lateWith 145 = .ok (.bipush 100, 2) := by decide +kernel
theorem dX9_lateWith_147 : decode cX9_lateWith 147 = .ok (.idiv, 1) := by decide +kernel
theorem dX9_lateWith_148 : decode cX9_lateWith 148 = .ok (.istore 8, 2) := by decide +kernel
theorem dX9_lateWith_150 : decode cX9_lateWith 150 = .ok (.aload_n 0, 1) := by decide +kernel
theorem dX9_lateWith_151 : decode cX9_lateWith 151 = .ok (.getfield 94, 3) := by decide +kernel
theorem dX9_lateWith_154 : decode cX9_lateWith 154 = .ok (.iload 7, 2) := by decide +kernel
theorem dX9_lateWith_156 : decode cX9_lateWith 156 = .ok (.laload, 1) := by decide +kernel
theorem dX9_lateWith_157 : decode cX9_lateWith 157 = .ok (.aload_n 0, 1) := by decide +kernel
theorem dX9_lateWith_158 : decode cX9_lateWith 158 = .ok (.getfield 32, 3) := by decide +kernel
theorem dX9_lateWith_161 : decode cX9_lateWith 161 = .ok (.iconst 3, 1) := by decide +kernel
theorem dX9_lateWith_162 : decode cX9_lateWith 162 = .ok (.iload 8, 2) := by decide +kernel
theorem dX9_lateWith_164 : decode cX9_lateWith 164 = .ok (.imul, 1) := by decide +kernel
theorem dX9_lateWith_165 : decode cX9_lateWith 165 = .ok (.iaload, 1) := by decide +kernel
theorem dX9_lateWith_166 : decode cX9_lateWith 166 = .ok (.i2l, 1) := by decide +kernel
theorem dX9_lateWith_167 : decode cX9_lateWith 167 = .ok (.lmul, 1) := by decide +kernel
theorem dX9_lateWith_168 : decode cX9_lateWith 168 = .ok (.ldc2_w 371, 3) := by decide +kernel
theorem dX9_lateWith_171 : decode cX9_lateWith 171 = .ok (.ldiv, 1) := by decide +kernel
theorem dX9_lateWith_172 : decode cX9_lateWith 172 = .ok (.lstore 9, 2) := by decide +kernel
theorem dX9_lateWith_174 : decode cX9_lateWith 174 = .ok (.aload_n 0, 1) := by decide +kernel
theorem dX9_lateWith_175 : decode cX9_lateWith 175 = .ok (.getfield 94, 3) := by decide +kernel
theorem dX9_lateWith_178 : decode cX9_lateWith 178 = .ok (.iload 7, 2) := by decide +kernel
theorem dX9_lateWith_180 : decode cX9_lateWith 180 = .ok (.laload, 1) := by decide +kernel
theorem dX9_lateWith_181 : decode cX9_lateWith 181 = .ok (.aload_n 0, 1) := by decide +kernel
theorem dX9_lateWith_182 : decode cX9_lateWith 182 = .ok (.getfield 32, 3) := by decide +kernel
theorem dX9_lateWith_185 : decode cX9_lateWith 185 = .ok (.iconst 3, 1) := by decide +kernel
theorem dX9_lateWith_186 : decode cX9_lateWith 186 = .ok (.iload 8, 2) := by decide +kernel
theorem dX9_lateWith_188 : decode cX9_lateWith 188 = .ok (.imul, 1) := by decide +kernel
theorem dX9_lateWith_189 : decode cX9_lateWith 189 = .ok (.iconst 1, 1) := by decide +kernel
theorem dX9_lateWith_190 : decode cX9_lateWith 190 = .ok (.iadd, 1) := by decide +kernel
theorem dX9_lateWith_191 : decode cX9_lateWith 191 = .ok (.iaload, 1) := by decide +kernel
theorem dX9_lateWith_192 : decode cX9_lateWith 192 = .ok (.i2l, 1) := by decide +kernel
theorem dX9_lateWith_193 : decode cX9_lateWith 193 = .ok (.lmul, 1) := by decide +kernel
theorem dX9_lateWith_194 : decode cX9_lateWith 194 = .ok (.ldc2_w 371, 3) := by decide +kernel
theorem dX9_lateWith_197 : decode cX9_lateWith 197 = .ok (.ldiv, 1) := by decide +kernel
theorem dX9_lateWith_198 : decode cX9_lateWith 198 = .ok (.lstore 11, 2) := by decide +kernel
theorem dX9_lateWith_200 : decode cX9_lateWith 200 = .ok (.aload_n 0, 1) := by decide +kernel
theorem dX9_lateWith_201 : decode cX9_lateWith 201 = .ok (.iconst 0, 1) := by decide +kernel
theorem dX9_lateWith_202 : decode cX9_lateWith 202 = .ok (.iload 7, 2) := by decide +kernel
theorem dX9_lateWith_204 : decode cX9_lateWith 204 = .ok (.bipush 100, 2) := by decide +kernel
theorem dX9_lateWith_206 : decode cX9_lateWith 206 = .ok (.irem, 1) := by decide +kernel
theorem dX9_lateWith_207 : decode cX9_lateWith 207 = .ok (.lload 9, 2) := by decide +kernel
theorem dX9_lateWith_209 : decode cX9_lateWith 209 = .ok (.invokevirtual 373, 3) := by decide +kernel
theorem dX9_lateWith_212 : decode cX9_lateWith 212 = .ok (.aload_n 0, 1) := by decide +kernel
theorem dX9_lateWith_213 : decode cX9_lateWith 213 = .ok (.iconst 1, 1) := by decide +kernel
theorem dX9_lateWith_214 : decode cX9_lateWith 214 = .ok (.iload 7, 2) := by decide +kernel
theorem dX9_lateWith_216 : decode cX9_lateWith 216 = .ok (.bipush 100, 2) := by decide +kernel
theorem dX9_lateWith_218 : decode cX9_lateWith 218 = .ok (.irem, 1) := by decide +kernel
theorem dX9_lateWith_219 : decode cX9_lateWith 219 = .ok (.lload 11, 2) := by decide +kernel
theorem dX9_lateWith_221 : decode cX9_lateWith 221 = .ok (.invokevirtual 373, 3) := by decide +kernel
theorem dX9_lateWith_224 : decode cX9_lateWith 224 = .ok (.aload_n 0, 1) := by decide +kernel
theorem dX9_lateWith_225 : decode cX9_lateWith 225 = .ok (.iconst 2, 1) := by decide +kernel
theorem dX9_lateWith_226 : decode cX9_lateWith 226 = .ok (.iload 7, 2) := by decide +kernel
theorem dX9_lateWith_228 : decode cX9_lateWith 228 = .ok (.bipush 100, 2) := by decide +kernel
theorem dX9_lateWith_230 : decode cX9_lateWith 230 = .ok (.irem, 1) := by decide +kernel
theorem dX9_lateWith_231 : decode cX9_lateWith 231 = .ok (.aload_n 0, 1) := by decide +kernel
theorem dX9_lateWith_232 : decode cX9_lateWith 232 = .ok (.getfield 94, 3) := by decide +kernel
theorem dX9_lateWith_235 : decode cX9_lateWith 235 = .ok (.iload 7, 2) := by decide +kernel
theorem dX9_lateWith_237 : decode cX9_lateWith 237 = .ok (.laload, 1) := by decide +kernel
theorem dX9_lateWith_238 : decode cX9_lateWith 238 = .ok (.lload 9, 2) := by decide +kernel
theorem dX9_lateWith_240 : decode cX9_lateWith 240 = .ok (.lsub, 1) := by decide +kernel
theorem dX9_lateWith_241 : decode cX9_lateWith 241 = .ok (.lload 11, 2) := by decide +kernel
theorem dX9_lateWith_243 : decode cX9_lateWith 243 = .ok (.lsub, 1) := by decide +kernel
theorem dX9_lateWith_244 : decode cX9_lateWith 244 = .ok (.invokevirtual 373, 3) := by decide +kernel
theorem dX9_lateWith_247 : decode cX9_lateWith 247 = .ok (.iinc 7 1, 3) := by decide +kernel
theorem dX9_lateWith_250 : decode cX9_lateWith 250 = .ok (.goto (-115), 3) := by decide +kernel
theorem dX9_lateWith_253 : decode cX9_lateWith 253 = .ok (.iconst 0, 1) := by decide +kernel
theorem dX9_lateWith_254 : decode cX9_lateWith 254 = .ok (.istore 7, 2) := by decide +kernel
theorem dX9_lateWith_256 : decode cX9_lateWith 256 = .ok (.iload 7, 2) := by decide +kernel
theorem dX9_lateWith_258 : decode cX9_lateWith 258 = .ok (.sipush 300, 3) := by decide +kernel
theorem dX9_lateWith_261 : decode cX9_lateWith 261 = .ok (.if_icmp .ge 23, 3) := by decide +kernel
theorem dX9_lateWith_264 : decode cX9_lateWith 264 = .ok (.aload_n 0, 1) := by decide +kernel
theorem dX9_lateWith_265 : decode cX9_lateWith 265 = .ok (.getfield 94, 3) := by decide +kernel
theorem dX9_lateWith_268 : decode cX9_lateWith 268 = .ok (.iload 7, 2) := by decide +kernel
theorem dX9_lateWith_270 : decode cX9_lateWith 270 = .ok (.aload_n 0, 1) := by decide +kernel
theorem dX9_lateWith_271 : decode cX9_lateWith 271 = .ok (.getfield 97, 3) := by decide +kernel
theorem dX9_lateWith_274 : decode cX9_lateWith 274 = .ok (.iload 7, 2) := by decide +kernel
theorem dX9_lateWith_276 : decode cX9_lateWith 276 = .ok (.laload, 1) := by decide +kernel
theorem dX9_lateWith_277 : decode cX9_lateWith 277 = .ok (.lastore, 1) := by decide +kernel
theorem dX9_lateWith_278 : decode cX9_lateWith 278 = .ok (.iinc 7 1, 3) := by decide +kernel
theorem dX9_lateWith_281 : decode cX9_lateWith 281 = .ok (.goto (-25), 3) := by decide +kernel
theorem dX9_lateWith_284 : decode cX9_lateWith 284 = .ok (.iinc 6 1, 3) := by decide +kernel
theorem dX9_lateWith_287 : decode cX9_lateWith 287 = .ok (.goto (-187), 3) := by decide +kernel
theorem dX9_lateWith_290 : decode cX9_lateWith 290 = .ok (.lconst 0, 1) := by decide +kernel
theorem dX9_lateWith_291 : decode cX9_lateWith 291 = .ok (.lstore 6, 2) := by decide +kernel
theorem dX9_lateWith_293 : decode cX9_lateWith 293 = .ok (.iconst 0, 1) := by decide +kernel
theorem dX9_lateWith_294 : decode cX9_lateWith 294 = .ok (.istore 8, 2) := by decide +kernel
theorem dX9_lateWith_296 : decode cX9_lateWith 296 = .ok (.iload 8, 2) := by decide +kernel
theorem dX9_lateWith_298 : decode cX9_lateWith 298 = .ok (.sipush 300, 3) := by decide +kernel
theorem dX9_lateWith_301 : decode cX9_lateWith 301 = .ok (.if_icmp .ge 21, 3) := by decide +kernel
theorem dX9_lateWith_304 : decode cX9_lateWith 304 = .ok (.lload 6, 2) := by decide +kernel
theorem dX9_lateWith_306 : decode cX9_lateWith 306 = .ok (.aload_n 0, 1) := by decide +kernel
theorem dX9_lateWith_307 : decode cX9_lateWith 307 = .ok (.getfield 94, 3) := by decide +kernel
theorem dX9_lateWith_310 : decode cX9_lateWith 310 = .ok (.iload 8, 2) := by decide +kernel
theorem dX9_lateWith_312 : decode cX9_lateWith 312 = .ok (.laload, 1) := by decide +kernel
theorem dX9_lateWith_313 : decode cX9_lateWith 313 = .ok (.ladd, 1) := by decide +kernel
theorem dX9_lateWith_314 : decode cX9_lateWith 314 = .ok (.lstore 6, 2) := by decide +kernel
theorem dX9_lateWith_316 : decode cX9_lateWith 316 = .ok (.iinc 8 1, 3) := by decide +kernel
theorem dX9_lateWith_319 : decode cX9_lateWith 319 = .ok (.goto (-23), 3) := by decide +kernel
theorem dX9_lateWith_322 : decode cX9_lateWith 322 = .ok (.lload 6, 2) := by decide +kernel
theorem dX9_lateWith_324 : decode cX9_lateWith 324 = .ok (.ldc2_w 377, 3) := by decide +kernel
theorem dX9_lateWith_327 : decode cX9_lateWith 327 = .ok (.ldiv, 1) := by decide +kernel
theorem dX9_lateWith_328 : decode cX9_lateWith 328 = .ok (.l2i, 1) := by decide +kernel
theorem dX9_lateWith_329 : decode cX9_lateWith 329 = .ok (.ireturn, 1) := by decide +kernel
theorem dX9_late_0 : decode cX9_late 0 = .ok (.aload_n 0, 1) := by decide +kernel
theorem dX9_late_1 : decode cX9_late 1 = .ok (.iload_n 1, 1) := by decide +kernel
theorem dX9_late_2 : decode cX9_late 2 = .ok (.invokevirtual 284, 3) := by decide +kernel
theorem dX9_late_5 : decode cX9_late 5 = .ok (.ifCond .eq 12, 3) := by decide +kernel
theorem dX9_late_8 : decode cX9_late 8 = .ok (.aload_n 0, 1) := by decide +kernel
theorem dX9_late_9 : decode cX9_late 9 = .ok (.iload_n 1, 1) := by decide +kernel
theorem dX9_late_10 : decode cX9_late 10 = .ok (.iconst 0, 1) := by decide +kernel
theorem dX9_late_11 : decode cX9_late 11 = .ok (.invokevirtual 379, 3) := by decide +kernel
theorem dX9_late_14 : decode cX9_late 14 = .ok (.goto 6, 3) := by decide +kernel
theorem dX9_late_17 : decode cX9_late 17 = .ok (.ldc_w 288, 3) := by decide +kernel
theorem dX9_late_20 : decode cX9_late 20 = .ok (.ireturn, 1) := by decide +kernel
theorem dX9_store_0 : decode cX9_store 0 = .ok (.aload_n 0, 1) := by decide +kernel
theorem dX9_store_1 : decode cX9_store 1 = .ok (.iload_n 1, 1) := by decide +kernel
theorem dX9_store_2 : decode cX9_store 2 = .ok (.invokevirtual 284, 3) := by decide +kernel
theorem dX9_store_5 : decode cX9_store 5 = .ok (.ifCond .ne 7, 3) := by decide +kernel
theorem dX9_store_8 : decode cX9_store 8 = .ok (.ldc_w 288, 3) := by decide +kernel
theorem dX9_store_11 : decode cX9_store 11 = .ok (.ireturn, 1) := by decide +kernel
theorem dX9_store_12 : decode cX9_store 12 = .ok (.iload_n 2, 1) := by decide +kernel
theorem dX9_store_13 : decode cX9_store 13 = .ok (.i2l, 1) := by decide +kernel
theorem dX9_store_14 : decode cX9_store 14 = .ok (.lconst 0, 1) := by decide +kernel
theorem dX9_store_15 : decode cX9_store 15 = .ok (.ldc2_w 343, 3) := by decide +kernel
theorem dX9_store_18 : decode cX9_store 18 = .ok (.invokestatic 124, 3) := by decide +kernel
theorem dX9_store_21 : decode cX9_store 21 = .ok (.ifCond .eq 19, 3) := by decide +kernel
theorem dX9_store_24 : decode cX9_store 24 = .ok (.aload_n 0, 1) := by decide +kernel
theorem dX9_store_25 : decode cX9_store 25 = .ok (.iload_n 1, 1) := by decide +kernel
theorem dX9_store_26 : decode cX9_store 26 = .ok (.iconst 0, 1) := by decide +kernel
theorem dX9_store_27 : decode cX9_store 27 = .ok (.invokevirtual 379, 3) := by decide +kernel
theorem dX9_store_30 : decode cX9_store 30 = .ok (.aload_n 0, 1) := by decide +kernel
theorem dX9_store_31 : decode cX9_store 31 = .ok (.iload_n 1, 1) := by decide +kernel
theorem dX9_store_32 : decode cX9_store 32 = .ok (.iload_n 2, 1) := by decide +kernel
theorem dX9_store_33 : decode cX9_store 33 = .ok (.invokevirtual 379, 3) := by decide +kernel
theorem dX9_store_36 : decode cX9_store 36 = .ok (.isub, 1) := by decide +kernel
theorem dX9_store_37 : decode cX9_store 37 = .ok (.goto 5, 3) := by decide +kernel
theorem dX9_store_40 : decode cX9_store 40 = .ok (.ldc 166, 2) := by decide +kernel
theorem dX9_store_42 : decode cX9_store 42 = .ok (.ireturn, 1) := by decide +kernel
theorem dX9_comes_0 : decode cX9_comes 0 = .ok (.iload_n 1, 1) := by decide +kernel
theorem dX9_comes_1 : decode cX9_comes 1 = .ok (.invokestatic 294, 3) := by decide +kernel
theorem dX9_comes_4 : decode cX9_comes 4 = .ok (.ifCond .eq 10, 3) := by decide +kernel
theorem dX9_comes_7 : decode cX9_comes 7 = .ok (.iload_n 2, 1) := by decide +kernel
theorem dX9_comes_8 : decode cX9_comes 8 = .ok (.invokestatic 294, 3) := by decide +kernel
theorem dX9_comes_11 : decode cX9_comes 11 = .ok (.ifCond .ne 7, 3) := by decide +kernel
theorem dX9_comes_14 : decode cX9_comes 14 = .ok (.ldc_w 288, 3) := by decide +kernel
theorem dX9_comes_17 : decode cX9_comes 17 = .ok (.ireturn, 1) := by decide +kernel
theorem dX9_comes_18 : decode cX9_comes 18 = .ok (.iload_n 3, 1) := by decide +kernel
theorem dX9_comes_19 : decode cX9_comes 19 = .ok (.i2l, 1) := by decide +kernel
theorem dX9_comes_20 : decode cX9_comes 20 = .ok (.lconst 0, 1) := by decide +kernel
theorem dX9_comes_21 : decode cX9_comes 21 = .ok (.ldc2_w 382, 3) := by decide +kernel
theorem dX9_comes_24 : decode cX9_comes 24 = .ok (.invokestatic 124, 3) := by decide +kernel
theorem dX9_comes_27 : decode cX9_comes 27 = .ok (.ifCond .ne 6, 3) := by decide +kernel
theorem dX9_comes_30 : decode cX9_comes 30 = .ok (.ldc 166, 2) := by decide +kernel
theorem dX9_comes_32 : decode cX9_comes 32 = .ok (.ireturn, 1) := by decide +kernel
theorem dX9_comes_33 : decode cX9_comes 33 = .ok (.iconst 0, 1) := by decide +kernel
theorem dX9_comes_34 : decode cX9_comes 34 = .ok (.istore 4, 2) := by decide +kernel
theorem dX9_comes_36 : decode cX9_comes 36 = .ok (.iload 4, 2) := by decide +kernel
theorem dX9_comes_38 : decode cX9_comes 38 = .ok (.iconst 3, 1) := by decide +kernel
theorem dX9_comes_39 : decode cX9_comes 39 = .ok (.if_icmp .ge 29, 3) := by decide +kernel
theorem dX9_comes_42 : decode cX9_comes 42 = .ok (.aload_n 0, 1) := by decide +kernel
theorem dX9_comes_43 : decode cX9_comes 43 = .ok (.getfield 100, 3) := by decide +kernel
theorem dX9_comes_46 : decode cX9_comes 46 = .ok (.iload 4, 2) := by decide +kernel
theorem dX9_comes_48 : decode cX9_comes 48 = .ok (.iload 4, 2) := by decide +kernel
theorem dX9_comes_50 : decode cX9_comes 50 = .ok (.iload_n 1, 1) := by decide +kernel
theorem dX9_comes_51 : decode cX9_comes 51 = .ok (.if_icmp .ne 9, 3) := by decide +kernel
theorem dX9_comes_54 : decode cX9_comes 54 = .ok (.ldc2_w 369, 3) := by decide +kernel
theorem dX9_comes_57 : decode cX9_comes 57 = .ok (.goto 4, 3) := by decide +kernel
theorem dX9_comes_60 : decode cX9_comes 60 = .ok (.lconst 0, 1) := by decide +kernel
theorem dX9_comes_61 : decode cX9_comes 61 = .ok (.lastore, 1) := by decide +kernel
theorem dX9_comes_62 : decode cX9_comes 62 = .ok (.iinc 4 1, 3) := by decide +kernel
theorem dX9_comes_65 : decode cX9_comes 65 = .ok (.goto (-29), 3) := by decide +kernel
theorem dX9_comes_68 : decode cX9_comes 68 = .ok (.iconst 0, 1) := by decide +kernel
theorem dX9_comes_69 : decode cX9_comes 69 = .ok (.istore 4, 2) := by decide +kernel
theorem dX9_comes_71 : decode cX9_comes 71 = .ok (.iload 4, 2) := by decide +kernel
theorem dX9_comes_73 : decode cX9_comes 73 = .ok (.iload_n 3, 1) := by decide +kernel
theorem dX9_comes_74 : decode cX9_comes 74 = .ok (.if_icmp .ge 170, 3) := by decide +kernel
theorem dX9_comes_77 : decode cX9_comes 77 = .ok (.iconst 0, 1) := by decide +kernel
theorem dX9_comes_78 : decode cX9_comes 78 = .ok (.istore 5, 2) := by decide +kernel
theorem dX9_comes_80 : decode cX9_comes 80 = .ok (.iload 5, 2) := by decide +kernel
theorem dX9_comes_82 : decode cX9_comes 82 = .ok (.iconst 3, 1) := by decide +kernel
theorem dX9_comes_83 : decode cX9_comes 83 = .ok (.if_icmp .ge 17, 3) := by decide +kernel
theorem dX9_comes_86 : decode cX9_comes 86 = .ok (.aload_n 0, 1) := by decide +kernel
theorem dX9_comes_87 : decode cX9_comes 87 = .ok (.getfield 103, 3) := by decide +kernel
theorem dX9_comes_90 : decode cX9_comes 90 = .ok (.iload 5, 2) := by decide +kernel
theorem dX9_comes_92 : decode cX9_comes 92 = .ok (.lconst 0, 1) := by decide +kernel
theorem dX9_comes_93 : decode cX9_comes 93 = .ok (.lastore, 1) := by decide +kernel
theorem dX9_comes_94 : decode cX9_comes 94 = .ok (.iinc 5 1, 3) := by decide +kernel
theorem dX9_comes_97 : decode cX9_comes 97 = .ok (.goto (-17), 3) := by decide +kernel
theorem dX9_comes_100 : decode cX9_comes 100 = .ok (.iconst 0, 1) := by decide +kernel
theorem dX9_comes_101 : decode cX9_comes 101 = .ok (.istore 5, 2) := by decide +kernel
theorem dX9_comes_103 : decode cX9_comes 103 = .ok (.iload 5, 2) := by decide +kernel
theorem dX9_comes_105 : decode cX9_comes 105 = .ok (.iconst 3, 1) := by decide +kernel
theorem dX9_comes_106 : decode cX9_comes 106 = .ok (.if_icmp .ge 103, 3) := by decide +kernel
theorem dX9_comes_109 : decode cX9_comes 109 = .ok (.aload_n 0, 1) := by decide +kernel
theorem dX9_comes_110 : decode cX9_comes 110 = .ok (.getfield 100, 3) := by decide +kernel
theorem dX9_comes_113 : decode cX9_comes 113 = .ok (.iload 5, 2) := by decide +kernel
theorem dX9_comes_115 : decode cX9_comes 115 = .ok (.laload, 1) := by decide +kernel
theorem dX9_comes_116 : decode cX9_comes 116 = .ok (.aload_n 0, 1) := by decide +kernel
theorem dX9_comes_117 : decode cX9_comes 117 = .ok (.getfield 32, 3) := by decide +kernel
theorem dX9_comes_120 : decode cX9_comes 120 = .ok (.iconst 3, 1) := by decide +kernel
theorem dX9_comes_121 : decode cX9_comes 121 = .ok (.iload 5, 2) := by decide +kernel
theorem dX9_comes_123 : decode cX9_comes 123 = .ok (.imul, 1) := by decide +kernel
theorem dX9_comes_124 : decode cX9_comes 124 = .ok (.iaload, 1) := by decide +kernel
theorem dX9_comes_125 : decode cX9_comes 125 = .ok (.i2l, 1) := by decide +kernel
theorem dX9_comes_126 : decode cX9_comes 126 = .ok (.lmul, 1) := by decide +kernel
theorem dX9_comes_127 : decode cX9_comes 127 = .ok (.ldc2_w 371, 3) := by decide +kernel
theorem dX9_comes_130 : decode cX9_comes 130 = .ok (.ldiv, 1) := by decide +kernel
theorem dX9_comes_131 : decode cX9_comes 131 = .ok (.lstore 6, 2) := by decide +kernel
theorem dX9_comes_133 : decode cX9_comes 133 = .ok (.aload_n 0, 1) := by decide +kernel
theorem dX9_comes_134 : decode cX9_comes 134 = .ok (.getfield 100, 3) := by decide +kernel
theorem dX9_comes_137 : decode cX9_comes 137 = .ok (.iload 5, 2) := by decide +kernel
theorem dX9_comes_139 : decode cX9_comes 139 = .ok (.laload, 1) := by decide +kernel
theorem dX9_comes_140 : decode cX9_comes 140 = .ok (.aload_n 0, 1) := by decide +kernel
theorem dX9_comes_141 : decode cX9_comes 141 = .ok (.getfield 32, 3) := by decide +kernel
theorem dX9_comes_144 : decode cX9_comes 144 = .ok (.iconst 3, 1) := by decide +kernel
theorem dX9_comes_145 : decode cX9_comes 145 = .ok (.iload 5, 2) := by decide +kernel
theorem dX9_comes_147 : decode cX9_comes 147 = .ok (.imul, 1) := by decide +kernel
theorem dX9_comes_148 : decode cX9_comes 148 = .ok (.iconst 1, 1) := by decide +kernel
theorem dX9_comes_149 : decode cX9_comes 149 = .ok (.iadd, 1) := by decide +kernel
theorem dX9_comes_150 : decode cX9_comes 150 = .ok (.iaload, 1) := by decide +kernel
theorem dX9_comes_151 : decode cX9_comes 151 = .ok (.i2l, 1) := by decide +kernel
theorem dX9_comes_152 : decode cX9_comes 152 = .ok (.lmul, 1) := by decide +kernel
theorem dX9_comes_153 : decode cX9_comes 153 = .ok (.ldc2_w 371, 3) := by decide +kernel
theorem dX9_comes_156 : decode cX9_comes 156 = .ok (.ldiv, 1) := by decide +kernel
theorem dX9_comes_157 : decode cX9_comes 157 = .ok (.lstore 8, 2) := by decide +kernel
theorem dX9_comes_159 : decode cX9_comes 159 = .ok (.aload_n 0, 1) := by decide +kernel
theorem dX9_comes_160 : decode cX9_comes 160 = .ok (.getfield 103, 3) := by decide +kernel
theorem dX9_comes_163 : decode cX9_comes 163 = .ok (.iconst 0, 1) := by decide +kernel
theorem dX9_comes_164 : decode cX9_comes 164 = .ok (.dup2, 1) := by decide +kernel
theorem dX9_comes_165 : decode cX9_comes 165 = .ok (.laload, 1) := by decide +kernel
theorem dX9_comes_166 : decode cX9_comes 166 = .ok (.lload 6, 2) := by decide +kernel
theorem dX9_comes_168 : decode cX9_comes 168 = .ok (.ladd, 1) := by decide +kernel
theorem dX9_comes_169 : decode cX9_comes 169 = .ok (.lastore, 1) := by decide +kernel
theorem dX9_comes_170 : decode cX9_comes 170 = .ok (.aload_n 0, 1) := by decide +kernel
theorem dX9_comes_171 : decode cX9_comes 171 = .ok (.getfield 103, 3) := by decide +kernel
theorem dX9_comes_174 : decode cX9_comes 174 = .ok (.iconst 1, 1) := by decide +kernel
theorem dX9_comes_175 : decode cX9_comes 175 = .ok (.dup2, 1) := by decide +kernel
theorem dX9_comes_176 : decode cX9_comes 176 = .ok (.laload, 1) := by decide +kernel
theorem dX9_comes_177 : decode cX9_comes 177 = .ok (.lload 8, 2) := by decide +kernel
theorem dX9_comes_179 : decode cX9_comes 179 = .ok (.ladd, 1) := by decide +kernel
theorem dX9_comes_180 : decode cX9_comes 180 = .ok (.lastore, 1) := by decide +kernel
theorem dX9_comes_181 : decode cX9_comes 181 = .ok (.aload_n 0, 1) := by decide +kernel
theorem dX9_comes_182 : decode cX9_comes 182 = .ok (.getfield 103, 3) := by decide +kernel
theorem dX9_comes_185 : decode cX9_comes 185 = .ok (.iconst 2, 1) := by decide +kernel
theorem dX9_comes_186 : decode cX9_comes 186 = .ok (.dup2, 1) := by decide +kernel
theorem dX9_comes_187 : decode cX9_comes 187 = .ok (.laload, 1) := by decide +kernel
theorem dX9_comes_188 : decode cX9_comes 188 = .ok (.aload_n 0, 1) := by decide +kernel
theorem dX9_comes_189 : decode cX9_comes 189 = .ok (.getfield 100, 3) := by decide +kernel
theorem dX9_comes_192 : decode cX9_comes 192 = .ok (.iload 5, 2) := by decide +kernel
theorem dX9_comes_194 : decode cX9_comes 194 = .ok (.laload, 1) := by decide +kernel
theorem dX9_comes_195 : decode cX9_comes 195 = .ok (.lload 6, 2) := by decide +kernel
theorem dX9_comes_197 : decode cX9_comes 197 = .ok (.lsub, 1) := by decide +kernel
theorem dX9_comes_198 : decode cX9_comes 198 = .ok (.lload 8, 2) := by decide +kernel
theorem dX9_comes_200 : decode cX9_comes 200 = .ok (.lsub, 1) := by decide +kernel
theorem dX9_comes_201 : decode cX9_comes 201 = .ok (.ladd, 1) := by decide +kernel
theorem dX9_comes_202 : decode cX9_comes 202 = .ok (.lastore, 1) := by decide +kernel
theorem dX9_comes_203 : decode cX9_comes 203 = .ok (.iinc 5 1, 3) := by decide +kernel
theorem dX9_comes_206 : decode cX9_comes 206 = .ok (.goto (-103), 3) := by decide +kernel
theorem dX9_comes_209 : decode cX9_comes 209 = .ok (.iconst 0, 1) := by decide +kernel
theorem dX9_comes_210 : decode cX9_comes 210 = .ok (.istore 5, 2) := by decide +kernel
theorem dX9_comes_212 : decode cX9_comes 212 = .ok (.iload 5, 2) := by decide +kernel
theorem dX9_comes_214 : decode cX9_comes 214 = .ok (.iconst 3, 1) := by decide +kernel
theorem dX9_comes_215 : decode cX9_comes 215 = .ok (.if_icmp .ge 23, 3) := by decide +kernel
theorem dX9_comes_218 : decode cX9_comes 218 = .ok (.aload_n 0, 1) := by decide +kernel
theorem dX9_comes_219 : decode cX9_comes 219 = .ok (.getfield 100, 3) := by decide +kernel
theorem dX9_comes_222 : decode cX9_comes 222 = .ok (.iload 5, 2) := by decide +kernel
theorem dX9_comes_224 : decode cX9_comes 224 = .ok (.aload_n 0, 1) := by decide +kernel
theorem dX9_comes_225 : decode cX9_comes 225 = .ok (.getfield 103, 3) := by decide +kernel
theorem dX9_comes_228 : decode cX9_comes 228 = .ok (.iload 5, 2) := by decide +kernel
theorem dX9_comes_230 : decode cX9_comes 230 = .ok (.laload, 1) := by decide +kernel
theorem dX9_comes_231 : decode cX9_comes 231 = .ok (.lastore, 1) := by decide +kernel
theorem dX9_comes_232 : decode cX9_comes 232 = .ok (.iinc 5 1, 3) := by decide +kernel
theorem dX9_comes_235 : decode cX9_comes 235 = .ok (.goto (-23), 3) := by decide +kernel
theorem dX9_comes_238 : decode cX9_comes 238 = .ok (.iinc 4 1, 3) := by decide +kernel
theorem dX9_comes_241 : decode cX9_comes 241 = .ok (.goto (-170), 3) := by decide +kernel
theorem dX9_comes_244 : decode cX9_comes 244 = .ok (.aload_n 0, 1) := by decide +kernel
theorem dX9_comes_245 : decode cX9_comes 245 = .ok (.getfield 100, 3) := by decide +kernel
theorem dX9_comes_248 : decode cX9_comes 248 = .ok (.iload_n 2, 1) := by decide +kernel
theorem dX9_comes_249 : decode cX9_comes 249 = .ok (.laload, 1) := by decide +kernel
theorem dX9_comes_250 : decode cX9_comes 250 = .ok (.ldc2_w 377, 3) := by decide +kernel
theorem dX9_comes_253 : decode cX9_comes 253 = .ok (.ldiv, 1) := by decide +kernel
theorem dX9_comes_254 : decode cX9_comes 254 = .ok (.l2i, 1) := by decide +kernel
theorem dX9_comes_255 : decode cX9_comes 255 = .ok (.ireturn, 1) := by decide +kernel
theorem dX9_say_0 : decode cX9_say 0 = .ok (.iload_n 1, 1) := by decide +kernel
theorem dX9_say_1 : decode cX9_say 1 = .ok (.i2l, 1) := by decide +kernel
theorem dX9_say_2 : decode cX9_say 2 = .ok (.lconst 0, 1) := by decide +kernel
theorem dX9_say_3 : decode cX9_say 3 = .ok (.iconst 1, 1) := by decide +kernel
theorem dX9_say_4 : decode cX9_say 4 = .ok (.aload_n 0, 1) := by decide +kernel
theorem dX9_say_5 : decode cX9_say 5 = .ok (.getfield 121, 3) := by decide +kernel
theorem dX9_say_8 : decode cX9_say 8 = .ok (.ishl, 1) := by decide +kernel
theorem dX9_say_9 : decode cX9_say 9 = .ok (.iconst 1, 1) := by decide +kernel
theorem dX9_say_10 : decode cX9_say 10 = .ok (.isub, 1) := by decide +kernel
theorem dX9_say_11 : decode cX9_say 11 = .ok (.i2l, 1) := by decide +kernel
theorem dX9_say_12 : decode cX9_say 12 = .ok (.invokestatic 124, 3) := by decide +kernel
theorem dX9_say_15 : decode cX9_say 15 = .ok (.ifCond .ne 7, 3) := by decide +kernel
theorem dX9_say_18 : decode cX9_say 18 = .ok (.ldc_w 288, 3) := by decide +kernel
theorem dX9_say_21 : decode cX9_say 21 = .ok (.ireturn, 1) := by decide +kernel
theorem dX9_say_22 : decode cX9_say 22 = .ok (.aload_n 0, 1) := by decide +kernel
theorem dX9_say_23 : decode cX9_say 23 = .ok (.getfield 266, 3) := by decide +kernel
theorem dX9_say_26 : decode cX9_say 26 = .ok (.bipush 12, 2) := by decide +kernel
theorem dX9_say_28 : decode cX9_say 28 = .ok (.if_icmp .ne 6, 3) := by decide +kernel
theorem dX9_say_31 : decode cX9_say 31 = .ok (.ldc 170, 2) := by decide +kernel
theorem dX9_say_33 : decode cX9_say 33 = .ok (.ireturn, 1) := by decide +kernel
theorem dX9_say_34 : decode cX9_say 34 = .ok (.aload_n 0, 1) := by decide +kernel
theorem dX9_say_35 : decode cX9_say 35 = .ok (.getfield 106, 3) := by decide +kernel
theorem dX9_say_38 : decode cX9_say 38 = .ok (.aload_n 0, 1) := by decide +kernel
theorem dX9_say_39 : decode cX9_say 39 = .ok (.getfield 266, 3) := by decide +kernel
theorem dX9_say_42 : decode cX9_say 42 = .ok (.iload_n 1, 1) := by decide +kernel
theorem dX9_say_43 : decode cX9_say 43 = .ok (.iastore, 1) := by decide +kernel
theorem dX9_say_44 : decode cX9_say 44 = .ok (.aload_n 0, 1) := by decide +kernel
theorem dX9_say_45 : decode cX9_say 45 = .ok (.getfield 109, 3) := by decide +kernel
theorem dX9_say_48 : decode cX9_say 48 = .ok (.aload_n 0, 1) := by decide +kernel
theorem dX9_say_49 : decode cX9_say 49 = .ok (.getfield 266, 3) := by decide +kernel
theorem dX9_say_52 : decode cX9_say 52 = .ok (.iload_n 2, 1) := by decide +kernel
theorem dX9_say_53 : decode cX9_say 53 = .ok (.bastore, 1) := by decide +kernel
theorem dX9_say_54 : decode cX9_say 54 = .ok (.aload_n 0, 1) := by decide +kernel
theorem dX9_say_55 : decode cX9_say 55 = .ok (.dup, 1) := by decide +kernel
theorem dX9_say_56 : decode cX9_say 56 = .ok (.getfield 266, 3) := by decide +kernel
theorem dX9_say_59 : decode cX9_say 59 = .ok (.iconst 1, 1) := by decide +kernel
theorem dX9_say_60 : decode cX9_say 60 = .ok (.iadd, 1) := by decide +kernel
theorem dX9_say_61 : decode cX9_say 61 = .ok (.putfield 266, 3) := by decide +kernel
theorem dX9_say_64 : decode cX9_say 64 = .ok (.aload_n 0, 1) := by decide +kernel
theorem dX9_say_65 : decode cX9_say 65 = .ok (.getfield 266, 3) := by decide +kernel
theorem dX9_say_68 : decode cX9_say 68 = .ok (.ireturn, 1) := by decide +kernel
theorem dX9_forget_0 : decode cX9_forget 0 = .ok (.aload_n 0, 1) := by decide +kernel
theorem dX9_forget_1 : decode cX9_forget 1 = .ok (.getfield 266, 3) := by decide +kernel
theorem dX9_forget_4 : decode cX9_forget 4 = .ok (.istore_n 1, 1) := by decide +kernel
theorem dX9_forget_5 : decode cX9_forget 5 = .ok (.aload_n 0, 1) := by decide +kernel
theorem dX9_forget_6 : decode cX9_forget 6 = .ok (.iconst 0, 1) := by decide +kernel
theorem dX9_forget_7 : decode cX9_forget 7 = .ok (.putfield 266, 3) := by decide +kernel
theorem dX9_forget_10 : decode cX9_forget 10 = .ok (.iload_n 1, 1) := by decide +kernel
theorem dX9_forget_11 : decode cX9_forget 11 = .ok (.ireturn, 1) := by decide +kernel
theorem dX9_wrongOf_0 : decode cX9_wrongOf 0 = .ok (.iconst 0, 1) := by decide +kernel
theorem dX9_wrongOf_1 : decode cX9_wrongOf 1 = .ok (.istore_n 2, 1) := by decide +kernel
theorem dX9_wrongOf_2 : decode cX9_wrongOf 2 = .ok (.iconst 0, 1) := by decide +kernel
theorem dX9_wrongOf_3 : decode cX9_wrongOf 3 = .ok (.istore_n 3, 1) := by decide +kernel
theorem dX9_wrongOf_4 : decode cX9_wrongOf 4 = .ok (.iload_n 3, 1) := by decide +kernel
theorem dX9_wrongOf_5 : decode cX9_wrongOf 5 = .ok (.aload_n 0, 1) := by decide +kernel
theorem dX9_wrongOf_6 : decode cX9_wrongOf 6 = .ok (.getfield 266, 3) := by decide +kernel
theorem dX9_wrongOf_9 : decode cX9_wrongOf 9 = .ok (.if_icmp .ge 46, 3) := by decide +kernel
theorem dX9_wrongOf_12 : decode cX9_wrongOf 12 = .ok (.aload_n 0, 1) := by decide +kernel
theorem dX9_wrongOf_13 : decode cX9_wrongOf 13 = .ok (.getfield 106, 3) := by decide +kernel
theorem dX9_wrongOf_16 : decode cX9_wrongOf 16 = .ok (.iload_n 3, 1) := by decide +kernel
theorem dX9_wrongOf_17 : decode cX9_wrongOf 17 = .ok (.iaload, 1) := by decide +kernel
theorem dX9_wrongOf_18 : decode cX9_wrongOf 18 = .ok (.iload_n 1, 1) := by decide +kernel
theorem dX9_wrongOf_19 : decode cX9_wrongOf 19 = .ok (.iand, 1) := by decide +kernel
theorem dX9_wrongOf_20 : decode cX9_wrongOf 20 = .ok (.ifCond .ne 7, 3) := by decide +kernel
theorem dX9_wrongOf_23 : decode cX9_wrongOf 23 = .ok (.iconst 1, 1) := by decide +kernel
theorem dX9_wrongOf_24 : decode cX9_wrongOf 24 = .ok (.goto 4, 3) := by decide +kernel
theorem dX9_wrongOf_27 : decode cX9_wrongOf 27 = .ok (.iconst 0, 1) := by decide +kernel
theorem dX9_wrongOf_28 : decode cX9_wrongOf 28 = .ok (.istore 4, 2) := by decide +kernel
theorem dX9_wrongOf_30 : decode cX9_wrongOf 30 = .ok (.iload_n 2, 1) := by decide +kernel
theorem dX9_wrongOf_31 : decode cX9_wrongOf 31 = .ok (.iload 4, 2) := by decide +kernel
theorem dX9_wrongOf_33 : decode cX9_wrongOf 33 = .ok (.aload_n 0, 1) := by decide +kernel
theorem dX9_wrongOf_34 : decode cX9_wrongOf 34 = .ok (.getfield 109, 3) := by decide +kernel
theorem dX9_wrongOf_37 : decode cX9_wrongOf 37 = .ok (.iload_n 3, 1) := by decide +kernel
theorem dX9_wrongOf_38 : decode cX9_wrongOf 38 = .ok (.baload, 1) := by decide +kernel
theorem dX9_wrongOf_39 : decode cX9_wrongOf 39 = .ok (.if_icmp .ne 7, 3) := by decide +kernel
theorem dX9_wrongOf_42 : decode cX9_wrongOf 42 = .ok (.iconst 0, 1) := by decide +kernel
theorem dX9_wrongOf_43 : decode cX9_wrongOf 43 = .ok (.goto 4, 3) := by decide +kernel
theorem dX9_wrongOf_46 : decode cX9_wrongOf 46 = .ok (.iconst 1, 1) := by decide +kernel
theorem dX9_wrongOf_47 : decode cX9_wrongOf 47 = .ok (.iadd, 1) := by decide +kernel
theorem dX9_wrongOf_48 : decode cX9_wrongOf 48 = .ok (.istore_n 2, 1) := by decide +kernel
theorem dX9_wrongOf_49 : decode cX9_wrongOf 49 = .ok (.iinc 3 1, 3) := by decide +kernel
theorem dX9_wrongOf_52 : decode cX9_wrongOf 52 = .ok (.goto (-48), 3) := by decide +kernel
theorem dX9_wrongOf_55 : decode cX9_wrongOf 55 = .ok (.iload_n 2, 1) := by decide +kernel
theorem dX9_wrongOf_56 : decode cX9_wrongOf 56 = .ok (.ireturn, 1) := by decide +kernel
theorem dX9_out_0 : decode cX9_out 0 = .ok (.iload_n 1, 1) := by decide +kernel
theorem dX9_out_1 : decode cX9_out 1 = .ok (.i2l, 1) := by decide +kernel
theorem dX9_out_2 : decode cX9_out 2 = .ok (.lconst 0, 1) := by decide +kernel
theorem dX9_out_3 : decode cX9_out 3 = .ok (.ldc2_w 384, 3) := by decide +kernel
theorem dX9_out_6 : decode cX9_out 6 = .ok (.invokestatic 124, 3) := by decide +kernel
theorem dX9_out_9 : decode cX9_out 9 = .ok (.ifCond .eq 27, 3) := by decide +kernel
theorem dX9_out_12 : decode cX9_out 12 = .ok (.iload_n 2, 1) := by decide +kernel
theorem dX9_out_13 : decode cX9_out 13 = .ok (.i2l, 1) := by decide +kernel
theorem dX9_out_14 : decode cX9_out 14 = .ok (.lconst 0, 1) := by decide +kernel
theorem dX9_out_15 : decode cX9_out 15 = .ok (.ldc2_w 386, 3) := by decide +kernel
theorem dX9_out_18 : decode cX9_out 18 = .ok (.invokestatic 124, 3) := by decide +kernel
theorem dX9_out_21 : decode cX9_out 21 = .ok (.ifCond .eq 15, 3) := by decide +kernel
theorem dX9_out_24 : decode cX9_out 24 = .ok (.iload_n 3, 1) := by decide +kernel
theorem dX9_out_25 : decode cX9_out 25 = .ok (.i2l, 1) := by decide +kernel
theorem dX9_out_26 : decode cX9_out 26 = .ok (.lconst 0, 1) := by decide +kernel
theorem dX9_out_27 : decode cX9_out 27 = .ok (.ldc2_w 128, 3) := by decide +kernel
theorem dX9_out_30 : decode cX9_out 30 = .ok (.invokestatic 124, 3) := by decide +kernel
theorem dX9_out_33 : decode cX9_out 33 = .ok (.ifCond .ne 6, 3) := by decide +kernel
theorem dX9_out_36 : decode cX9_out 36 = .ok (.ldc 166, 2) := by decide +kernel
theorem dX9_out_38 : decode cX9_out 38 = .ok (.ireturn, 1) := by decide +kernel
theorem dX9_out_39 : decode cX9_out 39 = .ok (.iconst 0, 1) := by decide +kernel
theorem dX9_out_40 : decode cX9_out 40 = .ok (.istore 4, 2) := by decide +kernel
theorem dX9_out_42 : decode cX9_out 42 = .ok (.iconst 1, 1) := by decide +kernel
theorem dX9_out_43 : decode cX9_out 43 = .ok (.aload_n 0, 1) := by decide +kernel
theorem dX9_out_44 : decode cX9_out 44 = .ok (.getfield 121, 3) := by decide +kernel
theorem dX9_out_47 : decode cX9_out 47 = .ok (.ishl, 1) := by decide +kernel
theorem dX9_out_48 : decode cX9_out 48 = .ok (.iconst 1, 1) := by decide +kernel
theorem dX9_out_49 : decode cX9_out 49 = .ok (.isub, 1) := by decide +kernel
theorem dX9_out_50 : decode cX9_out 50 = .ok (.istore 5, 2) := by decide +kernel
theorem dX9_out_52 : decode cX9_out 52 = .ok (.iconst 0, 1) := by decide +kernel
theorem dX9_out_53 : decode cX9_out 53 = .ok (.istore 6, 2) := by decide +kernel
theorem dX9_out_55 : decode cX9_out 55 = .ok (.iconst 0, 1) := by decide +kernel
theorem dX9_out_56 : decode cX9_out 56 = .ok (.istore 7, 2) := by decide +kernel
theorem dX9_out_58 : decode cX9_out 58 = .ok (.iload 7, 2) := by decide +kernel
theorem dX9_out_60 : decode cX9_out 60 = .ok (.iconst 1, 1) := by decide +kernel
theorem dX9_out_61 : decode cX9_out 61 = .ok (.aload_n 0, 1) := by decide +kernel
theorem dX9_out_62 : decode cX9_out 62 = .ok (.getfield 121, 3) := by decide +kernel
theorem dX9_out_65 : decode cX9_out 65 = .ok (.ishl, 1) := by decide +kernel
theorem dX9_out_66 : decode cX9_out 66 = .ok (.if_icmp .ge 45, 3) := by decide +kernel
theorem dX9_out_69 : decode cX9_out 69 = .ok (.iload 7, 2) := by decide +kernel
theorem dX9_out_71 : decode cX9_out 71 = .ok (.invokestatic 388, 3) := by decide +kernel
theorem dX9_out_74 : decode cX9_out 74 = .ok (.iload_n 1, 1) := by decide +kernel
theorem dX9_out_75 : decode cX9_out 75 = .ok (.if_icmp .ne 30, 3) := by decide +kernel
theorem dX9_out_78 : decode cX9_out 78 = .ok (.aload_n 0, 1) := by decide +kernel
theorem dX9_out_79 : decode cX9_out 79 = .ok (.iload 7, 2) := by decide +kernel
theorem dX9_out_81 : decode cX9_out 81 = .ok (.invokevirtual 391, 3) := by decide +kernel
theorem dX9_out_84 : decode cX9_out 84 = .ok (.iload_n 2, 1) := by decide +kernel
theorem dX9_out_85 : decode cX9_out 85 = .ok (.if_icmp .gt 20, 3) := by decide +kernel
theorem dX9_out_88 : decode cX9_out 88 = .ok (.iinc 4 1, 3) := by decide +kernel
theorem dX9_out_91 : decode cX9_out 91 = .ok (.iload 5, 2) := by decide +kernel
theorem dX9_out_93 : decode cX9_out 93 = .ok (.iload 7, 2) := by decide +kernel
theorem dX9_out_95 : decode cX9_out 95 = .ok (.iand, 1) := by decide +kernel
theorem dX9_out_96 : decode cX9_out 96 = .ok (.istore 5, 2) := by decide +kernel
theorem dX9_out_98 : decode cX9_out 98 = .ok (.iload 6, 2) := by decide +kernel
theorem dX9_out_100 : decode cX9_out 100 = .ok (.iload 7, 2) := by decide +kernel
theorem dX9_out_102 : decode cX9_out 102 = .ok (.ior, 1) := by decide +kernel
theorem dX9_out_103 : decode cX9_out 103 = .ok (.istore 6, 2) := by decide +kernel
theorem dX9_out_105 : decode cX9_out 105 = .ok (.iinc 7 1, 3) := by decide +kernel
theorem dX9_out_108 : decode cX9_out 108 = .ok (.goto (-50), 3) := by decide +kernel
theorem dX9_out_111 : decode cX9_out 111 = .ok (.iload_n 3, 1) := by decide +kernel
theorem dX9_out_112 : decode cX9_out 112 = .ok (.ifCond .ne 8, 3) := by decide +kernel
theorem dX9_out_115 : decode cX9_out 115 = .ok (.iload 4, 2) := by decide +kernel
theorem dX9_out_117 : decode cX9_out 117 = .ok (.goto 24, 3) := by decide +kernel
theorem dX9_out_120 : decode cX9_out 120 = .ok (.iload 4, 2) := by decide +kernel
theorem dX9_out_122 : decode cX9_out 122 = .ok (.ifCond .ne 7, 3) := by decide +kernel
theorem dX9_out_125 : decode cX9_out 125 = .ok (.iconst (-1), 1) := by decide +kernel
theorem dX9_out_126 : decode cX9_out 126 = .ok (.goto 15, 3) := by decide +kernel
theorem dX9_out_129 : decode cX9_out 129 = .ok (.iload_n 3, 1) := by decide +kernel
theorem dX9_out_130 : decode cX9_out 130 = .ok (.iconst 1, 1) := by decide +kernel
theorem dX9_out_131 : decode cX9_out 131 = .ok (.if_icmp .ne 8, 3) := by decide +kernel
theorem dX9_out_134 : decode cX9_out 134 = .ok (.iload 5, 2) := by decide +kernel
theorem dX9_out_136 : decode cX9_out 136 = .ok (.goto 5, 3) := by decide +kernel
theorem dX9_out_139 : decode cX9_out 139 = .ok (.iload 6, 2) := by decide +kernel
theorem dX9_out_141 : decode cX9_out 141 = .ok (.ireturn, 1) := by decide +kernel
theorem dX9_write_0 : decode cX9_write 0 = .ok (.aload_n 0, 1) := by decide +kernel
theorem dX9_write_1 : decode cX9_write 1 = .ok (.iload_n 1, 1) := by decide +kernel
theorem dX9_write_2 : decode cX9_write 2 = .ok (.invokevirtual 284, 3) := by decide +kernel
theorem dX9_write_5 : decode cX9_write 5 = .ok (.ifCond .ne 7, 3) := by decide +kernel
theorem dX9_write_8 : decode cX9_write 8 = .ok (.ldc_w 288, 3) := by decide +kernel
theorem dX9_write_11 : decode cX9_write 11 = .ok (.ireturn, 1) := by decide +kernel
theorem dX9_write_12 : decode cX9_write 12 = .ok (.iload_n 2, 1) := by decide +kernel
theorem dX9_write_13 : decode cX9_write 13 = .ok (.i2l, 1) := by decide +kernel
theorem dX9_write_14 : decode cX9_write 14 = .ok (.lconst 0, 1) := by decide +kernel
theorem dX9_write_15 : decode cX9_write 15 = .ok (.ldc2_w 359, 3) := by decide +kernel
theorem dX9_write_18 : decode cX9_write 18 = .ok (.invokestatic 124, 3) := by decide +kernel
theorem dX9_write_21 : decode cX9_write 21 = .ok (.ifCond .ne 6, 3) := by decide +kernel
theorem dX9_write_24 : decode cX9_write 24 = .ok (.ldc 166, 2) := by decide +kernel
theorem dX9_write_26 : decode cX9_write 26 = .ok (.ireturn, 1) := by decide +kernel
theorem dX9_write_27 : decode cX9_write 27 = .ok (.aload_n 0, 1) := by decide +kernel
theorem dX9_write_28 : decode cX9_write 28 = .ok (.getfield 112, 3) := by decide +kernel
theorem dX9_write_31 : decode cX9_write 31 = .ok (.iload_n 1, 1) := by decide +kernel
theorem dX9_write_32 : decode cX9_write 32 = .ok (.iaload, 1) := by decide +kernel
theorem dX9_write_33 : decode cX9_write 33 = .ok (.bipush 40, 2) := by decide +kernel
theorem dX9_write_35 : decode cX9_write 35 = .ok (.if_icmp .ne 6, 3) := by decide +kernel
theorem dX9_write_38 : decode cX9_write 38 = .ok (.ldc 170, 2) := by decide +kernel
theorem dX9_write_40 : decode cX9_write 40 = .ok (.ireturn, 1) := by decide +kernel
theorem dX9_write_41 : decode cX9_write 41 = .ok (.aload_n 0, 1) := by decide +kernel
theorem dX9_write_42 : decode cX9_write 42 = .ok (.getfield 115, 3) := by decide +kernel
theorem dX9_write_45 : decode cX9_write 45 = .ok (.bipush 40, 2) := by decide +kernel
theorem dX9_write_47 : decode cX9_write 47 = .ok (.iload_n 1, 1) := by decide +kernel
theorem dX9_write_48 : decode cX9_write 48 = .ok (.imul, 1) := by decide +kernel
theorem dX9_write_49 : decode cX9_write 49 = .ok (.aload_n 0, 1) := by decide +kernel
theorem dX9_write_50 : decode cX9_write 50 = .ok (.getfield 112, 3) := by decide +kernel
theorem dX9_write_53 : decode cX9_write 53 = .ok (.iload_n 1, 1) := by decide +kernel
theorem dX9_write_54 : decode cX9_write 54 = .ok (.iaload, 1) := by decide +kernel
theorem dX9_write_55 : decode cX9_write 55 = .ok (.iadd, 1) := by decide +kernel
theorem dX9_write_56 : decode cX9_write 56 = .ok (.iload_n 2, 1) := by decide +kernel
theorem dX9_write_57 : decode cX9_write 57 = .ok (.iastore, 1) := by decide +kernel
theorem dX9_write_58 : decode cX9_write 58 = .ok (.aload_n 0, 1) := by decide +kernel
theorem dX9_write_59 : decode cX9_write 59 = .ok (.getfield 112, 3) := by decide +kernel
theorem dX9_write_62 : decode cX9_write 62 = .ok (.iload_n 1, 1) := by decide +kernel
theorem dX9_write_63 : decode cX9_write 63 = .ok (.dup2, 1) := by decide +kernel
theorem dX9_write_64 : decode cX9_write 64 = .ok (.iaload, 1) := by decide +kernel
theorem dX9_write_65 : decode cX9_write 65 = .ok (.iconst 1, 1) := by decide +kernel
theorem dX9_write_66 : decode cX9_write 66 = .ok (.iadd, 1) := by decide +kernel
theorem dX9_write_67 : decode cX9_write 67 = .ok (.iastore, 1) := by decide +kernel
theorem dX9_write_68 : decode cX9_write 68 = .ok (.aload_n 0, 1) := by decide +kernel
theorem dX9_write_69 : decode cX9_write 69 = .ok (.getfield 112, 3) := by decide +kernel
theorem dX9_write_72 : decode cX9_write 72 = .ok (.iload_n 1, 1) := by decide +kernel
theorem dX9_write_73 : decode cX9_write 73 = .ok (.iaload, 1) := by decide +kernel
theorem dX9_write_74 : decode cX9_write 74 = .ok (.ireturn, 1) := by decide +kernel
theorem dX9_tear_0 : decode cX9_tear 0 = .ok (.aload_n 0, 1) := by decide +kernel
theorem dX9_tear_1 : decode cX9_tear 1 = .ok (.iload_n 1, 1) := by decide +kernel
theorem dX9_tear_2 : decode cX9_tear 2 = .ok (.invokevirtual 284, 3) := by decide +kernel
theorem dX9_tear_5 : decode cX9_tear 5 = .ok (.ifCond .ne 7, 3) := by decide +kernel
theorem dX9_tear_8 : decode cX9_tear 8 = .ok (.ldc_w 288, 3) := by decide +kernel
theorem dX9_tear_11 : decode cX9_tear 11 = .ok (.ireturn, 1) := by decide +kernel
theorem dX9_tear_12 : decode cX9_tear 12 = .ok (.aload_n 0, 1) := by decide +kernel
theorem dX9_tear_13 : decode cX9_tear 13 = .ok (.getfield 112, 3) := by decide +kernel
theorem dX9_tear_16 : decode cX9_tear 16 = .ok (.iload_n 1, 1) := by decide +kernel
theorem dX9_tear_17 : decode cX9_tear 17 = .ok (.iaload, 1) := by decide +kernel
theorem dX9_tear_18 : decode cX9_tear 18 = .ok (.istore_n 2, 1) := by decide +kernel
theorem dX9_tear_19 : decode cX9_tear 19 = .ok (.aload_n 0, 1) := by decide +kernel
theorem dX9_tear_20 : decode cX9_tear 20 = .ok (.getfield 112, 3) := by decide +kernel
theorem dX9_tear_23 : decode cX9_tear 23 = .ok (.iload_n 1, 1) := by decide +kernel
theorem dX9_tear_24 : decode cX9_tear 24 = .ok (.iconst 0, 1) := by decide +kernel
theorem dX9_tear_25 : decode cX9_tear 25 = .ok (.iastore, 1) := by decide +kernel
theorem dX9_tear_26 : decode cX9_tear 26 = .ok (.iload_n 2, 1) := by decide +kernel
theorem dX9_tear_27 : decode cX9_tear 27 = .ok (.ireturn, 1) := by decide +kernel
theorem dX9_judge_0 : decode cX9_judge 0 = .ok (.aload_n 0, 1) := by decide +kernel
theorem dX9_judge_1 : decode cX9_judge 1 = .ok (.iload_n 1, 1) := by decide +kernel
theorem dX9_judge_2 : decode cX9_judge 2 = .ok (.invokevirtual 284, 3) := by decide +kernel
theorem dX9_judge_5 : decode cX9_judge 5 = .ok (.ifCond .ne 7, 3) := by decide +kernel
theorem dX9_judge_8 : decode cX9_judge 8 = .ok (.ldc_w 288, 3) := by decide +kernel
theorem dX9_judge_11 : decode cX9_judge 11 = .ok (.ireturn, 1) := by decide +kernel
theorem dX9_judge_12 : decode cX9_judge 12 = .ok (.iconst 0, 1) := by decide +kernel
theorem dX9_judge_13 : decode cX9_judge 13 = .ok (.istore_n 2, 1) := by decide +kernel
theorem dX9_judge_14 : decode cX9_judge 14 = .ok (.iload_n 2, 1) := by decide +kernel
theorem dX9_judge_15 : decode cX9_judge 15 = .ok (.aload_n 0, 1) := by decide +kernel
theorem dX9_judge_16 : decode cX9_judge 16 = .ok (.getfield 112, 3) := by decide +kernel
theorem dX9_judge_19 : decode cX9_judge 19 = .ok (.iload_n 1, 1) := by decide +kernel
theorem dX9_judge_20 : decode cX9_judge 20 = .ok (.iaload, 1) := by decide +kernel
theorem dX9_judge_21 : decode cX9_judge 21 = .ok (.if_icmp .ge 44, 3) := by decide +kernel
theorem dX9_judge_24 : decode cX9_judge 24 = .ok (.iload_n 2, 1) := by decide +kernel
theorem dX9_judge_25 : decode cX9_judge 25 = .ok (.aload_n 0, 1) := by decide +kernel
theorem dX9_judge_26 : decode cX9_judge 26 = .ok (.getfield 149, 3) := by decide +kernel
theorem dX9_judge_29 : decode cX9_judge 29 = .ok (.if_icmp .ge 36, 3) := by decide +kernel
theorem dX9_judge_32 : decode cX9_judge 32 = .ok (.aload_n 0, 1) := by decide +kernel
theorem dX9_judge_33 : decode cX9_judge 33 = .ok (.getfield 115, 3) := by decide +kernel
theorem dX9_judge_36 : decode cX9_judge 36 = .ok (.bipush 40, 2) := by decide +kernel
theorem dX9_judge_38 : decode cX9_judge 38 = .ok (.iload_n 1, 1) := by decide +kernel
theorem dX9_judge_39 : decode cX9_judge 39 = .ok (.imul, 1) := by decide +kernel
theorem dX9_judge_40 : decode cX9_judge 40 = .ok (.iload_n 2, 1) := by decide +kernel
theorem dX9_judge_41 : decode cX9_judge 41 = .ok (.iadd, 1) := by decide +kernel
theorem dX9_judge_42 : decode cX9_judge 42 = .ok (.iaload, 1) := by decide +kernel
theorem dX9_judge_43 : decode cX9_judge 43 = .ok (.aload_n 0, 1) := by decide +kernel
theorem dX9_judge_44 : decode cX9_judge 44 = .ok (.getfield 57, 3) := by decide +kernel
theorem dX9_judge_47 : decode cX9_judge 47 = .ok (.bipush 40, 2) := by decide +kernel
theorem dX9_judge_49 : decode cX9_judge 49 = .ok (.iload_n 1, 1) := by decide +kernel
theorem dX9_judge_50 : decode cX9_judge 50 = .ok (.imul, 1) := by decide +kernel
theorem dX9_judge_51 : decode cX9_judge 51 = .ok (.iload_n 2, 1) := by decide +kernel
theorem dX9_judge_52 : decode cX9_judge 52 = .ok (.iadd, 1) := by decide +kernel
theorem dX9_judge_53 : decode cX9_judge 53 = .ok (.iaload, 1) := by decide +kernel
theorem dX9_judge_54 : decode cX9_judge 54 = .ok (.if_icmp .eq 5, 3) := by decide +kernel
theorem dX9_judge_57 : decode cX9_judge 57 = .ok (.iload_n 2, 1) := by decide +kernel
theorem dX9_judge_58 : decode cX9_judge 58 = .ok (.ireturn, 1) := by decide +kernel
theorem dX9_judge_59 : decode cX9_judge 59 = .ok (.iinc 2 1, 3) := by decide +kernel
theorem dX9_judge_62 : decode cX9_judge 62 = .ok (.goto (-48), 3) := by decide +kernel
theorem dX9_judge_65 : decode cX9_judge 65 = .ok (.iconst (-1), 1) := by decide +kernel
theorem dX9_judge_66 : decode cX9_judge 66 = .ok (.ireturn, 1) := by decide +kernel
theorem dX9_seed_0 : decode cX9_seed 0 = .ok (.iload_n 1, 1) := by decide +kernel
theorem dX9_seed_1 : decode cX9_seed 1 = .ok (.ifCond .ge 6, 3) := by decide +kernel
theorem dX9_seed_4 : decode cX9_seed 4 = .ok (.ldc 166, 2) := by decide +kernel
theorem dX9_seed_6 : decode cX9_seed 6 = .ok (.ireturn, 1) := by decide +kernel
theorem dX9_seed_7 : decode cX9_seed 7 = .ok (.aload_n 0, 1) := by decide +kernel
theorem dX9_seed_8 : decode cX9_seed 8 = .ok (.getfield 330, 3) := by decide +kernel
theorem dX9_seed_11 : decode cX9_seed 11 = .ok (.istore_n 2, 1) := by decide +kernel
theorem dX9_seed_12 : decode cX9_seed 12 = .ok (.aload_n 0, 1) := by decide +kernel
theorem dX9_seed_13 : decode cX9_seed 13 = .ok (.iload_n 1, 1) := by decide +kernel
theorem dX9_seed_14 : decode cX9_seed 14 = .ok (.putfield 330, 3) := by decide +kernel
theorem dX9_seed_17 : decode cX9_seed 17 = .ok (.iload_n 2, 1) := by decide +kernel
theorem dX9_seed_18 : decode cX9_seed 18 = .ok (.ireturn, 1) := by decide +kernel
theorem dX9_keep_0 : decode cX9_keep 0 = .ok (.iload_n 1, 1) := by decide +kernel
theorem dX9_keep_1 : decode cX9_keep 1 = .ok (.i2l, 1) := by decide +kernel
theorem dX9_keep_2 : decode cX9_keep 2 = .ok (.lconst 0, 1) := by decide +kernel
theorem dX9_keep_3 : decode cX9_keep 3 = .ok (.lconst 1, 1) := by decide +kernel
theorem dX9_keep_4 : decode cX9_keep 4 = .ok (.invokestatic 124, 3) := by decide +kernel
theorem dX9_keep_7 : decode cX9_keep 7 = .ok (.ifCond .ne 7, 3) := by decide +kernel
theorem dX9_keep_10 : decode cX9_keep 10 = .ok (.ldc_w 288, 3) := by decide +kernel
theorem dX9_keep_13 : decode cX9_keep 13 = .ok (.ireturn, 1) := by decide +kernel
theorem dX9_keep_14 : decode cX9_keep 14 = .ok (.aload_n 0, 1) := by decide +kernel
theorem dX9_keep_15 : decode cX9_keep 15 = .ok (.iload_n 1, 1) := by decide +kernel
theorem dX9_keep_16 : decode cX9_keep 16 = .ok (.invokevirtual 350, 3) := by decide +kernel
theorem dX9_keep_19 : decode cX9_keep 19 = .ok (.aload_n 0, 1) := by decide +kernel
theorem dX9_keep_20 : decode cX9_keep 20 = .ok (.getfield 88, 3) := by decide +kernel
theorem dX9_keep_23 : decode cX9_keep 23 = .ok (.iload_n 1, 1) := by decide +kernel
theorem dX9_keep_24 : decode cX9_keep 24 = .ok (.iconst 1, 1) := by decide +kernel
theorem dX9_keep_25 : decode cX9_keep 25 = .ok (.bastore, 1) := by decide +kernel
theorem dX9_keep_26 : decode cX9_keep 26 = .ok (.iconst 1, 1) := by decide +kernel
theorem dX9_keep_27 : decode cX9_keep 27 = .ok (.ireturn, 1) := by decide +kernel
theorem dX9_goBack_0 : decode cX9_goBack 0 = .ok (.iload_n 1, 1) := by decide +kernel
theorem dX9_goBack_1 : decode cX9_goBack 1 = .ok (.i2l, 1) := by decide +kernel
theorem dX9_goBack_2 : decode cX9_goBack 2 = .ok (.lconst 0, 1) := by decide +kernel
theorem dX9_goBack_3 : decode cX9_goBack 3 = .ok (.lconst 1, 1) := by decide +kernel
theorem dX9_goBack_4 : decode cX9_goBack 4 = .ok (.invokestatic 124, 3) := by decide +kernel
theorem dX9_goBack_7 : decode cX9_goBack 7 = .ok (.ifCond .ne 7, 3) := by decide +kernel
theorem dX9_goBack_10 : decode cX9_goBack 10 = .ok (.ldc_w 288, 3) := by decide +kernel
theorem dX9_goBack_13 : decode cX9_goBack 13 = .ok (.ireturn, 1) := by decide +kernel
theorem dX9_goBack_14 : decode cX9_goBack 14 = .ok (.aload_n 0, 1) := by decide +kernel
theorem dX9_goBack_15 : decode cX9_goBack 15 = .ok (.getfield 88, 3) := by decide +kernel
theorem dX9_goBack_18 : decode cX9_goBack 18 = .ok (.iload_n 1, 1) := by decide +kernel
theorem dX9_goBack_19 : decode cX9_goBack 19 = .ok (.baload, 1) := by decide +kernel
theorem dX9_goBack_20 : decode cX9_goBack 20 = .ok (.ifCond .ne 7, 3) := by decide +kernel
theorem dX9_goBack_23 : decode cX9_goBack 23 = .ok (.ldc_w 272, 3) := by decide +kernel
theorem dX9_goBack_26 : decode cX9_goBack 26 = .ok (.ireturn, 1) := by decide +kernel
theorem dX9_goBack_27 : decode cX9_goBack 27 = .ok (.aload_n 0, 1) := by decide +kernel
theorem dX9_goBack_28 : decode cX9_goBack 28 = .ok (.iload_n 1, 1) := by decide +kernel
theorem dX9_goBack_29 : decode cX9_goBack 29 = .ok (.invokevirtual 356, 3) := by decide +kernel
theorem dX9_goBack_32 : decode cX9_goBack 32 = .ok (.iconst 1, 1) := by decide +kernel
theorem dX9_goBack_33 : decode cX9_goBack 33 = .ok (.ireturn, 1) := by decide +kernel
theorem dJ6_bitCount_0f7a4_0 : decode cJ6_bitCount_0f7a4 0 = .ok (.iload_n 0, 1) := by decide +kernel
theorem dJ6_bitCount_0f7a4_1 : decode cJ6_bitCount_0f7a4 1 = .ok (.iload_n 0, 1) := by decide +kernel
theorem dJ6_bitCount_0f7a4_2 : decode cJ6_bitCount_0f7a4 2 = .ok (.iconst 1, 1) := by decide +kernel
theorem dJ6_bitCount_0f7a4_3 : decode cJ6_bitCount_0f7a4 3 = .ok (.iushr, 1) := by decide +kernel
theorem dJ6_bitCount_0f7a4_4 : decode cJ6_bitCount_0f7a4 4 = .ok (.ldc_w 265, 3) := by decide +kernel
theorem dJ6_bitCount_0f7a4_7 : decode cJ6_bitCount_0f7a4 7 = .ok (.iand, 1) := by decide +kernel
theorem dJ6_bitCount_0f7a4_8 : decode cJ6_bitCount_0f7a4 8 = .ok (.isub, 1) := by decide +kernel
theorem dJ6_bitCount_0f7a4_9 : decode cJ6_bitCount_0f7a4 9 = .ok (.istore_n 0, 1) := by decide +kernel
theorem dJ6_bitCount_0f7a4_10 : decode cJ6_bitCount_0f7a4 10 = .ok (.iload_n 0, 1) := by decide +kernel
theorem dJ6_bitCount_0f7a4_11 : decode cJ6_bitCount_0f7a4 11 = .ok (.ldc_w 266, 3) := by decide +kernel
theorem dJ6_bitCount_0f7a4_14 : decode cJ6_bitCount_0f7a4 14 = .ok (.iand, 1) := by decide +kernel
theorem dJ6_bitCount_0f7a4_15 : decode cJ6_bitCount_0f7a4 15 = .ok (.iload_n 0, 1) := by decide +kernel
theorem dJ6_bitCount_0f7a4_16 : decode cJ6_bitCount_0f7a4 16 = .ok (.iconst 2, 1) := by decide +kernel
theorem dJ6_bitCount_0f7a4_17 : decode cJ6_bitCount_0f7a4 17 = .ok (.iushr, 1) := by decide +kernel
theorem dJ6_bitCount_0f7a4_18 : decode cJ6_bitCount_0f7a4 18 = .ok (.ldc_w 266, 3) := by decide +kernel
theorem dJ6_bitCount_0f7a4_21 : decode cJ6_bitCount_0f7a4 21 = .ok (.iand, 1) := by decide +kernel
theorem dJ6_bitCount_0f7a4_22 : decode cJ6_bitCount_0f7a4 22 = .ok (.iadd, 1) := by decide +kernel
theorem dJ6_bitCount_0f7a4_23 : decode cJ6_bitCount_0f7a4 23 = .ok (.istore_n 0, 1) := by decide +kernel
theorem dJ6_bitCount_0f7a4_24 : decode cJ6_bitCount_0f7a4 24 = .ok (.iload_n 0, 1) := by decide +kernel
theorem dJ6_bitCount_0f7a4_25 : decode cJ6_bitCount_0f7a4 25 = .ok (.iload_n 0, 1) := by decide +kernel
theorem dJ6_bitCount_0f7a4_26 : decode cJ6_bitCount_0f7a4 26 = .ok (.iconst 4, 1) := by decide +kernel
theorem dJ6_bitCount_0f7a4_27 : decode cJ6_bitCount_0f7a4 27 = .ok (.iushr, 1) := by decide +kernel
theorem dJ6_bitCount_0f7a4_28 : decode cJ6_bitCount_0f7a4 28 = .ok (.iadd, 1) := by decide +kernel
theorem dJ6_bitCount_0f7a4_29 : decode cJ6_bitCount_0f7a4 29 = .ok (.ldc_w 267, 3) := by decide +kernel
theorem dJ6_bitCount_0f7a4_32 : decode cJ6_bitCount_0f7a4 32 = .ok (.iand, 1) := by decide +kernel
theorem dJ6_bitCount_0f7a4_33 : decode cJ6_bitCount_0f7a4 33 = .ok (.istore_n 0, 1) := by decide +kernel
theorem dJ6_bitCount_0f7a4_34 : decode cJ6_bitCount_0f7a4 34 = .ok (.iload_n 0, 1) := by decide +kernel
theorem dJ6_bitCount_0f7a4_35 : decode cJ6_bitCount_0f7a4 35 = .ok (.iload_n 0, 1) := by decide +kernel
theorem dJ6_bitCount_0f7a4_36 : decode cJ6_bitCount_0f7a4 36 = .ok (.bipush 8, 2) := by decide +kernel
theorem dJ6_bitCount_0f7a4_38 : decode cJ6_bitCount_0f7a4 38 = .ok (.iushr, 1) := by decide +kernel
theorem dJ6_bitCount_0f7a4_39 : decode cJ6_bitCount_0f7a4 39 = .ok (.iadd, 1) := by decide +kernel
theorem dJ6_bitCount_0f7a4_40 : decode cJ6_bitCount_0f7a4 40 = .ok (.istore_n 0, 1) := by decide +kernel
theorem dJ6_bitCount_0f7a4_41 : decode cJ6_bitCount_0f7a4 41 = .ok (.iload_n 0, 1) := by decide +kernel
theorem dJ6_bitCount_0f7a4_42 : decode cJ6_bitCount_0f7a4 42 = .ok (.iload_n 0, 1) := by decide +kernel
theorem dJ6_bitCount_0f7a4_43 : decode cJ6_bitCount_0f7a4 43 = .ok (.bipush 16, 2) := by decide +kernel
theorem dJ6_bitCount_0f7a4_45 : decode cJ6_bitCount_0f7a4 45 = .ok (.iushr, 1) := by decide +kernel
theorem dJ6_bitCount_0f7a4_46 : decode cJ6_bitCount_0f7a4 46 = .ok (.iadd, 1) := by decide +kernel
theorem dJ6_bitCount_0f7a4_47 : decode cJ6_bitCount_0f7a4 47 = .ok (.istore_n 0, 1) := by decide +kernel
theorem dJ6_bitCount_0f7a4_48 : decode cJ6_bitCount_0f7a4 48 = .ok (.iload_n 0, 1) := by decide +kernel
theorem dJ6_bitCount_0f7a4_49 : decode cJ6_bitCount_0f7a4 49 = .ok (.bipush 63, 2) := by decide +kernel
theorem dJ6_bitCount_0f7a4_51 : decode cJ6_bitCount_0f7a4 51 = .ok (.iand, 1) := by decide +kernel
theorem dJ6_bitCount_0f7a4_52 : decode cJ6_bitCount_0f7a4 52 = .ok (.ireturn, 1) := by decide +kernel
theorem dJ9_floorMod_7cf53_0 : decode cJ9_floorMod_7cf53 0 = .ok (.iload_n 0, 1) := by decide +kernel
theorem dJ9_floorMod_7cf53_1 : decode cJ9_floorMod_7cf53 1 = .ok (.iload_n 1, 1) := by decide +kernel
theorem dJ9_floorMod_7cf53_2 : decode cJ9_floorMod_7cf53 2 = .ok (.irem, 1) := by decide +kernel
theorem dJ9_floorMod_7cf53_3 : decode cJ9_floorMod_7cf53 3 = .ok (.istore_n 2, 1) := by decide +kernel
theorem dJ9_floorMod_7cf53_4 : decode cJ9_floorMod_7cf53 4 = .ok (.iload_n 0, 1) := by decide +kernel
theorem dJ9_floorMod_7cf53_5 : decode cJ9_floorMod_7cf53 5 = .ok (.iload_n 1, 1) := by decide +kernel
theorem dJ9_floorMod_7cf53_6 : decode cJ9_floorMod_7cf53 6 = .ok (.ixor, 1) := by decide +kernel
theorem dJ9_floorMod_7cf53_7 : decode cJ9_floorMod_7cf53 7 = .ok (.ifCond .ge 11, 3) := by decide +kernel
theorem dJ9_floorMod_7cf53_10 : decode cJ9_floorMod_7cf53 10 = .ok (.iload_n 2, 1) := by decide +kernel
theorem dJ9_floorMod_7cf53_11 : decode cJ9_floorMod_7cf53 11 = .ok (.ifCond .eq 7, 3) := by decide +kernel
theorem dJ9_floorMod_7cf53_14 : decode cJ9_floorMod_7cf53 14 = .ok (.iload_n 2, 1) := by decide +kernel
theorem dJ9_floorMod_7cf53_15 : decode cJ9_floorMod_7cf53 15 = .ok (.iload_n 1, 1) := by decide +kernel
theorem dJ9_floorMod_7cf53_16 : decode cJ9_floorMod_7cf53 16 = .ok (.iadd, 1) := by decide +kernel
theorem dJ9_floorMod_7cf53_17 : decode cJ9_floorMod_7cf53 17 = .ok (.ireturn, 1) := by decide +kernel
theorem dJ9_floorMod_7cf53_18 : decode cJ9_floorMod_7cf53 18 = .ok (.iload_n 2, 1) := by decide +kernel
theorem dJ9_floorMod_7cf53_19 : decode cJ9_floorMod_7cf53 19 = .ok (.ireturn, 1) := by decide +kernel
theorem dJ9_abs_0f7a4_0 : decode cJ9_abs_0f7a4 0 = .ok (.iload_n 0, 1) := by decide +kernel
theorem dJ9_abs_0f7a4_1 : decode cJ9_abs_0f7a4 1 = .ok (.ifCond .ge 8, 3) := by decide +kernel
theorem dJ9_abs_0f7a4_4 : decode cJ9_abs_0f7a4 4 = .ok (.iload_n 0, 1) := by decide +kernel
theorem dJ9_abs_0f7a4_5 : decode cJ9_abs_0f7a4 5 = .ok (.ineg, 1) := by decide +kernel
theorem dJ9_abs_0f7a4_6 : decode cJ9_abs_0f7a4 6 = .ok (.goto 4, 3) := by decide +kernel
theorem dJ9_abs_0f7a4_9 : decode cJ9_abs_0f7a4 9 = .ok (.iload_n 0, 1) := by decide +kernel
theorem dJ9_abs_0f7a4_10 : decode cJ9_abs_0f7a4 10 = .ok (.ireturn, 1) := by decide +kernel
theorem dJ9_max_7cf53_0 : decode cJ9_max_7cf53 0 = .ok (.iload_n 0, 1) := by decide +kernel
theorem dJ9_max_7cf53_1 : decode cJ9_max_7cf53 1 = .ok (.iload_n 1, 1) := by decide +kernel
theorem dJ9_max_7cf53_2 : decode cJ9_max_7cf53 2 = .ok (.if_icmp .lt 7, 3) := by decide +kernel
theorem dJ9_max_7cf53_5 : decode cJ9_max_7cf53 5 = .ok (.iload_n 0, 1) := by decide +kernel
theorem dJ9_max_7cf53_6 : decode cJ9_max_7cf53 6 = .ok (.goto 4, 3) := by decide +kernel
theorem dJ9_max_7cf53_9 : decode cJ9_max_7cf53 9 = .ok (.iload_n 1, 1) := by decide +kernel
theorem dJ9_max_7cf53_10 : decode cJ9_max_7cf53 10 = .ok (.ireturn, 1) := by decide +kernel
theorem dJ9_min_7cf53_0 : decode cJ9_min_7cf53 0 = .ok (.iload_n 0, 1) := by decide +kernel
theorem dJ9_min_7cf53_1 : decode cJ9_min_7cf53 1 = .ok (.iload_n 1, 1) := by decide +kernel
theorem dJ9_min_7cf53_2 : decode cJ9_min_7cf53 2 = .ok (.if_icmp .gt 7, 3) := by decide +kernel
theorem dJ9_min_7cf53_5 : decode cJ9_min_7cf53 5 = .ok (.iload_n 0, 1) := by decide +kernel
theorem dJ9_min_7cf53_6 : decode cJ9_min_7cf53 6 = .ok (.goto 4, 3) := by decide +kernel
theorem dJ9_min_7cf53_9 : decode cJ9_min_7cf53 9 = .ok (.iload_n 1, 1) := by decide +kernel
theorem dJ9_min_7cf53_10 : decode cJ9_min_7cf53 10 = .ok (.ireturn, 1) := by decide +kernel
theorem dJ0_length_8abf5_0 : decode cJ0_length_8abf5 0 = .ok (.aload_n 0, 1) := by decide +kernel
theorem dJ0_length_8abf5_1 : decode cJ0_length_8abf5 1 = .ok (.getfield 9, 3) := by decide +kernel
theorem dJ0_length_8abf5_4 : decode cJ0_length_8abf5 4 = .ok (.arraylength, 1) := by decide +kernel
theorem dJ0_length_8abf5_5 : decode cJ0_length_8abf5 5 = .ok (.aload_n 0, 1) := by decide +kernel
theorem dJ0_length_8abf5_6 : decode cJ0_length_8abf5 6 = .ok (.invokevirtual 335, 3) := by decide +kernel
theorem dJ0_length_8abf5_9 : decode cJ0_length_8abf5 9 = .ok (.ishr, 1) := by decide +kernel
theorem dJ0_length_8abf5_10 : decode cJ0_length_8abf5 10 = .ok (.ireturn, 1) := by decide +kernel
theorem dJ0_charAt_5068e_0 : decode cJ0_charAt_5068e 0 = .ok (.aload_n 0, 1) := by decide +kernel
theorem dJ0_charAt_5068e_1 : decode cJ0_charAt_5068e 1 = .ok (.invokevirtual 492, 3) := by decide +kernel
theorem dJ0_charAt_5068e_4 : decode cJ0_charAt_5068e 4 = .ok (.ifCond .eq 12, 3) := by decide +kernel
theorem dJ0_charAt_5068e_7 : decode cJ0_charAt_5068e 7 = .ok (.aload_n 0, 1) := by decide +kernel
theorem dJ0_charAt_5068e_8 : decode cJ0_charAt_5068e 8 = .ok (.getfield 9, 3) := by decide +kernel
theorem dJ0_charAt_5068e_11 : decode cJ0_charAt_5068e 11 = .ok (.iload_n 1, 1) := by decide +kernel
theorem dJ0_charAt_5068e_12 : decode cJ0_charAt_5068e 12 = .ok (.invokestatic 495, 3) := by decide +kernel
theorem dJ0_charAt_5068e_15 : decode cJ0_charAt_5068e 15 = .ok (.ireturn, 1) := by decide +kernel
theorem dJ0_charAt_5068e_16 : decode cJ0_charAt_5068e 16 = .ok (.aload_n 0, 1) := by decide +kernel
theorem dJ0_charAt_5068e_17 : decode cJ0_charAt_5068e 17 = .ok (.getfield 9, 3) := by decide +kernel
theorem dJ0_charAt_5068e_20 : decode cJ0_charAt_5068e 20 = .ok (.iload_n 1, 1) := by decide +kernel
theorem dJ0_charAt_5068e_21 : decode cJ0_charAt_5068e 21 = .ok (.invokestatic 498, 3) := by decide +kernel
theorem dJ0_charAt_5068e_24 : decode cJ0_charAt_5068e 24 = .ok (.ireturn, 1) := by decide +kernel
theorem dJ0_coder_7d493_0 : decode cJ0_coder_7d493 0 = .ok (.getstatic 38, 3) := by decide +kernel
theorem dJ0_coder_7d493_3 : decode cJ0_coder_7d493 3 = .ok (.ifCond .eq 10, 3) := by decide +kernel
theorem dJ0_coder_7d493_6 : decode cJ0_coder_7d493 6 = .ok (.aload_n 0, 1) := by decide +kernel
theorem dJ0_coder_7d493_7 : decode cJ0_coder_7d493 7 = .ok (.getfield 15, 3) := by decide +kernel
theorem dJ0_coder_7d493_10 : decode cJ0_coder_7d493 10 = .ok (.goto 4, 3) := by decide +kernel
theorem dJ0_coder_7d493_13 : decode cJ0_coder_7d493 13 = .ok (.iconst 1, 1) := by decide +kernel
theorem dJ0_coder_7d493_14 : decode cJ0_coder_7d493 14 = .ok (.ireturn, 1) := by decide +kernel
theorem dJ0_isLatin1_aae02_0 : decode cJ0_isLatin1_aae02 0 = .ok (.getstatic 38, 3) := by decide +kernel
theorem dJ0_isLatin1_aae02_3 : decode cJ0_isLatin1_aae02 3 = .ok (.ifCond .eq 14, 3) := by decide +kernel
theorem dJ0_isLatin1_aae02_6 : decode cJ0_isLatin1_aae02 6 = .ok (.aload_n 0, 1) := by decide +kernel
theorem dJ0_isLatin1_aae02_7 : decode cJ0_isLatin1_aae02 7 = .ok (.getfield 15, 3) := by decide +kernel
theorem dJ0_isLatin1_aae02_10 : decode cJ0_isLatin1_aae02 10 = .ok (.ifCond .ne 7, 3) := by decide +kernel
theorem dJ0_isLatin1_aae02_13 : decode cJ0_isLatin1_aae02 13 = .ok (.iconst 1, 1) := by decide +kernel
theorem dJ0_isLatin1_aae02_14 : decode cJ0_isLatin1_aae02 14 = .ok (.goto 4, 3) := by decide +kernel
theorem dJ0_isLatin1_aae02_17 : decode cJ0_isLatin1_aae02 17 = .ok (.iconst 0, 1) := by decide +kernel
theorem dJ0_isLatin1_aae02_18 : decode cJ0_isLatin1_aae02 18 = .ok (.ireturn, 1) := by decide +kernel
theorem dJ0_checkIndex_df160_0 : decode cJ0_checkIndex_df160 0 = .ok (.iload_n 0, 1) := by decide +kernel
theorem dJ0_checkIndex_df160_1 : decode cJ0_checkIndex_df160 1 = .ok (.iload_n 1, 1) := by decide +kernel
theorem dJ0_checkIndex_df160_2 : decode cJ0_checkIndex_df160 2 = .ok (.getstatic 1053, 3) := by decide +kernel
theorem dJ0_checkIndex_df160_5 : decode cJ0_checkIndex_df160 5 = .ok (.invokestatic 1059, 3) := by decide +kernel
theorem dJ0_checkIndex_df160_8 : decode cJ0_checkIndex_df160 8 = .ok (.pop, 1) := by decide +kernel
theorem dJ0_checkIndex_df160_9 : decode cJ0_checkIndex_df160 9 = .ok (.return_, 1) := by decide +kernel
theorem dJ1_charAt_3b067_0 : decode cJ1_charAt_3b067 0 = .ok (.iload_n 1, 1) := by decide +kernel
theorem dJ1_charAt_3b067_1 : decode cJ1_charAt_3b067 1 = .ok (.aload_n 0, 1) := by decide +kernel
theorem dJ1_charAt_3b067_2 : decode cJ1_charAt_3b067 2 = .ok (.arraylength, 1) := by decide +kernel
theorem dJ1_charAt_3b067_3 : decode cJ1_charAt_3b067 3 = .ok (.invokestatic 9, 3) := by decide +kernel
theorem dJ1_charAt_3b067_6 : decode cJ1_charAt_3b067 6 = .ok (.aload_n 0, 1) := by decide +kernel
theorem dJ1_charAt_3b067_7 : decode cJ1_charAt_3b067 7 = .ok (.iload_n 1, 1) := by decide +kernel
theorem dJ1_charAt_3b067_8 : decode cJ1_charAt_3b067 8 = .ok (.baload, 1) := by decide +kernel
theorem dJ1_charAt_3b067_9 : decode cJ1_charAt_3b067 9 = .ok (.sipush 255, 3) := by decide +kernel
theorem dJ1_charAt_3b067_12 : decode cJ1_charAt_3b067 12 = .ok (.iand, 1) := by decide +kernel
theorem dJ1_charAt_3b067_13 : decode cJ1_charAt_3b067 13 = .ok (.i2c, 1) := by decide +kernel
theorem dJ1_charAt_3b067_14 : decode cJ1_charAt_3b067 14 = .ok (.ireturn, 1) := by decide +kernel
theorem dJ2_getChar_3b067_0 : decode cJ2_getChar_3b067 0 = .ok (.getstatic 44, 3) := by decide +kernel
theorem dJ2_getChar_3b067_3 : decode cJ2_getChar_3b067 3 = .ok (.ifCond .ne 25, 3) := by decide +kernel
theorem dJ2_getChar_3b067_6 : decode cJ2_getChar_3b067 6 = .ok (.iload_n 1, 1) := by decide +kernel
theorem dJ2_getChar_3b067_7 : decode cJ2_getChar_3b067 7 = .ok (.ifCond .lt 11, 3) := by decide +kernel
theorem dJ2_getChar_3b067_10 : decode cJ2_getChar_3b067 10 = .ok (.iload_n 1, 1) := by decide +kernel
theorem dJ2_getChar_3b067_11 : decode cJ2_getChar_3b067 11 = .ok (.aload_n 0, 1) := by decide +kernel
theorem dJ2_getChar_3b067_12 : decode cJ2_getChar_3b067 12 = .ok (.invokestatic 48, 3) := by decide +kernel
theorem dJ2_getChar_3b067_15 : decode cJ2_getChar_3b067 15 = .ok (.if_icmp .lt 13, 3) := by decide +kernel
theorem dJ2_getChar_3b067_18 : decode cJ2_getChar_3b067 18 = .ok (.new 52, 3) := by decide +kernel
theorem dJ2_getChar_3b067_21 : decode cJ2_getChar_3b067 21 = .ok (.dup, 1) := by decide +kernel
theorem dJ2_getChar_3b067_22 : decode cJ2_getChar_3b067 22 = .ok (.ldc 54, 2) := by decide +kernel
theorem dJ2_getChar_3b067_24 : decode cJ2_getChar_3b067 24 = .ok (.invokespecial 56, 3) := by decide +kernel
theorem dJ2_getChar_3b067_27 : decode cJ2_getChar_3b067 27 = .ok (.athrow, 1) := by decide +kernel
theorem dJ2_getChar_3b067_28 : decode cJ2_getChar_3b067 28 = .ok (.iload_n 1, 1) := by decide +kernel
theorem dJ2_getChar_3b067_29 : decode cJ2_getChar_3b067 29 = .ok (.iconst 1, 1) := by decide +kernel
theorem dJ2_getChar_3b067_30 : decode cJ2_getChar_3b067 30 = .ok (.ishl, 1) := by decide +kernel
theorem dJ2_getChar_3b067_31 : decode cJ2_getChar_3b067 31 = .ok (.istore_n 1, 1) := by decide +kernel
theorem dJ2_getChar_3b067_32 : decode cJ2_getChar_3b067 32 = .ok (.aload_n 0, 1) := by decide +kernel
theorem dJ2_getChar_3b067_33 : decode cJ2_getChar_3b067 33 = .ok (.iload_n 1, 1) := by decide +kernel
theorem dJ2_getChar_3b067_34 : decode cJ2_getChar_3b067 34 = .ok (.iinc 1 1, 3) := by decide +kernel
theorem dJ2_getChar_3b067_37 : decode cJ2_getChar_3b067 37 = .ok (.baload, 1) := by decide +kernel
theorem dJ2_getChar_3b067_38 : decode cJ2_getChar_3b067 38 = .ok (.sipush 255, 3) := by decide +kernel
theorem dJ2_getChar_3b067_41 : decode cJ2_getChar_3b067 41 = .ok (.iand, 1) := by decide +kernel
theorem dJ2_getChar_3b067_42 : decode cJ2_getChar_3b067 42 = .ok (.getstatic 59, 3) := by decide +kernel
theorem dJ2_getChar_3b067_45 : decode cJ2_getChar_3b067 45 = .ok (.ishl, 1) := by decide +kernel
theorem dJ2_getChar_3b067_46 : decode cJ2_getChar_3b067 46 = .ok (.aload_n 0, 1) := by decide +kernel
theorem dJ2_getChar_3b067_47 : decode cJ2_getChar_3b067 47 = .ok (.iload_n 1, 1) := by decide +kernel
theorem dJ2_getChar_3b067_48 : decode cJ2_getChar_3b067 48 = .ok (.baload, 1) := by decide +kernel
theorem dJ2_getChar_3b067_49 : decode cJ2_getChar_3b067 49 = .ok (.sipush 255, 3) := by decide +kernel
theorem dJ2_getChar_3b067_52 : decode cJ2_getChar_3b067 52 = .ok (.iand, 1) := by decide +kernel
theorem dJ2_getChar_3b067_53 : decode cJ2_getChar_3b067 53 = .ok (.getstatic 63, 3) := by decide +kernel
theorem dJ2_getChar_3b067_56 : decode cJ2_getChar_3b067 56 = .ok (.ishl, 1) := by decide +kernel
theorem dJ2_getChar_3b067_57 : decode cJ2_getChar_3b067 57 = .ok (.ior, 1) := by decide +kernel
theorem dJ2_getChar_3b067_58 : decode cJ2_getChar_3b067 58 = .ok (.i2c, 1) := by decide +kernel
theorem dJ2_getChar_3b067_59 : decode cJ2_getChar_3b067 59 = .ok (.ireturn, 1) := by decide +kernel
theorem dJ2_length_9d52b_0 : decode cJ2_length_9d52b 0 = .ok (.aload_n 0, 1) := by decide +kernel
theorem dJ2_length_9d52b_1 : decode cJ2_length_9d52b 1 = .ok (.arraylength, 1) := by decide +kernel
theorem dJ2_length_9d52b_2 : decode cJ2_length_9d52b 2 = .ok (.iconst 1, 1) := by decide +kernel
theorem dJ2_length_9d52b_3 : decode cJ2_length_9d52b 3 = .ok (.ishr, 1) := by decide +kernel
theorem dJ2_length_9d52b_4 : decode cJ2_length_9d52b 4 = .ok (.ireturn, 1) := by decide +kernel
theorem dJ2_charAt_3b067_0 : decode cJ2_charAt_3b067 0 = .ok (.iload_n 1, 1) := by decide +kernel
theorem dJ2_charAt_3b067_1 : decode cJ2_charAt_3b067 1 = .ok (.aload_n 0, 1) := by decide +kernel
theorem dJ2_charAt_3b067_2 : decode cJ2_charAt_3b067 2 = .ok (.invokestatic 67, 3) := by decide +kernel
theorem dJ2_charAt_3b067_5 : decode cJ2_charAt_3b067 5 = .ok (.aload_n 0, 1) := by decide +kernel
theorem dJ2_charAt_3b067_6 : decode cJ2_charAt_3b067 6 = .ok (.iload_n 1, 1) := by decide +kernel
theorem dJ2_charAt_3b067_7 : decode cJ2_charAt_3b067 7 = .ok (.invokestatic 71, 3) := by decide +kernel
theorem dJ2_charAt_3b067_10 : decode cJ2_charAt_3b067 10 = .ok (.ireturn, 1) := by decide +kernel
theorem dJ2_checkIndex_2214a_0 : decode cJ2_checkIndex_2214a 0 = .ok (.iload_n 0, 1) := by decide +kernel
theorem dJ2_checkIndex_2214a_1 : decode cJ2_checkIndex_2214a 1 = .ok (.aload_n 1, 1) := by decide +kernel
theorem dJ2_checkIndex_2214a_2 : decode cJ2_checkIndex_2214a 2 = .ok (.invokestatic 48, 3) := by decide +kernel
theorem dJ2_checkIndex_2214a_5 : decode cJ2_checkIndex_2214a 5 = .ok (.invokestatic 414, 3) := by decide +kernel
theorem dJ2_checkIndex_2214a_8 : decode cJ2_checkIndex_2214a 8 = .ok (.return_, 1) := by decide +kernel
theorem dJ3_checkIndex_8e157_0 : decode cJ3_checkIndex_8e157 0 = .ok (.iload_n 0, 1) := by decide +kernel
theorem dJ3_checkIndex_8e157_1 : decode cJ3_checkIndex_8e157 1 = .ok (.ifCond .lt 8, 3) := by decide +kernel
theorem dJ3_checkIndex_8e157_4 : decode cJ3_checkIndex_8e157 4 = .ok (.iload_n 0, 1) := by decide +kernel
theorem dJ3_checkIndex_8e157_5 : decode cJ3_checkIndex_8e157 5 = .ok (.iload_n 1, 1) := by decide +kernel
theorem dJ3_checkIndex_8e157_6 : decode cJ3_checkIndex_8e157 6 = .ok (.if_icmp .lt 10, 3) := by decide +kernel
theorem dJ3_checkIndex_8e157_9 : decode cJ3_checkIndex_8e157 9 = .ok (.aload_n 2, 1) := by decide +kernel
theorem dJ3_checkIndex_8e157_10 : decode cJ3_checkIndex_8e157 10 = .ok (.iload_n 0, 1) := by decide +kernel
theorem dJ3_checkIndex_8e157_11 : decode cJ3_checkIndex_8e157 11 = .ok (.iload_n 1, 1) := by decide +kernel
theorem dJ3_checkIndex_8e157_12 : decode cJ3_checkIndex_8e157 12 = .ok (.invokestatic 95, 3) := by decide +kernel
theorem dJ3_checkIndex_8e157_15 : decode cJ3_checkIndex_8e157 15 = .ok (.athrow, 1) := by decide +kernel
theorem dJ3_checkIndex_8e157_16 : decode cJ3_checkIndex_8e157 16 = .ok (.iload_n 0, 1) := by decide +kernel
theorem dJ3_checkIndex_8e157_17 : decode cJ3_checkIndex_8e157 17 = .ok (.ireturn, 1) := by decide +kernel
theorem dL_law_0 : decode cL_law 0 = .ok (.new 7, 3) := by decide +kernel
theorem dL_law_3 : decode cL_law 3 = .ok (.dup, 1) := by decide +kernel
theorem dL_law_4 : decode cL_law 4 = .ok (.invokespecial 9, 3) := by decide +kernel
theorem dL_law_7 : decode cL_law 7 = .ok (.astore_n 1, 1) := by decide +kernel
theorem dL_law_8 : decode cL_law 8 = .ok (.new 10, 3) := by decide +kernel
